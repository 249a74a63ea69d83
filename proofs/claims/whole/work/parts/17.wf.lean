theorem WF_of {N N' : Nat → Nat} (h : WF N) (h1 : ∀ c, c ≤ 9 → N' c = N c) (h2 : N' 16 ≤ 10) (h3 : ∀ p w, p < 40 → w < 18 → w ≠ 7 → pg N' p w = pg N p w) (h4 : ∀ t, t < 8 → th N' t 0 = th N t 0) : WF N' := by
  obtain ⟨a1, a2, a3, a4, a5, a6, a7, a8, a9, a10, a11⟩ := h
  refine ⟨by rw [h1 8 (by omega)]; exact a1, by rw [h1 9 (by omega)]; exact a2, h2, fun i hi => by rw [h1 i (by omega)]; exact a4 i hi, by rw [h1 4 (by omega)]; exact a5, by rw [h1 5 (by omega)]; exact a6, by rw [h1 6 (by omega)]; exact a7, by rw [h1 7 (by omega)]; exact a8, fun p hp => ?_, fun p w hp hw h7 => ?_, fun t ht => ?_⟩
  · rw [h3 p 0 hp (by omega) (by omega), h3 p 1 hp (by omega) (by omega)]; exact a9 p hp
  · rw [h3 p w hp hw h7]; exact a10 p w hp hw h7
  · rw [h4 t ht]; exact a11 t ht
theorem WF_up {N : Nat → Nat} {c v : Nat} (h : WF N) (hc : 10 ≤ c ∧ c < 16) : WF (up N c v) :=
  WF_of h (fun i hi => up_ne (by omega)) (by rw [up_ne (by omega)]; exact h.2.2.1) (fun p w hp hw _ => pg_up (by omega)) (fun t ht => th_up (by omega))
theorem WF_ps {N : Nat → Nat} {p w v : Nat} (h : WF N) (hp : p < 40) (hw : w < 18) (h0 : w = 0 → v < 4) (h1 : w = 1 → v < 16) (h2 : w ≠ 7 → v ≤ 200000) : WF (ps N p w v) := by
  obtain ⟨a1, a2, a3, a4, a5, a6, a7, a8, a9, a10, a11⟩ := h
  refine ⟨by rw [ps_c (by omega)]; exact a1, by rw [ps_c (by omega)]; exact a2, by rw [ps_c (by omega)]; exact a3, fun i hi => by rw [ps_c (by omega)]; exact a4 i hi, by rw [ps_c (by omega)]; exact a5, by rw [ps_c (by omega)]; exact a6, by rw [ps_c (by omega)]; exact a7, by rw [ps_c (by omega)]; exact a8, fun q hq => ?_, fun q z hq hz h7 => ?_, fun t ht => ?_⟩
  · refine ⟨?_, ?_⟩
    · by_cases e : q = p ∧ 0 = w
      · obtain ⟨rfl, rfl⟩ := e
        rw [pg_ps_s]; exact h0 rfl
      · rw [pg_ps_n (by omega) hw (by omega)]; exact (a9 q hq).1
    · by_cases e : q = p ∧ 1 = w
      · obtain ⟨rfl, rfl⟩ := e
        rw [pg_ps_s]; exact h1 rfl
      · rw [pg_ps_n (by omega) hw (by omega)]; exact (a9 q hq).2
  · by_cases e : q = p ∧ z = w
    · obtain ⟨rfl, rfl⟩ := e
      rw [pg_ps_s]; exact h2 h7
    · rw [pg_ps_n (by omega) hw hz]; exact a10 q z hq hz h7
  · rw [th_ps hp hw]; exact a11 t ht
theorem WF_ts {N : Nat → Nat} {t w v : Nat} (h : WF N) (ht : t < 8) (hw : w < 5) (h0 : w = 0 → v < 4) : WF (ts N t w v) := by
  obtain ⟨a1, a2, a3, a4, a5, a6, a7, a8, a9, a10, a11⟩ := h
  refine ⟨by rw [ts_c (by omega)]; exact a1, by rw [ts_c (by omega)]; exact a2, by rw [ts_c (by omega)]; exact a3, fun i hi => by rw [ts_c (by omega)]; exact a4 i hi, by rw [ts_c (by omega)]; exact a5, by rw [ts_c (by omega)]; exact a6, by rw [ts_c (by omega)]; exact a7, by rw [ts_c (by omega)]; exact a8, fun q hq => ?_, fun q z hq hz h7 => ?_, fun s hs => ?_⟩
  · rw [pg_ts hq (by omega), pg_ts hq (by omega)]; exact a9 q hq
  · rw [pg_ts hq hz]; exact a10 q z hq hz h7
  · by_cases e : s = t ∧ 0 = w
    · obtain ⟨rfl, rfl⟩ := e
      rw [th_ts_s]; exact h0 rfl
    · rw [th_ts_n (by omega) hw (by omega)]; exact a11 s hs
theorem tel_16 {N : Nat → Nat} {k p h : Nat} (h16 : N 16 ≤ 10) : tel N k p h 16 ≤ 10 := by
  have := tel0_16 h16
  unfold tel
  rw [up_at]
  omega
theorem pg_tel {N : Nat → Nat} {k p h q w : Nat} (h16 : N 16 ≤ 10) (hq : q < 40) (hw : w < 18) : pg (tel N k p h) q w = pg N q w := tel_c (by omega) (by omega) h16
theorem th_tel {N : Nat → Nat} {k p h t w : Nat} (h16 : N 16 ≤ 10) (ht : t < 8) (hw : w < 5) : th (tel N k p h) t w = th N t w := tel_c (by omega) (by omega) h16
theorem WF_tel {N : Nat → Nat} {k p h : Nat} (o : WF N) : WF (tel N k p h) :=
  WF_of o (fun i hi => tel_c (by omega) (by omega) o.2.2.1) (tel_16 o.2.2.1) (fun q w hq hw _ => pg_tel o.2.2.1 hq hw) (fun t ht => th_tel o.2.2.1 ht (by omega))
theorem WF_pay {N : Nat → Nat} {t p c hp : Nat} (o : WF N) (ht : t < 8) (hpp : p < 40) : WF (pay N t p c hp) :=
  WF_up (WF_up (WF_ps (WF_ts (WF_ts o ht (by omega) (by omega)) ht (by omega) (by omega)) hpp (by omega) (by omega) (by omega) (by omega)) (by omega)) (by omega)
theorem WF_drp {N : Nat → Nat} {k p h : Nat} (o : WF N) (hp : p < 40) (hh : h < 4) : WF (drp N k p h) := by
  have hb := bits_5 (o.2.2.2.2.2.2.2.2.1 p hp).2 hh
  exact WF_tel (WF_up (WF_ps o hp (by omega) (by omega) (fun _ => hb.1) (fun _ => by omega)) (by omega))
theorem drp_c {N : Nat → Nat} {k p h c : Nat} (o : N 16 ≤ 10) (hc : c < 14) : drp N k p h c = N c := by
  unfold drp
  rw [tel_c (by omega) (by omega) (by rw [up_ne (by omega), ps_c (by omega)]; exact o), up_ne (by omega), ps_c (by omega)]
theorem pg_drp {N : Nat → Nat} {k p h q w : Nat} (o : N 16 ≤ 10) (hp : p < 40) (hq : q < 40) (hw : w < 18) : pg (drp N k p h) q w = if q = p ∧ w = 1 then clr (pg N p 1) h else pg N q w := by
  unfold drp
  rw [pg_tel (by rw [up_ne (by omega), ps_c (by omega)]; exact o) hq hw, pg_up (by omega)]
  split
  · rename_i e
    obtain ⟨rfl, rfl⟩ := e
    rw [pg_ps_s]
  · rw [pg_ps_n (by omega) (by omega) hw]
theorem th_drp {N : Nat → Nat} {k p h t w : Nat} (o : N 16 ≤ 10) (hp : p < 40) (ht : t < 8) (hw : w < 5) : th (drp N k p h) t w = th N t w := by
  unfold drp
  rw [th_tel (by rw [up_ne (by omega), ps_c (by omega)]; exact o) ht hw, th_up (by omega), th_ps hp (by omega)]
theorem src_lt {N : Nat → Nat} {p h : Nat} : ∀ {n b : Nat}, src N p h n = some b → b < n
  | 0, b, e => by cases e
  | n + 1, b, e => by
    unfold src at e
    split at e
    · split at e
      · cases e; omega
      · rename_i b' hb
        have := src_lt hb
        split at e <;> cases e <;> omega
    · have := src_lt e
      omega
theorem fst_lt {N : Nat → Nat} {h : Nat} : ∀ {n b : Nat}, fst N h n = some b → b < n ∧ bit (pg N b 1) h = 1
  | 0, b, e => by cases e
  | n + 1, b, e => by
    unfold fst at e
    split at e
    · rename_i hbit
      split at e
      · cases e; exact ⟨by omega, hbit⟩
      · rename_i b' hb
        have := fst_lt hb
        split at e <;> cases e
        · exact ⟨by omega, hbit⟩
        · exact ⟨by omega, this.2⟩
    · have := fst_lt e
      exact ⟨by omega, this.2⟩
theorem fst_none {N : Nat → Nat} {h : Nat} : ∀ {n : Nat}, fst N h n = none → ∀ p, p < n → bit (pg N p 1) h ≠ 1
  | 0, e, p, hp => by omega
  | n + 1, e, p, hp => by
    unfold fst at e
    split at e
    · split at e
      · cases e
      · split at e <;> cases e
    · rename_i hbit
      by_cases hpn : p = n
      · subst hpn; exact hbit
      · exact fst_none e p (by omega)
theorem cnt_congr {P P' : Nat → Bool} : ∀ {n : Nat}, (∀ i, i < n → P i = P' i) → cnt P n = cnt P' n
  | 0, _ => rfl
  | n + 1, h => by
    unfold cnt
    rw [cnt_congr (n := n) (fun i hi => h i (by omega)), h n (by omega)]
theorem cnt_less {P P' : Nat → Bool} {q : Nat} : ∀ {n : Nat}, q < n → P q = true → P' q = false → (∀ i, i < n → i ≠ q → P i = P' i) → cnt P n = cnt P' n + 1
  | 0, h, _, _, _ => by omega
  | n + 1, h, h1, h2, h3 => by
    unfold cnt
    by_cases e : q = n
    · subst e
      rw [cnt_congr (n := q) (P := P) (P' := P') (fun i hi => h3 i (by omega) (by omega)), h1, h2]
      simp
    · rw [cnt_less (n := n) (q := q) (by omega) h1 h2 (fun i hi hne => h3 i (by omega) hne), h3 n (by omega) (fun z => e z.symm)]
      omega
theorem cps_drp {N : Nat → Nat} {k q h : Nat} (o : WF N) (hh : h < 4) (hq : q < N 8) (hb : bit (pg N q 1) h = 1) : cps N h = cps (drp N k q h) h + 1 := by
  have h8 := o.1
  have h16 := o.2.2.1
  unfold cps
  rw [drp_c h16 (by omega)]
  refine cnt_less hq (decide_eq_true hb) ?_ (fun i hi hne => ?_)
  · rw [pg_drp h16 (by omega) (by omega) (by omega), if_pos ⟨rfl, rfl⟩, ((bits_5 (o.2.2.2.2.2.2.2.2.1 q (by omega)).2 hh).2.2 h hh).1, if_pos rfl]
    decide
  · rw [pg_drp h16 (by omega) (by omega) (by omega), if_neg (fun z => hne z.1)]
/-- copies give way until a frame is free (f turns at most): whether there is one, and the row then -/
def fre (p h : Nat) : Nat → (Nat → Nat) → Nat × (Nat → Nat)
  | 0, N => (0, N)
  | f + 1, N => if N h ≤ lyg N h + cps N h then (match fst N h (N 8) with
    | none => (0, tel (up N 15 (N 15 + 1)) 5 p h)
    | some q => fre p h f (drp N 2 q h)) else (1, N)
theorem oI_n {b : Nat} (h : b < 1000000) : (nI b = - nI 5) = False := by
  refine eq_false (fun e => ?_)
  have := congrArg Int32.toInt e
  rw [nI_toInt (by omega)] at this
  have h2 : (- nI 5).toInt = -5 := by decide +kernel
  omega
