theorem WF.b {N : Nat → Nat} (o : WF N) {p w : Nat} (hp : p < 40) (hw : w < 18) (h7 : w ≠ 7) : pg N p w ≤ 200000 := o.2.2.2.2.2.2.2.2.2.1 p w hp hw h7
theorem WF.h {N : Nat → Nat} (o : WF N) {p : Nat} (hp : p < 40) : pg N p 0 < 4 := (o.2.2.2.2.2.2.2.2.1 p hp).1
theorem WF.c {N : Nat → Nat} (o : WF N) {p : Nat} (hp : p < 40) : pg N p 1 < 16 := (o.2.2.2.2.2.2.2.2.1 p hp).2
theorem WF.t {N : Nat → Nat} (o : WF N) {t : Nat} (ht : t < 8) : th N t 0 < 4 := o.2.2.2.2.2.2.2.2.2.2 t ht
theorem WF.e {N : Nat → Nat} (o : WF N) : N 16 ≤ 10 := o.2.2.1
theorem WF.toll {N : Nat → Nat} (o : WF N) : N 5 ≤ 99 := o.2.2.2.2.2.1
/-- what giving way leaves as it was -/
theorem fre_keep {p h : Nat} (hp : p < 40) (hh : h < 4) : ∀ (f : Nat) (N : Nat → Nat), WF N → WF (fre p h f N).2 ∧ (fre p h f N).1 ≤ 1 ∧ (∀ c, c < 14 → (fre p h f N).2 c = N c) ∧ (∀ q w, q < 40 → w < 18 → w ≠ 1 → pg (fre p h f N).2 q w = pg N q w) ∧ (∀ t w, t < 8 → w < 5 → th (fre p h f N).2 t w = th N t w)
  | 0, N, o => ⟨o, Nat.zero_le _, fun _ _ => rfl, fun _ _ _ _ _ => rfl, fun _ _ _ _ => rfl⟩
  | f + 1, N, o => by
    have h8 := o.1
    have e := o.e
    unfold fre
    split
    · split
      · have o' : WF (up N 15 (N 15 + 1)) := WF_up o (by omega)
        exact ⟨WF_tel o', Nat.zero_le _, fun c hc => by dsimp only; rw [tel_c (by omega) (by omega) o'.e, up_ne (by omega)], fun q w hq hw h1 => by dsimp only; rw [pg_tel o'.e hq hw, pg_up (by omega)], fun t w ht hw => by dsimp only; rw [th_tel o'.e ht hw, th_up (by omega)]⟩
      · rename_i q hs
        have hq := fst_lt hs
        obtain ⟨a1, a2, a3, a4, a5⟩ := fre_keep hp hh f (drp N 2 q h) (WF_drp o (by omega) hh)
        exact ⟨a1, a2, fun c hc => by rw [a3 c hc, drp_c e hc], fun q' w hq' hw h1 => by rw [a4 q' w hq' hw h1, pg_drp e (by omega) hq' hw, if_neg (by omega)], fun t w ht hw => by rw [a5 t w ht hw, th_drp e (by omega) ht hw]⟩
    · exact ⟨o, Nat.le_refl _, fun _ _ => rfl, fun _ _ _ _ _ => rfl, fun _ _ _ _ => rfl⟩
/-- a copy of page p is made in h for thread t, from fr: what it costs, and the row -/
def mks1 (N : Nat → Nat) (p h : Nat) : Nat → Nat := tel (up (ps (ps N p 1 (stb (pg N p 1) h)) p (14 + h) (N 7)) 13 (N 13 + 1)) 1 p h
def mks (N : Nat → Nat) (t p h fr : Nat) : Nat × (Nat → Nat) :=
  if (fre p h 41 N).1 = 0 then (0, (fre p h 41 N).2) else (10 + apt fr h * N 5, pay (mks1 (fre p h 41 N).2 p h) t p 10 (apt fr h))
def hlv (N : Nat → Nat) (p : Nat) : Nat → (Nat → Nat)
  | 0 => N
  | n + 1 => ps (hlv N p n) p (10 + n) (pg (hlv N p n) p (10 + n) / 2)
def mv0 (N : Nat → Nat) (p h : Nat) : Nat → Nat := if bit (pg N p 1) h = 1 then drp N 2 p h else N
def mv1 (N : Nat → Nat) (p h : Nat) : Nat → Nat := hlv (tel (up (ps (ps N p 0 h) p 5 (pg N p 5 + 1)) 12 (N 12 + 1)) 0 p h) p 4
def mv2 (N : Nat → Nat) (p h : Nat) : Nat → Nat := if 3 ≤ pg N p 5 ∧ pg N p 2 - pg N p 8 < 20 then tel (ps N p 6 (pg N p 2 + 30)) 4 p h else N
def mv3 (N : Nat → Nat) (p : Nat) : Nat → Nat := ps (ps N p 8 (pg N p 9)) p 9 (pg N p 2)
def mvs (N : Nat → Nat) (t p h : Nat) : Nat × (Nat → Nat) :=
  if (fre p h 41 (mv0 N p h)).1 = 0 then (0, (fre p h 41 (mv0 N p h)).2) else (10 + apt (pg N p 0) h * N 5, pay (mv3 (mv2 (mv1 (fre p h 41 (mv0 N p h)).2 p h) p h) p) t p 10 (apt (pg N p 0) h))
theorem mv0_keep {N : Nat → Nat} {p h : Nat} (o : WF N) (hp : p < 40) (hh : h < 4) : WF (mv0 N p h) ∧ (∀ c, c < 14 → mv0 N p h c = N c) ∧ (∀ q w, q < 40 → w < 18 → w ≠ 1 → pg (mv0 N p h) q w = pg N q w) ∧ (∀ t w, t < 8 → w < 5 → th (mv0 N p h) t w = th N t w) := by
  unfold mv0
  split
  · exact ⟨WF_drp o hp hh, fun c hc => drp_c o.e hc, fun q w hq hw h1 => by rw [pg_drp o.e hp hq hw, if_neg (by omega)], fun t w ht hw => th_drp o.e hp ht hw⟩
  · exact ⟨o, fun _ _ => rfl, fun _ _ _ _ _ => rfl, fun _ _ _ _ => rfl⟩
theorem hlv_keep {N : Nat → Nat} {p : Nat} (o : WF N) (hp : p < 40) : ∀ n, n ≤ 4 → WF (hlv N p n) ∧ (∀ c, c < 17 → hlv N p n c = N c) ∧ (∀ q w, q < 40 → w < 18 → pg (hlv N p n) q w = if q = p ∧ 10 ≤ w ∧ w < 10 + n then pg N q w / 2 else pg N q w) ∧ (∀ t w, t < 8 → w < 5 → th (hlv N p n) t w = th N t w)
  | 0, _ => ⟨o, fun _ _ => rfl, fun q w hq hw => by rw [if_neg (by omega)]; rfl, fun _ _ _ _ => rfl⟩
  | n + 1, hn => by
    obtain ⟨a1, a2, a3, a4⟩ := hlv_keep o hp n (by omega)
    have b := a1.b hp (show 10 + n < 18 by omega) (by omega)
    refine ⟨WF_ps a1 hp (by omega) (by omega) (by omega) (by omega), fun c hc => by unfold hlv; rw [ps_c hc, a2 c hc], fun q w hq hw => ?_, fun t w ht hw => by unfold hlv; rw [th_ps hp (by omega), a4 t w ht hw]⟩
    unfold hlv
    by_cases e : q = p ∧ w = 10 + n
    · obtain ⟨rfl, rfl⟩ := e
      rw [pg_ps_s, a3 _ _ hq hw, if_neg (by omega), if_pos (by omega)]
    · rw [pg_ps_n (by omega) (by omega) hw, a3 q w hq hw]
      by_cases e2 : q = p ∧ 10 ≤ w ∧ w < 10 + n
      · rw [if_pos e2, if_pos (by omega)]
      · rw [if_neg e2, if_neg (by omega)]
def qui (N : Nat → Nat) (p : Nat) : Prop := pg N p 3 = 0 ∨ 8 ≤ pg N p 2 - pg N p 3
def may (N : Nat → Nat) (p h : Nat) : Prop := pg N p 0 ≠ h ∧ 2 * pg N p (10 + pg N p 0) < pg N p (10 + h) ∧ pg N p 6 < pg N p 2
section
/-- behind an access: the moving, if the policy is one that moves -/
def ask2 (P : Nat) (N : Nat → Nat) (t p h : Nat) : Nat × (Nat → Nat) :=
  if (P = 1 ∨ P = 3) ∧ pg N p 0 ≠ h ∧ 2 * pg N p (10 + pg N p 0) < pg N p (10 + h) ∧ pg N p 6 < pg N p 2 then mvs N t p h else (0, N)
def ask (N : Nat → Nat) (t p h wr far fr : Nat) : Nat × (Nat → Nat) :=
  if 2 ≤ N 4 ∧ wr = 0 ∧ 0 < far ∧ (pg N p 3 = 0 ∨ 8 ≤ pg N p 2 - pg N p 3) then (if 0 < (mks N t p h fr).1 then mks N t p h fr else ask2 (N 4) (mks N t p h fr).2 t p h) else ask2 (N 4) N t p h
def fin (N : Nat → Nat) (t p h wr far fr paid : Nat) : Nat × (Nat → Nat) :=
  if pg N p (10 + h) < N 6 then (paid, N) else (paid + (ask N t p h wr far fr).1, (ask N t p h wr far fr).2)
def grw (N : Nat → Nat) (p h by_ : Nat) : Nat → Nat := ps N p (10 + h) (if 999 < pg N p (10 + h) + by_ then 999 else pg N p (10 + h) + by_)
def ac0 (N : Nat → Nat) (p : Nat) : Nat → Nat := ps (up N 7 (N 7 + 1)) p 2 (pg N p 2 + 1)
def acR (N : Nat → Nat) (t p fr : Nat) : Nat × (Nat → Nat) :=
  fin (grw (ts (if fr = pg N p 0 then pay (ac0 N p) t p 1 (apt (th N t 0) fr) else ps (pay (ac0 N p) t p 1 (apt (th N t 0) fr)) p (14 + fr) (N 7 + 1)) t 3 (th N t 3 + 1)) p (th N t 0) 1) t p (th N t 0) 0 (apt (th N t 0) fr) fr (1 + apt (th N t 0) fr * N 5)
/-- the copies are gone by writing -/
def wrl (N : Nat → Nat) (t p fr : Nat) : Nat → Nat × (Nat → Nat)
  | 0 => (0, N)
  | n + 1 => if bit (pg (wrl N t p fr n).2 p 1) n = 1 then ((wrl N t p fr n).1 + (0 + apt fr n * (wrl N t p fr n).2 5), drp (pay (wrl N t p fr n).2 t p 0 (apt fr n)) 3 p n) else wrl N t p fr n
def acW1 (N : Nat → Nat) (t p : Nat) : Nat × (Nat → Nat) := wrl (pay (ac0 N p) t p 1 (apt (th N t 0) (pg N p 0))) t p (pg N p 0) 4
def acW2 (M : Nat → Nat) (t p : Nat) : Nat → Nat := ts (ps (ps M p 3 (pg M p 2)) p 4 (pg M p 4 + 1)) t 4 (th M t 4 + 1)
def acW (N : Nat → Nat) (t p : Nat) : Nat × (Nat → Nat) :=
  fin (grw (acW2 (acW1 N t p).2 t p) p (th N t 0) 2) t p (th N t 0) 1 (apt (th N t 0) (pg N p 0)) (pg N p 0) (1 + apt (th N t 0) (pg N p 0) * N 5 + (acW1 N t p).1)
end
theorem src_some {N : Nat → Nat} {p h : Nat} : ∀ n, pg N p 0 < n → ∃ b, src N p h n = some b
  | 0, hn => by omega
  | n + 1, hn => by
    unfold src
    by_cases e : pg N p 0 = n
    · rw [if_pos (Or.inl e)]
      split
      · exact ⟨_, rfl⟩
      · split <;> exact ⟨_, rfl⟩
    · obtain ⟨b, hb⟩ := src_some (N := N) (p := p) (h := h) n (by omega)
      split
      · rw [hb]
        split
        · rename_i z; cases z
        · split <;> exact ⟨_, rfl⟩
      · exact ⟨b, hb⟩
theorem wrl_keep {N : Nat → Nat} {t p fr : Nat} (o : WF N) (ht : t < 8) (hp : p < 40) : ∀ n, n ≤ 4 → WF (wrl N t p fr n).2 ∧ (∀ c, c < 10 → (wrl N t p fr n).2 c = N c) ∧ (∀ q w, q < 40 → w < 18 → w ≠ 1 → w ≠ 7 → pg (wrl N t p fr n).2 q w = pg N q w) ∧ (∀ s w, s < 8 → w < 5 → w ≠ 1 → w ≠ 2 → th (wrl N t p fr n).2 s w = th N s w)
  | 0, _ => ⟨o, fun _ _ => rfl, fun _ _ _ _ _ _ => rfl, fun _ _ _ _ _ _ => rfl⟩
  | n + 1, hn => by
    obtain ⟨a1, a2, a3, a4⟩ := wrl_keep (fr := fr) o ht hp n (by omega)
    unfold wrl
    split
    · have o2 := WF_pay (t := t) (p := p) (c := 0) (hp := apt fr n) a1 ht hp
      refine ⟨WF_drp o2 hp (by omega), fun c hc => ?_, fun q w hq hw h1 h7 => ?_, fun s w hs hw h1 h2 => ?_⟩
      · dsimp only
        rw [drp_c o2.e (by omega)]
        unfold pay
        rw [up_ne (by omega), up_ne (by omega), ps_c (by omega), ts_c (by omega), ts_c (by omega), a2 c hc]
      · dsimp only
        rw [pg_drp o2.e hp hq hw, if_neg (by omega)]
        unfold pay
        rw [pg_up (by omega), pg_up (by omega), pg_ps_n (by omega) (by omega) hw, pg_ts hq hw, pg_ts hq hw, a3 q w hq hw h1 h7]
      · dsimp only
        rw [th_drp o2.e hp hs hw]
        unfold pay
        rw [th_up (by omega), th_up (by omega), th_ps hp (by omega), th_ts_n (by omega) (by omega) hw, th_ts_n (by omega) (by omega) hw, a4 s w hs hw h1 h2]
    · exact ⟨a1, a2, a3, a4⟩
