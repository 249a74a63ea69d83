/-! what stays true of a row -/
def PI (T s4 s5 : Nat) (f : Nat → Nat) : Prop := f 2 ≤ T ∧ f 3 ≤ f 2 ∧ f 8 ≤ f 2 ∧ f 9 ≤ f 2 ∧ f 4 + s4 ≤ f 2 ∧ f 5 + s5 ≤ f 2 ∧ (∀ h, h < 4 → f (10 + h) ≤ 999) ∧ bit (f 1) (f 0) = 0 ∧ (f 4 = 0 ↔ f 3 = 0) ∧ (0 < f 8 ↔ 2 ≤ f 5) ∧ (0 < f 9 ↔ 1 ≤ f 5)
theorem PI.congr {T s4 s5 : Nat} {f g : Nat → Nat} (o : PI T s4 s5 f) (h : ∀ w, w < 14 → w ≠ 6 → w ≠ 7 → g w = f w) : PI T s4 s5 g := by
  unfold PI at o ⊢
  rw [h 0 (by omega) (by omega) (by omega), h 1 (by omega) (by omega) (by omega), h 2 (by omega) (by omega) (by omega), h 3 (by omega) (by omega) (by omega), h 4 (by omega) (by omega) (by omega), h 5 (by omega) (by omega) (by omega), h 8 (by omega) (by omega) (by omega), h 9 (by omega) (by omega) (by omega)]
  refine ⟨o.1, o.2.1, o.2.2.1, o.2.2.2.1, o.2.2.2.2.1, o.2.2.2.2.2.1, fun j hj => ?_, o.2.2.2.2.2.2.2⟩
  rw [h (10 + j) (by omega) (by omega) (by omega)]
  exact o.2.2.2.2.2.2.1 j hj
theorem PI.weak {T T' s4 s5 s4' s5' : Nat} {f : Nat → Nat} (o : PI T s4 s5 f) (hT : T ≤ T') (h4 : s4' ≤ s4) (h5 : s5' ≤ s5) : PI T' s4' s5' f :=
  ⟨by have := o.1; omega, o.2.1, o.2.2.1, o.2.2.2.1, by have := o.2.2.2.2.1; omega, by have := o.2.2.2.2.2.1; omega, o.2.2.2.2.2.2⟩
theorem sm4_congr {f g : Nat → Nat} : ∀ {n : Nat}, (∀ i, i < n → f i = g i) → sm4 f n = sm4 g n
  | 0, _ => rfl
  | n + 1, h => by
    unfold sm4
    rw [sm4_congr (n := n) (fun i hi => h i (by omega)), h n (by omega)]
theorem sm4_add {f g : Nat → Nat} {q c : Nat} : ∀ {n : Nat}, q < n → g q = f q + c → (∀ i, i < n → i ≠ q → g i = f i) → sm4 g n = sm4 f n + c
  | 0, h, _, _ => by omega
  | n + 1, h, h1, h2 => by
    unfold sm4
    by_cases e : q = n
    · subst e
      rw [sm4_congr (f := g) (g := f) (n := q) (fun i hi => h2 i (by omega) (by omega)), h1]
      omega
    · rw [sm4_add (f := f) (g := g) (q := q) (c := c) (n := n) (by omega) h1 (fun i hi hne => h2 i (by omega) hne), h2 n (by omega) (by omega)]
      omega
def ZB (N : Nat → Nat) : Prop := (∀ p w, N 8 ≤ p → p < 40 → w < 18 → pg N p w = 0) ∧ ∀ t w, N 9 ≤ t → t < 8 → w < 5 → th N t w = 0
def SB (N : Nat → Nat) : Prop := N 10 = sm4 (fun t => th N t 1) (N 9) ∧ N 11 = sm4 (fun t => th N t 2) (N 9) ∧ N 12 = sm4 (fun p => pg N p 5) (N 8)
def sif (p s q : Nat) : Nat := if q = p then s else 0
def PP (N : Nat → Nat) (p s4 s5 : Nat) : Prop := ∀ q, q < 40 → PI (N 7) (sif p s4 q) (sif p s5 q) (pg N q)
/-- all of it, with room at page p -/
def IW (N : Nat → Nat) (p s4 s5 : Nat) : Prop := WF N ∧ PP N p s4 s5 ∧ ZB N ∧ SB N
section IW
variable {N : Nat → Nat} {p s4 s5 q t w v h k c hp : Nat}
theorem iw_p0 (o : IW N p s4 s5) : PI (N 7) s4 s5 (pg N p) ∨ 40 ≤ p := by
  by_cases hp : p < 40
  · have := o.2.1 p hp
    unfold sif at this
    rw [if_pos rfl, if_pos rfl] at this
    exact Or.inl this
  · exact Or.inr (by omega)
theorem iw_at (o : IW N p s4 s5) (hp : p < 40) : PI (N 7) s4 s5 (pg N p) := (iw_p0 o).elim id (fun h => absurd hp (by omega))
theorem iw_any (o : IW N p s4 s5) (hq : q < 40) : PI (N 7) 0 0 (pg N q) := (o.2.1 q hq).weak (Nat.le_refl _) (Nat.zero_le _) (Nat.zero_le _)
theorem iw_weak {s4' s5' : Nat} (o : IW N p s4 s5) (h4 : s4' ≤ s4) (h5 : s5' ≤ s5) : IW N p s4' s5' :=
  ⟨o.1, fun q hq => (o.2.1 q hq).weak (Nat.le_refl _) (by unfold sif; split <;> omega) (by unfold sif; split <;> omega), o.2.2⟩
theorem iw_zero (o : IW N p s4 s5) : IW N q 0 0 :=
  ⟨o.1, fun r hr => (o.2.1 r hr).weak (Nat.le_refl _) (by unfold sif; split <;> omega) (by unfold sif; split <;> omega), o.2.2⟩
/-- a change that touches no count and no page as far as it matters -/
theorem iw_same {N' : Nat → Nat} (o : IW N p s4 s5) (wf : WF N') (hc : ∀ c, 7 ≤ c → c ≤ 12 → N' c = N c) (hpg : ∀ q w, q < 40 → w < 14 → w ≠ 6 → w ≠ 7 → pg N' q w = pg N q w) (hpz : ∀ q w, N 8 ≤ q → q < 40 → w < 18 → pg N' q w = pg N q w) (hth : ∀ t w, t < 8 → w < 3 → th N' t w = th N t w) (htz : ∀ t w, N 9 ≤ t → t < 8 → w < 5 → th N' t w = th N t w) : IW N' p s4 s5 := by
  have h8 := o.1.1
  have h9 := o.1.2.1
  refine ⟨wf, fun q hq => ?_, ⟨fun q w h1 h2 h3 => ?_, fun t w h1 h2 h3 => ?_⟩, ?_, ?_, ?_⟩
  · rw [hc 7 (by omega) (by omega)]
    exact (o.2.1 q hq).congr (fun w h1 h2 h3 => hpg q w hq h1 h2 h3)
  · rw [hc 8 (by omega) (by omega)] at h1
    rw [hpz q w h1 h2 h3]
    exact o.2.2.1.1 q w h1 h2 h3
  · rw [hc 9 (by omega) (by omega)] at h1
    rw [htz t w h1 h2 h3]
    exact o.2.2.1.2 t w h1 h2 h3
  · rw [hc 10 (by omega) (by omega), hc 9 (by omega) (by omega), o.2.2.2.1]
    exact sm4_congr (fun i hi => (hth i 1 (by omega) (by omega)).symm)
  · rw [hc 11 (by omega) (by omega), hc 9 (by omega) (by omega), o.2.2.2.2.1]
    exact sm4_congr (fun i hi => (hth i 2 (by omega) (by omega)).symm)
  · rw [hc 12 (by omega) (by omega), hc 8 (by omega) (by omega), o.2.2.2.2.2]
    exact sm4_congr (fun i hi => (hpg i 5 (by omega) (by omega) (by omega) (by omega)).symm)
theorem iw_up (o : IW N p s4 s5) (h1 : 13 ≤ c) (h2 : c < 16) : IW (up N c v) p s4 s5 :=
  iw_same o (WF_up o.1 (by omega)) (fun i _ _ => up_ne (by omega)) (fun q w _ _ _ _ => pg_up (by omega)) (fun q w _ _ _ => pg_up (by omega)) (fun t w _ _ => th_up (by omega)) (fun t w _ _ _ => th_up (by omega))
theorem iw_tel (o : IW N p s4 s5) {a b d : Nat} : IW (tel N a b d) p s4 s5 :=
  iw_same o (WF_tel o.1) (fun i _ _ => tel_c (by omega) (by omega) o.1.e) (fun q w hq _ _ _ => pg_tel o.1.e hq (by omega)) (fun q w _ hq hw => pg_tel o.1.e hq hw) (fun t w ht _ => th_tel o.1.e ht (by omega)) (fun t w _ ht hw => th_tel o.1.e ht hw)
theorem iw_ts (o : IW N p s4 s5) (ht : t < N 9) (hw : 3 ≤ w) (hw5 : w < 5) : IW (ts N t w v) p s4 s5 := by
  have h9 := o.1.2.1
  exact iw_same o (WF_ts o.1 (by omega) hw5 (by omega)) (fun i _ _ => ts_c (by omega)) (fun q w _ _ _ _ => pg_ts (by omega) (by omega)) (fun q w _ _ _ => pg_ts (by omega) (by omega)) (fun s w' hs _ => th_ts_n (by omega) hw5 (by omega)) (fun s w' _ hs _ => th_ts_n (by omega) hw5 (by omega))
theorem iw_ts0 (o : IW N p s4 s5) (ht : t < N 9) (hv : v < 4) : IW (ts N t 0 v) p s4 s5 := by
  have h9 := o.1.2.1
  have h8 := o.1.1
  refine ⟨WF_ts o.1 (by omega) (by omega) (fun _ => hv), fun q hq => ?_, ⟨fun q w h1 h2 h3 => ?_, fun s w h1 h2 h3 => ?_⟩, ?_, ?_, ?_⟩
  · rw [ts_c (by omega)]
    exact (o.2.1 q hq).congr (fun w h1 h2 h3 => pg_ts hq (by omega))
  · rw [ts_c (by omega)] at h1
    rw [pg_ts h2 h3]
    exact o.2.2.1.1 q w h1 h2 h3
  · rw [ts_c (by omega)] at h1
    rw [th_ts_n (by omega) (by omega) h3]
    exact o.2.2.1.2 s w h1 h2 h3
  · rw [ts_c (by omega), ts_c (by omega), o.2.2.2.1]
    exact sm4_congr (fun i hi => (th_ts_n (by omega) (by omega) (by omega)).symm)
  · rw [ts_c (by omega), ts_c (by omega), o.2.2.2.2.1]
    exact sm4_congr (fun i hi => (th_ts_n (by omega) (by omega) (by omega)).symm)
  · rw [ts_c (by omega), ts_c (by omega), o.2.2.2.2.2]
    exact sm4_congr (fun i hi => (pg_ts (by omega) (by omega)).symm)
theorem iw_ps0 (o : IW N p s4 s5) (hq : q < N 8) (hw : w = 6 ∨ w = 7 ∨ 14 ≤ w) (hw2 : w < 18) (hv : v ≤ 200000) : IW (ps N q w v) p s4 s5 := by
  have h8 := o.1.1
  exact iw_same o (WF_ps o.1 (by omega) hw2 (by omega) (by omega) (fun _ => hv)) (fun i _ _ => ps_c (by omega)) (fun r w' _ h1 h2 h3 => pg_ps_n (by omega) hw2 (by omega)) (fun r w' h1 _ h3 => pg_ps_n (by omega) hw2 h3) (fun s w' _ _ => th_ps (by omega) hw2) (fun s w' _ _ _ => th_ps (by omega) hw2)
/-- a change of page p alone (not of its movings) -/
theorem iw_ps (o : IW N p s4 s5) {s4' s5' : Nat} (hp : p < N 8) (hw : w < 18) (hw5 : w ≠ 5) (wf : WF (ps N p w v)) (hn : PI (N 7) s4' s5' (pg (ps N p w v) p)) : IW (ps N p w v) p s4' s5' := by
  have h8 := o.1.1
  have h9 := o.1.2.1
  refine ⟨wf, fun q hq => ?_, ⟨fun q w' h1 h2 h3 => ?_, fun s w' h1 h2 h3 => ?_⟩, ?_, ?_, ?_⟩
  · rw [ps_c (by omega)]
    by_cases e : q = p
    · subst e
      unfold sif
      rw [if_pos rfl, if_pos rfl]
      exact hn
    · have := o.2.1 q hq
      unfold sif at this ⊢
      rw [if_neg e, if_neg e] at this ⊢
      exact this.congr (fun w' h1 h2 h3 => pg_ps_n (by omega) hw (by omega))
  · rw [ps_c (by omega)] at h1
    rw [pg_ps_n (by omega) hw h3]
    exact o.2.2.1.1 q w' h1 h2 h3
  · rw [ps_c (by omega)] at h1
    rw [th_ps (by omega) hw]
    exact o.2.2.1.2 s w' h1 h2 h3
  · rw [ps_c (by omega), ps_c (by omega), o.2.2.2.1]
    exact sm4_congr (fun i hi => (th_ps (by omega) hw).symm)
  · rw [ps_c (by omega), ps_c (by omega), o.2.2.2.2.1]
    exact sm4_congr (fun i hi => (th_ps (by omega) hw).symm)
  · rw [ps_c (by omega), ps_c (by omega), o.2.2.2.2.2]
    exact sm4_congr (fun i hi => (pg_ps_n (by omega) hw (by omega)).symm)
theorem iw_pay (o : IW N p s4 s5) (ht : t < N 9) (hq : q < N 8) : IW (pay N t q c hp) p s4 s5 := by
  have h8 := o.1.1
  have h9 := o.1.2.1
  have a1 : ∀ r w, r < 40 → w < 18 → ¬ (r = q ∧ w = 7) → pg (pay N t q c hp) r w = pg N r w := fun r w hr hw hn => by
    unfold pay
    rw [pg_up (by omega), pg_up (by omega), pg_ps_n (by omega) (by omega) hw, pg_ts hr hw, pg_ts hr hw]
  have a2 : ∀ s w, s < 8 → w < 5 → ¬ (s = t ∧ w = 1) → ¬ (s = t ∧ w = 2) → th (pay N t q c hp) s w = th N s w := fun s w hs hw h1 h2 => by
    unfold pay
    rw [th_up (by omega), th_up (by omega), th_ps (by omega) (by omega), th_ts_n (by omega) (by omega) hw, th_ts_n (by omega) (by omega) hw]
  have a3 : ∀ i, i < 17 → i ≠ 10 → i ≠ 11 → pay N t q c hp i = N i := fun i hi h1 h2 => by
    unfold pay
    rw [up_ne (by omega), up_ne (by omega), ps_c (by omega), ts_c (by omega), ts_c (by omega)]
  refine ⟨WF_pay o.1 (by omega) (by omega), fun r hr => ?_, ⟨fun r w' h1 h2 h3 => ?_, fun s w' h1 h2 h3 => ?_⟩, ?_, ?_, ?_⟩
  · rw [a3 7 (by omega) (by omega) (by omega)]
    exact (o.2.1 r hr).congr (fun w' h1 h2 h3 => a1 r w' hr (by omega) (by omega))
  · rw [a3 8 (by omega) (by omega) (by omega)] at h1
    rw [a1 r w' h2 h3 (by omega)]
    exact o.2.2.1.1 r w' h1 h2 h3
  · rw [a3 9 (by omega) (by omega) (by omega)] at h1
    rw [a2 s w' h2 h3 (by omega) (by omega)]
    exact o.2.2.1.2 s w' h1 h2 h3
  · rw [a3 9 (by omega) (by omega) (by omega), sm4_add (f := fun s => th N s 1) (q := t) (c := c + hp * N 5) ht ?_ (fun i hi hne => a2 i 1 (by omega) (by omega) (by omega) (by omega)), ← o.2.2.2.1]
    · unfold pay
      rw [up_ne (by omega), up_at]
    · show th (pay N t q c hp) t 1 = _
      unfold pay
      rw [th_up (by omega), th_up (by omega), th_ps (by omega) (by omega), th_ts_n (by omega) (by omega) (by omega), th_ts_s]
  · rw [a3 9 (by omega) (by omega) (by omega), sm4_add (f := fun s => th N s 2) (q := t) (c := hp) ht ?_ (fun i hi hne => a2 i 2 (by omega) (by omega) (by omega) (by omega)), ← o.2.2.2.2.1]
    · unfold pay
      rw [up_at]
    · show th (pay N t q c hp) t 2 = _
      unfold pay
      rw [th_up (by omega), th_up (by omega), th_ps (by omega) (by omega), th_ts_s]
  · rw [a3 12 (by omega) (by omega) (by omega), a3 8 (by omega) (by omega) (by omega), o.2.2.2.2.2]
    exact sm4_congr (fun i hi => (a1 i 5 (by omega) (by omega) (by omega)).symm)
theorem iw_drp (o : IW N p s4 s5) (hq : q < N 8) (hh : h < 4) : IW (drp N k q h) p s4 s5 := by
  have h8 := o.1.1
  have h9 := o.1.2.1
  have e := o.1.e
  refine ⟨WF_drp o.1 (by omega) hh, fun r hr => ?_, ⟨fun r w' h1 h2 h3 => ?_, fun s w' h1 h2 h3 => ?_⟩, ?_, ?_, ?_⟩
  · rw [drp_c e (by omega)]
    have hi := o.2.1 r hr
    have a : ∀ w, w < 18 → w ≠ 1 → pg (drp N k q h) r w = pg N r w := fun w hw hn => by rw [pg_drp e (by omega) hr hw, if_neg (by omega)]
    have a1 : bit (pg (drp N k q h) r 1) (pg N r 0) = 0 := by
      rw [pg_drp e (by omega) hr (by omega)]
      have hb := hi.2.2.2.2.2.2.2.1
      by_cases c : r = q
      · subst c
        rw [if_pos ⟨rfl, rfl⟩, ((bits_5 (o.1.c (by omega)) hh).2.2 _ (o.1.h (by omega))).1]
        split
        · rfl
        · exact hb
      · rw [if_neg (by omega)]
        exact hb
    unfold PI at hi ⊢
    rw [a 0 (by omega) (by omega), a 2 (by omega) (by omega), a 3 (by omega) (by omega), a 4 (by omega) (by omega), a 5 (by omega) (by omega), a 8 (by omega) (by omega), a 9 (by omega) (by omega)]
    exact ⟨hi.1, hi.2.1, hi.2.2.1, hi.2.2.2.1, hi.2.2.2.2.1, hi.2.2.2.2.2.1, fun j hj => by rw [a (10 + j) (by omega) (by omega)]; exact hi.2.2.2.2.2.2.1 j hj, a1, hi.2.2.2.2.2.2.2.2⟩
  · rw [drp_c e (by omega)] at h1
    rw [pg_drp e (by omega) h2 h3, if_neg (by omega)]
    exact o.2.2.1.1 r w' h1 h2 h3
  · rw [drp_c e (by omega)] at h1
    rw [th_drp e (by omega) h2 h3]
    exact o.2.2.1.2 s w' h1 h2 h3
  · rw [drp_c e (by omega), drp_c e (by omega), o.2.2.2.1]
    exact sm4_congr (fun i hi => (th_drp e (by omega) (by omega) (by omega)).symm)
  · rw [drp_c e (by omega), drp_c e (by omega), o.2.2.2.2.1]
    exact sm4_congr (fun i hi => (th_drp e (by omega) (by omega) (by omega)).symm)
  · rw [drp_c e (by omega), drp_c e (by omega), o.2.2.2.2.2]
    exact sm4_congr (fun i hi => by rw [pg_drp e (by omega) (by omega) (by omega), if_neg (by omega)])
end IW
theorem bit_drp {N : Nat → Nat} {k q h p : Nat} (o : WF N) (hq : q < 40) (hp : p < 40) (hh : h < 4) {g : Nat} (hg : g < 4) (hb : bit (pg N p 1) g = 0) : bit (pg (drp N k q h) p 1) g = 0 := by
  rw [pg_drp o.e hq hp (by omega)]
  by_cases c : p = q
  · subst c
    rw [if_pos ⟨rfl, rfl⟩, ((bits_5 (o.c hp) hh).2.2 g hg).1]
    split
    · rfl
    · exact hb
  · rw [if_neg (by omega)]
    exact hb
theorem iw_fre {p s4 s5 p' h : Nat} (hh : h < 4) : ∀ (f : Nat) {N : Nat → Nat}, IW N p s4 s5 → IW (fre p' h f N).2 p s4 s5 ∧ ∀ q g, q < 40 → g < 4 → bit (pg N q 1) g = 0 → bit (pg (fre p' h f N).2 q 1) g = 0
  | 0, N, o => ⟨o, fun _ _ _ _ hb => hb⟩
  | f + 1, N, o => by
    have h8 := o.1.1
    have e := o.1.e
    unfold fre
    split
    · split
      · refine ⟨iw_tel (iw_up o (by omega) (by omega)), fun q g hq hg hb => ?_⟩
        dsimp only
        rw [pg_tel (by rw [up_ne (by omega)]; exact e) hq (by omega), pg_up (by omega)]
        exact hb
      · rename_i q hs
        have hq := fst_lt hs
        obtain ⟨a1, a2⟩ := iw_fre (p' := p') hh f (N := drp N 2 q h) (iw_drp o hq.1 hh)
        exact ⟨a1, fun r g hr hg hb => a2 r g hr hg (bit_drp o.1 (by omega) hr hh hg hb)⟩
    · exact ⟨o, fun _ _ _ _ hb => hb⟩
