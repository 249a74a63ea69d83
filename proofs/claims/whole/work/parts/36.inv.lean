/-- page p's cells after one of its cells is written -/
theorem PI.set {N : Nat → Nat} {p w v T s4 s5 : Nat} (hw : w < 18) (h : PI T s4 s5 (up (pg N p) w v)) : PI T s4 s5 (pg (ps N p w v) p) :=
  h.congr (fun j h1 h2 h3 => by
    by_cases e : j = w
    · subst e
      rw [pg_ps_s, up_at]
    · rw [pg_ps_n (by omega) hw (by omega), up_ne e])
theorem WF.room {N : Nat → Nat} (o : WF N) : N 7 ≤ 100000 := o.2.2.2.2.2.2.2.1
theorem iw_src {N : Nat → Nat} {p h : Nat} : ∀ {n b : Nat}, src N p h n = some b → (pg N p 0 = b ∨ bit (pg N p 1) b = 1) ∧ ∀ j, j < n → (pg N p 0 = j ∨ bit (pg N p 1) j = 1) → apt h b ≤ apt h j
  | 0, b, e => by cases e
  | n + 1, b, e => by
    unfold src at e
    split at e
    · rename_i c
      split at e
      · rename_i hn
        cases e
        refine ⟨c, fun j hj hc => ?_⟩
        by_cases e2 : j = n
        · subst e2; exact Nat.le_refl _
        · exact absurd hc (by
            intro hc
            exact absurd hn (iw_src_some j (by omega) hc))
      · rename_i b' hb
        have i := iw_src hb
        split at e
        · rename_i hl
          cases e
          refine ⟨c, fun j hj hc => ?_⟩
          by_cases e2 : j = n
          · subst e2; exact Nat.le_refl _
          · have := i.2 j (by omega) hc
            omega
        · rename_i hl
          cases e
          refine ⟨i.1, fun j hj hc => ?_⟩
          by_cases e2 : j = n
          · subst e2; omega
          · exact i.2 j (by omega) hc
    · rename_i c
      have i := iw_src e
      refine ⟨i.1, fun j hj hc => ?_⟩
      by_cases e2 : j = n
      · subst e2; exact absurd hc c
      · exact i.2 j (by omega) hc
where
  iw_src_some {N : Nat → Nat} {p h : Nat} : ∀ {n : Nat} (j : Nat), j < n → (pg N p 0 = j ∨ bit (pg N p 1) j = 1) → src N p h n ≠ none
  | 0, j, hj, _ => by omega
  | n + 1, j, hj, hc => by
    unfold src
    by_cases e2 : j = n
    · subst e2
      rw [if_pos hc]
      split
      · exact fun z => by cases z
      · split <;> exact fun z => by cases z
    · have := iw_src_some (N := N) (p := p) (h := h) (n := n) j (by omega) hc
      split
      · split
        · exact fun z => by cases z
        · split <;> exact fun z => by cases z
      · exact this
theorem apt_0 {a b : Nat} (ha : a < 4) (hb : b < 4) (h : apt a b = 0) : a = b := by
  have H : (List.range 4).all (fun a => (List.range 4).all (fun b => decide (apt a b = 0 → a = b))) = true := by decide +kernel
  exact of_decide_eq_true (List.all_eq_true.mp (List.all_eq_true.mp H a (List.mem_range.mpr ha)) b (List.mem_range.mpr hb)) h
section IV
variable {N : Nat → Nat} {p s4 s5 t h fr : Nat}
theorem iw_mks1 (o : IW N p s4 s5) (hp : p < N 8) (hh : h < 4) (hne : pg N p 0 ≠ h) : IW (mks1 N p h) p s4 s5 := by
  have h8 := o.1.1
  have hr := o.1.room
  have hb := bits_5 (o.1.c (show p < 40 by omega)) hh
  unfold mks1
  refine iw_tel (iw_up (iw_ps0 (iw_ps o hp (by omega) (by omega) (WF_ps o.1 (by omega) (by omega) (by omega) (fun _ => hb.2.1) (fun _ => by omega)) (PI.set (by omega) ?_)) (by rw [ps_c (by omega)]; exact hp) (by omega) (by omega) (by omega)) (by omega) (by omega))
  have hi := iw_at o (by omega)
  unfold PI at hi ⊢
  rw [up_ne (by omega), up_ne (by omega), up_ne (by omega), up_ne (by omega), up_ne (by omega), up_ne (by omega), up_at, up_ne (by omega), (hb.2.2 _ (o.1.h (by omega))).2, if_neg hne]
  exact ⟨hi.1, hi.2.1, hi.2.2.1, hi.2.2.2.1, hi.2.2.2.2.1, hi.2.2.2.2.2.1, fun j hj => by rw [up_ne (by omega)]; exact hi.2.2.2.2.2.2.1 j hj, hi.2.2.2.2.2.2.2⟩
theorem fre_8 (o : WF N) {p' f c : Nat} (hp : p' < 40) (hh : h < 4) (hc : c < 14) : (fre p' h f N).2 c = N c := (fre_keep hp hh f N o).2.2.1 c hc
theorem iw_mks (o : IW N p s4 s5) (ht : t < N 9) (hp : p < N 8) (hh : h < 4) (hne : pg N p 0 ≠ h) : IW (mks N t p h fr).2 p s4 s5 := by
  have h8 := o.1.1
  have a := (iw_fre (p' := p) hh 41 o).1
  unfold mks
  split
  · exact a
  · have k := fre_keep (h := h) (show p < 40 by omega) hh 41 N o.1
    have k8 := k.2.2.1 8 (by omega)
    have k9 := k.2.2.1 9 (by omega)
    have k0 := k.2.2.2.1 p 0 (by omega) (by omega) (by omega)
    have m : IW (mks1 (fre p h 41 N).2 p h) p s4 s5 := iw_mks1 a (by rw [k8]; exact hp) hh (by rw [k0]; exact hne)
    have m8 : mks1 (fre p h 41 N).2 p h 8 = (fre p h 41 N).2 8 := by
      unfold mks1
      rw [tel_c (by omega) (by omega) (by rw [up_ne (by omega), ps_c (by omega), ps_c (by omega)]; exact a.1.e), up_ne (by omega), ps_c (by omega), ps_c (by omega)]
    have m9 : mks1 (fre p h 41 N).2 p h 9 = (fre p h 41 N).2 9 := by
      unfold mks1
      rw [tel_c (by omega) (by omega) (by rw [up_ne (by omega), ps_c (by omega), ps_c (by omega)]; exact a.1.e), up_ne (by omega), ps_c (by omega), ps_c (by omega)]
    exact iw_pay m (by rw [m9, k9]; exact ht) (by rw [m8, k8]; exact hp)
/-- the cells of page p behind a moving -/
def mvc (f : Nat → Nat) (h w : Nat) : Nat := if w = 0 then h else if w = 5 then f 5 + 1 else if w = 8 then f 9 else if w = 9 then f 2 else if 10 ≤ w ∧ w < 14 then f w / 2 else f w
theorem mv_cells (o : WF N) (hp : p < 40) (hh : h < 4) (h2b : pg N p 2 ≤ 100000) (h5 : pg N p 5 ≤ 100000) (h8b : pg N p 9 ≤ 100000) :
    WF (mv3 (mv2 (mv1 N p h) p h) p) ∧ (∀ c, c < 17 → c ≠ 12 → c ≠ 16 → mv3 (mv2 (mv1 N p h) p h) p c = N c) ∧ mv3 (mv2 (mv1 N p h) p h) p 12 = N 12 + 1 ∧ (∀ q w, q < 40 → w < 18 → w ≠ 6 → pg (mv3 (mv2 (mv1 N p h) p h) p) q w = if q = p then mvc (pg N p) h w else pg N q w) ∧ (∀ q, q < 40 → q ≠ p → pg (mv3 (mv2 (mv1 N p h) p h) p) q 6 = pg N q 6) ∧ ∀ t w, t < 8 → w < 5 → th (mv3 (mv2 (mv1 N p h) p h) p) t w = th N t w := by
  have w1 : WF (up (ps (ps N p 0 h) p 5 (pg N p 5 + 1)) 12 (N 12 + 1)) := WF_up (WF_ps (WF_ps o hp (by omega) (fun _ => hh) (by omega) (by omega)) hp (by omega) (by omega) (by omega) (by omega)) (by omega)
  have w2 : WF (tel (up (ps (ps N p 0 h) p 5 (pg N p 5 + 1)) 12 (N 12 + 1)) 0 p h) := WF_tel w1
  obtain ⟨c1, c2, c3, c4⟩ := hlv_keep w2 hp 4 (by omega)
  have e1 : ∀ c, c < 17 → c ≠ 12 → c ≠ 16 → mv1 N p h c = N c := fun c h1 h2 h3 => by
    unfold mv1
    rw [c2 c h1, tel_c (by omega) h3 w1.e, up_ne (by omega), ps_c h1, ps_c h1]
  have e2 : mv1 N p h 12 = N 12 + 1 := by
    unfold mv1
    rw [c2 12 (by omega), tel_c (by omega) (by omega) w1.e, up_at]
  have e3 : ∀ q w, q < 40 → w < 18 → pg (mv1 N p h) q w = if q = p then (if w = 0 then h else if w = 5 then pg N p 5 + 1 else if 10 ≤ w ∧ w < 14 then pg N p w / 2 else pg N p w) else pg N q w := fun q w hq hw => by
    unfold mv1
    rw [c3 q w hq hw, pg_tel w1.e hq hw, pg_up (by omega)]
    by_cases e : q = p
    · subst e
      rw [if_pos rfl]
      by_cases a0 : w = 0
      · subst a0
        rw [if_neg (by omega), pg_ps_n (by omega) (by omega) (by omega), pg_ps_s, if_pos rfl]
      · rw [if_neg a0]
        by_cases a5 : w = 5
        · subst a5
          rw [if_neg (by omega), pg_ps_s, if_pos rfl]
        · rw [if_neg a5, pg_ps_n (by omega) (by omega) hw, pg_ps_n (by omega) (by omega) hw]
          by_cases a10 : 10 ≤ w ∧ w < 14
          · rw [if_pos ⟨rfl, by omega, by omega⟩, if_pos a10]
          · rw [if_neg (by omega), if_neg a10]
    · rw [if_neg (by omega), if_neg e, pg_ps_n (by omega) (by omega) hw, pg_ps_n (by omega) (by omega) hw]
  have e4 : ∀ t w, t < 8 → w < 5 → th (mv1 N p h) t w = th N t w := fun t w ht hw => by
    unfold mv1
    rw [c4 t w ht hw, th_tel w1.e ht hw, th_up (by omega), th_ps hp (by omega), th_ps hp (by omega)]
  have w3 : WF (mv1 N p h) := c1
  generalize mv1 N p h = M at *
  have m2 : pg M p 2 = pg N p 2 := by rw [e3 p 2 hp (by omega), if_pos rfl]; rfl
  have w4 : WF (ps M p 6 (pg M p 2 + 30)) := WF_ps w3 hp (by omega) (by omega) (by omega) (by omega)
  have f1 : WF (mv2 M p h) := by
    unfold mv2
    split
    · exact WF_tel w4
    · exact w3
  have f2 : ∀ c, c < 17 → c ≠ 16 → mv2 M p h c = M c := fun c h1 h2 => by
    unfold mv2
    split
    · rw [tel_c (by omega) h2 w4.e, ps_c h1]
    · rfl
  have f3 : ∀ q w, q < 40 → w < 18 → w ≠ 6 ∨ q ≠ p → pg (mv2 M p h) q w = pg M q w := fun q w hq hw hn => by
    unfold mv2
    split
    · rw [pg_tel w4.e hq hw, pg_ps_n (by omega) (by omega) hw]
    · rfl
  have f4 : ∀ t w, t < 8 → w < 5 → th (mv2 M p h) t w = th M t w := fun t w ht hw => by
    unfold mv2
    split
    · rw [th_tel w4.e ht hw, th_ps hp (by omega)]
    · rfl
  generalize mv2 M p h = K at *
  have k2 : pg K p 2 = pg N p 2 := by rw [f3 p 2 hp (by omega) (by omega), m2]
  have k9 : pg K p 9 = pg N p 9 := by rw [f3 p 9 hp (by omega) (by omega), e3 p 9 hp (by omega), if_pos rfl]; rfl
  unfold mv3
  refine ⟨WF_ps (WF_ps f1 hp (by omega) (by omega) (by omega) (by omega)) hp (by omega) (by omega) (by omega) (by omega), fun c h1 h2 h3 => by rw [ps_c h1, ps_c h1, f2 c h1 h3, e1 c h1 h2 h3], by rw [ps_c (by omega), ps_c (by omega), f2 12 (by omega) (by omega), e2], fun q w hq hw h6 => ?_, fun q hq hn => ?_, fun t w ht hw => by rw [th_ps hp (by omega), th_ps hp (by omega), f4 t w ht hw, e4 t w ht hw]⟩
  · by_cases e : q = p
    · subst e
      rw [if_pos rfl]
      unfold mvc
      by_cases a8 : w = 8
      · subst a8
        rw [pg_ps_n (by omega) (by omega) hw, pg_ps_s, k9]
        rfl
      · by_cases a9 : w = 9
        · subst a9
          rw [pg_ps_s, k2]
          rfl
        · rw [pg_ps_n (by omega) (by omega) hw, pg_ps_n (by omega) (by omega) hw, f3 q w hq hw (by omega), e3 q w hq hw, if_pos rfl, if_neg a8, if_neg a9]
    · rw [pg_ps_n (by omega) (by omega) hw, pg_ps_n (by omega) (by omega) hw, f3 q w hq hw (by omega), e3 q w hq hw, if_neg e, if_neg e]
  · rw [pg_ps_n (by omega) (by omega) (by omega), pg_ps_n (by omega) (by omega) (by omega), f3 q 6 hq (by omega) (by omega), e3 q 6 hq (by omega), if_neg hn]
theorem iw_mv (o : IW N p s4 1) (hp : p < N 8) (hh : h < 4) (hb : bit (pg N p 1) h = 0) : IW (mv3 (mv2 (mv1 N p h) p h) p) p s4 0 ∧ (∀ c, c < 10 → mv3 (mv2 (mv1 N p h) p h) p c = N c) := by
  have h8 := o.1.1
  have h9 := o.1.2.1
  have hi := iw_at o (by omega)
  have hr := o.1.room
  obtain ⟨i1, i2, i3, i4, i5, i6, i7, i8, i9, i10, i11⟩ := id hi
  obtain ⟨a1, a2, a3, a4, a5, a6⟩ := mv_cells (h := h) o.1 (show p < 40 by omega) hh (by omega) (by omega) (by omega)
  generalize mv3 (mv2 (mv1 N p h) p h) p = M at *
  have az : ∀ q w, q < 40 → w < 18 → q ≠ p → pg M q w = pg N q w := fun q w hq hw hn => by
    by_cases e : w = 6
    · subst e; exact a5 q hq hn
    · rw [a4 q w hq hw e, if_neg hn]
  refine ⟨⟨a1, fun q hq => ?_, ⟨fun q w h1 h2 h3 => ?_, fun s w h1 h2 h3 => ?_⟩, ?_, ?_, ?_⟩, fun c hc => a2 c (by omega) (by omega) (by omega)⟩
  · rw [a2 7 (by omega) (by omega) (by omega)]
    by_cases e : q = p
    · subst e
      unfold sif
      rw [if_pos rfl, if_pos rfl]
      have ac : ∀ w, w < 18 → w ≠ 6 → pg M q w = mvc (pg N q) h w := fun w hw h6 => by rw [a4 q w hq hw h6, if_pos rfl]
      refine PI.congr (f := mvc (pg N q) h) ?_ (fun w h1 h2 h3 => ac w (by omega) h2)
      refine ⟨i1, i2, i4, Nat.le_refl _, i5, ?_, fun j hj => ?_, hb, i9, ?_, ?_⟩
      · show pg N q 5 + 1 + 0 ≤ pg N q 2
        omega
      · have e : mvc (pg N q) h (10 + j) = pg N q (10 + j) / 2 := by
          unfold mvc
          rw [if_neg (by omega), if_neg (by omega), if_neg (by omega), if_neg (by omega), if_pos (by omega)]
        rw [e]
        have := i7 j hj
        omega
      · show 0 < pg N q 9 ↔ 2 ≤ pg N q 5 + 1
        rw [i11]
        omega
      · show 0 < pg N q 2 ↔ 1 ≤ pg N q 5 + 1
        omega
    · have := o.2.1 q hq
      unfold sif at this ⊢
      rw [if_neg e, if_neg e] at this ⊢
      exact this.congr (fun w h1 h2 h3 => az q w hq (by omega) e)
  · rw [a2 8 (by omega) (by omega) (by omega)] at h1
    rw [az q w h2 h3 (by omega)]
    exact o.2.2.1.1 q w h1 h2 h3
  · rw [a2 9 (by omega) (by omega) (by omega)] at h1
    rw [a6 s w h2 h3]
    exact o.2.2.1.2 s w h1 h2 h3
  · rw [a2 10 (by omega) (by omega) (by omega), a2 9 (by omega) (by omega) (by omega), o.2.2.2.1]
    exact sm4_congr (fun i hi => (a6 i 1 (by omega) (by omega)).symm)
  · rw [a2 11 (by omega) (by omega) (by omega), a2 9 (by omega) (by omega) (by omega), o.2.2.2.2.1]
    exact sm4_congr (fun i hi => (a6 i 2 (by omega) (by omega)).symm)
  · rw [a3, a2 8 (by omega) (by omega) (by omega), sm4_add (f := fun p => pg N p 5) (q := p) (c := 1) hp ?_ (fun i hi hne => az i 5 (by omega) (by omega) hne), ← o.2.2.2.2.2]
    rw [a4 p 5 (by omega) (by omega) (by omega), if_pos rfl]
    rfl
theorem iw_mv0 (o : IW N p s4 s5) (hp : p < N 8) (hh : h < 4) : IW (mv0 N p h) p s4 s5 ∧ bit (pg (mv0 N p h) p 1) h = 0 := by
  have h8 := o.1.1
  unfold mv0
  split
  · refine ⟨iw_drp o hp hh, ?_⟩
    rw [pg_drp o.1.e (by omega) (by omega) (by omega), if_pos ⟨rfl, rfl⟩, ((bits_5 (o.1.c (by omega)) hh).2.2 h hh).1, if_pos rfl]
  · rename_i c
    have := @bit_lt (pg N p 1) h
    exact ⟨o, by omega⟩
theorem iw_mvs (o : IW N p s4 1) (ht : t < N 9) (hp : p < N 8) (hh : h < 4) : IW (mvs N t p h).2 p s4 0 := by
  have h8 := o.1.1
  have a := iw_mv0 o hp hh
  have k0 := mv0_keep (h := h) o.1 (show p < 40 by omega) hh
  have b := iw_fre (p' := p) hh 41 a.1
  have k := fre_keep (h := h) (show p < 40 by omega) hh 41 _ a.1.1
  unfold mvs
  split
  · exact iw_weak b.1 (Nat.le_refl _) (by omega)
  · have k8 : (fre p h 41 (mv0 N p h)).2 8 = N 8 := by rw [k.2.2.1 8 (by omega), k0.2.1 8 (by omega)]
    have k9 : (fre p h 41 (mv0 N p h)).2 9 = N 9 := by rw [k.2.2.1 9 (by omega), k0.2.1 9 (by omega)]
    have m := iw_mv (h := h) b.1 (by rw [k8]; exact hp) hh (b.2 p h (by omega) hh a.2)
    exact iw_pay m.1 (by rw [m.2 9 (by omega), k9]; exact ht) (by rw [m.2 8 (by omega), k8]; exact hp)
theorem iw_ask2 {P : Nat} (o : IW N p s4 1) (ht : t < N 9) (hp : p < N 8) (hh : h < 4) : IW (ask2 P N t p h).2 p s4 0 := by
  unfold ask2
  split
  · exact iw_mvs o ht hp hh
  · exact iw_weak o (Nat.le_refl _) (by omega)
theorem iw_ask {wr far : Nat} (o : IW N p s4 1) (ht : t < N 9) (hp : p < N 8) (hh : h < 4) (hf : 0 < far → wr = 0 → pg N p 0 ≠ h) : IW (ask N t p h wr far fr).2 p s4 0 := by
  have h8 := o.1.1
  unfold ask
  split
  · rename_i c
    split
    · exact iw_weak (iw_mks o ht hp hh (hf c.2.2.1 c.2.1)) (Nat.le_refl _) (by omega)
    · rename_i c2
      have e : (mks N t p h fr).2 = (fre p h 41 N).2 := by
        unfold mks at c2 ⊢
        split
        · rfl
        · rename_i c3
          rw [if_neg c3] at c2
          exact absurd c2 (by simp)
      rw [e]
      exact iw_ask2 (iw_fre hh 41 o).1 (by rw [fre_8 o.1 (by omega) hh (by omega)]; exact ht) (by rw [fre_8 o.1 (by omega) hh (by omega)]; exact hp) hh
  · exact iw_ask2 o ht hp hh
theorem iw_fin {wr far paid : Nat} (o : IW N p s4 1) (ht : t < N 9) (hp : p < N 8) (hh : h < 4) (hf : 0 < far → wr = 0 → pg N p 0 ≠ h) : IW (fin N t p h wr far fr paid).2 p s4 0 := by
  unfold fin
  split
  · exact iw_weak o (Nat.le_refl _) (by omega)
  · exact iw_ask o ht hp hh hf
end IV
