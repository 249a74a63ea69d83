section IC
variable {N : Nat → Nat} {p s4 s5 t h fr : Nat}
theorem mks1_c {c : Nat} (o : WF N) (hc : c < 13) : mks1 N p h c = N c := by
  unfold mks1
  rw [tel_c (by omega) (by omega) (by rw [up_ne (by omega), ps_c (by omega), ps_c (by omega)]; exact o.e), up_ne (by omega), ps_c (by omega), ps_c (by omega)]
theorem mks_c {c : Nat} (o : WF N) (hp : p < 40) (hh : h < 4) (hc : c < 10) : (mks N t p h fr).2 c = N c := by
  have k := fre_keep (h := h) hp hh 41 N o
  unfold mks
  split
  · exact k.2.2.1 c (by omega)
  · dsimp only
    rw [pay_c hc, mks1_c k.1 (by omega)]
    exact k.2.2.1 c (by omega)
theorem mvs_c {c : Nat} (o : IW N p s4 1) (hp : p < N 8) (hh : h < 4) (hc : c < 10) : (mvs N t p h).2 c = N c := by
  have h8 := o.1.1
  have a := iw_mv0 o hp hh
  have k0 := mv0_keep (h := h) o.1 (show p < 40 by omega) hh
  have b := iw_fre (p' := p) hh 41 a.1
  have k := fre_keep (h := h) (show p < 40 by omega) hh 41 _ a.1.1
  unfold mvs
  split
  · rw [k.2.2.1 c (by omega), k0.2.1 c (by omega)]
  · have k8 : (fre p h 41 (mv0 N p h)).2 8 = N 8 := by rw [k.2.2.1 8 (by omega), k0.2.1 8 (by omega)]
    have m := iw_mv (h := h) b.1 (by rw [k8]; exact hp) hh (b.2 p h (by omega) hh a.2)
    dsimp only
    rw [pay_c hc, m.2 c (by omega), k.2.2.1 c (by omega), k0.2.1 c (by omega)]
theorem ask2_c {P c : Nat} (o : IW N p s4 1) (hp : p < N 8) (hh : h < 4) (hc : c < 10) : (ask2 P N t p h).2 c = N c := by
  unfold ask2
  split
  · exact mvs_c o hp hh hc
  · rfl
theorem fin_c {wr far paid c : Nat} (o : IW N p s4 1) (hp : p < N 8) (hh : h < 4) (hc : c < 10) : (fin N t p h wr far fr paid).2 c = N c := by
  have h8 := o.1.1
  unfold fin
  split
  · rfl
  · show (ask N t p h wr far fr).2 c = N c
    unfold ask
    split
    · split
      · exact mks_c o.1 (by omega) hh hc
      · rename_i c2
        have e : (mks N t p h fr).2 = (fre p h 41 N).2 := by
          unfold mks at c2 ⊢
          split
          · rfl
          · rename_i c3
            rw [if_neg c3] at c2
            exact absurd c2 (by simp)
        rw [e, ask2_c (iw_fre hh 41 o).1 (by rw [fre_8 o.1 (by omega) hh (by omega)]; exact hp) hh hc, fre_8 o.1 (by omega) hh (by omega)]
    · exact ask2_c o hp hh hc
/-- only page p's cells differ, its movings do not -/
theorem iw_pg {N' : Nat → Nat} (o : IW N p s4 s5) {s4' s5' : Nat} (hp : p < N 8) (wf : WF N') (hc : ∀ c, c < 13 → N' c = N c) (h1 : ∀ q w, q < 40 → w < 18 → q ≠ p → pg N' q w = pg N q w) (h5 : pg N' p 5 = pg N p 5) (h2 : ∀ t w, t < 8 → w < 5 → th N' t w = th N t w) (hn : PI (N 7) s4' s5' (pg N' p)) : IW N' p s4' s5' := by
  have h8 := o.1.1
  have h9 := o.1.2.1
  refine ⟨wf, fun q hq => ?_, ⟨fun q w' a1 a2 a3 => ?_, fun s w' a1 a2 a3 => ?_⟩, ?_, ?_, ?_⟩
  · rw [hc 7 (by omega)]
    by_cases e : q = p
    · subst e
      unfold sif
      rw [if_pos rfl, if_pos rfl]
      exact hn
    · have := o.2.1 q hq
      unfold sif at this ⊢
      rw [if_neg e, if_neg e] at this ⊢
      exact this.congr (fun w' a1 a2 a3 => h1 q w' hq (by omega) e)
  · rw [hc 8 (by omega)] at a1
    rw [h1 q w' a2 a3 (by omega)]
    exact o.2.2.1.1 q w' a1 a2 a3
  · rw [hc 9 (by omega)] at a1
    rw [h2 s w' a2 a3]
    exact o.2.2.1.2 s w' a1 a2 a3
  · rw [hc 10 (by omega), hc 9 (by omega), o.2.2.2.1]
    exact sm4_congr (fun i hi => (h2 i 1 (by omega) (by omega)).symm)
  · rw [hc 11 (by omega), hc 9 (by omega), o.2.2.2.2.1]
    exact sm4_congr (fun i hi => (h2 i 2 (by omega) (by omega)).symm)
  · rw [hc 12 (by omega), hc 8 (by omega), o.2.2.2.2.2]
    refine sm4_congr (fun i hi => ?_)
    by_cases e : i = p
    · subst e; exact h5.symm
    · exact (h1 i 5 (by omega) (by omega) e).symm
theorem iw_ac0 (o : IW N p 0 0) (hp : p < N 8) (h7 : N 7 < 100000) : IW (ac0 N p) p 1 1 := by
  have h8 := o.1.1
  have h9 := o.1.2.1
  have hi := iw_at o (by omega)
  obtain ⟨i1, i2, i3, i4, i5, i6, i7, i8, i9, i10, i11⟩ := id hi
  have wf := ac0_WF o.1 (show p < 40 by omega) h7 (by omega)
  have pz : ∀ q w, q < 40 → w < 18 → ¬ (q = p ∧ w = 2) → pg (ac0 N p) q w = pg N q w := fun q w hq hw hn => by
    unfold ac0
    rw [pg_ps_n (by omega) (by omega) hw, pg_up (by omega)]
  have tz : ∀ s w, th (ac0 N p) s w = th N s w := fun s w => by
    unfold ac0
    rw [th_ps (by omega) (by omega), th_up (by omega)]
  refine ⟨wf, fun q hq => ?_, ⟨fun q w' a1 a2 a3 => ?_, fun s w' a1 a2 a3 => ?_⟩, ?_, ?_, ?_⟩
  · rw [ac0_7]
    by_cases e : q = p
    · subst e
      simp only [sif, ↓reduceIte]
      refine PI.congr (f := up (pg N q) 2 (pg N q 2 + 1)) ?_ (fun w h1 h2 h3 => ?_)
      · unfold PI
        rw [up_at, up_ne (by omega), up_ne (by omega), up_ne (by omega), up_ne (by omega), up_ne (by omega), up_ne (by omega), up_ne (by omega)]
        exact ⟨by omega, by omega, by omega, by omega, by omega, by omega, fun j hj => by rw [up_ne (by omega)]; exact i7 j hj, i8, i9, i10, i11⟩
      · by_cases e2 : w = 2
        · subst e2; rw [up_at, ac0_2]
        · rw [up_ne e2]; exact pz q w hq (by omega) (by omega)
    · have := o.2.1 q hq
      simp only [sif, if_neg e] at this ⊢
      exact (this.weak (T' := N 7 + 1) (by omega) (Nat.le_refl _) (Nat.le_refl _)).congr (fun w' a1 a2 a3 => pz q w' hq (by omega) (by omega))
  · rw [ac0_c (by omega) (by omega)] at a1
    rw [pz q w' a2 a3 (by omega)]
    exact o.2.2.1.1 q w' a1 a2 a3
  · rw [ac0_c (by omega) (by omega)] at a1
    rw [tz s w']
    exact o.2.2.1.2 s w' a1 a2 a3
  · rw [ac0_c (by omega) (by omega), ac0_c (by omega) (by omega), o.2.2.2.1]
    exact sm4_congr (fun i hi => (tz i 1).symm)
  · rw [ac0_c (by omega) (by omega), ac0_c (by omega) (by omega), o.2.2.2.2.1]
    exact sm4_congr (fun i hi => (tz i 2).symm)
  · rw [ac0_c (by omega) (by omega), ac0_c (by omega) (by omega), o.2.2.2.2.2]
    exact sm4_congr (fun i hi => (pz i 5 (by omega) (by omega) (by omega)).symm)
theorem iw_grw {by_ : Nat} (o : IW N p s4 s5) (hp : p < N 8) (hh : h < 4) : IW (grw N p h by_) p s4 s5 ∧ ∀ c, c < 17 → grw N p h by_ c = N c := by
  have h8 := o.1.1
  have hi := iw_at o (by omega)
  obtain ⟨i1, i2, i3, i4, i5, i6, i7, i8, i9, i10, i11⟩ := id hi
  unfold grw
  have hv : (if 999 < pg N p (10 + h) + by_ then 999 else pg N p (10 + h) + by_) ≤ 999 := by split <;> omega
  generalize (if 999 < pg N p (10 + h) + by_ then 999 else pg N p (10 + h) + by_) = v at *
  refine ⟨iw_ps o hp (by omega) (by omega) (WF_ps o.1 (by omega) (by omega) (by omega) (by omega) (by omega)) (PI.set (by omega) ?_), fun c hc => ps_c hc⟩
  unfold PI
  rw [up_ne (by omega), up_ne (by omega), up_ne (by omega), up_ne (by omega), up_ne (by omega), up_ne (by omega), up_ne (by omega), up_ne (by omega)]
  refine ⟨i1, i2, i3, i4, i5, i6, fun j hj => ?_, i8, i9, i10, i11⟩
  by_cases e : 10 + j = 10 + h
  · rw [e, up_at]; exact hv
  · rw [up_ne e]; exact i7 j hj
theorem AC_of (o : IW N p 0 0) (hp : p < 40) (h7 : N 7 < 100000) : AC N p := by
  obtain ⟨i1, i2, i3, i4, i5, i6, i7, i8, i9, i10, i11⟩ := iw_at o hp
  exact ⟨h7, by omega, i2, i3, by omega, i7, by omega⟩
theorem iw_acR (o : IW N p 0 0) (ht : t < N 9) (hp : p < N 8) (h7 : N 7 < 100000) (hs : src N p (th N t 0) 4 = some fr) : IW (acR N t p fr).2 p 0 0 ∧ (acR N t p fr).2 7 = N 7 + 1 ∧ ∀ c, c < 10 → c ≠ 7 → (acR N t p fr).2 c = N c := by
  have h8 := o.1.1
  have h9 := o.1.2.1
  have hm := o.1.t (show t < 8 by omega)
  have hf := src_lt hs
  have r := o.1.room
  have e0 := iw_ac0 o hp h7
  have e1 : IW (pay (ac0 N p) t p 1 (apt (th N t 0) fr)) p 1 1 := iw_pay e0 (by rw [ac0_c (by omega) (by omega)]; exact ht) (by rw [ac0_c (by omega) (by omega)]; exact hp)
  have c1 : ∀ c, c < 10 → pay (ac0 N p) t p 1 (apt (th N t 0) fr) c = ac0 N p c := fun c hc => pay_c hc
  have g1 : pg (pay (ac0 N p) t p 1 (apt (th N t 0) fr)) p 0 = pg N p 0 := by rw [pay_pg (by omega) (by omega) (by omega) (by omega) (by omega), ac0_pg (by omega) (by omega)]
  unfold acR
  generalize pay (ac0 N p) t p 1 (apt (th N t 0) fr) = M at *
  have m8 : M 8 = N 8 := by rw [c1 8 (by omega), ac0_c (by omega) (by omega)]
  have m9 : M 9 = N 9 := by rw [c1 9 (by omega), ac0_c (by omega) (by omega)]
  have e2 : IW (if fr = pg N p 0 then M else ps M p (14 + fr) (N 7 + 1)) p 1 1 ∧ (∀ c, c < 10 → (if fr = pg N p 0 then M else ps M p (14 + fr) (N 7 + 1)) c = M c) ∧ pg (if fr = pg N p 0 then M else ps M p (14 + fr) (N 7 + 1)) p 0 = pg N p 0 := by
    split
    · exact ⟨e1, fun _ _ => rfl, g1⟩
    · exact ⟨iw_ps0 e1 (by rw [m8]; exact hp) (by omega) (by omega) (by omega), fun c hc => ps_c (by omega), by rw [pg_ps_n (by omega) (by omega) (by omega)]; exact g1⟩
  generalize (if fr = pg N p 0 then M else ps M p (14 + fr) (N 7 + 1)) = K at *
  obtain ⟨e2, c2, g2⟩ := e2
  have k8 : K 8 = N 8 := by rw [c2 8 (by omega), m8]
  have k9 : K 9 = N 9 := by rw [c2 9 (by omega), m9]
  have e3 : IW (ts K t 3 (th N t 3 + 1)) p 1 1 := iw_ts e2 (by rw [k9]; exact ht) (by omega) (by omega)
  have e4 := iw_grw (h := th N t 0) (by_ := 1) e3 (by rw [ts_c (by omega), k8]; exact hp) hm
  have c4 : ∀ c, c < 10 → grw (ts K t 3 (th N t 3 + 1)) p (th N t 0) 1 c = ac0 N p c := fun c hc => by rw [e4.2 c (by omega), ts_c (by omega), c2 c hc, c1 c hc]
  have g4 : pg (grw (ts K t 3 (th N t 3 + 1)) p (th N t 0) 1) p 0 = pg N p 0 := by
    unfold grw
    rw [pg_ps_n (by omega) (by omega) (by omega), pg_ts (by omega) (by omega), g2]
  generalize grw (ts K t 3 (th N t 3 + 1)) p (th N t 0) 1 = G at *
  have q8 : G 8 = N 8 := by rw [c4 8 (by omega), ac0_c (by omega) (by omega)]
  have q9 : G 9 = N 9 := by rw [c4 9 (by omega), ac0_c (by omega) (by omega)]
  refine ⟨iw_weak (iw_fin e4.1 (by rw [q9]; exact ht) (by rw [q8]; exact hp) hm (fun hfar _ => ?_)) (by omega) (Nat.le_refl _), ?_, fun c hc hn => ?_⟩
  · rw [g4]
    intro e
    have := (iw_src hs).2 (th N t 0) hm (Or.inl e)
    rw [apt_self] at this
    omega
  · rw [fin_c e4.1 (by rw [q8]; exact hp) hm (by omega), c4 7 (by omega), ac0_7]
  · rw [fin_c e4.1 (by rw [q8]; exact hp) hm hc, c4 c hc, ac0_c (by omega) hn]
theorem iw_wrl (o : IW N p s4 s5) (ht : t < N 9) (hp : p < N 8) : ∀ n, n ≤ 4 → IW (wrl N t p fr n).2 p s4 s5
  | 0, _ => o
  | n + 1, hn => by
    have h8 := o.1.1
    have h9 := o.1.2.1
    have i := iw_wrl o ht hp n (by omega)
    have k := wrl_keep (fr := fr) o.1 (show t < 8 by omega) (show p < 40 by omega) n (by omega)
    unfold wrl
    split
    · exact iw_drp (iw_pay i (by rw [k.2.1 9 (by omega)]; exact ht) (by rw [k.2.1 8 (by omega)]; exact hp)) (by rw [pay_c (by omega), k.2.1 8 (by omega)]; exact hp) (by omega)
    · exact i
theorem iw_acW (o : IW N p 0 0) (ht : t < N 9) (hp : p < N 8) (h7 : N 7 < 100000) : IW (acW N t p).2 p 0 0 ∧ (acW N t p).2 7 = N 7 + 1 ∧ ∀ c, c < 10 → c ≠ 7 → (acW N t p).2 c = N c := by
  have h8 := o.1.1
  have h9 := o.1.2.1
  have hm := o.1.t (show t < 8 by omega)
  have r := o.1.room
  have e0 := iw_ac0 o hp h7
  have e1 : IW (pay (ac0 N p) t p 1 (apt (th N t 0) (pg N p 0))) p 1 1 := iw_pay e0 (by rw [ac0_c (by omega) (by omega)]; exact ht) (by rw [ac0_c (by omega) (by omega)]; exact hp)
  have c1 : ∀ c, c < 10 → pay (ac0 N p) t p 1 (apt (th N t 0) (pg N p 0)) c = ac0 N p c := fun c hc => pay_c hc
  unfold acW
  have e2 : IW (acW1 N t p).2 p 1 1 := iw_wrl e1 (by rw [c1 9 (by omega), ac0_c (by omega) (by omega)]; exact ht) (by rw [c1 8 (by omega), ac0_c (by omega) (by omega)]; exact hp) 4 (by omega)
  have c2 : ∀ c, c < 10 → (acW1 N t p).2 c = ac0 N p c := fun c hc => by
    have := (wrl_keep (fr := pg N p 0) e1.1 (show t < 8 by omega) (show p < 40 by omega) 4 (by omega)).2.1 c hc
    rw [c1 c hc] at this
    exact this
  generalize (acW1 N t p).2 = M at *
  have m7 : M 7 = N 7 + 1 := by rw [c2 7 (by omega), ac0_7]
  have m8 : M 8 = N 8 := by rw [c2 8 (by omega), ac0_c (by omega) (by omega)]
  have m9 : M 9 = N 9 := by rw [c2 9 (by omega), ac0_c (by omega) (by omega)]
  obtain ⟨i1, i2, i3, i4, i5, i6, i7, i8, i9, i10, i11⟩ := iw_at e2 (show p < 40 by omega)
  have e3 : IW (acW2 M t p) p 0 1 := by
    unfold acW2
    refine iw_ts (iw_pg e2 (by rw [m8]; exact hp) ?_ (fun c hc => by rw [ps_c (by omega), ps_c (by omega)]) (fun q w hq hw hn => by rw [pg_ps_n (by omega) (by omega) hw, pg_ps_n (by omega) (by omega) hw]) (by rw [pg_ps_n (by omega) (by omega) (by omega), pg_ps_n (by omega) (by omega) (by omega)]) (fun s w hs hw => by rw [th_ps (by omega) (by omega), th_ps (by omega) (by omega)]) ?_) (by rw [ps_c (by omega), ps_c (by omega), m9]; exact ht) (by omega) (by omega)
    · exact WF_ps (WF_ps e2.1 (by omega) (by omega) (by omega) (by omega) (by omega)) (by omega) (by omega) (by omega) (by omega) (by omega)
    · refine PI.congr (f := up (up (pg M p) 3 (pg M p 2)) 4 (pg M p 4 + 1)) ?_ (fun w h1 h2 h3 => ?_)
      · unfold PI
        rw [up_ne (by omega), up_ne (by omega), up_ne (by omega), up_at, up_ne (by omega), up_ne (by omega), up_ne (by omega), up_ne (by omega), up_at, up_ne (by omega), up_ne (by omega), up_ne (by omega), up_ne (by omega), up_ne (by omega), up_ne (by omega)]
        refine ⟨i1, Nat.le_refl _, i3, i4, by omega, i6, fun j hj => ?_, i8, by omega, i10, i11⟩
        rw [up_ne (by omega), up_ne (by omega)]
        exact i7 j hj
      · by_cases e4 : w = 4
        · subst e4; rw [up_at, pg_ps_s]
        · by_cases e3 : w = 3
          · subst e3; rw [up_ne e4, up_at, pg_ps_n (by omega) (by omega) (by omega), pg_ps_s]
          · rw [up_ne e4, up_ne e3, pg_ps_n (by omega) (by omega) (by omega), pg_ps_n (by omega) (by omega) (by omega)]
  have c3 : ∀ c, c < 17 → acW2 M t p c = M c := fun c hc => by
    unfold acW2
    rw [ts_c (by omega), ps_c (by omega), ps_c (by omega)]
  generalize acW2 M t p = K at *
  have e4 := iw_grw (h := th N t 0) (by_ := 2) e3 (by rw [c3 8 (by omega), m8]; exact hp) hm
  generalize grw K p (th N t 0) 2 = G at *
  have q8 : G 8 = N 8 := by rw [e4.2 8 (by omega), c3 8 (by omega), m8]
  have q9 : G 9 = N 9 := by rw [e4.2 9 (by omega), c3 9 (by omega), m9]
  refine ⟨iw_fin e4.1 (by rw [q9]; exact ht) (by rw [q8]; exact hp) hm (fun _ e => absurd e (by omega)), ?_, fun c hc hn => ?_⟩
  · rw [fin_c e4.1 (by rw [q8]; exact hp) hm (by omega), e4.2 7 (by omega), c3 7 (by omega), m7]
  · rw [fin_c e4.1 (by rw [q8]; exact hp) hm hc, e4.2 c (by omega), c3 c (by omega), c2 c hc, ac0_c (by omega) hn]
end IC
