/-- the log alone -/
def LGE (A C : Nat → Nat) : Prop := A 16 = C 16 ∧ A 7 = C 7 ∧ ∀ j w, j < 10 → w < 4 → ev A j w = ev C j w
theorem LGE.rfl {A : Nat → Nat} : LGE A A := ⟨Eq.refl _, Eq.refl _, fun _ _ _ _ => Eq.refl _⟩
theorem LGE.trans {A B C : Nat → Nat} (h : LGE A B) (h' : LGE B C) : LGE A C := ⟨h.1.trans h'.1, h.2.1.trans h'.2.1, fun j w a b => (h.2.2 j w a b).trans (h'.2.2 j w a b)⟩
theorem LGE.symm {A B : Nat → Nat} (h : LGE A B) : LGE B A := ⟨h.1.symm, h.2.1.symm, fun j w a b => (h.2.2 j w a b).symm⟩
theorem lge_ps {A : Nat → Nat} {p w v : Nat} (hp : p < 40) (hw : w < 18) : LGE (ps A p w v) A := ⟨ps_c (by omega), ps_c (by omega), fun j x _ _ => ev_ps hp hw⟩
theorem lge_up {A : Nat → Nat} {c v : Nat} (hc : c < 16) (h7 : c ≠ 7) : LGE (up A c v) A := ⟨up_ne (by omega), up_ne (by omega), fun j x _ _ => ev_up (by omega)⟩
theorem lge_hlv {A : Nat → Nat} {p : Nat} (hp : p < 40) : ∀ n, n ≤ 4 → LGE (hlv A p n) A
  | 0, _ => LGE.rfl
  | n + 1, h => (lge_ps hp (by omega)).trans (lge_hlv hp n (by omega))
theorem lge_tel {A C : Nat → Nat} {k p h : Nat} (e : LGE A C) (h16 : A 16 ≤ 10) : LGE (tel A k p h) (tel C k p h) := by
  obtain ⟨e16, e7, ee⟩ := e
  have h16' : C 16 ≤ 10 := by rw [← e16]; exact h16
  refine ⟨by rw [tel_16v, tel_16v, e16], by rw [tel_c (by omega) (by omega) h16, tel_c (by omega) (by omega) h16', e7], fun j w hj hw => ?_⟩
  rw [ev_tel h16 hj hw, ev_tel h16' hj hw, e16, e7]
  by_cases c16 : C 16 = 10
  · rw [if_pos c16, if_pos c16, if_pos c16]
    by_cases cj : j = 9
    · rw [if_pos cj, if_pos cj]
    · rw [if_neg cj, if_neg cj, ee (j + 1) w (by omega) hw]
  · rw [if_neg c16, if_neg c16, if_neg c16, ee j w hj hw]
theorem mv1_pg {N : Nat → Nat} {p h q w : Nat} (o : WF N) (hp : p < 40) (hh : h < 4) (h5 : pg N p 5 ≤ 100000) (hq : q < 40) (hw : w < 18) : pg (mv1 N p h) q w = if q = p then (if w = 0 then h else if w = 5 then pg N p 5 + 1 else if 10 ≤ w ∧ w < 14 then pg N p w / 2 else pg N p w) else pg N q w := by
  have w1 : WF (up (ps (ps N p 0 h) p 5 (pg N p 5 + 1)) 12 (N 12 + 1)) := WF_up (WF_ps (WF_ps o hp (by omega) (fun _ => hh) (by omega) (by omega)) hp (by omega) (by omega) (by omega) (by omega)) (by omega)
  have w2 : WF (tel (up (ps (ps N p 0 h) p 5 (pg N p 5 + 1)) 12 (N 12 + 1)) 0 p h) := WF_tel w1
  obtain ⟨c1, c2, c3, c4⟩ := hlv_keep w2 hp 4 (by omega)
  unfold mv1
  rw [c3 q w hq hw, pg_tel w1.e hq hw, pg_up (by omega)]
  by_cases e : q = p
  · subst e
    rw [if_pos rfl]
    by_cases a0 : w = 0
    · subst a0
      rw [if_neg (by omega), pg_ps_n (by omega) (by omega) (by omega), pg_ps_s, if_pos rfl]
    · rw [if_neg a0]
      by_cases a5 : w = 5
      · subst a5
        rw [if_neg (by omega), pg_ps_s, if_pos rfl]
      · rw [if_neg a5, pg_ps_n (by omega) (by omega) hw, pg_ps_n (by omega) (by omega) hw]
        by_cases a10 : 10 ≤ w ∧ w < 14
        · rw [if_pos ⟨rfl, by omega, by omega⟩, if_pos a10]
        · rw [if_neg (by omega), if_neg a10]
  · rw [if_neg (by omega), if_neg e, pg_ps_n (by omega) (by omega) hw, pg_ps_n (by omega) (by omega) hw]
theorem mvA_pg {N : Nat → Nat} {p h q w : Nat} (o : WF N) (hp : p < 40) (hh : h < 4) (h2 : pg N p 2 ≤ 100000) (h5 : pg N p 5 ≤ 100000) (h9 : pg N p 9 ≤ 100000) (hq : q < 40) (hw : w < 18) : pg (mvA N p h) q w = if q = p then mvc (pg N p) h w else pg N q w := by
  have w4 : WF (ps (ps (ps (ps N p 0 h) p 5 (pg N p 5 + 1)) p 8 (pg N p 9)) p 9 (pg N p 2)) := WF_ps (WF_ps (WF_ps (WF_ps o hp (by omega) (fun _ => hh) (by omega) (by omega)) hp (by omega) (by omega) (by omega) (by omega)) hp (by omega) (by omega) (by omega) (by omega)) hp (by omega) (by omega) (by omega) (by omega)
  obtain ⟨c1, c2, c3, c4⟩ := hlv_keep w4 hp 4 (by omega)
  unfold mvA
  rw [c3 q w hq hw]
  by_cases e : q = p
  · subst e
    rw [if_pos rfl]
    unfold mvc
    by_cases a0 : w = 0
    · subst a0
      rw [if_neg (by omega), pg_ps_n (by omega) (by omega) (by omega), pg_ps_n (by omega) (by omega) (by omega), pg_ps_n (by omega) (by omega) (by omega), pg_ps_s, if_pos rfl]
    · rw [if_neg a0]
      by_cases a5 : w = 5
      · subst a5
        rw [if_neg (by omega), pg_ps_n (by omega) (by omega) (by omega), pg_ps_n (by omega) (by omega) (by omega), pg_ps_s, if_pos rfl]
      · rw [if_neg a5]
        by_cases a8 : w = 8
        · subst a8
          rw [if_neg (by omega), pg_ps_n (by omega) (by omega) (by omega), pg_ps_s, if_pos rfl]
        · rw [if_neg a8]
          by_cases a9 : w = 9
          · subst a9
            rw [if_neg (by omega), pg_ps_s, if_pos rfl]
          · rw [if_neg a9, pg_ps_n (by omega) (by omega) hw, pg_ps_n (by omega) (by omega) hw, pg_ps_n (by omega) (by omega) hw, pg_ps_n (by omega) (by omega) hw]
            by_cases a10 : 10 ≤ w ∧ w < 14
            · rw [if_pos ⟨rfl, by omega, by omega⟩, if_pos a10]
            · rw [if_neg (by omega), if_neg a10]
  · rw [if_neg (by omega), if_neg e, pg_ps_n (by omega) (by omega) hw, pg_ps_n (by omega) (by omega) hw, pg_ps_n (by omega) (by omega) hw, pg_ps_n (by omega) (by omega) hw]
theorem mvA_o {N : Nat → Nat} {p h : Nat} (o : WF N) (hp : p < 40) (hh : h < 4) (h2 : pg N p 2 ≤ 100000) (h5 : pg N p 5 ≤ 100000) (h9 : pg N p 9 ≤ 100000) : WF (mvA N p h) ∧ (∀ c, c < 17 → mvA N p h c = N c) ∧ (∀ t w, t < 8 → w < 5 → th (mvA N p h) t w = th N t w) ∧ LGE (mvA N p h) N := by
  have w4 : WF (ps (ps (ps (ps N p 0 h) p 5 (pg N p 5 + 1)) p 8 (pg N p 9)) p 9 (pg N p 2)) := WF_ps (WF_ps (WF_ps (WF_ps o hp (by omega) (fun _ => hh) (by omega) (by omega)) hp (by omega) (by omega) (by omega) (by omega)) hp (by omega) (by omega) (by omega) (by omega)) hp (by omega) (by omega) (by omega) (by omega)
  obtain ⟨c1, c2, c3, c4⟩ := hlv_keep w4 hp 4 (by omega)
  refine ⟨c1, fun c hc => ?_, fun t w ht hw => ?_, ?_⟩
  · unfold mvA
    rw [c2 c hc, ps_c hc, ps_c hc, ps_c hc, ps_c hc]
  · unfold mvA
    rw [c4 t w ht hw, th_ps hp (by omega), th_ps hp (by omega), th_ps hp (by omega), th_ps hp (by omega)]
  · exact (lge_hlv hp 4 (by omega)).trans ((lge_ps hp (by omega)).trans ((lge_ps hp (by omega)).trans ((lge_ps hp (by omega)).trans (lge_ps hp (by omega)))))
theorem tel_e {N : Nat → Nat} {k p h : Nat} (h16 : N 16 ≤ 10) : tel N k p h 16 ≤ 10 := tel_16 h16
/-- the class's row behind a moving is the model's -/
theorem mv_sam {N : Nat → Nat} {p s4 h : Nat} (o : IW N p s4 1) (hp : p < N 8) (hh : h < 4) :
    (frzs N p → SAM (tel (tel (ps (mvA N p h) p 6 (pg N p 2 + 30)) 0 p h) 4 p h) (mv3 (mv2 (mv1 N p h) p h) p)) ∧ (¬ frzs N p → SAM (tel (mvA N p h) 0 p h) (mv3 (mv2 (mv1 N p h) p h) p)) := by
  have h8 := o.1.1
  have hr := o.1.room
  have hp4 : p < 40 := by omega
  obtain ⟨i1, i2, i3, i4, i5, i6, i7, i8, i9, i10, i11⟩ := iw_at o hp4
  obtain ⟨a1, a2, a3, a4, a5, a6⟩ := mv_cells (h := h) o.1 hp4 hh (by omega) (by omega) (by omega)
  obtain ⟨b1, b2, b3, b4⟩ := mvA_o (h := h) o.1 hp4 hh (by omega) (by omega) (by omega)
  have b5 := fun q w => mvA_pg (q := q) (w := w) (h := h) o.1 hp4 hh (by omega) (by omega) (by omega)
  have c1 := fun q w => mv1_pg (q := q) (w := w) (h := h) o.1 hp4 hh (by omega)
  have w1 : WF (up (ps (ps N p 0 h) p 5 (pg N p 5 + 1)) 12 (N 12 + 1)) := WF_up (WF_ps (WF_ps o.1 hp4 (by omega) (fun _ => hh) (by omega) (by omega)) hp4 (by omega) (by omega) (by omega) (by omega)) (by omega)
  have l0 : LGE (up (ps (ps N p 0 h) p 5 (pg N p 5 + 1)) 12 (N 12 + 1)) N := (lge_up (by omega) (by omega)).trans ((lge_ps hp4 (by omega)).trans (lge_ps hp4 (by omega)))
  have l1 : LGE (mv1 N p h) (tel N 0 p h) := (lge_hlv hp4 4 (by omega)).trans (lge_tel l0 w1.e)
  have m5 : pg (mv1 N p h) p 5 = pg N p 5 + 1 := by rw [c1 p 5 hp4 (by omega), if_pos rfl]; rfl
  have m2 : pg (mv1 N p h) p 2 = pg N p 2 := by rw [c1 p 2 hp4 (by omega), if_pos rfl]; rfl
  have m8 : pg (mv1 N p h) p 8 = pg N p 8 := by rw [c1 p 8 hp4 (by omega), if_pos rfl]; rfl
  have m6 : pg (mv1 N p h) p 6 = pg N p 6 := by rw [c1 p 6 hp4 (by omega), if_pos rfl]; rfl
  have m16 : mv1 N p h 16 ≤ 10 := by rw [l1.1]; exact tel_16 o.1.e
  have cnd : (3 ≤ pg (mv1 N p h) p 5 ∧ pg (mv1 N p h) p 2 - pg (mv1 N p h) p 8 < 20) ↔ frzs N p := by
    rw [m5, m2, m8]
    unfold frzs
    omega
  have l3 : ∀ Y, LGE (mv3 Y p) Y := fun Y => (lge_ps hp4 (by omega)).trans (lge_ps hp4 (by omega))
  have p6 : ∀ Y, pg (mv3 Y p) p 6 = pg Y p 6 := fun Y => by unfold mv3; rw [pg_ps_n (by omega) (by omega) (by omega), pg_ps_n (by omega) (by omega) (by omega)]
  refine ⟨fun f => ?_, fun f => ?_⟩
  · have e2 : mv2 (mv1 N p h) p h = tel (ps (mv1 N p h) p 6 (pg (mv1 N p h) p 2 + 30)) 4 p h := by unfold mv2; rw [if_pos (cnd.mpr f)]
    have s16 : ps (mv1 N p h) p 6 (pg (mv1 N p h) p 2 + 30) 16 ≤ 10 := by rw [ps_c (by omega)]; exact m16
    have z16 : ps (mvA N p h) p 6 (pg N p 2 + 30) 16 ≤ 10 := by rw [ps_c (by omega)]; exact b1.e
    have y16 := tel_e (k := 0) (p := p) (h := h) z16
    have lM : LGE (mv3 (mv2 (mv1 N p h) p h) p) (tel (tel N 0 p h) 4 p h) := by
      rw [e2]
      exact (l3 _).trans (lge_tel ((lge_ps hp4 (by omega)).trans l1) s16)
    have lC : LGE (tel (tel (ps (mvA N p h) p 6 (pg N p 2 + 30)) 0 p h) 4 p h) (tel (tel N 0 p h) 4 p h) := lge_tel (lge_tel ((lge_ps hp4 (by omega)).trans b4) z16) y16
    have k6 : pg (mv3 (mv2 (mv1 N p h) p h) p) p 6 = pg N p 2 + 30 := by
      rw [p6, e2, pg_tel s16 hp4 (by omega), pg_ps_s, m2]
    have l := lC.trans lM.symm
    refine ⟨fun c hc n10 n11 n12 => ?_, fun q w hq hw => ?_, fun t w ht hw => ?_, l.2.2⟩
    · by_cases c16 : c = 16
      · subst c16; exact l.1
      · rw [tel_c (by omega) c16 y16, tel_c (by omega) c16 z16, ps_c hc, b2 c hc, a2 c hc n12 c16]
    · rw [pg_tel y16 hq hw, pg_tel z16 hq hw]
      by_cases w6 : w = 6
      · subst w6
        by_cases e : q = p
        · subst e
          rw [pg_ps_s, k6]
        · rw [pg_ps_n (by omega) (by omega) (by omega), b5 q 6 hq (by omega), if_neg e, a5 q hq e]
      · rw [pg_ps_n (by omega) (by omega) hw, b5 q w hq hw, a4 q w hq hw w6]
    · rw [th_tel y16 ht hw, th_tel z16 ht hw, th_ps hp4 (by omega), b3 t w ht hw, a6 t w ht hw]
  · have e2 : mv2 (mv1 N p h) p h = mv1 N p h := by unfold mv2; rw [if_neg (fun z => f (cnd.mp z))]
    have lM : LGE (mv3 (mv2 (mv1 N p h) p h) p) (tel N 0 p h) := by
      rw [e2]
      exact (l3 _).trans l1
    have lC : LGE (tel (mvA N p h) 0 p h) (tel N 0 p h) := lge_tel b4 b1.e
    have k6 : pg (mv3 (mv2 (mv1 N p h) p h) p) p 6 = pg N p 6 := by
      rw [p6, e2, m6]
    have l := lC.trans lM.symm
    refine ⟨fun c hc n10 n11 n12 => ?_, fun q w hq hw => ?_, fun t w ht hw => ?_, l.2.2⟩
    · by_cases c16 : c = 16
      · subst c16; exact l.1
      · rw [tel_c (by omega) c16 b1.e, b2 c hc, a2 c hc n12 c16]
    · rw [pg_tel b1.e hq hw]
      by_cases w6 : w = 6
      · subst w6
        rw [b5 q 6 hq (by omega)]
        by_cases e : q = p
        · subst e
          rw [if_pos rfl, k6]
          rfl
        · rw [if_neg e, a5 q hq e]
      · rw [b5 q w hq hw, a4 q w hq hw w6]
    · rw [th_tel b1.e ht hw, b3 t w ht hw, a6 t w ht hw]
section CN
variable {sc : SC} {h : AHp} {Q : PT} {b : Nat}
theorem RO.sam {A C : Nat → Nat} {r : Nat} (o : RO A r) (e : SAM A C) : RO C r := o.of (e.1 16 (by omega) (by omega) (by omega) (by omega)).symm
theorem s17 {N : Nat → Nat} {r t p s4 : Nat} (o : IW N p s4 1) (ro : RO N r) (ht : t < 8) (hp : p < N 8)
    (k : ∀ r', RO (pay (mv3 (mv2 (mv1 N p (th N t 0)) p (th N t 0)) p) t p 10 (apt (pg N p 0) (th N t 0))) r' → Q (some (.int (nI (10 + apt (pg N p 0) (th N t 0) * N 5)))) (put h b (pay (mv3 (mv2 (mv1 N p (th N t 0)) p (th N t 0)) p) t p 10 (apt (pg N p 0) (th N t 0))) r')) : RUN sc 17 [.ref b, .ref (ra b t), .ref (pa b p)] (put h b N r) Q := by
  have h8 := o.1.1
  have hr := o.1.room
  have hp4 : p < 40 := by omega
  have hh := o.1.t ht
  have h0 := o.1.h hp4
  obtain ⟨i1, i2, i3, i4, i5, i6, i7, i8, i9, i10, i11⟩ := iw_at o hp4
  obtain ⟨a1, a2, a3, a4, a5, a6⟩ := mv_cells (h := th N t 0) o.1 hp4 hh (by omega) (by omega) (by omega)
  obtain ⟨b1, b2, b3, b4⟩ := mvA_o (h := th N t 0) o.1 hp4 hh (by omega) (by omega) (by omega)
  have b5 := fun q w => mvA_pg (q := q) (w := w) (h := th N t 0) o.1 hp4 hh (by omega) (by omega) (by omega)
  have hs := mv_sam (h := th N t 0) o hp hh
  have fin : ∀ r' u v q4, RO (mv3 (mv2 (mv1 N p (th N t 0)) p (th N t 0)) p) r' → E sc 17 1 u v [.ref b, .ref (ra b t), .ref (pa b p), .int (nI (apt (pg N p 0) (th N t 0))), q4] [] (put h b (mv3 (mv2 (mv1 N p (th N t 0)) p (th N t 0)) p) r') Q := fun r' u v q4 hr' => by
    refine e17_1 ?_
    simp (disch := first | omega | simp (disch := omega) only [pg_up, th_up, ps_c, ts_c, pg_ps_s, pg_ps_n, th_ps, pg_ts, th_ts_s, th_ts_n, up_at, up_ne]) only [k17_1, B_nil, B_iconst, B_bipush, B_sipush, B_ldc, B_null, B_iload_n, B_iload, B_aload_n, B_aload, B_istore_n, B_istore, B_astore_n, B_astore, B_astore_nN, B_astoreN, B_iinc, B_iadd, B_isub, B_imul, B_idiv, B_irem, B_ineg, B_iand, B_ior, B_ixor, B_ishl, B_ishr, B_i2c, B_dup, B_dup2, B_pop, B_goto, B_if_eq, B_if_ne, B_if_lt, B_if_ge, B_if_gt, B_if_le, B_ic_eq, B_ic_ne, B_ic_lt, B_ic_ge, B_ic_gt, B_ic_le, B_ifnullN, B_ifnull, B_ifnonnullN, B_ifnonnull, B_switch, B_ireturn, B_areturn, B_areturnN, B_return, B_getfield, B_putfield, B_iaload, B_ialoadS, B_caload, B_iastore, B_castore, B_aaload, B_aastore, B_alenS, B_alen, B_new, B_newarray, B_anewarray, B_iv0, B_iv1, B_iv2, B_iv3, B_iv4, B_iv6, B_obj, B_is0, B_is1, B_st1, B_st2, B_st3, B_copy, List.getElem?_cons_zero, List.getElem?_cons_succ, List.set_cons_zero, List.set_cons_succ, List.length_cons, List.length_nil, List.all_cons, List.all_nil, List.nil_append, List.cons_append, Option.toList_some, Option.toList_none, okv, kst_0, kst_1, pok_i, pok_z0, pok_z1, pok_o, pok_a, c0_0, c0_1, c1_0, c1_1, c1_2, c2_0, c2_1, c2_2, c2_3, c2_4, c2_5, c2_6, c2_7, c2_8, c2_9, c2_10, c3_0, c3_1, c3_2, c3_3, c3_4, c3_5, c3_6, c3_7, c3_8, c3_9, c3_10, c3_11, c3_12, c4_0, c4_1, c4_2, c4_3, c4_4, c5_0, c5_1, c5_2, c5_3, c5_4, c5_5, c6_0, c6_1, c6_2, c6_3, c6_4, c6_5, c7_0, c7_1, c7_2, c7_3, c7_4, c7_5, c7_6, c7_7, c7_8, c7_9, c7_10, c7_11, zok_int, zok_b0, zok_b1, aok_obj, Bool.and_true, Bool.and_self, true_and, and_true, Nat.reduceAdd, Nat.reduceLeDiff, Nat.reduceEqDiff, Nat.zero_le, Nat.reduceLT, Nat.reduceSub, Nat.reduceMul, ne_eq, not_false_eq_true, Nat.zero_add, Nat.add_zero, exists_eq', Sum.inr.injEq, Prod.mk.injEq, rfv_s, rfv_n, reduceCtorEq, not_true_eq_false, false_implies, true_implies, implies_true, ↓reduceIte, pk_divD, pg_up, th_up, ps_c, ts_c, pg_ps_s, pg_ps_n, th_ps, pg_ts, th_ts_s, th_ts_n, Nat.not_lt, Nat.not_le, Decidable.not_not, nI_add, pk_mul, nI_clamp, vi_t, ja_at, ja_up, nz_eq, nI_eq, nI_ltI, nI_leI, nI_lt0, nI_le0, nI_0lt, nI_0le, if_pos, if_neg, up_at, up_ne, nI_subL, true_or, or_true, false_or, or_false, put_0, put_1, put_2, put_3, put_4, put_5, put_6, put_p0, put_p1, put_p2, put_r, pgr_at, rnr_at, ctr_at, use_at, stg_0, stg_1, stg_2, put_c, put_u, put_f, put_s, put_w0, put_w1, put_w2, put_w3, put_w4, put_w5, put_w6, put_w7, put_w8, put_w9, put_t0, put_t1, put_t2, put_t3, put_t4, put_m7, put_m8, put_m9, put_m13, put_m14, put_m15]
    refine s14 ht hp4 ?_
    rw [a2 5 (by omega) (by omega) (by omega)]
    simp (disch := first | omega | simp (disch := omega) only [pg_up, th_up, ps_c, ts_c, pg_ps_s, pg_ps_n, th_ps, pg_ts, th_ts_s, th_ts_n, up_at, up_ne]) only [B_nil, B_iconst, B_bipush, B_sipush, B_ldc, B_null, B_iload_n, B_iload, B_aload_n, B_aload, B_istore_n, B_istore, B_astore_n, B_astore, B_astore_nN, B_astoreN, B_iinc, B_iadd, B_isub, B_imul, B_idiv, B_irem, B_ineg, B_iand, B_ior, B_ixor, B_ishl, B_ishr, B_i2c, B_dup, B_dup2, B_pop, B_goto, B_if_eq, B_if_ne, B_if_lt, B_if_ge, B_if_gt, B_if_le, B_ic_eq, B_ic_ne, B_ic_lt, B_ic_ge, B_ic_gt, B_ic_le, B_ifnullN, B_ifnull, B_ifnonnullN, B_ifnonnull, B_switch, B_ireturn, B_areturn, B_areturnN, B_return, B_getfield, B_putfield, B_iaload, B_ialoadS, B_caload, B_iastore, B_castore, B_aaload, B_aastore, B_alenS, B_alen, B_new, B_newarray, B_anewarray, B_iv0, B_iv1, B_iv2, B_iv3, B_iv4, B_iv6, B_obj, B_is0, B_is1, B_st1, B_st2, B_st3, B_copy, List.getElem?_cons_zero, List.getElem?_cons_succ, List.set_cons_zero, List.set_cons_succ, List.length_cons, List.length_nil, List.all_cons, List.all_nil, List.nil_append, List.cons_append, Option.toList_some, Option.toList_none, okv, kst_0, kst_1, pok_i, pok_z0, pok_z1, pok_o, pok_a, c0_0, c0_1, c1_0, c1_1, c1_2, c2_0, c2_1, c2_2, c2_3, c2_4, c2_5, c2_6, c2_7, c2_8, c2_9, c2_10, c3_0, c3_1, c3_2, c3_3, c3_4, c3_5, c3_6, c3_7, c3_8, c3_9, c3_10, c3_11, c3_12, c4_0, c4_1, c4_2, c4_3, c4_4, c5_0, c5_1, c5_2, c5_3, c5_4, c5_5, c6_0, c6_1, c6_2, c6_3, c6_4, c6_5, c7_0, c7_1, c7_2, c7_3, c7_4, c7_5, c7_6, c7_7, c7_8, c7_9, c7_10, c7_11, zok_int, zok_b0, zok_b1, aok_obj, Bool.and_true, Bool.and_self, true_and, and_true, Nat.reduceAdd, Nat.reduceLeDiff, Nat.reduceEqDiff, Nat.zero_le, Nat.reduceLT, Nat.reduceSub, Nat.reduceMul, ne_eq, not_false_eq_true, Nat.zero_add, Nat.add_zero, exists_eq', Sum.inr.injEq, Prod.mk.injEq, rfv_s, rfv_n, reduceCtorEq, not_true_eq_false, false_implies, true_implies, implies_true, ↓reduceIte, pk_divD, pg_up, th_up, ps_c, ts_c, pg_ps_s, pg_ps_n, th_ps, pg_ts, th_ts_s, th_ts_n, Nat.not_lt, Nat.not_le, Decidable.not_not, nI_add, pk_mul, nI_clamp, vi_t, ja_at, ja_up, nz_eq, nI_eq, nI_ltI, nI_leI, nI_lt0, nI_le0, nI_0lt, nI_0le, if_pos, if_neg, up_at, up_ne, nI_subL, true_or, or_true, false_or, or_false, put_0, put_1, put_2, put_3, put_4, put_5, put_6, put_p0, put_p1, put_p2, put_r, pgr_at, rnr_at, ctr_at, use_at, stg_0, stg_1, stg_2, put_c, put_u, put_f, put_s, put_w0, put_w1, put_w2, put_w3, put_w4, put_w5, put_w6, put_w7, put_w8, put_w9, put_t0, put_t1, put_t2, put_t3, put_t4, put_m7, put_m8, put_m9, put_m13, put_m14, put_m15]
    exact k r' (hr'.of (by unfold pay; rw [up_ne (by omega), up_ne (by omega), ps_c (by omega), ts_c (by omega), ts_c (by omega)]))
  refine r17 ?_
  simp (disch := first | omega | simp (disch := omega) only [pg_up, th_up, ps_c, ts_c, pg_ps_s, pg_ps_n, th_ps, pg_ts, th_ts_s, th_ts_n, up_at, up_ne]) only [k17_0, B_nil, B_iconst, B_bipush, B_sipush, B_ldc, B_null, B_iload_n, B_iload, B_aload_n, B_aload, B_istore_n, B_istore, B_astore_n, B_astore, B_astore_nN, B_astoreN, B_iinc, B_iadd, B_isub, B_imul, B_idiv, B_irem, B_ineg, B_iand, B_ior, B_ixor, B_ishl, B_ishr, B_i2c, B_dup, B_dup2, B_pop, B_goto, B_if_eq, B_if_ne, B_if_lt, B_if_ge, B_if_gt, B_if_le, B_ic_eq, B_ic_ne, B_ic_lt, B_ic_ge, B_ic_gt, B_ic_le, B_ifnullN, B_ifnull, B_ifnonnullN, B_ifnonnull, B_switch, B_ireturn, B_areturn, B_areturnN, B_return, B_getfield, B_putfield, B_iaload, B_ialoadS, B_caload, B_iastore, B_castore, B_aaload, B_aastore, B_alenS, B_alen, B_new, B_newarray, B_anewarray, B_iv0, B_iv1, B_iv2, B_iv3, B_iv4, B_iv6, B_obj, B_is0, B_is1, B_st1, B_st2, B_st3, B_copy, List.getElem?_cons_zero, List.getElem?_cons_succ, List.set_cons_zero, List.set_cons_succ, List.length_cons, List.length_nil, List.all_cons, List.all_nil, List.nil_append, List.cons_append, Option.toList_some, Option.toList_none, okv, kst_0, kst_1, pok_i, pok_z0, pok_z1, pok_o, pok_a, c0_0, c0_1, c1_0, c1_1, c1_2, c2_0, c2_1, c2_2, c2_3, c2_4, c2_5, c2_6, c2_7, c2_8, c2_9, c2_10, c3_0, c3_1, c3_2, c3_3, c3_4, c3_5, c3_6, c3_7, c3_8, c3_9, c3_10, c3_11, c3_12, c4_0, c4_1, c4_2, c4_3, c4_4, c5_0, c5_1, c5_2, c5_3, c5_4, c5_5, c6_0, c6_1, c6_2, c6_3, c6_4, c6_5, c7_0, c7_1, c7_2, c7_3, c7_4, c7_5, c7_6, c7_7, c7_8, c7_9, c7_10, c7_11, zok_int, zok_b0, zok_b1, aok_obj, Bool.and_true, Bool.and_self, true_and, and_true, Nat.reduceAdd, Nat.reduceLeDiff, Nat.reduceEqDiff, Nat.zero_le, Nat.reduceLT, Nat.reduceSub, Nat.reduceMul, ne_eq, not_false_eq_true, Nat.zero_add, Nat.add_zero, exists_eq', Sum.inr.injEq, Prod.mk.injEq, rfv_s, rfv_n, reduceCtorEq, not_true_eq_false, false_implies, true_implies, implies_true, ↓reduceIte, pk_divD, pg_up, th_up, ps_c, ts_c, pg_ps_s, pg_ps_n, th_ps, pg_ts, th_ts_s, th_ts_n, Nat.not_lt, Nat.not_le, Decidable.not_not, nI_add, pk_mul, nI_clamp, vi_t, ja_at, ja_up, nz_eq, nI_eq, nI_ltI, nI_leI, nI_lt0, nI_le0, nI_0lt, nI_0le, if_pos, if_neg, up_at, up_ne, nI_subL, true_or, or_true, false_or, or_false, put_0, put_1, put_2, put_3, put_4, put_5, put_6, put_p0, put_p1, put_p2, put_r, pgr_at, rnr_at, ctr_at, use_at, stg_0, stg_1, stg_2, put_c, put_u, put_f, put_s, put_w0, put_w1, put_w2, put_w3, put_w4, put_w5, put_w6, put_w7, put_w8, put_w9, put_t0, put_t1, put_t2, put_t3, put_t4, put_m7, put_m8, put_m9, put_m13, put_m14, put_m15]
  refine s87 h0 hh ?_
  simp (disch := first | omega | simp (disch := omega) only [pg_up, th_up, ps_c, ts_c, pg_ps_s, pg_ps_n, th_ps, pg_ts, th_ts_s, th_ts_n, up_at, up_ne]) only [B_nil, B_iconst, B_bipush, B_sipush, B_ldc, B_null, B_iload_n, B_iload, B_aload_n, B_aload, B_istore_n, B_istore, B_astore_n, B_astore, B_astore_nN, B_astoreN, B_iinc, B_iadd, B_isub, B_imul, B_idiv, B_irem, B_ineg, B_iand, B_ior, B_ixor, B_ishl, B_ishr, B_i2c, B_dup, B_dup2, B_pop, B_goto, B_if_eq, B_if_ne, B_if_lt, B_if_ge, B_if_gt, B_if_le, B_ic_eq, B_ic_ne, B_ic_lt, B_ic_ge, B_ic_gt, B_ic_le, B_ifnullN, B_ifnull, B_ifnonnullN, B_ifnonnull, B_switch, B_ireturn, B_areturn, B_areturnN, B_return, B_getfield, B_putfield, B_iaload, B_ialoadS, B_caload, B_iastore, B_castore, B_aaload, B_aastore, B_alenS, B_alen, B_new, B_newarray, B_anewarray, B_iv0, B_iv1, B_iv2, B_iv3, B_iv4, B_iv6, B_obj, B_is0, B_is1, B_st1, B_st2, B_st3, B_copy, List.getElem?_cons_zero, List.getElem?_cons_succ, List.set_cons_zero, List.set_cons_succ, List.length_cons, List.length_nil, List.all_cons, List.all_nil, List.nil_append, List.cons_append, Option.toList_some, Option.toList_none, okv, kst_0, kst_1, pok_i, pok_z0, pok_z1, pok_o, pok_a, c0_0, c0_1, c1_0, c1_1, c1_2, c2_0, c2_1, c2_2, c2_3, c2_4, c2_5, c2_6, c2_7, c2_8, c2_9, c2_10, c3_0, c3_1, c3_2, c3_3, c3_4, c3_5, c3_6, c3_7, c3_8, c3_9, c3_10, c3_11, c3_12, c4_0, c4_1, c4_2, c4_3, c4_4, c5_0, c5_1, c5_2, c5_3, c5_4, c5_5, c6_0, c6_1, c6_2, c6_3, c6_4, c6_5, c7_0, c7_1, c7_2, c7_3, c7_4, c7_5, c7_6, c7_7, c7_8, c7_9, c7_10, c7_11, zok_int, zok_b0, zok_b1, aok_obj, Bool.and_true, Bool.and_self, true_and, and_true, Nat.reduceAdd, Nat.reduceLeDiff, Nat.reduceEqDiff, Nat.zero_le, Nat.reduceLT, Nat.reduceSub, Nat.reduceMul, ne_eq, not_false_eq_true, Nat.zero_add, Nat.add_zero, exists_eq', Sum.inr.injEq, Prod.mk.injEq, rfv_s, rfv_n, reduceCtorEq, not_true_eq_false, false_implies, true_implies, implies_true, ↓reduceIte, pk_divD, pg_up, th_up, ps_c, ts_c, pg_ps_s, pg_ps_n, th_ps, pg_ts, th_ts_s, th_ts_n, Nat.not_lt, Nat.not_le, Decidable.not_not, nI_add, pk_mul, nI_clamp, vi_t, ja_at, ja_up, nz_eq, nI_eq, nI_ltI, nI_leI, nI_lt0, nI_le0, nI_0lt, nI_0le, if_pos, if_neg, up_at, up_ne, nI_subL, true_or, or_true, false_or, or_false, put_0, put_1, put_2, put_3, put_4, put_5, put_6, put_p0, put_p1, put_p2, put_r, pgr_at, rnr_at, ctr_at, use_at, stg_0, stg_1, stg_2, put_c, put_u, put_f, put_s, put_w0, put_w1, put_w2, put_w3, put_w4, put_w5, put_w6, put_w7, put_w8, put_w9, put_t0, put_t1, put_t2, put_t3, put_t4, put_m7, put_m8, put_m9, put_m13, put_m14, put_m15]
  refine s45 o.1 hp4 hh i3 (by omega) (by omega) (fun f => ?_) (fun f => ?_)
  · have e0 : pg (ps (mvA N p (th N t 0)) p 6 (pg N p 2 + 30)) p 0 = th N t 0 := by rw [pg_ps_n (by omega) (by omega) (by omega), b5 p 0 hp4 (by omega), if_pos rfl]; rfl
    have e7 : ps (mvA N p (th N t 0)) p 6 (pg N p 2 + 30) 7 = N 7 := by rw [ps_c (by omega), b2 7 (by omega)]
    have r0 : RO (ps (mvA N p (th N t 0)) p 6 (pg N p 2 + 30)) r := ro.of (by rw [ps_c (by omega), b2 16 (by omega)])
    have s := hs.1 f
    generalize ps (mvA N p (th N t 0)) p 6 (pg N p 2 + 30) = C at *
    simp (disch := first | omega | simp (disch := omega) only [pg_up, th_up, ps_c, ts_c, pg_ps_s, pg_ps_n, th_ps, pg_ts, th_ts_s, th_ts_n, up_at, up_ne]) only [e0, e7, B_nil, B_iconst, B_bipush, B_sipush, B_ldc, B_null, B_iload_n, B_iload, B_aload_n, B_aload, B_istore_n, B_istore, B_astore_n, B_astore, B_astore_nN, B_astoreN, B_iinc, B_iadd, B_isub, B_imul, B_idiv, B_irem, B_ineg, B_iand, B_ior, B_ixor, B_ishl, B_ishr, B_i2c, B_dup, B_dup2, B_pop, B_goto, B_if_eq, B_if_ne, B_if_lt, B_if_ge, B_if_gt, B_if_le, B_ic_eq, B_ic_ne, B_ic_lt, B_ic_ge, B_ic_gt, B_ic_le, B_ifnullN, B_ifnull, B_ifnonnullN, B_ifnonnull, B_switch, B_ireturn, B_areturn, B_areturnN, B_return, B_getfield, B_putfield, B_iaload, B_ialoadS, B_caload, B_iastore, B_castore, B_aaload, B_aastore, B_alenS, B_alen, B_new, B_newarray, B_anewarray, B_iv0, B_iv1, B_iv2, B_iv3, B_iv4, B_iv6, B_obj, B_is0, B_is1, B_st1, B_st2, B_st3, B_copy, List.getElem?_cons_zero, List.getElem?_cons_succ, List.set_cons_zero, List.set_cons_succ, List.length_cons, List.length_nil, List.all_cons, List.all_nil, List.nil_append, List.cons_append, Option.toList_some, Option.toList_none, okv, kst_0, kst_1, pok_i, pok_z0, pok_z1, pok_o, pok_a, c0_0, c0_1, c1_0, c1_1, c1_2, c2_0, c2_1, c2_2, c2_3, c2_4, c2_5, c2_6, c2_7, c2_8, c2_9, c2_10, c3_0, c3_1, c3_2, c3_3, c3_4, c3_5, c3_6, c3_7, c3_8, c3_9, c3_10, c3_11, c3_12, c4_0, c4_1, c4_2, c4_3, c4_4, c5_0, c5_1, c5_2, c5_3, c5_4, c5_5, c6_0, c6_1, c6_2, c6_3, c6_4, c6_5, c7_0, c7_1, c7_2, c7_3, c7_4, c7_5, c7_6, c7_7, c7_8, c7_9, c7_10, c7_11, zok_int, zok_b0, zok_b1, aok_obj, Bool.and_true, Bool.and_self, true_and, and_true, Nat.reduceAdd, Nat.reduceLeDiff, Nat.reduceEqDiff, Nat.zero_le, Nat.reduceLT, Nat.reduceSub, Nat.reduceMul, ne_eq, not_false_eq_true, Nat.zero_add, Nat.add_zero, exists_eq', Sum.inr.injEq, Prod.mk.injEq, rfv_s, rfv_n, reduceCtorEq, not_true_eq_false, false_implies, true_implies, implies_true, ↓reduceIte, pk_divD, pg_up, th_up, ps_c, ts_c, pg_ps_s, pg_ps_n, th_ps, pg_ts, th_ts_s, th_ts_n, Nat.not_lt, Nat.not_le, Decidable.not_not, nI_add, pk_mul, nI_clamp, vi_t, ja_at, ja_up, nz_eq, nI_eq, nI_ltI, nI_leI, nI_lt0, nI_le0, nI_0lt, nI_0le, if_pos, if_neg, up_at, up_ne, nI_subL, true_or, or_true, false_or, or_false, put_0, put_1, put_2, put_3, put_4, put_5, put_6, put_p0, put_p1, put_p2, put_r, pgr_at, rnr_at, ctr_at, use_at, stg_0, stg_1, stg_2, put_c, put_u, put_f, put_s, put_w0, put_w1, put_w2, put_w3, put_w4, put_w5, put_w6, put_w7, put_w8, put_w9, put_t0, put_t1, put_t2, put_t3, put_t4, put_m7, put_m8, put_m9, put_m13, put_m14, put_m15]
    refine s6t e7.symm r0 (fun r' hr' => ?_)
    have f0 : pg (tel C 0 p (th N t 0)) p 0 = th N t 0 := by rw [pg_tel r0.1 hp4 (by omega), e0]
    have f7 : tel C 0 p (th N t 0) 7 = N 7 := by rw [tel_c (by omega) (by omega) r0.1, e7]
    generalize tel C 0 p (th N t 0) = D at *
    simp (disch := first | omega | simp (disch := omega) only [pg_up, th_up, ps_c, ts_c, pg_ps_s, pg_ps_n, th_ps, pg_ts, th_ts_s, th_ts_n, up_at, up_ne]) only [f0, f7, B_nil, B_iconst, B_bipush, B_sipush, B_ldc, B_null, B_iload_n, B_iload, B_aload_n, B_aload, B_istore_n, B_istore, B_astore_n, B_astore, B_astore_nN, B_astoreN, B_iinc, B_iadd, B_isub, B_imul, B_idiv, B_irem, B_ineg, B_iand, B_ior, B_ixor, B_ishl, B_ishr, B_i2c, B_dup, B_dup2, B_pop, B_goto, B_if_eq, B_if_ne, B_if_lt, B_if_ge, B_if_gt, B_if_le, B_ic_eq, B_ic_ne, B_ic_lt, B_ic_ge, B_ic_gt, B_ic_le, B_ifnullN, B_ifnull, B_ifnonnullN, B_ifnonnull, B_switch, B_ireturn, B_areturn, B_areturnN, B_return, B_getfield, B_putfield, B_iaload, B_ialoadS, B_caload, B_iastore, B_castore, B_aaload, B_aastore, B_alenS, B_alen, B_new, B_newarray, B_anewarray, B_iv0, B_iv1, B_iv2, B_iv3, B_iv4, B_iv6, B_obj, B_is0, B_is1, B_st1, B_st2, B_st3, B_copy, List.getElem?_cons_zero, List.getElem?_cons_succ, List.set_cons_zero, List.set_cons_succ, List.length_cons, List.length_nil, List.all_cons, List.all_nil, List.nil_append, List.cons_append, Option.toList_some, Option.toList_none, okv, kst_0, kst_1, pok_i, pok_z0, pok_z1, pok_o, pok_a, c0_0, c0_1, c1_0, c1_1, c1_2, c2_0, c2_1, c2_2, c2_3, c2_4, c2_5, c2_6, c2_7, c2_8, c2_9, c2_10, c3_0, c3_1, c3_2, c3_3, c3_4, c3_5, c3_6, c3_7, c3_8, c3_9, c3_10, c3_11, c3_12, c4_0, c4_1, c4_2, c4_3, c4_4, c5_0, c5_1, c5_2, c5_3, c5_4, c5_5, c6_0, c6_1, c6_2, c6_3, c6_4, c6_5, c7_0, c7_1, c7_2, c7_3, c7_4, c7_5, c7_6, c7_7, c7_8, c7_9, c7_10, c7_11, zok_int, zok_b0, zok_b1, aok_obj, Bool.and_true, Bool.and_self, true_and, and_true, Nat.reduceAdd, Nat.reduceLeDiff, Nat.reduceEqDiff, Nat.zero_le, Nat.reduceLT, Nat.reduceSub, Nat.reduceMul, ne_eq, not_false_eq_true, Nat.zero_add, Nat.add_zero, exists_eq', Sum.inr.injEq, Prod.mk.injEq, rfv_s, rfv_n, reduceCtorEq, not_true_eq_false, false_implies, true_implies, implies_true, ↓reduceIte, pk_divD, pg_up, th_up, ps_c, ts_c, pg_ps_s, pg_ps_n, th_ps, pg_ts, th_ts_s, th_ts_n, Nat.not_lt, Nat.not_le, Decidable.not_not, nI_add, pk_mul, nI_clamp, vi_t, ja_at, ja_up, nz_eq, nI_eq, nI_ltI, nI_leI, nI_lt0, nI_le0, nI_0lt, nI_0le, if_pos, if_neg, up_at, up_ne, nI_subL, true_or, or_true, false_or, or_false, put_0, put_1, put_2, put_3, put_4, put_5, put_6, put_p0, put_p1, put_p2, put_r, pgr_at, rnr_at, ctr_at, use_at, stg_0, stg_1, stg_2, put_c, put_u, put_f, put_s, put_w0, put_w1, put_w2, put_w3, put_w4, put_w5, put_w6, put_w7, put_w8, put_w9, put_t0, put_t1, put_t2, put_t3, put_t4, put_m7, put_m8, put_m9, put_m13, put_m14, put_m15]
    refine s6t f7.symm hr' (fun r' hr' => ?_)
    rw [put_ext s]
    simp (disch := first | omega | simp (disch := omega) only [pg_up, th_up, ps_c, ts_c, pg_ps_s, pg_ps_n, th_ps, pg_ts, th_ts_s, th_ts_n, up_at, up_ne]) only [B_nil, B_iconst, B_bipush, B_sipush, B_ldc, B_null, B_iload_n, B_iload, B_aload_n, B_aload, B_istore_n, B_istore, B_astore_n, B_astore, B_astore_nN, B_astoreN, B_iinc, B_iadd, B_isub, B_imul, B_idiv, B_irem, B_ineg, B_iand, B_ior, B_ixor, B_ishl, B_ishr, B_i2c, B_dup, B_dup2, B_pop, B_goto, B_if_eq, B_if_ne, B_if_lt, B_if_ge, B_if_gt, B_if_le, B_ic_eq, B_ic_ne, B_ic_lt, B_ic_ge, B_ic_gt, B_ic_le, B_ifnullN, B_ifnull, B_ifnonnullN, B_ifnonnull, B_switch, B_ireturn, B_areturn, B_areturnN, B_return, B_getfield, B_putfield, B_iaload, B_ialoadS, B_caload, B_iastore, B_castore, B_aaload, B_aastore, B_alenS, B_alen, B_new, B_newarray, B_anewarray, B_iv0, B_iv1, B_iv2, B_iv3, B_iv4, B_iv6, B_obj, B_is0, B_is1, B_st1, B_st2, B_st3, B_copy, List.getElem?_cons_zero, List.getElem?_cons_succ, List.set_cons_zero, List.set_cons_succ, List.length_cons, List.length_nil, List.all_cons, List.all_nil, List.nil_append, List.cons_append, Option.toList_some, Option.toList_none, okv, kst_0, kst_1, pok_i, pok_z0, pok_z1, pok_o, pok_a, c0_0, c0_1, c1_0, c1_1, c1_2, c2_0, c2_1, c2_2, c2_3, c2_4, c2_5, c2_6, c2_7, c2_8, c2_9, c2_10, c3_0, c3_1, c3_2, c3_3, c3_4, c3_5, c3_6, c3_7, c3_8, c3_9, c3_10, c3_11, c3_12, c4_0, c4_1, c4_2, c4_3, c4_4, c5_0, c5_1, c5_2, c5_3, c5_4, c5_5, c6_0, c6_1, c6_2, c6_3, c6_4, c6_5, c7_0, c7_1, c7_2, c7_3, c7_4, c7_5, c7_6, c7_7, c7_8, c7_9, c7_10, c7_11, zok_int, zok_b0, zok_b1, aok_obj, Bool.and_true, Bool.and_self, true_and, and_true, Nat.reduceAdd, Nat.reduceLeDiff, Nat.reduceEqDiff, Nat.zero_le, Nat.reduceLT, Nat.reduceSub, Nat.reduceMul, ne_eq, not_false_eq_true, Nat.zero_add, Nat.add_zero, exists_eq', Sum.inr.injEq, Prod.mk.injEq, rfv_s, rfv_n, reduceCtorEq, not_true_eq_false, false_implies, true_implies, implies_true, ↓reduceIte, pk_divD, pg_up, th_up, ps_c, ts_c, pg_ps_s, pg_ps_n, th_ps, pg_ts, th_ts_s, th_ts_n, Nat.not_lt, Nat.not_le, Decidable.not_not, nI_add, pk_mul, nI_clamp, vi_t, ja_at, ja_up, nz_eq, nI_eq, nI_ltI, nI_leI, nI_lt0, nI_le0, nI_0lt, nI_0le, if_pos, if_neg, up_at, up_ne, nI_subL, true_or, or_true, false_or, or_false, put_0, put_1, put_2, put_3, put_4, put_5, put_6, put_p0, put_p1, put_p2, put_r, pgr_at, rnr_at, ctr_at, use_at, stg_0, stg_1, stg_2, put_c, put_u, put_f, put_s, put_w0, put_w1, put_w2, put_w3, put_w4, put_w5, put_w6, put_w7, put_w8, put_w9, put_t0, put_t1, put_t2, put_t3, put_t4, put_m7, put_m8, put_m9, put_m13, put_m14, put_m15]
    exact fin _ _ _ _ (hr'.sam s)
  · have e0 : pg (mvA N p (th N t 0)) p 0 = th N t 0 := by rw [b5 p 0 hp4 (by omega), if_pos rfl]; rfl
    have e7 : mvA N p (th N t 0) 7 = N 7 := b2 7 (by omega)
    have r0 : RO (mvA N p (th N t 0)) r := ro.of (b2 16 (by omega))
    have s := hs.2 f
    generalize mvA N p (th N t 0) = C at *
    simp (disch := first | omega | simp (disch := omega) only [pg_up, th_up, ps_c, ts_c, pg_ps_s, pg_ps_n, th_ps, pg_ts, th_ts_s, th_ts_n, up_at, up_ne]) only [e0, e7, B_nil, B_iconst, B_bipush, B_sipush, B_ldc, B_null, B_iload_n, B_iload, B_aload_n, B_aload, B_istore_n, B_istore, B_astore_n, B_astore, B_astore_nN, B_astoreN, B_iinc, B_iadd, B_isub, B_imul, B_idiv, B_irem, B_ineg, B_iand, B_ior, B_ixor, B_ishl, B_ishr, B_i2c, B_dup, B_dup2, B_pop, B_goto, B_if_eq, B_if_ne, B_if_lt, B_if_ge, B_if_gt, B_if_le, B_ic_eq, B_ic_ne, B_ic_lt, B_ic_ge, B_ic_gt, B_ic_le, B_ifnullN, B_ifnull, B_ifnonnullN, B_ifnonnull, B_switch, B_ireturn, B_areturn, B_areturnN, B_return, B_getfield, B_putfield, B_iaload, B_ialoadS, B_caload, B_iastore, B_castore, B_aaload, B_aastore, B_alenS, B_alen, B_new, B_newarray, B_anewarray, B_iv0, B_iv1, B_iv2, B_iv3, B_iv4, B_iv6, B_obj, B_is0, B_is1, B_st1, B_st2, B_st3, B_copy, List.getElem?_cons_zero, List.getElem?_cons_succ, List.set_cons_zero, List.set_cons_succ, List.length_cons, List.length_nil, List.all_cons, List.all_nil, List.nil_append, List.cons_append, Option.toList_some, Option.toList_none, okv, kst_0, kst_1, pok_i, pok_z0, pok_z1, pok_o, pok_a, c0_0, c0_1, c1_0, c1_1, c1_2, c2_0, c2_1, c2_2, c2_3, c2_4, c2_5, c2_6, c2_7, c2_8, c2_9, c2_10, c3_0, c3_1, c3_2, c3_3, c3_4, c3_5, c3_6, c3_7, c3_8, c3_9, c3_10, c3_11, c3_12, c4_0, c4_1, c4_2, c4_3, c4_4, c5_0, c5_1, c5_2, c5_3, c5_4, c5_5, c6_0, c6_1, c6_2, c6_3, c6_4, c6_5, c7_0, c7_1, c7_2, c7_3, c7_4, c7_5, c7_6, c7_7, c7_8, c7_9, c7_10, c7_11, zok_int, zok_b0, zok_b1, aok_obj, Bool.and_true, Bool.and_self, true_and, and_true, Nat.reduceAdd, Nat.reduceLeDiff, Nat.reduceEqDiff, Nat.zero_le, Nat.reduceLT, Nat.reduceSub, Nat.reduceMul, ne_eq, not_false_eq_true, Nat.zero_add, Nat.add_zero, exists_eq', Sum.inr.injEq, Prod.mk.injEq, rfv_s, rfv_n, reduceCtorEq, not_true_eq_false, false_implies, true_implies, implies_true, ↓reduceIte, pk_divD, pg_up, th_up, ps_c, ts_c, pg_ps_s, pg_ps_n, th_ps, pg_ts, th_ts_s, th_ts_n, Nat.not_lt, Nat.not_le, Decidable.not_not, nI_add, pk_mul, nI_clamp, vi_t, ja_at, ja_up, nz_eq, nI_eq, nI_ltI, nI_leI, nI_lt0, nI_le0, nI_0lt, nI_0le, if_pos, if_neg, up_at, up_ne, nI_subL, true_or, or_true, false_or, or_false, put_0, put_1, put_2, put_3, put_4, put_5, put_6, put_p0, put_p1, put_p2, put_r, pgr_at, rnr_at, ctr_at, use_at, stg_0, stg_1, stg_2, put_c, put_u, put_f, put_s, put_w0, put_w1, put_w2, put_w3, put_w4, put_w5, put_w6, put_w7, put_w8, put_w9, put_t0, put_t1, put_t2, put_t3, put_t4, put_m7, put_m8, put_m9, put_m13, put_m14, put_m15]
    refine s6t e7.symm r0 (fun r' hr' => ?_)
    rw [put_ext s]
    simp (disch := first | omega | simp (disch := omega) only [pg_up, th_up, ps_c, ts_c, pg_ps_s, pg_ps_n, th_ps, pg_ts, th_ts_s, th_ts_n, up_at, up_ne]) only [B_nil, B_iconst, B_bipush, B_sipush, B_ldc, B_null, B_iload_n, B_iload, B_aload_n, B_aload, B_istore_n, B_istore, B_astore_n, B_astore, B_astore_nN, B_astoreN, B_iinc, B_iadd, B_isub, B_imul, B_idiv, B_irem, B_ineg, B_iand, B_ior, B_ixor, B_ishl, B_ishr, B_i2c, B_dup, B_dup2, B_pop, B_goto, B_if_eq, B_if_ne, B_if_lt, B_if_ge, B_if_gt, B_if_le, B_ic_eq, B_ic_ne, B_ic_lt, B_ic_ge, B_ic_gt, B_ic_le, B_ifnullN, B_ifnull, B_ifnonnullN, B_ifnonnull, B_switch, B_ireturn, B_areturn, B_areturnN, B_return, B_getfield, B_putfield, B_iaload, B_ialoadS, B_caload, B_iastore, B_castore, B_aaload, B_aastore, B_alenS, B_alen, B_new, B_newarray, B_anewarray, B_iv0, B_iv1, B_iv2, B_iv3, B_iv4, B_iv6, B_obj, B_is0, B_is1, B_st1, B_st2, B_st3, B_copy, List.getElem?_cons_zero, List.getElem?_cons_succ, List.set_cons_zero, List.set_cons_succ, List.length_cons, List.length_nil, List.all_cons, List.all_nil, List.nil_append, List.cons_append, Option.toList_some, Option.toList_none, okv, kst_0, kst_1, pok_i, pok_z0, pok_z1, pok_o, pok_a, c0_0, c0_1, c1_0, c1_1, c1_2, c2_0, c2_1, c2_2, c2_3, c2_4, c2_5, c2_6, c2_7, c2_8, c2_9, c2_10, c3_0, c3_1, c3_2, c3_3, c3_4, c3_5, c3_6, c3_7, c3_8, c3_9, c3_10, c3_11, c3_12, c4_0, c4_1, c4_2, c4_3, c4_4, c5_0, c5_1, c5_2, c5_3, c5_4, c5_5, c6_0, c6_1, c6_2, c6_3, c6_4, c6_5, c7_0, c7_1, c7_2, c7_3, c7_4, c7_5, c7_6, c7_7, c7_8, c7_9, c7_10, c7_11, zok_int, zok_b0, zok_b1, aok_obj, Bool.and_true, Bool.and_self, true_and, and_true, Nat.reduceAdd, Nat.reduceLeDiff, Nat.reduceEqDiff, Nat.zero_le, Nat.reduceLT, Nat.reduceSub, Nat.reduceMul, ne_eq, not_false_eq_true, Nat.zero_add, Nat.add_zero, exists_eq', Sum.inr.injEq, Prod.mk.injEq, rfv_s, rfv_n, reduceCtorEq, not_true_eq_false, false_implies, true_implies, implies_true, ↓reduceIte, pk_divD, pg_up, th_up, ps_c, ts_c, pg_ps_s, pg_ps_n, th_ps, pg_ts, th_ts_s, th_ts_n, Nat.not_lt, Nat.not_le, Decidable.not_not, nI_add, pk_mul, nI_clamp, vi_t, ja_at, ja_up, nz_eq, nI_eq, nI_ltI, nI_leI, nI_lt0, nI_le0, nI_0lt, nI_0le, if_pos, if_neg, up_at, up_ne, nI_subL, true_or, or_true, false_or, or_false, put_0, put_1, put_2, put_3, put_4, put_5, put_6, put_p0, put_p1, put_p2, put_r, pgr_at, rnr_at, ctr_at, use_at, stg_0, stg_1, stg_2, put_c, put_u, put_f, put_s, put_w0, put_w1, put_w2, put_w3, put_w4, put_w5, put_w6, put_w7, put_w8, put_w9, put_t0, put_t1, put_t2, put_t3, put_t4, put_m7, put_m8, put_m9, put_m13, put_m14, put_m15]
    exact fin _ _ _ _ (hr'.sam s)
end CN
