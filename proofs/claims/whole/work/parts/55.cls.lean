theorem hs_eq {h : AHp} {a : Nat} {c : ACell} : (hset h a c).2 a = c := if_pos rfl
theorem hs_ne {h : AHp} {a a' : Nat} {c : ACell} (e : a' ≠ a) : (hset h a c).2 a' = h.2 a' := if_neg e
theorem hs_hs {h : AHp} {a : Nat} {c c' : ACell} : hset (hset h a c) a c' = hset h a c' := by
  refine Prod.ext rfl (funext (fun q => ?_))
  show (if q = a then c' else if q = a then c else h.2 q) = (if q = a then c' else h.2 q)
  split <;> rfl
def RO (N : Nat → Nat) (r : Nat) : Prop := N 16 ≤ 10 ∧ r < 10 ∧ (N 16 < 10 → r = 0)
def rot (N : Nat → Nat) (r : Nat) : Nat := if N 16 = 10 then (r + 1) % 10 else r
theorem tel_16v {N : Nat → Nat} {k p h : Nat} : tel N k p h 16 = if N 16 = 10 then 10 else N 16 + 1 := by
  unfold tel
  rw [up_at]
  unfold tel0
  split
  · rw [up_at]
  · rfl
theorem RO.tel {N : Nat → Nat} {r k p h : Nat} (o : RO N r) : RO (tel N k p h) (rot N r) := by
  obtain ⟨a, c, d⟩ := o
  unfold RO rot
  rw [tel_16v]
  by_cases e : N 16 = 10
  · rw [if_pos e, if_pos e]
    exact ⟨by omega, by omega, fun z => absurd z (by omega)⟩
  · rw [if_neg e, if_neg e]
    exact ⟨by omega, c, fun z => d (by omega)⟩
theorem RO.of {N N' : Nat → Nat} {r : Nat} (o : RO N r) (e : N' 16 = N 16) : RO N' r := by
  unfold RO at o ⊢
  rw [e]
  exact o
theorem nx_lt {N : Nat → Nat} {r : Nat} (o : RO N r) : nx N r < 10 := by
  obtain ⟨a, c, d⟩ := o
  unfold nx
  split <;> omega
/-- the events of a row in which one more is told -/
theorem ev_tel {N : Nat → Nat} {k p h j w : Nat} (h16 : N 16 ≤ 10) (hj : j < 10) (hw : w < 4) : ev (tel N k p h) j w =
    if j = (if N 16 = 10 then 9 else N 16) then (if w = 0 then k else if w = 1 then p else if w = 2 then h else N 7) else if N 16 = 10 then ev N (j + 1) w else ev N j w := by
  have hz : tel0 N 16 = if N 16 = 10 then 9 else N 16 := by
    unfold tel0
    split
    · rw [up_at]
    · rfl
  have h9 := tel0_16 h16
  unfold tel ev
  rw [← hz]
  generalize hm : tel0 N 16 = m at *
  rw [up_ne (by omega)]
  by_cases e : j = m
  · subst e
    rw [if_pos rfl]
    rcases (show w = 0 ∨ w = 1 ∨ w = 2 ∨ w = 3 by omega) with rfl | rfl | rfl | rfl
    · rw [up_ne (by omega), up_ne (by omega), up_ne (by omega), Nat.add_zero, up_at]; rfl
    · rw [up_ne (by omega), up_ne (by omega), up_at]; rfl
    · rw [up_ne (by omega), up_at]; rfl
    · rw [up_at]; rfl
  · rw [if_neg e, up_ne (by omega), up_ne (by omega), up_ne (by omega), up_ne (by omega)]
    unfold tel0
    by_cases c : N 16 = 10
    · rw [if_pos c, if_pos c, up_ne (by omega)]
      rw [if_pos c] at hz
      unfold shf
      rw [if_pos (by omega), show 777 + 4 * j + w + 4 = 777 + 4 * (j + 1) + w by omega]
    · rw [if_neg c, if_neg c]
section CL
variable {sc : SC} {h : AHp} {Q : PT} {N : Nat → Nat} {b r : Nat}
theorem put_log {N' : Nat → Nat} {r' S X : Nat} {P : Nat → Nat} (e1 : S = N' 16) (e2 : X = nx N' r') (e3 : ∀ c, c < 40 → P c = pts N' r' c) (e4 : ∀ c, c < 777 → c ≠ 16 → N' c = N c) :
    hset (hset (put h b N r) (b + 6) (.inl (0, 40, ja 40 P))) (b + 5) (.inr (.inr (1, [.ref (b + 6), .int (nI S), .int (nI X)]))) = put h b N' r' := by
  have ep : ∀ p w, p < 40 → w < 18 → pg N' p w = pg N p w := fun p w hp hw => e4 _ (by omega) (by omega)
  have et : ∀ t w, t < 8 → w < 5 → th N' t w = th N t w := fun p w hp hw => e4 _ (by omega) (by omega)
  refine Prod.ext rfl (funext (fun q => ?_))
  show (if q = b + 5 then _ else if q = b + 6 then (.inl (0, 40, ja 40 P) : ACell) else if b ≤ q ∧ q < b + 135 then cel b N r (q - b) else h.2 q) = (if b ≤ q ∧ q < b + 135 then cel b N' r' (q - b) else h.2 q)
  by_cases h5 : q = b + 5
  · subst h5
    rw [if_pos rfl, if_pos (by omega), show b + 5 - b = 5 by omega, e1, e2]
    rfl
  · rw [if_neg h5]
    by_cases h6 : q = b + 6
    · subst h6
      rw [if_pos rfl, if_pos (by omega), show b + 6 - b = 6 by omega]
      exact congrArg (fun f => (Sum.inl (0, 40, f) : ACell)) (ja_ext e3)
    · rw [if_neg h6]
      split
      · have ho : q - b < 135 := by omega
        have h5 : q - b ≠ 5 := by omega
        have h6 : q - b ≠ 6 := by omega
        generalize q - b = o at ho h5 h6
        unfold cel
        split
        · rename_i h7
          match o, h7, h5, h6 with
          | 0, _, _, _ => show mob b N = mob b N'; unfold mob; rw [e4 8 (by omega) (by omega), e4 9 (by omega) (by omega), e4 7 (by omega) (by omega), e4 13 (by omega) (by omega), e4 14 (by omega) (by omega), e4 15 (by omega) (by omega)]
          | 1, _, _, _ => exact congrArg (fun f => (Sum.inl (0, 4, f) : ACell)) (ja_ext fun i hi => (e4 i (by omega) (by omega)).symm)
          | 2, _, _, _ => exact congrArg (fun f => (Sum.inl (0, 3, f) : ACell)) (ja_ext fun i hi => (e4 (4 + i) (by omega) (by omega)).symm)
          | 3, _, _, _ => rfl
          | 4, _, _, _ => rfl
          | 5, _, h5, _ => exact absurd rfl h5
          | 6, _, _, h6 => exact absurd rfl h6
        · split
          · have hp : (o - 7) / 3 < 40 := by omega
            have hk : (o - 7) % 3 < 3 := by omega
            generalize (o - 7) / 3 = p at hp
            generalize (o - 7) % 3 = k at hk
            match k, hk with
            | 0, _ => show pob b N p = pob b N' p; unfold pob; rw [ep p 0 hp (by omega), ep p 1 hp (by omega), ep p 7 hp (by omega), ep p 4 hp (by omega), ep p 5 hp (by omega), ep p 2 hp (by omega), ep p 3 hp (by omega), ep p 9 hp (by omega), ep p 8 hp (by omega), ep p 6 hp (by omega)]
            | 1, _ => exact congrArg (fun f => (Sum.inl (0, 4, f) : ACell)) (ja_ext fun i hi => (ep p (10 + i) hp (by omega)).symm)
            | 2, _ => exact congrArg (fun f => (Sum.inl (0, 4, f) : ACell)) (ja_ext fun i hi => (ep p (14 + i) hp (by omega)).symm)
          · have ht : o - 127 < 8 := by omega
            generalize o - 127 = t at ht
            unfold rcl
            rw [et t 0 ht (by omega), et t 1 ht (by omega), et t 2 ht (by omega), et t 3 ht (by omega), et t 4 ht (by omega)]
      · rfl
theorem pts_tel {kd p hm c : Nat} (o : RO N r) (hc : c < 40) : up (up (up (up (pts N r) (nx N r * 4) kd) (nx N r * 4 + 1) p) (nx N r * 4 + 2) hm) (nx N r * 4 + 3) (N 7) c = pts (tel N kd p hm) (rot N r) c := by
  have hn := nx_lt o
  obtain ⟨o1, o2, o3⟩ := o
  unfold pts
  rw [ev_tel o1 (by omega) (by omega)]
  by_cases e : c / 4 = nx N r
  · have e2 : (c / 4 + 10 - rot N r) % 10 = (if N 16 = 10 then 9 else N 16) := by
      rw [e]
      unfold nx rot
      split
      · omega
      · rw [o3 (by omega)]
        omega
    rw [if_pos e2]
    rcases (show c = nx N r * 4 ∨ c = nx N r * 4 + 1 ∨ c = nx N r * 4 + 2 ∨ c = nx N r * 4 + 3 by omega) with e3 | e3 | e3 | e3
    · rw [if_pos (by omega), up_ne (by omega), up_ne (by omega), up_ne (by omega), e3, up_at]
    · rw [if_neg (by omega), if_pos (by omega), up_ne (by omega), up_ne (by omega), e3, up_at]
    · rw [if_neg (by omega), if_neg (by omega), if_pos (by omega), up_ne (by omega), e3, up_at]
    · rw [if_neg (by omega), if_neg (by omega), if_neg (by omega), e3, up_at]
  · rw [up_ne (by omega), up_ne (by omega), up_ne (by omega), up_ne (by omega)]
    unfold nx at e
    unfold rot
    by_cases c2 : N 16 = 10
    · rw [if_pos c2] at e
      rw [if_pos c2, if_pos c2, if_pos c2, if_neg (by omega)]
      show ev N ((c / 4 + 10 - r) % 10) (c % 4) = _
      congr 1
      omega
    · rw [if_neg c2] at e
      rw [if_neg c2, if_neg c2, if_neg c2, if_neg (by rw [o3 (by omega)]; omega)]
theorem s6 {kd p hm : Nat} (o : RO N r) (k : Q none (put h b (tel N kd p hm) (rot N r))) : RUN sc 6 [.ref (b + 5), .int (nI kd), .int (nI p), .int (nI hm), .int (nI (N 7))] (put h b N r) Q := by
  have hn := nx_lt o
  have ht : ∀ X, X = (if N 16 = 10 then 10 else N 16 + 1) → hset (hset (put h b N r) (b + 6) (.inl (0, 40, ja 40 (up (up (up (up (pts N r) (nx N r * 4) kd) (nx N r * 4 + 1) p) (nx N r * 4 + 2) hm) (nx N r * 4 + 3) (N 7))))) (b + 5) (.inr (.inr (1, [.ref (b + 6), .int (nI X), .int (nI (nx N r + 1 - (nx N r + 1) / 10 * 10))]))) = put h b (tel N kd p hm) (rot N r) := fun X hX => by
    refine put_log (by rw [tel_16v]; exact hX) ?_ (fun c hc => pts_tel o hc) (fun c h1 h2 => tel_c h1 h2 o.1)
    obtain ⟨o1, o2, o3⟩ := o
    unfold nx rot
    rw [tel_16v]
    by_cases e : N 16 = 10
    · rw [if_pos e, if_pos e, if_pos rfl, if_pos e]
      omega
    · rw [if_neg e, if_neg e, if_neg e, o3 (by omega)]
      split <;> omega
  refine r6 ?_
  obtain ⟨o1, o2, o3⟩ := id o
  simp (disch := first | omega | simp (disch := omega) only [pg_up, th_up, ps_c, ts_c, pg_ps_s, pg_ps_n, th_ps, pg_ts, th_ts_s, th_ts_n, up_at, up_ne]) only [k6_0, hs_eq, hs_ne, hs_hs, B_nil, B_iconst, B_bipush, B_sipush, B_ldc, B_null, B_iload_n, B_iload, B_aload_n, B_aload, B_istore_n, B_istore, B_astore_n, B_astore, B_astore_nN, B_astoreN, B_iinc, B_iadd, B_isub, B_imul, B_idiv, B_irem, B_ineg, B_iand, B_ior, B_ixor, B_ishl, B_ishr, B_i2c, B_dup, B_dup2, B_pop, B_goto, B_if_eq, B_if_ne, B_if_lt, B_if_ge, B_if_gt, B_if_le, B_ic_eq, B_ic_ne, B_ic_lt, B_ic_ge, B_ic_gt, B_ic_le, B_ifnullN, B_ifnull, B_ifnonnullN, B_ifnonnull, B_switch, B_ireturn, B_areturn, B_areturnN, B_return, B_getfield, B_putfield, B_iaload, B_ialoadS, B_caload, B_iastore, B_castore, B_aaload, B_aastore, B_alenS, B_alen, B_new, B_newarray, B_anewarray, B_iv0, B_iv1, B_iv2, B_iv3, B_iv4, B_iv6, B_obj, B_is0, B_is1, B_st1, B_st2, B_st3, B_copy, List.getElem?_cons_zero, List.getElem?_cons_succ, List.set_cons_zero, List.set_cons_succ, List.length_cons, List.length_nil, List.all_cons, List.all_nil, List.nil_append, List.cons_append, Option.toList_some, Option.toList_none, okv, kst_0, kst_1, pok_i, pok_z0, pok_z1, pok_o, pok_a, c0_0, c0_1, c1_0, c1_1, c1_2, c2_0, c2_1, c2_2, c2_3, c2_4, c2_5, c2_6, c2_7, c2_8, c2_9, c2_10, c3_0, c3_1, c3_2, c3_3, c3_4, c3_5, c3_6, c3_7, c3_8, c3_9, c3_10, c3_11, c3_12, c4_0, c4_1, c4_2, c4_3, c4_4, c5_0, c5_1, c5_2, c5_3, c5_4, c5_5, c6_0, c6_1, c6_2, c6_3, c6_4, c6_5, c7_0, c7_1, c7_2, c7_3, c7_4, c7_5, c7_6, c7_7, c7_8, c7_9, c7_10, c7_11, zok_int, zok_b0, zok_b1, aok_obj, Bool.and_true, Bool.and_self, true_and, and_true, Nat.reduceAdd, Nat.reduceLeDiff, Nat.reduceEqDiff, Nat.zero_le, Nat.reduceLT, Nat.reduceSub, Nat.reduceMul, ne_eq, not_false_eq_true, Nat.zero_add, Nat.add_zero, exists_eq', Sum.inr.injEq, Prod.mk.injEq, rfv_s, rfv_n, reduceCtorEq, not_true_eq_false, false_implies, true_implies, implies_true, ↓reduceIte, pk_divD, pg_up, th_up, ps_c, ts_c, pg_ps_s, pg_ps_n, th_ps, pg_ts, th_ts_s, th_ts_n, Nat.not_lt, Nat.not_le, Decidable.not_not, nI_add, pk_mul, nI_clamp, vi_t, ja_at, ja_up, nz_eq, nI_eq, nI_ltI, nI_leI, nI_lt0, nI_le0, nI_0lt, nI_0le, if_pos, if_neg, up_at, up_ne, nI_subL, true_or, or_true, false_or, or_false, put_0, put_1, put_2, put_3, put_4, put_5, put_6, put_p0, put_p1, put_p2, put_r, pgr_at, rnr_at, ctr_at, use_at, stg_0, stg_1, stg_2, put_c, put_u, put_f, put_s, put_w0, put_w1, put_w2, put_w3, put_w4, put_w5, put_w6, put_w7, put_w8, put_w9, put_t0, put_t1, put_t2, put_t3, put_t4, put_m7, put_m8, put_m9, put_m13, put_m14, put_m15]
  refine ⟨fun c => ?_, fun c => ?_⟩
  · refine e6_1 ?_
    simp (disch := first | omega | simp (disch := omega) only [pg_up, th_up, ps_c, ts_c, pg_ps_s, pg_ps_n, th_ps, pg_ts, th_ts_s, th_ts_n, up_at, up_ne]) only [k6_1, B_nil, B_iconst, B_bipush, B_sipush, B_ldc, B_null, B_iload_n, B_iload, B_aload_n, B_aload, B_istore_n, B_istore, B_astore_n, B_astore, B_astore_nN, B_astoreN, B_iinc, B_iadd, B_isub, B_imul, B_idiv, B_irem, B_ineg, B_iand, B_ior, B_ixor, B_ishl, B_ishr, B_i2c, B_dup, B_dup2, B_pop, B_goto, B_if_eq, B_if_ne, B_if_lt, B_if_ge, B_if_gt, B_if_le, B_ic_eq, B_ic_ne, B_ic_lt, B_ic_ge, B_ic_gt, B_ic_le, B_ifnullN, B_ifnull, B_ifnonnullN, B_ifnonnull, B_switch, B_ireturn, B_areturn, B_areturnN, B_return, B_getfield, B_putfield, B_iaload, B_ialoadS, B_caload, B_iastore, B_castore, B_aaload, B_aastore, B_alenS, B_alen, B_new, B_newarray, B_anewarray, B_iv0, B_iv1, B_iv2, B_iv3, B_iv4, B_iv6, B_obj, B_is0, B_is1, B_st1, B_st2, B_st3, B_copy, List.getElem?_cons_zero, List.getElem?_cons_succ, List.set_cons_zero, List.set_cons_succ, List.length_cons, List.length_nil, List.all_cons, List.all_nil, List.nil_append, List.cons_append, Option.toList_some, Option.toList_none, okv, kst_0, kst_1, pok_i, pok_z0, pok_z1, pok_o, pok_a, c0_0, c0_1, c1_0, c1_1, c1_2, c2_0, c2_1, c2_2, c2_3, c2_4, c2_5, c2_6, c2_7, c2_8, c2_9, c2_10, c3_0, c3_1, c3_2, c3_3, c3_4, c3_5, c3_6, c3_7, c3_8, c3_9, c3_10, c3_11, c3_12, c4_0, c4_1, c4_2, c4_3, c4_4, c5_0, c5_1, c5_2, c5_3, c5_4, c5_5, c6_0, c6_1, c6_2, c6_3, c6_4, c6_5, c7_0, c7_1, c7_2, c7_3, c7_4, c7_5, c7_6, c7_7, c7_8, c7_9, c7_10, c7_11, zok_int, zok_b0, zok_b1, aok_obj, Bool.and_true, Bool.and_self, true_and, and_true, Nat.reduceAdd, Nat.reduceLeDiff, Nat.reduceEqDiff, Nat.zero_le, Nat.reduceLT, Nat.reduceSub, Nat.reduceMul, ne_eq, not_false_eq_true, Nat.zero_add, Nat.add_zero, exists_eq', Sum.inr.injEq, Prod.mk.injEq, rfv_s, rfv_n, reduceCtorEq, not_true_eq_false, false_implies, true_implies, implies_true, ↓reduceIte, pk_divD, pg_up, th_up, ps_c, ts_c, pg_ps_s, pg_ps_n, th_ps, pg_ts, th_ts_s, th_ts_n, Nat.not_lt, Nat.not_le, Decidable.not_not, nI_add, pk_mul, nI_clamp, vi_t, ja_at, ja_up, nz_eq, nI_eq, nI_ltI, nI_leI, nI_lt0, nI_le0, nI_0lt, nI_0le, if_pos, if_neg, up_at, up_ne, nI_subL, true_or, or_true, false_or, or_false, put_0, put_1, put_2, put_3, put_4, put_5, put_6, put_p0, put_p1, put_p2, put_r, pgr_at, rnr_at, ctr_at, use_at, stg_0, stg_1, stg_2, put_c, put_u, put_f, put_s, put_w0, put_w1, put_w2, put_w3, put_w4, put_w5, put_w6, put_w7, put_w8, put_w9, put_t0, put_t1, put_t2, put_t3, put_t4, put_m7, put_m8, put_m9, put_m13, put_m14, put_m15]
    rw [ht _ (by rw [if_pos (by omega)]; omega)]
    exact k
  · refine e6_1 ?_
    simp (disch := first | omega | simp (disch := omega) only [pg_up, th_up, ps_c, ts_c, pg_ps_s, pg_ps_n, th_ps, pg_ts, th_ts_s, th_ts_n, up_at, up_ne]) only [k6_1, B_nil, B_iconst, B_bipush, B_sipush, B_ldc, B_null, B_iload_n, B_iload, B_aload_n, B_aload, B_istore_n, B_istore, B_astore_n, B_astore, B_astore_nN, B_astoreN, B_iinc, B_iadd, B_isub, B_imul, B_idiv, B_irem, B_ineg, B_iand, B_ior, B_ixor, B_ishl, B_ishr, B_i2c, B_dup, B_dup2, B_pop, B_goto, B_if_eq, B_if_ne, B_if_lt, B_if_ge, B_if_gt, B_if_le, B_ic_eq, B_ic_ne, B_ic_lt, B_ic_ge, B_ic_gt, B_ic_le, B_ifnullN, B_ifnull, B_ifnonnullN, B_ifnonnull, B_switch, B_ireturn, B_areturn, B_areturnN, B_return, B_getfield, B_putfield, B_iaload, B_ialoadS, B_caload, B_iastore, B_castore, B_aaload, B_aastore, B_alenS, B_alen, B_new, B_newarray, B_anewarray, B_iv0, B_iv1, B_iv2, B_iv3, B_iv4, B_iv6, B_obj, B_is0, B_is1, B_st1, B_st2, B_st3, B_copy, List.getElem?_cons_zero, List.getElem?_cons_succ, List.set_cons_zero, List.set_cons_succ, List.length_cons, List.length_nil, List.all_cons, List.all_nil, List.nil_append, List.cons_append, Option.toList_some, Option.toList_none, okv, kst_0, kst_1, pok_i, pok_z0, pok_z1, pok_o, pok_a, c0_0, c0_1, c1_0, c1_1, c1_2, c2_0, c2_1, c2_2, c2_3, c2_4, c2_5, c2_6, c2_7, c2_8, c2_9, c2_10, c3_0, c3_1, c3_2, c3_3, c3_4, c3_5, c3_6, c3_7, c3_8, c3_9, c3_10, c3_11, c3_12, c4_0, c4_1, c4_2, c4_3, c4_4, c5_0, c5_1, c5_2, c5_3, c5_4, c5_5, c6_0, c6_1, c6_2, c6_3, c6_4, c6_5, c7_0, c7_1, c7_2, c7_3, c7_4, c7_5, c7_6, c7_7, c7_8, c7_9, c7_10, c7_11, zok_int, zok_b0, zok_b1, aok_obj, Bool.and_true, Bool.and_self, true_and, and_true, Nat.reduceAdd, Nat.reduceLeDiff, Nat.reduceEqDiff, Nat.zero_le, Nat.reduceLT, Nat.reduceSub, Nat.reduceMul, ne_eq, not_false_eq_true, Nat.zero_add, Nat.add_zero, exists_eq', Sum.inr.injEq, Prod.mk.injEq, rfv_s, rfv_n, reduceCtorEq, not_true_eq_false, false_implies, true_implies, implies_true, ↓reduceIte, pk_divD, pg_up, th_up, ps_c, ts_c, pg_ps_s, pg_ps_n, th_ps, pg_ts, th_ts_s, th_ts_n, Nat.not_lt, Nat.not_le, Decidable.not_not, nI_add, pk_mul, nI_clamp, vi_t, ja_at, ja_up, nz_eq, nI_eq, nI_ltI, nI_leI, nI_lt0, nI_le0, nI_0lt, nI_0le, if_pos, if_neg, up_at, up_ne, nI_subL, true_or, or_true, false_or, or_false, put_0, put_1, put_2, put_3, put_4, put_5, put_6, put_p0, put_p1, put_p2, put_r, pgr_at, rnr_at, ctr_at, use_at, stg_0, stg_1, stg_2, put_c, put_u, put_f, put_s, put_w0, put_w1, put_w2, put_w3, put_w4, put_w5, put_w6, put_w7, put_w8, put_w9, put_t0, put_t1, put_t2, put_t3, put_t4, put_m7, put_m8, put_m9, put_m13, put_m14, put_m15]
    rw [ht _ (by rw [if_neg (by omega)])]
    exact k
theorem s149 {H : AHp} {x : Int32} {y : Nat} (hy : 0 < y) (hy2 : y < 1000) (k1 : x ^^^ nI y < 0 → ¬ x - x / nI y * nI y = 0 → Q (some (.int (x - x / nI y * nI y + nI y))) H) (k2 : ¬ (x ^^^ nI y < 0 ∧ ¬ x - x / nI y * nI y = 0) → Q (some (.int (x - x / nI y * nI y))) H) : RUN sc 149 [.int x, .int (nI y)] H Q := by
  have hj : ∀ u v, ¬ (x ^^^ nI y < 0 ∧ ¬ x - x / nI y * nI y = 0) → E sc 149 1 u v [.int x, .int (nI y), .int (x - x / nI y * nI y)] [] H Q := fun u v c => by
    refine e149_1 ?_
    simp (disch := omega) only [k149_1, B_nil, B_iconst, B_bipush, B_sipush, B_ldc, B_null, B_iload_n, B_iload, B_aload_n, B_aload, B_istore_n, B_istore, B_astore_n, B_astore, B_astore_nN, B_astoreN, B_iinc, B_iadd, B_isub, B_imul, B_idiv, B_irem, B_ineg, B_iand, B_ior, B_ixor, B_ishl, B_ishr, B_i2c, B_dup, B_dup2, B_pop, B_goto, B_if_eq, B_if_ne, B_if_lt, B_if_ge, B_if_gt, B_if_le, B_ic_eq, B_ic_ne, B_ic_lt, B_ic_ge, B_ic_gt, B_ic_le, B_ifnullN, B_ifnull, B_ifnonnullN, B_ifnonnull, B_switch, B_ireturn, B_areturn, B_areturnN, B_return, B_getfield, B_putfield, B_iaload, B_ialoadS, B_caload, B_iastore, B_castore, B_aaload, B_aastore, B_alenS, B_alen, B_new, B_newarray, B_anewarray, B_iv0, B_iv1, B_iv2, B_iv3, B_iv4, B_iv6, B_obj, B_is0, B_is1, B_st1, B_st2, B_st3, B_copy, List.getElem?_cons_zero, List.getElem?_cons_succ, List.set_cons_zero, List.set_cons_succ, List.length_cons, List.length_nil, List.all_cons, List.all_nil, List.nil_append, List.cons_append, Option.toList_some, Option.toList_none, okv, kst_0, kst_1, pok_i, pok_z0, pok_z1, pok_o, pok_a, c0_0, c0_1, c1_0, c1_1, c1_2, c2_0, c2_1, c2_2, c2_3, c2_4, c2_5, c2_6, c2_7, c2_8, c2_9, c2_10, c3_0, c3_1, c3_2, c3_3, c3_4, c3_5, c3_6, c3_7, c3_8, c3_9, c3_10, c3_11, c3_12, c4_0, c4_1, c4_2, c4_3, c4_4, c5_0, c5_1, c5_2, c5_3, c5_4, c5_5, c6_0, c6_1, c6_2, c6_3, c6_4, c6_5, c7_0, c7_1, c7_2, c7_3, c7_4, c7_5, c7_6, c7_7, c7_8, c7_9, c7_10, c7_11, zok_int, zok_b0, zok_b1, aok_obj, Bool.and_true, Bool.and_self, true_and, and_true, Nat.reduceAdd, Nat.reduceLeDiff, Nat.reduceEqDiff, Nat.zero_le, Nat.reduceLT, Nat.reduceSub, Nat.reduceMul, ne_eq, not_false_eq_true, Nat.zero_add, Nat.add_zero, exists_eq', Sum.inr.injEq, Prod.mk.injEq, rfv_s, rfv_n, reduceCtorEq, not_true_eq_false, false_implies, true_implies, implies_true, ↓reduceIte, pk_divD, pg_up, th_up, ps_c, ts_c, pg_ps_s, pg_ps_n, th_ps, pg_ts, th_ts_s, th_ts_n, Nat.not_lt, Nat.not_le, Decidable.not_not, nI_add, pk_mul, nI_clamp, vi_t, ja_at, ja_up, nz_eq, nI_eq, nI_ltI, nI_leI, nI_lt0, nI_le0, nI_0lt, nI_0le, if_pos, if_neg, up_at, up_ne, pm_0, pm_1, pm_2, pm_3, pm_4, pm_5, pm_n, pm_s1, pm_s2, pm_s3, pm_s4, pm_s5, pm_z2, pm_z4, pm_z6, pm_z8, pm_z9, pm_z10, pm_z11]
    exact k2 c
  have hz : (nI y = 0) = False := by rw [nz_eq (by omega)]; exact eq_false (by omega)
  refine r149 ?_
  simp (disch := omega) only [k149_0, hz, B_nil, B_iconst, B_bipush, B_sipush, B_ldc, B_null, B_iload_n, B_iload, B_aload_n, B_aload, B_istore_n, B_istore, B_astore_n, B_astore, B_astore_nN, B_astoreN, B_iinc, B_iadd, B_isub, B_imul, B_idiv, B_irem, B_ineg, B_iand, B_ior, B_ixor, B_ishl, B_ishr, B_i2c, B_dup, B_dup2, B_pop, B_goto, B_if_eq, B_if_ne, B_if_lt, B_if_ge, B_if_gt, B_if_le, B_ic_eq, B_ic_ne, B_ic_lt, B_ic_ge, B_ic_gt, B_ic_le, B_ifnullN, B_ifnull, B_ifnonnullN, B_ifnonnull, B_switch, B_ireturn, B_areturn, B_areturnN, B_return, B_getfield, B_putfield, B_iaload, B_ialoadS, B_caload, B_iastore, B_castore, B_aaload, B_aastore, B_alenS, B_alen, B_new, B_newarray, B_anewarray, B_iv0, B_iv1, B_iv2, B_iv3, B_iv4, B_iv6, B_obj, B_is0, B_is1, B_st1, B_st2, B_st3, B_copy, List.getElem?_cons_zero, List.getElem?_cons_succ, List.set_cons_zero, List.set_cons_succ, List.length_cons, List.length_nil, List.all_cons, List.all_nil, List.nil_append, List.cons_append, Option.toList_some, Option.toList_none, okv, kst_0, kst_1, pok_i, pok_z0, pok_z1, pok_o, pok_a, c0_0, c0_1, c1_0, c1_1, c1_2, c2_0, c2_1, c2_2, c2_3, c2_4, c2_5, c2_6, c2_7, c2_8, c2_9, c2_10, c3_0, c3_1, c3_2, c3_3, c3_4, c3_5, c3_6, c3_7, c3_8, c3_9, c3_10, c3_11, c3_12, c4_0, c4_1, c4_2, c4_3, c4_4, c5_0, c5_1, c5_2, c5_3, c5_4, c5_5, c6_0, c6_1, c6_2, c6_3, c6_4, c6_5, c7_0, c7_1, c7_2, c7_3, c7_4, c7_5, c7_6, c7_7, c7_8, c7_9, c7_10, c7_11, zok_int, zok_b0, zok_b1, aok_obj, Bool.and_true, Bool.and_self, true_and, and_true, Nat.reduceAdd, Nat.reduceLeDiff, Nat.reduceEqDiff, Nat.zero_le, Nat.reduceLT, Nat.reduceSub, Nat.reduceMul, ne_eq, not_false_eq_true, Nat.zero_add, Nat.add_zero, exists_eq', Sum.inr.injEq, Prod.mk.injEq, rfv_s, rfv_n, reduceCtorEq, not_true_eq_false, false_implies, true_implies, implies_true, ↓reduceIte, pk_divD, pg_up, th_up, ps_c, ts_c, pg_ps_s, pg_ps_n, th_ps, pg_ts, th_ts_s, th_ts_n, Nat.not_lt, Nat.not_le, Decidable.not_not, nI_add, pk_mul, nI_clamp, vi_t, ja_at, ja_up, nz_eq, nI_eq, nI_ltI, nI_leI, nI_lt0, nI_le0, nI_0lt, nI_0le, if_pos, if_neg, up_at, up_ne, pm_0, pm_1, pm_2, pm_3, pm_4, pm_5, pm_n, pm_s1, pm_s2, pm_s3, pm_s4, pm_s5, pm_z2, pm_z4, pm_z6, pm_z8, pm_z9, pm_z10, pm_z11]
  refine ⟨fun c => hj _ _ (fun z => absurd z.1 (Int32.not_lt.mpr c)), fun c => ⟨fun c2 => hj _ _ (fun z => z.2 c2), fun c2 => ?_⟩⟩
  exact k1 (Int32.not_le.mp c) c2
theorem fmod {n q : Nat} (hn : n < 10) (hq : q < 10) : (nI n - nI 1 - nI q ^^^ nI 10 < 0 → ¬ nI n - nI 1 - nI q - (nI n - nI 1 - nI q) / nI 10 * nI 10 = 0 → nI n - nI 1 - nI q - (nI n - nI 1 - nI q) / nI 10 * nI 10 + nI 10 = nI ((n + 19 - q) % 10)) ∧ (¬ (nI n - nI 1 - nI q ^^^ nI 10 < 0 ∧ ¬ nI n - nI 1 - nI q - (nI n - nI 1 - nI q) / nI 10 * nI 10 = 0) → nI n - nI 1 - nI q - (nI n - nI 1 - nI q) / nI 10 * nI 10 = nI ((n + 19 - q) % 10)) := by
  have H : (List.range 10).all (fun n => (List.range 10).all (fun q => decide ((nI n - nI 1 - nI q ^^^ nI 10 < 0 → ¬ nI n - nI 1 - nI q - (nI n - nI 1 - nI q) / nI 10 * nI 10 = 0 → nI n - nI 1 - nI q - (nI n - nI 1 - nI q) / nI 10 * nI 10 + nI 10 = nI ((n + 19 - q) % 10)) ∧ (¬ (nI n - nI 1 - nI q ^^^ nI 10 < 0 ∧ ¬ nI n - nI 1 - nI q - (nI n - nI 1 - nI q) / nI 10 * nI 10 = 0) → nI n - nI 1 - nI q - (nI n - nI 1 - nI q) / nI 10 * nI 10 = nI ((n + 19 - q) % 10))))) = true := by decide +kernel
  exact of_decide_eq_true (List.all_eq_true.mp (List.all_eq_true.mp H n (List.mem_range.mpr hn)) q (List.mem_range.mpr hq))
theorem s7 {q w : Nat} (o : RO N r) (hq : q < N 16) (hw : w < 4) (k : Q (some (.int (nI (ev N (N 16 - 1 - q) w)))) (put h b N r)) : RUN sc 7 [.ref (b + 5), .int (nI q), .int (nI w)] (put h b N r) Q := by
  have hn := nx_lt o
  obtain ⟨o1, o2, o3⟩ := o
  have f := fmod hn (show q < 10 by omega)
  have e : pts N r ((nx N r + 19 - q) % 10 * 4 + w) = ev N (N 16 - 1 - q) w := by
    unfold pts
    rw [show ((nx N r + 19 - q) % 10 * 4 + w) % 4 = w by omega, show ((nx N r + 19 - q) % 10 * 4 + w) / 4 = (nx N r + 19 - q) % 10 by omega]
    congr 1
    unfold nx
    split
    · omega
    · rw [o3 (by omega)]
      omega
  have fin : ∀ u v z, z = nI ((nx N r + 19 - q) % 10) → B sc 0 0 (some .int) (fun b' u' v' ls' st' h' => E sc 7 b' u' v' ls' st' h' Q) (RUN sc) Q 0 [(.istore_n 3, 3, 0, 0), (.aload_n 0, 0, 0, 0), (.getfield 9, 1, 0, 0), (.iload_n 3, 3, 0, 0), (.iconst 4, 4, 0, 0), (.imul, 0, 0, 0), (.iload_n 2, 2, 0, 0), (.iadd, 0, 0, 0), (.iaload, 0, 0, 0), (.ireturn, 0, 0, 0)] u v [.ref (b + 5), .int (nI q), .int (nI w), .long 0] [.int z] (put h b N r) := fun u v z hz => by
    subst hz
    simp (disch := first | omega | simp (disch := omega) only [pg_up, th_up, ps_c, ts_c, pg_ps_s, pg_ps_n, th_ps, pg_ts, th_ts_s, th_ts_n, up_at, up_ne]) only [e, B_nil, B_iconst, B_bipush, B_sipush, B_ldc, B_null, B_iload_n, B_iload, B_aload_n, B_aload, B_istore_n, B_istore, B_astore_n, B_astore, B_astore_nN, B_astoreN, B_iinc, B_iadd, B_isub, B_imul, B_idiv, B_irem, B_ineg, B_iand, B_ior, B_ixor, B_ishl, B_ishr, B_i2c, B_dup, B_dup2, B_pop, B_goto, B_if_eq, B_if_ne, B_if_lt, B_if_ge, B_if_gt, B_if_le, B_ic_eq, B_ic_ne, B_ic_lt, B_ic_ge, B_ic_gt, B_ic_le, B_ifnullN, B_ifnull, B_ifnonnullN, B_ifnonnull, B_switch, B_ireturn, B_areturn, B_areturnN, B_return, B_getfield, B_putfield, B_iaload, B_ialoadS, B_caload, B_iastore, B_castore, B_aaload, B_aastore, B_alenS, B_alen, B_new, B_newarray, B_anewarray, B_iv0, B_iv1, B_iv2, B_iv3, B_iv4, B_iv6, B_obj, B_is0, B_is1, B_st1, B_st2, B_st3, B_copy, List.getElem?_cons_zero, List.getElem?_cons_succ, List.set_cons_zero, List.set_cons_succ, List.length_cons, List.length_nil, List.all_cons, List.all_nil, List.nil_append, List.cons_append, Option.toList_some, Option.toList_none, okv, kst_0, kst_1, pok_i, pok_z0, pok_z1, pok_o, pok_a, c0_0, c0_1, c1_0, c1_1, c1_2, c2_0, c2_1, c2_2, c2_3, c2_4, c2_5, c2_6, c2_7, c2_8, c2_9, c2_10, c3_0, c3_1, c3_2, c3_3, c3_4, c3_5, c3_6, c3_7, c3_8, c3_9, c3_10, c3_11, c3_12, c4_0, c4_1, c4_2, c4_3, c4_4, c5_0, c5_1, c5_2, c5_3, c5_4, c5_5, c6_0, c6_1, c6_2, c6_3, c6_4, c6_5, c7_0, c7_1, c7_2, c7_3, c7_4, c7_5, c7_6, c7_7, c7_8, c7_9, c7_10, c7_11, zok_int, zok_b0, zok_b1, aok_obj, Bool.and_true, Bool.and_self, true_and, and_true, Nat.reduceAdd, Nat.reduceLeDiff, Nat.reduceEqDiff, Nat.zero_le, Nat.reduceLT, Nat.reduceSub, Nat.reduceMul, ne_eq, not_false_eq_true, Nat.zero_add, Nat.add_zero, exists_eq', Sum.inr.injEq, Prod.mk.injEq, rfv_s, rfv_n, reduceCtorEq, not_true_eq_false, false_implies, true_implies, implies_true, ↓reduceIte, pk_divD, pg_up, th_up, ps_c, ts_c, pg_ps_s, pg_ps_n, th_ps, pg_ts, th_ts_s, th_ts_n, Nat.not_lt, Nat.not_le, Decidable.not_not, nI_add, pk_mul, nI_clamp, vi_t, ja_at, ja_up, nz_eq, nI_eq, nI_ltI, nI_leI, nI_lt0, nI_le0, nI_0lt, nI_0le, if_pos, if_neg, up_at, up_ne, nI_subL, true_or, or_true, false_or, or_false, put_0, put_1, put_2, put_3, put_4, put_5, put_6, put_p0, put_p1, put_p2, put_r, pgr_at, rnr_at, ctr_at, use_at, stg_0, stg_1, stg_2, put_c, put_u, put_f, put_s, put_w0, put_w1, put_w2, put_w3, put_w4, put_w5, put_w6, put_w7, put_w8, put_w9, put_t0, put_t1, put_t2, put_t3, put_t4, put_m7, put_m8, put_m9, put_m13, put_m14, put_m15]
    exact k
  refine r7 ?_
  simp (disch := omega) only [k7_0, B_nil, B_iconst, B_bipush, B_sipush, B_ldc, B_null, B_iload_n, B_iload, B_aload_n, B_aload, B_istore_n, B_istore, B_astore_n, B_astore, B_astore_nN, B_astoreN, B_iinc, B_iadd, B_isub, B_imul, B_idiv, B_irem, B_ineg, B_iand, B_ior, B_ixor, B_ishl, B_ishr, B_i2c, B_dup, B_dup2, B_pop, B_goto, B_if_eq, B_if_ne, B_if_lt, B_if_ge, B_if_gt, B_if_le, B_ic_eq, B_ic_ne, B_ic_lt, B_ic_ge, B_ic_gt, B_ic_le, B_ifnullN, B_ifnull, B_ifnonnullN, B_ifnonnull, B_switch, B_ireturn, B_areturn, B_areturnN, B_return, B_getfield, B_putfield, B_iaload, B_ialoadS, B_caload, B_iastore, B_castore, B_aaload, B_aastore, B_alenS, B_alen, B_new, B_newarray, B_anewarray, B_iv0, B_iv1, B_iv2, B_iv3, B_iv4, B_iv6, B_obj, B_is0, B_is1, B_st1, B_st2, B_st3, B_copy, List.getElem?_cons_zero, List.getElem?_cons_succ, List.set_cons_zero, List.set_cons_succ, List.length_cons, List.length_nil, List.all_cons, List.all_nil, List.nil_append, List.cons_append, Option.toList_some, Option.toList_none, okv, kst_0, kst_1, pok_i, pok_z0, pok_z1, pok_o, pok_a, c0_0, c0_1, c1_0, c1_1, c1_2, c2_0, c2_1, c2_2, c2_3, c2_4, c2_5, c2_6, c2_7, c2_8, c2_9, c2_10, c3_0, c3_1, c3_2, c3_3, c3_4, c3_5, c3_6, c3_7, c3_8, c3_9, c3_10, c3_11, c3_12, c4_0, c4_1, c4_2, c4_3, c4_4, c5_0, c5_1, c5_2, c5_3, c5_4, c5_5, c6_0, c6_1, c6_2, c6_3, c6_4, c6_5, c7_0, c7_1, c7_2, c7_3, c7_4, c7_5, c7_6, c7_7, c7_8, c7_9, c7_10, c7_11, zok_int, zok_b0, zok_b1, aok_obj, Bool.and_true, Bool.and_self, true_and, and_true, Nat.reduceAdd, Nat.reduceLeDiff, Nat.reduceEqDiff, Nat.zero_le, Nat.reduceLT, Nat.reduceSub, Nat.reduceMul, ne_eq, not_false_eq_true, Nat.zero_add, Nat.add_zero, exists_eq', Sum.inr.injEq, Prod.mk.injEq, rfv_s, rfv_n, reduceCtorEq, not_true_eq_false, false_implies, true_implies, implies_true, ↓reduceIte, pk_divD, pg_up, th_up, ps_c, ts_c, pg_ps_s, pg_ps_n, th_ps, pg_ts, th_ts_s, th_ts_n, Nat.not_lt, Nat.not_le, Decidable.not_not, nI_add, pk_mul, nI_clamp, vi_t, ja_at, ja_up, nz_eq, nI_eq, nI_ltI, nI_leI, nI_lt0, nI_le0, nI_0lt, nI_0le, if_pos, if_neg, up_at, up_ne, pm_0, pm_1, pm_2, pm_3, pm_4, pm_5, pm_n, pm_s1, pm_s2, pm_s3, pm_s4, pm_s5, pm_z2, pm_z4, pm_z6, pm_z8, pm_z9, pm_z10, pm_z11, put_5]
  refine s149 (by omega) (by omega) (fun c1 c2 => ?_) (fun c => ?_)
  · simp (disch := omega) only [Option.toList_some, List.cons_append, List.nil_append]
    exact fin _ _ _ (f.1 c1 c2)
  · simp (disch := omega) only [Option.toList_some, List.cons_append, List.nil_append]
    exact fin _ _ _ (f.2 c)
end CL
