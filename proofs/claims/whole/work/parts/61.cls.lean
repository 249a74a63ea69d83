def pat (N N2 : Nat → Nat) (a c : Nat) : Nat → Nat := fun i => if a ≤ i ∧ i < c then N2 i else N i
theorem pat_out {N N2 : Nat → Nat} {a c i : Nat} (h : i < a ∨ c ≤ i) : pat N N2 a c i = N i := by
  unfold pat
  rw [if_neg (by omega)]
theorem pat_in {N N2 : Nat → Nat} {a c i : Nat} (h1 : a ≤ i) (h2 : i < c) : pat N N2 a c i = N2 i := by
  unfold pat
  rw [if_pos ⟨h1, h2⟩]
theorem pg_pat {N N2 : Nat → Nat} {a c p w : Nat} (h : 17 + 18 * p + w < a ∨ c ≤ 17 + 18 * p + w) : pg (pat N N2 a c) p w = pg N p w := pat_out h
theorem th_pat {N N2 : Nat → Nat} {a c t w : Nat} (h : 737 + 5 * t + w < a ∨ c ≤ 737 + 5 * t + w) : th (pat N N2 a c) t w = th N t w := pat_out h
theorem pat_0 {N N2 : Nat → Nat} {a : Nat} : pat N N2 a a = N := by
  funext i
  exact pat_out (by omega)
theorem pat_pat {N N2 : Nat → Nat} {a c d : Nat} (h1 : a ≤ c) (h2 : c ≤ d) : pat (pat N N2 a c) N2 c d = pat N N2 a d := by
  funext i
  by_cases e : a ≤ i ∧ i < d
  · rw [pat_in e.1 e.2]
    by_cases e2 : c ≤ i
    · rw [pat_in e2 e.2]
    · rw [pat_out (by omega), pat_in e.1 (by omega)]
  · rw [pat_out (i := i) (a := a) (c := d) (by omega), pat_out (by omega), pat_out (by omega)]
theorem va_cpy_ja {n : Nat} {f g : Nat → Nat} : va_cpy (ja n f) (ja n g) 0 0 n = ja n f := by
  funext i
  show (if 0 ≤ i ∧ i < 0 + n then ja n f (0 + (i - 0)) else ja n g i) = ja n f i
  by_cases e : i < n
  · rw [if_pos (by omega), show 0 + (i - 0) = i by omega]
  · rw [if_neg (by omega), ja, ja, if_neg e, if_neg e]
theorem agr_pat {N N2 : Nat → Nat} {a c o : Nat} (h : (o = 1 ∧ a = 0 ∧ c = 4) ∨ (o = 2 ∧ a = 4 ∧ c = 7) ∨ (∃ p, p < 40 ∧ o = 7 + 3 * p + 1 ∧ a = 17 + 18 * p + 10 ∧ c = 17 + 18 * p + 14) ∨ (∃ p, p < 40 ∧ o = 7 + 3 * p + 2 ∧ a = 17 + 18 * p + 14 ∧ c = 17 + 18 * p + 18)) : AGR (pat N N2 a c) N o := by
  have hac : (c ≤ 7 ∧ o < 3) ∨ (17 ≤ a ∧ c ≤ 737 ∧ 7 ≤ o) := by
    rcases h with h | h | ⟨p, h⟩ | ⟨p, h⟩ <;> omega
  refine ⟨fun _ => ⟨pat_out (by omega), pat_out (by omega), pat_out (by omega), pat_out (by omega), pat_out (by omega), pat_out (by omega)⟩, fun hn i hi => pat_out (by rcases h with h | h | ⟨p, h⟩ | ⟨p, h⟩ <;> omega), fun hn i hi => pat_out (by rcases h with h | h | ⟨p, h⟩ | ⟨p, h⟩ <;> omega), pat_out (by omega), fun j w hj hw => pat_out (by omega), fun q hq => ⟨fun hn w hw => pat_out ?_, fun hn i hi => pat_out ?_, fun hn i hi => pat_out ?_⟩, fun t ht hn w hw => pat_out (by omega)⟩
  · rcases h with h | h | ⟨p, h⟩ | ⟨p, h⟩ <;> omega
  · rcases h with h | h | ⟨p, h⟩ | ⟨p, h⟩ <;> omega
  · rcases h with h | h | ⟨p, h⟩ | ⟨p, h⟩ <;> omega
/-- another memory, at b2 -/
def ATM (h : AHp) (b2 : Nat) (N2 : Nat → Nat) (r2 : Nat) : Prop := ∀ o, o < 135 → h.2 (b2 + o) = cel b2 N2 r2 o
def DIS (b b2 : Nat) : Prop := b2 + 135 ≤ b ∨ b + 135 ≤ b2
section CF
variable {sc : SC} {h : AHp} {Q : PT} {b b2 r r2 : Nat} {N N2 : Nat → Nat}
theorem put_fc : hset (put h b N r) (b + 1) (.inl (0, 4, ja 4 N2)) = put h b (pat N N2 0 4) r := by
  refine agr_cel (o := 1) (by omega) (agr_pat (Or.inl ⟨rfl, rfl, rfl⟩)) ?_
  exact congrArg (fun f => (Sum.inl (0, 4, f) : ACell)) (ja_ext fun i hi => pat_in (by omega) (by omega))
theorem put_sc : hset (put h b N r) (b + 2) (.inl (0, 3, ja 3 (stg N2))) = put h b (pat N N2 4 7) r := by
  refine agr_cel (o := 2) (by omega) (agr_pat (Or.inr (Or.inl ⟨rfl, rfl, rfl⟩))) ?_
  exact congrArg (fun f => (Sum.inl (0, 3, f) : ACell)) (ja_ext fun i hi => pat_in (by omega) (by omega))
theorem put_cc {p : Nat} (hp : p < 40) : hset (put h b N r) (pa b p + 1) (.inl (0, 4, ja 4 (ctr N2 p))) = put h b (pat N N2 (17 + 18 * p + 10) (17 + 18 * p + 14)) r := by
  rw [show hset (put h b N r) (pa b p + 1) = hset (put h b N r) (b + (7 + 3 * p + 1)) by unfold pa; rw [show b + 7 + 3 * p + 1 = b + (7 + 3 * p + 1) by omega]]
  refine agr_cel (by omega) (agr_pat (Or.inr (Or.inr (Or.inl ⟨p, hp, rfl, rfl, rfl⟩)))) ?_
  rw [cel_p hp (by omega)]
  exact congrArg (fun f => (Sum.inl (0, 4, f) : ACell)) (ja_ext fun i hi => pat_in (by omega) (by omega))
theorem put_uc {p : Nat} (hp : p < 40) : hset (put h b N r) (pa b p + 2) (.inl (0, 4, ja 4 (use N2 p))) = put h b (pat N N2 (17 + 18 * p + 14) (17 + 18 * p + 18)) r := by
  rw [show hset (put h b N r) (pa b p + 2) = hset (put h b N r) (b + (7 + 3 * p + 2)) by unfold pa; rw [show b + 7 + 3 * p + 2 = b + (7 + 3 * p + 2) by omega]]
  refine agr_cel (by omega) (agr_pat (Or.inr (Or.inr (Or.inr ⟨p, hp, rfl, rfl, rfl⟩)))) ?_
  rw [cel_p hp (by omega)]
  exact congrArg (fun f => (Sum.inl (0, 4, f) : ACell)) (ja_ext fun i hi => pat_in (by omega) (by omega))
theorem otm (d : DIS b b2) (a : ATM h b2 N2 r2) (N : Nat → Nat) (r : Nat) : ATM (put h b N r) b2 N2 r2 := fun o ho => by
  unfold DIS at d
  rw [put_out (by omega)]
  exact a o ho
theorem atm_0 (a : ATM h b2 N2 r2) : h.2 b2 = .inr (.inr (2, [.ref (b2 + 1), .ref (b2 + 2), .ref (b2 + 3), .ref (b2 + 4), .ref (b2 + 5), .int (nI (N2 8)), .int (nI (N2 9)), .int (nI (N2 7)), .int (nI (N2 13)), .int (nI (N2 14)), .int (nI (N2 15))])) := a 0 (by omega)
theorem atm_1 (a : ATM h b2 N2 r2) : h.2 (b2 + 1) = .inl (0, 4, ja 4 N2) := a 1 (by omega)
theorem atm_2 (a : ATM h b2 N2 r2) : h.2 (b2 + 2) = .inl (0, 3, ja 3 (stg N2)) := a 2 (by omega)
theorem atm_3 (a : ATM h b2 N2 r2) : h.2 (b2 + 3) = .inr (.inl (3, 40, pgr b2)) := a 3 (by omega)
theorem atm_4 (a : ATM h b2 N2 r2) : h.2 (b2 + 4) = .inr (.inl (4, 8, rnr b2)) := a 4 (by omega)
theorem atm_5 (a : ATM h b2 N2 r2) : h.2 (b2 + 5) = .inr (.inr (1, [.ref (b2 + 6), .int (nI (N2 16)), .int (nI (nx N2 r2))])) := a 5 (by omega)
theorem atm_6 (a : ATM h b2 N2 r2) : h.2 (b2 + 6) = .inl (0, 40, ja 40 (pts N2 r2)) := a 6 (by omega)
theorem atm_p0 {p : Nat} (a : ATM h b2 N2 r2) (hp : p < 40) : h.2 (pa b2 p) = .inr (.inr (3, [.int (nI p), .ref (pa b2 p + 1), .ref (pa b2 p + 2), .int (nI (pg N2 p 0)), .int (nI (pg N2 p 1)), .int (nI (pg N2 p 7)), .int (nI (pg N2 p 4)), .int (nI (pg N2 p 5)), .int (nI (pg N2 p 2)), .int (nI (pg N2 p 3)), .int (nI (pg N2 p 9)), .int (nI (pg N2 p 8)), .int (nI (pg N2 p 6))])) := by
  show h.2 (pa b2 p) = pob b2 N2 p
  rw [show pa b2 p = b2 + (7 + 3 * p + 0) by unfold pa; omega, a _ (by omega), cel_p hp (by omega)]
  rfl
theorem atm_p1 {p : Nat} (a : ATM h b2 N2 r2) (hp : p < 40) : h.2 (pa b2 p + 1) = .inl (0, 4, ja 4 (ctr N2 p)) := by
  rw [show pa b2 p + 1 = b2 + (7 + 3 * p + 1) by unfold pa; omega, a _ (by omega), cel_p hp (by omega)]
  rfl
theorem atm_p2 {p : Nat} (a : ATM h b2 N2 r2) (hp : p < 40) : h.2 (pa b2 p + 2) = .inl (0, 4, ja 4 (use N2 p)) := by
  rw [show pa b2 p + 2 = b2 + (7 + 3 * p + 2) by unfold pa; omega, a _ (by omega), cel_p hp (by omega)]
  rfl
theorem atm_r {t : Nat} (a : ATM h b2 N2 r2) (ht : t < 8) : h.2 (ra b2 t) = .inr (.inr (4, [.int (nI (th N2 t 0)), .int (nI (th N2 t 1)), .int (nI (th N2 t 2)), .int (nI (th N2 t 3)), .int (nI (th N2 t 4))])) := by
  rw [show ra b2 t = b2 + (127 + t) by unfold ra; omega, a _ (by omega), cel_r ht]
  rfl
theorem s32 {p : Nat} (d : DIS b b2) (a : ATM h b2 N2 r2) (hp : p < 40) (k : Q none (put h b (pat N N2 (17 + 18 * p) (17 + 18 * p + 18)) r)) : RUN sc 32 [.ref (pa b p), .ref (pa b2 p)] (put h b N r) Q := by
  have o0 := fun N r => atm_p0 (otm d a N r) hp
  have o1 := fun N r => atm_p1 (otm d a N r) hp
  have o2 := fun N r => atm_p2 (otm d a N r) hp
  have n0 : nI 0 = 0 := rfl
  refine r32 ?_
  simp (disch := first | omega | simp (disch := omega) only [pg_up, th_up, ps_c, ts_c, pg_ps_s, pg_ps_n, th_ps, pg_ts, th_ts_s, th_ts_n, up_at, up_ne]) only [k32_0, o0, o1, o2, va_cpy_ja, put_cc, put_uc, Nat.le_refl, B_nil, B_iconst, B_bipush, B_sipush, B_ldc, B_null, B_iload_n, B_iload, B_aload_n, B_aload, B_istore_n, B_istore, B_astore_n, B_astore, B_astore_nN, B_astoreN, B_iinc, B_iadd, B_isub, B_imul, B_idiv, B_irem, B_ineg, B_iand, B_ior, B_ixor, B_ishl, B_ishr, B_i2c, B_dup, B_dup2, B_pop, B_goto, B_if_eq, B_if_ne, B_if_lt, B_if_ge, B_if_gt, B_if_le, B_ic_eq, B_ic_ne, B_ic_lt, B_ic_ge, B_ic_gt, B_ic_le, B_ifnullN, B_ifnull, B_ifnonnullN, B_ifnonnull, B_switch, B_ireturn, B_areturn, B_areturnN, B_return, B_getfield, B_putfield, B_iaload, B_ialoadS, B_caload, B_iastore, B_castore, B_aaload, B_aastore, B_alenS, B_alen, B_new, B_newarray, B_anewarray, B_iv0, B_iv1, B_iv2, B_iv3, B_iv4, B_iv6, B_obj, B_is0, B_is1, B_st1, B_st2, B_st3, B_copy, List.getElem?_cons_zero, List.getElem?_cons_succ, List.set_cons_zero, List.set_cons_succ, List.length_cons, List.length_nil, List.all_cons, List.all_nil, List.nil_append, List.cons_append, Option.toList_some, Option.toList_none, okv, kst_0, kst_1, pok_i, pok_z0, pok_z1, pok_o, pok_a, c0_0, c0_1, c1_0, c1_1, c1_2, c2_0, c2_1, c2_2, c2_3, c2_4, c2_5, c2_6, c2_7, c2_8, c2_9, c2_10, c3_0, c3_1, c3_2, c3_3, c3_4, c3_5, c3_6, c3_7, c3_8, c3_9, c3_10, c3_11, c3_12, c4_0, c4_1, c4_2, c4_3, c4_4, c5_0, c5_1, c5_2, c5_3, c5_4, c5_5, c6_0, c6_1, c6_2, c6_3, c6_4, c6_5, c7_0, c7_1, c7_2, c7_3, c7_4, c7_5, c7_6, c7_7, c7_8, c7_9, c7_10, c7_11, zok_int, zok_b0, zok_b1, aok_obj, Bool.and_true, Bool.and_self, true_and, and_true, Nat.reduceAdd, Nat.reduceLeDiff, Nat.reduceEqDiff, Nat.zero_le, Nat.reduceLT, Nat.reduceSub, Nat.reduceMul, ne_eq, not_false_eq_true, Nat.zero_add, Nat.add_zero, exists_eq', Sum.inr.injEq, Prod.mk.injEq, rfv_s, rfv_n, reduceCtorEq, not_true_eq_false, false_implies, true_implies, implies_true, ↓reduceIte, pk_divD, pg_up, th_up, ps_c, ts_c, pg_ps_s, pg_ps_n, th_ps, pg_ts, th_ts_s, th_ts_n, Nat.not_lt, Nat.not_le, Decidable.not_not, nI_add, pk_mul, nI_clamp, vi_t, ja_at, ja_up, nz_eq, nI_eq, nI_ltI, nI_leI, nI_lt0, nI_le0, nI_0lt, nI_0le, if_pos, if_neg, up_at, up_ne, nI_subL, true_or, or_true, false_or, or_false, put_0, put_1, put_2, put_3, put_4, put_5, put_6, put_p0, put_p1, put_p2, put_r, pgr_at, rnr_at, ctr_at, use_at, stg_0, stg_1, stg_2, put_c, put_u, put_f, put_s, put_w0, put_w1, put_w2, put_w3, put_w4, put_w5, put_w6, put_w7, put_w8, put_w9, put_t0, put_t1, put_t2, put_t3, put_t4, put_m7, put_m8, put_m9, put_m13, put_m14, put_m15]
  have e : SAM (pat N N2 (17 + 18 * p) (17 + 18 * p + 18)) (ps (ps (ps (ps (ps (ps (ps (ps (ps (ps (pat (pat N N2 (17 + 18 * p + 10) (17 + 18 * p + 14)) N2 (17 + 18 * p + 14) (17 + 18 * p + 18)) p 0 (pg N2 p 0)) p 1 (pg N2 p 1)) p 7 (pg N2 p 7)) p 4 (pg N2 p 4)) p 5 (pg N2 p 5)) p 2 (pg N2 p 2)) p 3 (pg N2 p 3)) p 9 (pg N2 p 9)) p 8 (pg N2 p 8)) p 6 (pg N2 p 6)) := by
    refine ⟨fun c hc _ _ _ => ?_, fun q w hq hw => ?_, fun t w ht hw => ?_, fun j w hj hw => ?_⟩
    · rw [ps_c hc, ps_c hc, ps_c hc, ps_c hc, ps_c hc, ps_c hc, ps_c hc, ps_c hc, ps_c hc, ps_c hc, pat_out (by omega), pat_out (by omega), pat_out (by omega)]
    · by_cases eq : q = p
      · subst eq
        have l : pg (pat N N2 (17 + 18 * q) (17 + 18 * q + 18)) q w = pg N2 q w := pat_in (by omega) (by omega)
        rw [l]
        by_cases h6 : w = 6
        · subst h6; rw [pg_ps_s]
        rw [pg_ps_n (by omega) (by omega) hw]
        by_cases h8 : w = 8
        · subst h8; rw [pg_ps_s]
        rw [pg_ps_n (by omega) (by omega) hw]
        by_cases h9 : w = 9
        · subst h9; rw [pg_ps_s]
        rw [pg_ps_n (by omega) (by omega) hw]
        by_cases h3 : w = 3
        · subst h3; rw [pg_ps_s]
        rw [pg_ps_n (by omega) (by omega) hw]
        by_cases h2 : w = 2
        · subst h2; rw [pg_ps_s]
        rw [pg_ps_n (by omega) (by omega) hw]
        by_cases h5 : w = 5
        · subst h5; rw [pg_ps_s]
        rw [pg_ps_n (by omega) (by omega) hw]
        by_cases h4 : w = 4
        · subst h4; rw [pg_ps_s]
        rw [pg_ps_n (by omega) (by omega) hw]
        by_cases h7 : w = 7
        · subst h7; rw [pg_ps_s]
        rw [pg_ps_n (by omega) (by omega) hw]
        by_cases h1 : w = 1
        · subst h1; rw [pg_ps_s]
        rw [pg_ps_n (by omega) (by omega) hw]
        by_cases h0 : w = 0
        · subst h0; rw [pg_ps_s]
        rw [pg_ps_n (by omega) (by omega) hw]
        by_cases h14 : w < 14
        · exact (show pg (pat (pat N N2 _ _) N2 (17 + 18 * q + 14) (17 + 18 * q + 18)) q w = pg N2 q w by
            rw [pg_pat (by omega)]
            exact pat_in (by omega) (by omega)).symm
        · exact (show pg (pat (pat N N2 _ _) N2 (17 + 18 * q + 14) (17 + 18 * q + 18)) q w = pg N2 q w from pat_in (by omega) (by omega)).symm
      · rw [pg_ps_n (by omega) (by omega) hw, pg_ps_n (by omega) (by omega) hw, pg_ps_n (by omega) (by omega) hw, pg_ps_n (by omega) (by omega) hw, pg_ps_n (by omega) (by omega) hw, pg_ps_n (by omega) (by omega) hw, pg_ps_n (by omega) (by omega) hw, pg_ps_n (by omega) (by omega) hw, pg_ps_n (by omega) (by omega) hw, pg_ps_n (by omega) (by omega) hw, pg_pat (by omega), pg_pat (by omega), pg_pat (by omega)]
    · rw [th_ps hp (by omega), th_ps hp (by omega), th_ps hp (by omega), th_ps hp (by omega), th_ps hp (by omega), th_ps hp (by omega), th_ps hp (by omega), th_ps hp (by omega), th_ps hp (by omega), th_ps hp (by omega), th_pat (by omega), th_pat (by omega), th_pat (by omega)]
    · rw [ev_ps hp (by omega), ev_ps hp (by omega), ev_ps hp (by omega), ev_ps hp (by omega), ev_ps hp (by omega), ev_ps hp (by omega), ev_ps hp (by omega), ev_ps hp (by omega), ev_ps hp (by omega), ev_ps hp (by omega)]
      unfold ev
      rw [pat_out (by omega), pat_out (by omega), pat_out (by omega)]
  rw [put_ext e] at k
  exact k
theorem s47 {t : Nat} (d : DIS b b2) (a : ATM h b2 N2 r2) (ht : t < 8) (k : Q none (put h b (pat N N2 (737 + 5 * t) (737 + 5 * t + 5)) r)) : RUN sc 47 [.ref (ra b t), .ref (ra b2 t)] (put h b N r) Q := by
  have o0 := fun N r => atm_r (otm d a N r) ht
  refine r47 ?_
  simp (disch := first | omega | simp (disch := omega) only [pg_up, th_up, ps_c, ts_c, pg_ps_s, pg_ps_n, th_ps, pg_ts, th_ts_s, th_ts_n, up_at, up_ne]) only [k47_0, o0, B_nil, B_iconst, B_bipush, B_sipush, B_ldc, B_null, B_iload_n, B_iload, B_aload_n, B_aload, B_istore_n, B_istore, B_astore_n, B_astore, B_astore_nN, B_astoreN, B_iinc, B_iadd, B_isub, B_imul, B_idiv, B_irem, B_ineg, B_iand, B_ior, B_ixor, B_ishl, B_ishr, B_i2c, B_dup, B_dup2, B_pop, B_goto, B_if_eq, B_if_ne, B_if_lt, B_if_ge, B_if_gt, B_if_le, B_ic_eq, B_ic_ne, B_ic_lt, B_ic_ge, B_ic_gt, B_ic_le, B_ifnullN, B_ifnull, B_ifnonnullN, B_ifnonnull, B_switch, B_ireturn, B_areturn, B_areturnN, B_return, B_getfield, B_putfield, B_iaload, B_ialoadS, B_caload, B_iastore, B_castore, B_aaload, B_aastore, B_alenS, B_alen, B_new, B_newarray, B_anewarray, B_iv0, B_iv1, B_iv2, B_iv3, B_iv4, B_iv6, B_obj, B_is0, B_is1, B_st1, B_st2, B_st3, B_copy, List.getElem?_cons_zero, List.getElem?_cons_succ, List.set_cons_zero, List.set_cons_succ, List.length_cons, List.length_nil, List.all_cons, List.all_nil, List.nil_append, List.cons_append, Option.toList_some, Option.toList_none, okv, kst_0, kst_1, pok_i, pok_z0, pok_z1, pok_o, pok_a, c0_0, c0_1, c1_0, c1_1, c1_2, c2_0, c2_1, c2_2, c2_3, c2_4, c2_5, c2_6, c2_7, c2_8, c2_9, c2_10, c3_0, c3_1, c3_2, c3_3, c3_4, c3_5, c3_6, c3_7, c3_8, c3_9, c3_10, c3_11, c3_12, c4_0, c4_1, c4_2, c4_3, c4_4, c5_0, c5_1, c5_2, c5_3, c5_4, c5_5, c6_0, c6_1, c6_2, c6_3, c6_4, c6_5, c7_0, c7_1, c7_2, c7_3, c7_4, c7_5, c7_6, c7_7, c7_8, c7_9, c7_10, c7_11, zok_int, zok_b0, zok_b1, aok_obj, Bool.and_true, Bool.and_self, true_and, and_true, Nat.reduceAdd, Nat.reduceLeDiff, Nat.reduceEqDiff, Nat.zero_le, Nat.reduceLT, Nat.reduceSub, Nat.reduceMul, ne_eq, not_false_eq_true, Nat.zero_add, Nat.add_zero, exists_eq', Sum.inr.injEq, Prod.mk.injEq, rfv_s, rfv_n, reduceCtorEq, not_true_eq_false, false_implies, true_implies, implies_true, ↓reduceIte, pk_divD, pg_up, th_up, ps_c, ts_c, pg_ps_s, pg_ps_n, th_ps, pg_ts, th_ts_s, th_ts_n, Nat.not_lt, Nat.not_le, Decidable.not_not, nI_add, pk_mul, nI_clamp, vi_t, ja_at, ja_up, nz_eq, nI_eq, nI_ltI, nI_leI, nI_lt0, nI_le0, nI_0lt, nI_0le, if_pos, if_neg, up_at, up_ne, nI_subL, true_or, or_true, false_or, or_false, put_0, put_1, put_2, put_3, put_4, put_5, put_6, put_p0, put_p1, put_p2, put_r, pgr_at, rnr_at, ctr_at, use_at, stg_0, stg_1, stg_2, put_c, put_u, put_f, put_s, put_w0, put_w1, put_w2, put_w3, put_w4, put_w5, put_w6, put_w7, put_w8, put_w9, put_t0, put_t1, put_t2, put_t3, put_t4, put_m7, put_m8, put_m9, put_m13, put_m14, put_m15]
  have e : SAM (pat N N2 (737 + 5 * t) (737 + 5 * t + 5)) (ts (ts (ts (ts (ts N t 0 (th N2 t 0)) t 1 (th N2 t 1)) t 2 (th N2 t 2)) t 3 (th N2 t 3)) t 4 (th N2 t 4)) := by
    refine ⟨fun c hc _ _ _ => ?_, fun q w hq hw => ?_, fun s w hs hw => ?_, fun j w hj hw => ?_⟩
    · rw [ts_c (by omega), ts_c (by omega), ts_c (by omega), ts_c (by omega), ts_c (by omega), pat_out (by omega)]
    · rw [pg_ts hq hw, pg_ts hq hw, pg_ts hq hw, pg_ts hq hw, pg_ts hq hw, pg_pat (by omega)]
    · by_cases eq : s = t
      · subst eq
        have l : th (pat N N2 (737 + 5 * s) (737 + 5 * s + 5)) s w = th N2 s w := pat_in (by omega) (by omega)
        rw [l]
        by_cases h4 : w = 4
        · subst h4; rw [th_ts_s]
        rw [th_ts_n (by omega) (by omega) hw]
        by_cases h3 : w = 3
        · subst h3; rw [th_ts_s]
        rw [th_ts_n (by omega) (by omega) hw]
        by_cases h2 : w = 2
        · subst h2; rw [th_ts_s]
        rw [th_ts_n (by omega) (by omega) hw]
        by_cases h1 : w = 1
        · subst h1; rw [th_ts_s]
        rw [th_ts_n (by omega) (by omega) hw, show w = 0 by omega, th_ts_s]
      · rw [th_ts_n (by omega) (by omega) hw, th_ts_n (by omega) (by omega) hw, th_ts_n (by omega) (by omega) hw, th_ts_n (by omega) (by omega) hw, th_ts_n (by omega) (by omega) hw, th_pat (by omega)]
    · rw [ev_ts ht (by omega), ev_ts ht (by omega), ev_ts ht (by omega), ev_ts ht (by omega), ev_ts ht (by omega)]
      unfold ev
      rw [pat_out (by omega)]
  rw [put_ext e] at k
  exact k
end CF
