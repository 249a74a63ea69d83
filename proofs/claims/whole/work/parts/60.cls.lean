/-- the class drops the copies of a page that is written -/
def dps (N : Nat → Nat) (p : Nat) : Nat → (Nat → Nat)
  | 0 => N
  | n + 1 => if bit (pg (dps N p n) p 1) n = 1 then drp (dps N p n) 3 p n else dps N p n
theorem drp3 {N : Nat → Nat} {p n : Nat} : drp N 3 p n = tel (ps N p 1 (clr (pg N p 1) n)) 3 p n := by
  unfold drp
  rw [up_id (by rw [ps_c (by omega)]; rfl)]
theorem drp3_c {N : Nat → Nat} {p n c : Nat} (o : N 16 ≤ 10) (hc : c < 17) (h16 : c ≠ 16) : drp N 3 p n c = N c := by
  rw [drp3, tel_c (by omega) h16 (by rw [ps_c (by omega)]; exact o), ps_c hc]
theorem lge_ts {A : Nat → Nat} {t w v : Nat} (ht : t < 8) (hw : w < 5) : LGE (ts A t w v) A := ⟨ts_c (by omega), ts_c (by omega), fun j x _ _ => ev_ts ht hw⟩
theorem lge_pay {A : Nat → Nat} {t p c hp : Nat} (ht : t < 8) (hpp : p < 40) : LGE (pay A t p c hp) A :=
  (lge_up (by omega) (by omega)).trans ((lge_up (by omega) (by omega)).trans ((lge_ps hpp (by omega)).trans ((lge_ts ht (by omega)).trans (lge_ts ht (by omega)))))
theorem lge_drp3 {A C : Nat → Nat} {p n : Nat} (e : LGE A C) (hp : p < 40) (h16 : A 16 ≤ 10) : LGE (drp A 3 p n) (drp C 3 p n) := by
  rw [drp3, drp3]
  exact lge_tel (((lge_ps hp (by omega)).trans e).trans (lge_ps hp (by omega)).symm) (by rw [ps_c (by omega)]; exact h16)
/-- how the class's row D and the model's row M stand while copies go -/
def JW (N A D M : Nat → Nat) (t p a H n S : Nat) : Prop :=
  (WF D) ∧
  (WF M) ∧
  (∀ c, c < 17 → c ≠ 10 → c ≠ 11 → c ≠ 12 → c ≠ 16 → D c = M c) ∧
  (M 5 = A 5) ∧
  (LGE D M) ∧
  (∀ q w, q < 40 → w < 18 → ¬ (q = p ∧ (w = 3 ∨ w = 4 ∨ w = 7)) → pg D q w = pg M q w) ∧
  (pg D p 3 = pg A p 2) ∧
  (pg D p 4 = pg A p 4 + 1) ∧
  (pg M p 2 = pg A p 2) ∧
  (pg M p 4 = pg A p 4) ∧
  (pg D p 7 = pg A p 7 + (a + H)) ∧
  (pg M p 7 = pg A p 7 + (a + hcs N p n)) ∧
  (∀ s w, s < 8 → w < 5 → ¬ (s = t ∧ (w = 1 ∨ w = 2 ∨ w = 4)) → th D s w = th M s w) ∧
  (th D t 4 = th A t 4 + 1) ∧
  (th M t 4 = th A t 4) ∧
  (th D t 1 = th A t 1 + (1 + (a + H) * A 5)) ∧
  (th M t 1 = th A t 1 + (1 + (a + hcs N p n) * A 5)) ∧
  (th D t 2 = th A t 2 + (a + H)) ∧
  (th M t 2 = th A t 2 + (a + hcs N p n)) ∧
  (∀ g, n ≤ g → g < 4 → bit (pg M p 1) g = bit (pg N p 1) g) ∧
  (S = hcs N p n * A 5)
section JWS
variable {N A D M : Nat → Nat} {t p a H n S : Nat}
theorem JW.wd (j : JW N A D M t p a H n S) : WF D := j.1
theorem JW.wm (j : JW N A D M t p a H n S) : WF M := j.2.1
theorem JW.c0 (j : JW N A D M t p a H n S) : ∀ c, c < 17 → c ≠ 10 → c ≠ 11 → c ≠ 12 → c ≠ 16 → D c = M c := j.2.2.1
theorem JW.c5 (j : JW N A D M t p a H n S) : M 5 = A 5 := j.2.2.2.1
theorem JW.lg (j : JW N A D M t p a H n S) : LGE D M := j.2.2.2.2.1
theorem JW.pp (j : JW N A D M t p a H n S) : ∀ q w, q < 40 → w < 18 → ¬ (q = p ∧ (w = 3 ∨ w = 4 ∨ w = 7)) → pg D q w = pg M q w := j.2.2.2.2.2.1
theorem JW.d3 (j : JW N A D M t p a H n S) : pg D p 3 = pg A p 2 := j.2.2.2.2.2.2.1
theorem JW.d4 (j : JW N A D M t p a H n S) : pg D p 4 = pg A p 4 + 1 := j.2.2.2.2.2.2.2.1
theorem JW.m2 (j : JW N A D M t p a H n S) : pg M p 2 = pg A p 2 := j.2.2.2.2.2.2.2.2.1
theorem JW.m4 (j : JW N A D M t p a H n S) : pg M p 4 = pg A p 4 := j.2.2.2.2.2.2.2.2.2.1
theorem JW.d7 (j : JW N A D M t p a H n S) : pg D p 7 = pg A p 7 + (a + H) := j.2.2.2.2.2.2.2.2.2.2.1
theorem JW.m7 (j : JW N A D M t p a H n S) : pg M p 7 = pg A p 7 + (a + hcs N p n) := j.2.2.2.2.2.2.2.2.2.2.2.1
theorem JW.tt (j : JW N A D M t p a H n S) : ∀ s w, s < 8 → w < 5 → ¬ (s = t ∧ (w = 1 ∨ w = 2 ∨ w = 4)) → th D s w = th M s w := j.2.2.2.2.2.2.2.2.2.2.2.2.1
theorem JW.t4 (j : JW N A D M t p a H n S) : th D t 4 = th A t 4 + 1 := j.2.2.2.2.2.2.2.2.2.2.2.2.2.1
theorem JW.u4 (j : JW N A D M t p a H n S) : th M t 4 = th A t 4 := j.2.2.2.2.2.2.2.2.2.2.2.2.2.2.1
theorem JW.t1 (j : JW N A D M t p a H n S) : th D t 1 = th A t 1 + (1 + (a + H) * A 5) := j.2.2.2.2.2.2.2.2.2.2.2.2.2.2.2.1
theorem JW.u1 (j : JW N A D M t p a H n S) : th M t 1 = th A t 1 + (1 + (a + hcs N p n) * A 5) := j.2.2.2.2.2.2.2.2.2.2.2.2.2.2.2.2.1
theorem JW.t2 (j : JW N A D M t p a H n S) : th D t 2 = th A t 2 + (a + H) := j.2.2.2.2.2.2.2.2.2.2.2.2.2.2.2.2.2.1
theorem JW.u2 (j : JW N A D M t p a H n S) : th M t 2 = th A t 2 + (a + hcs N p n) := j.2.2.2.2.2.2.2.2.2.2.2.2.2.2.2.2.2.2.1
theorem JW.bb (j : JW N A D M t p a H n S) : ∀ g, n ≤ g → g < 4 → bit (pg M p 1) g = bit (pg N p 1) g := j.2.2.2.2.2.2.2.2.2.2.2.2.2.2.2.2.2.2.2.1
theorem JW.ss (j : JW N A D M t p a H n S) : S = hcs N p n * A 5 := j.2.2.2.2.2.2.2.2.2.2.2.2.2.2.2.2.2.2.2.2
end JWS
theorem jw_step {N A D M : Nat → Nat} {t p a H n S : Nat} (j : JW N A D M t p a H n S) (ht : t < 8) (hp : p < 40) (hn : n < 4) (h0 : pg N p 0 < 4) :
    JW N A (if bit (pg D p 1) n = 1 then drp D 3 p n else D) (if bit (pg M p 1) n = 1 then drp (pay M t p 0 (apt (pg N p 0) n)) 3 p n else M) t p a H (n + 1) (if bit (pg M p 1) n = 1 then S + (0 + apt (pg N p 0) n * M 5) else S) := by
  have e1 : pg D p 1 = pg M p 1 := j.pp p 1 hp (by omega) (by omega)
  have hb := j.bb n (Nat.le_refl _) hn
  have hs : hcs N p (n + 1) = hcs N p n + (if bit (pg N p 1) n = 1 then apt (pg N p 0) n else 0) := rfl
  rw [e1]
  by_cases c : bit (pg M p 1) n = 1
  · rw [if_pos c, if_pos c, if_pos c]
    rw [if_pos (by rw [← hb]; exact c)] at hs
    have wp : WF (pay M t p 0 (apt (pg N p 0) n)) := WF_pay j.wm ht hp
    have pp1 : ∀ q w, q < 40 → w < 18 → ¬ (q = p ∧ w = 7) → pg (pay M t p 0 (apt (pg N p 0) n)) q w = pg M q w := fun q w hq hw hn => by
      unfold pay
      rw [pg_up (by omega), pg_up (by omega), pg_ps_n (by omega) (by omega) hw, pg_ts hq hw, pg_ts hq hw]
    have pt : ∀ s w, s < 8 → w < 5 → ¬ (s = t ∧ (w = 1 ∨ w = 2)) → th (pay M t p 0 (apt (pg N p 0) n)) s w = th M s w := fun s w hs hw hn => by
      unfold pay
      rw [th_up (by omega), th_up (by omega), th_ps hp (by omega), th_ts_n (by omega) (by omega) hw, th_ts_n (by omega) (by omega) hw]
    have pc : ∀ c, c < 17 → c ≠ 10 → c ≠ 11 → pay M t p 0 (apt (pg N p 0) n) c = M c := fun c hc h10 h11 => by
      unfold pay
      rw [up_ne (by omega), up_ne (by omega), ps_c (by omega), ts_c (by omega), ts_c (by omega)]
    have q7 : pg (pay M t p 0 (apt (pg N p 0) n)) p 7 = pg M p 7 + apt (pg N p 0) n := by
      unfold pay
      rw [pg_up (by omega), pg_up (by omega), pg_ps_s]
    have q1 : th (pay M t p 0 (apt (pg N p 0) n)) t 1 = th M t 1 + (0 + apt (pg N p 0) n * M 5) := by
      unfold pay
      rw [th_up (by omega), th_up (by omega), th_ps hp (by omega), th_ts_n (by omega) (by omega) (by omega), th_ts_s]
    have q2 : th (pay M t p 0 (apt (pg N p 0) n)) t 2 = th M t 2 + apt (pg N p 0) n := by
      unfold pay
      rw [th_up (by omega), th_up (by omega), th_ps hp (by omega), th_ts_s]
    have qq1 : pg (pay M t p 0 (apt (pg N p 0) n)) p 1 = pg M p 1 := pp1 p 1 hp (by omega) (by omega)
    have lp := lge_pay (A := M) (c := 0) (hp := apt (pg N p 0) n) ht hp
    generalize pay M t p 0 (apt (pg N p 0) n) = K at *
    have dd : ∀ q w, q < 40 → w < 18 → pg (drp D 3 p n) q w = if q = p ∧ w = 1 then clr (pg D p 1) n else pg D q w := fun q w hq hw => pg_drp j.wd.e hp hq hw
    have kk : ∀ q w, q < 40 → w < 18 → pg (drp K 3 p n) q w = if q = p ∧ w = 1 then clr (pg K p 1) n else pg K q w := fun q w hq hw => pg_drp wp.e hp hq hw
    refine ⟨WF_drp j.wd hp hn, WF_drp wp hp hn, fun c h1 h2 h3 h4 h5 => ?_, ?_, ?_, fun q w hq hw hne => ?_, ?_, ?_, ?_, ?_, ?_, ?_, fun s w hs hw hne => ?_, ?_, ?_, ?_, ?_, ?_, ?_, fun g hg hg4 => ?_, ?_⟩
    · rw [drp3_c j.wd.e h1 h5, drp3_c wp.e h1 h5, pc c h1 h2 h3, j.c0 c h1 h2 h3 h4 h5]
    · rw [drp3_c wp.e (by omega) (by omega), pc 5 (by omega) (by omega) (by omega), j.c5]
    · exact lge_drp3 (j.lg.trans lp.symm) hp j.wd.e
    · rw [dd q w hq hw, kk q w hq hw]
      by_cases e : q = p ∧ w = 1
      · rw [if_pos e, if_pos e, e1, qq1]
      · rw [if_neg e, if_neg e, pp1 q w hq hw (by omega), j.pp q w hq hw hne]
    · rw [dd p 3 hp (by omega), if_neg (by omega), j.d3]
    · rw [dd p 4 hp (by omega), if_neg (by omega), j.d4]
    · rw [kk p 2 hp (by omega), if_neg (by omega), pp1 p 2 hp (by omega) (by omega), j.m2]
    · rw [kk p 4 hp (by omega), if_neg (by omega), pp1 p 4 hp (by omega) (by omega), j.m4]
    · rw [dd p 7 hp (by omega), if_neg (by omega), j.d7]
    · rw [kk p 7 hp (by omega), if_neg (by omega), q7, j.m7, hs]
      omega
    · rw [th_drp j.wd.e hp hs hw, th_drp wp.e hp hs hw, pt s w hs hw (by omega), j.tt s w hs hw hne]
    · rw [th_drp j.wd.e hp ht (by omega), j.t4]
    · rw [th_drp wp.e hp ht (by omega), pt t 4 ht (by omega) (by omega), j.u4]
    · rw [th_drp j.wd.e hp ht (by omega), j.t1]
    · rw [th_drp wp.e hp ht (by omega), q1, j.u1, hs, j.c5, ← Nat.add_assoc a, Nat.add_mul (a + hcs N p n)]
      omega
    · rw [th_drp j.wd.e hp ht (by omega), j.t2]
    · rw [th_drp wp.e hp ht (by omega), q2, j.u2, hs]
      omega
    · rw [kk p 1 hp (by omega), if_pos ⟨rfl, rfl⟩, qq1, ((bits_5 (j.wm.c hp) hn).2.2 g hg4).1, if_neg (by omega), j.bb g (by omega) hg4]
    · rw [hs, j.c5, j.ss, Nat.add_mul]
      omega
  · rw [if_neg c, if_neg c, if_neg c]
    rw [if_neg (by rw [← hb]; exact c), Nat.add_zero] at hs
    exact ⟨j.wd, j.wm, j.c0, j.c5, j.lg, j.pp, j.d3, j.d4, j.m2, j.m4, j.d7, by rw [hs]; exact j.m7, j.tt, j.t4, j.u4, j.t1, by rw [hs]; exact j.u1, j.t2, by rw [hs]; exact j.u2, fun g hg hg4 => j.bb g (by omega) hg4, by rw [hs]; exact j.ss⟩
theorem jw_all {N A D M : Nat → Nat} {t p a H : Nat} (j : JW N A D M t p a H 0 0) (ht : t < 8) (hp : p < 40) (h0 : pg N p 0 < 4) : ∀ n, n ≤ 4 → JW N A (dps D p n) (wrl M t p (pg N p 0) n).2 t p a H n (wrl M t p (pg N p 0) n).1
  | 0, _ => j
  | n + 1, hn => by
    have s := jw_step (jw_all j ht hp h0 n (by omega)) ht hp (by omega) h0
    unfold dps wrl
    by_cases c : bit (pg (wrl M t p (pg N p 0) n).2 p 1) n = 1
    · rw [if_pos c, if_pos c] at s
      rw [if_pos c]
      exact s
    · rw [if_neg c, if_neg c] at s
      rw [if_neg c]
      exact s
/-- all copies gone: alike -/
theorem jw_end {N A D M : Nat → Nat} {t p a S : Nat} (j : JW N A D M t p a (hcs N p 4) 4 S) (ht : t < 8) (hp : p < 40) : SAM D (acW2 M t p) := by
  unfold acW2
  refine ⟨fun c h1 h2 h3 h4 => ?_, fun q w hq hw => ?_, fun s w hs hw => ?_, fun x w hx hw => ?_⟩
  · rw [ts_c (by omega), ps_c h1, ps_c h1]
    by_cases e : c = 16
    · subst e; exact j.lg.1
    · exact j.c0 c h1 h2 h3 h4 e
  · rw [pg_ts hq hw]
    by_cases e : q = p
    · subst e
      by_cases e4 : w = 4
      · subst e4; rw [pg_ps_s, j.d4, j.m4]
      · rw [pg_ps_n (by omega) (by omega) hw]
        by_cases e3 : w = 3
        · subst e3; rw [pg_ps_s, j.d3, j.m2]
        · rw [pg_ps_n (by omega) (by omega) hw]
          by_cases e7 : w = 7
          · subst e7; rw [j.d7, j.m7]
          · exact j.pp q w hq hw (by omega)
    · rw [pg_ps_n (by omega) (by omega) hw, pg_ps_n (by omega) (by omega) hw]
      exact j.pp q w hq hw (by omega)
  · by_cases e : s = t
    · subst e
      by_cases e4 : w = 4
      · subst e4; rw [th_ts_s, j.t4, j.u4]
      · rw [th_ts_n (by omega) (by omega) hw, th_ps hp (by omega), th_ps hp (by omega)]
        by_cases e1 : w = 1
        · subst e1; rw [j.t1, j.u1]
        · by_cases e2 : w = 2
          · subst e2; rw [j.t2, j.u2]
          · exact j.tt s w hs hw (by omega)
    · rw [th_ts_n (by omega) (by omega) hw, th_ps hp (by omega), th_ps hp (by omega)]
      exact j.tt s w hs hw (by omega)
  · rw [ev_ts ht (by omega), ev_ps hp (by omega), ev_ps hp (by omega)]
    exact j.lg.2.2 x w hx hw
section CQ
variable {sc : SC} {h : AHp} {Q : PT} {b : Nat}
theorem l13 {t p : Nat} {Y : Nat → Nat} {q3 q4 : Value} (hp : p < 40) (wf : ∀ n, n ≤ 4 → WF (dps Y p n)) (k : ∀ r' u v q5, RO (dps Y p 4) r' → E sc 13 3 u v [.ref b, .ref (ra b t), .ref (pa b p), q3, q4, q5] [] (put h b (dps Y p 4) r') Q) : ∀ d i r u v, i + d = 4 → RO (dps Y p i) r → E sc 13 1 u v [.ref b, .ref (ra b t), .ref (pa b p), q3, q4, .int (nI i)] [] (put h b (dps Y p i) r) Q
  | 0, i, r, u, v, hi, ro => by
    have hi : i = 4 := hi
    subst hi
    refine e13_1 ?_
    simp (disch := first | omega | simp (disch := omega) only [pg_up, th_up, ps_c, ts_c, pg_ps_s, pg_ps_n, th_ps, pg_ts, th_ts_s, th_ts_n, up_at, up_ne]) only [k13_1, B_nil, B_iconst, B_bipush, B_sipush, B_ldc, B_null, B_iload_n, B_iload, B_aload_n, B_aload, B_istore_n, B_istore, B_astore_n, B_astore, B_astore_nN, B_astoreN, B_iinc, B_iadd, B_isub, B_imul, B_idiv, B_irem, B_ineg, B_iand, B_ior, B_ixor, B_ishl, B_ishr, B_i2c, B_dup, B_dup2, B_pop, B_goto, B_if_eq, B_if_ne, B_if_lt, B_if_ge, B_if_gt, B_if_le, B_ic_eq, B_ic_ne, B_ic_lt, B_ic_ge, B_ic_gt, B_ic_le, B_ifnullN, B_ifnull, B_ifnonnullN, B_ifnonnull, B_switch, B_ireturn, B_areturn, B_areturnN, B_return, B_getfield, B_putfield, B_iaload, B_ialoadS, B_caload, B_iastore, B_castore, B_aaload, B_aastore, B_alenS, B_alen, B_new, B_newarray, B_anewarray, B_iv0, B_iv1, B_iv2, B_iv3, B_iv4, B_iv6, B_obj, B_is0, B_is1, B_st1, B_st2, B_st3, B_copy, List.getElem?_cons_zero, List.getElem?_cons_succ, List.set_cons_zero, List.set_cons_succ, List.length_cons, List.length_nil, List.all_cons, List.all_nil, List.nil_append, List.cons_append, Option.toList_some, Option.toList_none, okv, kst_0, kst_1, pok_i, pok_z0, pok_z1, pok_o, pok_a, c0_0, c0_1, c1_0, c1_1, c1_2, c2_0, c2_1, c2_2, c2_3, c2_4, c2_5, c2_6, c2_7, c2_8, c2_9, c2_10, c3_0, c3_1, c3_2, c3_3, c3_4, c3_5, c3_6, c3_7, c3_8, c3_9, c3_10, c3_11, c3_12, c4_0, c4_1, c4_2, c4_3, c4_4, c5_0, c5_1, c5_2, c5_3, c5_4, c5_5, c6_0, c6_1, c6_2, c6_3, c6_4, c6_5, c7_0, c7_1, c7_2, c7_3, c7_4, c7_5, c7_6, c7_7, c7_8, c7_9, c7_10, c7_11, zok_int, zok_b0, zok_b1, aok_obj, Bool.and_true, Bool.and_self, true_and, and_true, Nat.reduceAdd, Nat.reduceLeDiff, Nat.reduceEqDiff, Nat.zero_le, Nat.reduceLT, Nat.reduceSub, Nat.reduceMul, ne_eq, not_false_eq_true, Nat.zero_add, Nat.add_zero, exists_eq', Sum.inr.injEq, Prod.mk.injEq, rfv_s, rfv_n, reduceCtorEq, not_true_eq_false, false_implies, true_implies, implies_true, ↓reduceIte, pk_divD, pg_up, th_up, ps_c, ts_c, pg_ps_s, pg_ps_n, th_ps, pg_ts, th_ts_s, th_ts_n, Nat.not_lt, Nat.not_le, Decidable.not_not, nI_add, pk_mul, nI_clamp, vi_t, ja_at, ja_up, nz_eq, nI_eq, nI_ltI, nI_leI, nI_lt0, nI_le0, nI_0lt, nI_0le, if_pos, if_neg, up_at, up_ne, nI_subL, true_or, or_true, false_or, or_false, put_0, put_1, put_2, put_3, put_4, put_5, put_6, put_p0, put_p1, put_p2, put_r, pgr_at, rnr_at, ctr_at, use_at, stg_0, stg_1, stg_2, put_c, put_u, put_f, put_s, put_w0, put_w1, put_w2, put_w3, put_w4, put_w5, put_w6, put_w7, put_w8, put_w9, put_t0, put_t1, put_t2, put_t3, put_t4, put_m7, put_m8, put_m9, put_m13, put_m14, put_m15]
    exact k r _ _ _ ro
  | d + 1, i, r, u, v, hi, ro => by
    have w := wf i (by omega)
    have hb := @bit_lt (pg (dps Y p i) p 1) i
    have next : ∀ r' u v, RO (dps Y p (i + 1)) r' → E sc 13 2 u v [.ref b, .ref (ra b t), .ref (pa b p), q3, q4, .int (nI i)] [] (put h b (dps Y p (i + 1)) r') Q := fun r' u v hr' => by
      refine e13_2 ?_
      simp (disch := first | omega | simp (disch := omega) only [pg_up, th_up, ps_c, ts_c, pg_ps_s, pg_ps_n, th_ps, pg_ts, th_ts_s, th_ts_n, up_at, up_ne]) only [k13_2, B_nil, B_iconst, B_bipush, B_sipush, B_ldc, B_null, B_iload_n, B_iload, B_aload_n, B_aload, B_istore_n, B_istore, B_astore_n, B_astore, B_astore_nN, B_astoreN, B_iinc, B_iadd, B_isub, B_imul, B_idiv, B_irem, B_ineg, B_iand, B_ior, B_ixor, B_ishl, B_ishr, B_i2c, B_dup, B_dup2, B_pop, B_goto, B_if_eq, B_if_ne, B_if_lt, B_if_ge, B_if_gt, B_if_le, B_ic_eq, B_ic_ne, B_ic_lt, B_ic_ge, B_ic_gt, B_ic_le, B_ifnullN, B_ifnull, B_ifnonnullN, B_ifnonnull, B_switch, B_ireturn, B_areturn, B_areturnN, B_return, B_getfield, B_putfield, B_iaload, B_ialoadS, B_caload, B_iastore, B_castore, B_aaload, B_aastore, B_alenS, B_alen, B_new, B_newarray, B_anewarray, B_iv0, B_iv1, B_iv2, B_iv3, B_iv4, B_iv6, B_obj, B_is0, B_is1, B_st1, B_st2, B_st3, B_copy, List.getElem?_cons_zero, List.getElem?_cons_succ, List.set_cons_zero, List.set_cons_succ, List.length_cons, List.length_nil, List.all_cons, List.all_nil, List.nil_append, List.cons_append, Option.toList_some, Option.toList_none, okv, kst_0, kst_1, pok_i, pok_z0, pok_z1, pok_o, pok_a, c0_0, c0_1, c1_0, c1_1, c1_2, c2_0, c2_1, c2_2, c2_3, c2_4, c2_5, c2_6, c2_7, c2_8, c2_9, c2_10, c3_0, c3_1, c3_2, c3_3, c3_4, c3_5, c3_6, c3_7, c3_8, c3_9, c3_10, c3_11, c3_12, c4_0, c4_1, c4_2, c4_3, c4_4, c5_0, c5_1, c5_2, c5_3, c5_4, c5_5, c6_0, c6_1, c6_2, c6_3, c6_4, c6_5, c7_0, c7_1, c7_2, c7_3, c7_4, c7_5, c7_6, c7_7, c7_8, c7_9, c7_10, c7_11, zok_int, zok_b0, zok_b1, aok_obj, Bool.and_true, Bool.and_self, true_and, and_true, Nat.reduceAdd, Nat.reduceLeDiff, Nat.reduceEqDiff, Nat.zero_le, Nat.reduceLT, Nat.reduceSub, Nat.reduceMul, ne_eq, not_false_eq_true, Nat.zero_add, Nat.add_zero, exists_eq', Sum.inr.injEq, Prod.mk.injEq, rfv_s, rfv_n, reduceCtorEq, not_true_eq_false, false_implies, true_implies, implies_true, ↓reduceIte, pk_divD, pg_up, th_up, ps_c, ts_c, pg_ps_s, pg_ps_n, th_ps, pg_ts, th_ts_s, th_ts_n, Nat.not_lt, Nat.not_le, Decidable.not_not, nI_add, pk_mul, nI_clamp, vi_t, ja_at, ja_up, nz_eq, nI_eq, nI_ltI, nI_leI, nI_lt0, nI_le0, nI_0lt, nI_0le, if_pos, if_neg, up_at, up_ne, nI_subL, true_or, or_true, false_or, or_false, put_0, put_1, put_2, put_3, put_4, put_5, put_6, put_p0, put_p1, put_p2, put_r, pgr_at, rnr_at, ctr_at, use_at, stg_0, stg_1, stg_2, put_c, put_u, put_f, put_s, put_w0, put_w1, put_w2, put_w3, put_w4, put_w5, put_w6, put_w7, put_w8, put_w9, put_t0, put_t1, put_t2, put_t3, put_t4, put_m7, put_m8, put_m9, put_m13, put_m14, put_m15]
      exact l13 hp wf k d (i + 1) r' _ _ (by omega) hr'
    refine e13_1 ?_
    simp (disch := first | omega | simp (disch := omega) only [pg_up, th_up, ps_c, ts_c, pg_ps_s, pg_ps_n, th_ps, pg_ts, th_ts_s, th_ts_n, up_at, up_ne]) only [k13_1, B_nil, B_iconst, B_bipush, B_sipush, B_ldc, B_null, B_iload_n, B_iload, B_aload_n, B_aload, B_istore_n, B_istore, B_astore_n, B_astore, B_astore_nN, B_astoreN, B_iinc, B_iadd, B_isub, B_imul, B_idiv, B_irem, B_ineg, B_iand, B_ior, B_ixor, B_ishl, B_ishr, B_i2c, B_dup, B_dup2, B_pop, B_goto, B_if_eq, B_if_ne, B_if_lt, B_if_ge, B_if_gt, B_if_le, B_ic_eq, B_ic_ne, B_ic_lt, B_ic_ge, B_ic_gt, B_ic_le, B_ifnullN, B_ifnull, B_ifnonnullN, B_ifnonnull, B_switch, B_ireturn, B_areturn, B_areturnN, B_return, B_getfield, B_putfield, B_iaload, B_ialoadS, B_caload, B_iastore, B_castore, B_aaload, B_aastore, B_alenS, B_alen, B_new, B_newarray, B_anewarray, B_iv0, B_iv1, B_iv2, B_iv3, B_iv4, B_iv6, B_obj, B_is0, B_is1, B_st1, B_st2, B_st3, B_copy, List.getElem?_cons_zero, List.getElem?_cons_succ, List.set_cons_zero, List.set_cons_succ, List.length_cons, List.length_nil, List.all_cons, List.all_nil, List.nil_append, List.cons_append, Option.toList_some, Option.toList_none, okv, kst_0, kst_1, pok_i, pok_z0, pok_z1, pok_o, pok_a, c0_0, c0_1, c1_0, c1_1, c1_2, c2_0, c2_1, c2_2, c2_3, c2_4, c2_5, c2_6, c2_7, c2_8, c2_9, c2_10, c3_0, c3_1, c3_2, c3_3, c3_4, c3_5, c3_6, c3_7, c3_8, c3_9, c3_10, c3_11, c3_12, c4_0, c4_1, c4_2, c4_3, c4_4, c5_0, c5_1, c5_2, c5_3, c5_4, c5_5, c6_0, c6_1, c6_2, c6_3, c6_4, c6_5, c7_0, c7_1, c7_2, c7_3, c7_4, c7_5, c7_6, c7_7, c7_8, c7_9, c7_10, c7_11, zok_int, zok_b0, zok_b1, aok_obj, Bool.and_true, Bool.and_self, true_and, and_true, Nat.reduceAdd, Nat.reduceLeDiff, Nat.reduceEqDiff, Nat.zero_le, Nat.reduceLT, Nat.reduceSub, Nat.reduceMul, ne_eq, not_false_eq_true, Nat.zero_add, Nat.add_zero, exists_eq', Sum.inr.injEq, Prod.mk.injEq, rfv_s, rfv_n, reduceCtorEq, not_true_eq_false, false_implies, true_implies, implies_true, ↓reduceIte, pk_divD, pg_up, th_up, ps_c, ts_c, pg_ps_s, pg_ps_n, th_ps, pg_ts, th_ts_s, th_ts_n, Nat.not_lt, Nat.not_le, Decidable.not_not, nI_add, pk_mul, nI_clamp, vi_t, ja_at, ja_up, nz_eq, nI_eq, nI_ltI, nI_leI, nI_lt0, nI_le0, nI_0lt, nI_0le, if_pos, if_neg, up_at, up_ne, nI_subL, true_or, or_true, false_or, or_false, put_0, put_1, put_2, put_3, put_4, put_5, put_6, put_p0, put_p1, put_p2, put_r, pgr_at, rnr_at, ctr_at, use_at, stg_0, stg_1, stg_2, put_c, put_u, put_f, put_s, put_w0, put_w1, put_w2, put_w3, put_w4, put_w5, put_w6, put_w7, put_w8, put_w9, put_t0, put_t1, put_t2, put_t3, put_t4, put_m7, put_m8, put_m9, put_m13, put_m14, put_m15]
    refine ⟨fun c => absurd c (by omega), fun c => ?_⟩
    refine s33 hp (by omega) (w.c hp) ?_
    simp (disch := first | omega | simp (disch := omega) only [pg_up, th_up, ps_c, ts_c, pg_ps_s, pg_ps_n, th_ps, pg_ts, th_ts_s, th_ts_n, up_at, up_ne]) only [B_nil, B_iconst, B_bipush, B_sipush, B_ldc, B_null, B_iload_n, B_iload, B_aload_n, B_aload, B_istore_n, B_istore, B_astore_n, B_astore, B_astore_nN, B_astoreN, B_iinc, B_iadd, B_isub, B_imul, B_idiv, B_irem, B_ineg, B_iand, B_ior, B_ixor, B_ishl, B_ishr, B_i2c, B_dup, B_dup2, B_pop, B_goto, B_if_eq, B_if_ne, B_if_lt, B_if_ge, B_if_gt, B_if_le, B_ic_eq, B_ic_ne, B_ic_lt, B_ic_ge, B_ic_gt, B_ic_le, B_ifnullN, B_ifnull, B_ifnonnullN, B_ifnonnull, B_switch, B_ireturn, B_areturn, B_areturnN, B_return, B_getfield, B_putfield, B_iaload, B_ialoadS, B_caload, B_iastore, B_castore, B_aaload, B_aastore, B_alenS, B_alen, B_new, B_newarray, B_anewarray, B_iv0, B_iv1, B_iv2, B_iv3, B_iv4, B_iv6, B_obj, B_is0, B_is1, B_st1, B_st2, B_st3, B_copy, List.getElem?_cons_zero, List.getElem?_cons_succ, List.set_cons_zero, List.set_cons_succ, List.length_cons, List.length_nil, List.all_cons, List.all_nil, List.nil_append, List.cons_append, Option.toList_some, Option.toList_none, okv, kst_0, kst_1, pok_i, pok_z0, pok_z1, pok_o, pok_a, c0_0, c0_1, c1_0, c1_1, c1_2, c2_0, c2_1, c2_2, c2_3, c2_4, c2_5, c2_6, c2_7, c2_8, c2_9, c2_10, c3_0, c3_1, c3_2, c3_3, c3_4, c3_5, c3_6, c3_7, c3_8, c3_9, c3_10, c3_11, c3_12, c4_0, c4_1, c4_2, c4_3, c4_4, c5_0, c5_1, c5_2, c5_3, c5_4, c5_5, c6_0, c6_1, c6_2, c6_3, c6_4, c6_5, c7_0, c7_1, c7_2, c7_3, c7_4, c7_5, c7_6, c7_7, c7_8, c7_9, c7_10, c7_11, zok_int, zok_b0, zok_b1, aok_obj, Bool.and_true, Bool.and_self, true_and, and_true, Nat.reduceAdd, Nat.reduceLeDiff, Nat.reduceEqDiff, Nat.zero_le, Nat.reduceLT, Nat.reduceSub, Nat.reduceMul, ne_eq, not_false_eq_true, Nat.zero_add, Nat.add_zero, exists_eq', Sum.inr.injEq, Prod.mk.injEq, rfv_s, rfv_n, reduceCtorEq, not_true_eq_false, false_implies, true_implies, implies_true, ↓reduceIte, pk_divD, pg_up, th_up, ps_c, ts_c, pg_ps_s, pg_ps_n, th_ps, pg_ts, th_ts_s, th_ts_n, Nat.not_lt, Nat.not_le, Decidable.not_not, nI_add, pk_mul, nI_clamp, vi_t, ja_at, ja_up, nz_eq, nI_eq, nI_ltI, nI_leI, nI_lt0, nI_le0, nI_0lt, nI_0le, if_pos, if_neg, up_at, up_ne, nI_subL, true_or, or_true, false_or, or_false, put_0, put_1, put_2, put_3, put_4, put_5, put_6, put_p0, put_p1, put_p2, put_r, pgr_at, rnr_at, ctr_at, use_at, stg_0, stg_1, stg_2, put_c, put_u, put_f, put_s, put_w0, put_w1, put_w2, put_w3, put_w4, put_w5, put_w6, put_w7, put_w8, put_w9, put_t0, put_t1, put_t2, put_t3, put_t4, put_m7, put_m8, put_m9, put_m13, put_m14, put_m15]
    refine ⟨fun c2 => ?_, fun c2 => ?_⟩
    · have e : dps Y p (i + 1) = dps Y p i := by
        conv => lhs; unfold dps
        rw [if_neg (by omega)]
      have := next r u v (by rw [e]; exact ro)
      rw [e] at this
      exact this
    · have e : dps Y p (i + 1) = tel (ps (dps Y p i) p 1 (clr (pg (dps Y p i) p 1) i)) 3 p i := by
        conv => lhs; unfold dps
        rw [if_pos (by omega), drp3]
      refine s35 hp (by omega) (w.c hp) ?_
      simp (disch := first | omega | simp (disch := omega) only [pg_up, th_up, ps_c, ts_c, pg_ps_s, pg_ps_n, th_ps, pg_ts, th_ts_s, th_ts_n, up_at, up_ne]) only [B_nil, B_iconst, B_bipush, B_sipush, B_ldc, B_null, B_iload_n, B_iload, B_aload_n, B_aload, B_istore_n, B_istore, B_astore_n, B_astore, B_astore_nN, B_astoreN, B_iinc, B_iadd, B_isub, B_imul, B_idiv, B_irem, B_ineg, B_iand, B_ior, B_ixor, B_ishl, B_ishr, B_i2c, B_dup, B_dup2, B_pop, B_goto, B_if_eq, B_if_ne, B_if_lt, B_if_ge, B_if_gt, B_if_le, B_ic_eq, B_ic_ne, B_ic_lt, B_ic_ge, B_ic_gt, B_ic_le, B_ifnullN, B_ifnull, B_ifnonnullN, B_ifnonnull, B_switch, B_ireturn, B_areturn, B_areturnN, B_return, B_getfield, B_putfield, B_iaload, B_ialoadS, B_caload, B_iastore, B_castore, B_aaload, B_aastore, B_alenS, B_alen, B_new, B_newarray, B_anewarray, B_iv0, B_iv1, B_iv2, B_iv3, B_iv4, B_iv6, B_obj, B_is0, B_is1, B_st1, B_st2, B_st3, B_copy, List.getElem?_cons_zero, List.getElem?_cons_succ, List.set_cons_zero, List.set_cons_succ, List.length_cons, List.length_nil, List.all_cons, List.all_nil, List.nil_append, List.cons_append, Option.toList_some, Option.toList_none, okv, kst_0, kst_1, pok_i, pok_z0, pok_z1, pok_o, pok_a, c0_0, c0_1, c1_0, c1_1, c1_2, c2_0, c2_1, c2_2, c2_3, c2_4, c2_5, c2_6, c2_7, c2_8, c2_9, c2_10, c3_0, c3_1, c3_2, c3_3, c3_4, c3_5, c3_6, c3_7, c3_8, c3_9, c3_10, c3_11, c3_12, c4_0, c4_1, c4_2, c4_3, c4_4, c5_0, c5_1, c5_2, c5_3, c5_4, c5_5, c6_0, c6_1, c6_2, c6_3, c6_4, c6_5, c7_0, c7_1, c7_2, c7_3, c7_4, c7_5, c7_6, c7_7, c7_8, c7_9, c7_10, c7_11, zok_int, zok_b0, zok_b1, aok_obj, Bool.and_true, Bool.and_self, true_and, and_true, Nat.reduceAdd, Nat.reduceLeDiff, Nat.reduceEqDiff, Nat.zero_le, Nat.reduceLT, Nat.reduceSub, Nat.reduceMul, ne_eq, not_false_eq_true, Nat.zero_add, Nat.add_zero, exists_eq', Sum.inr.injEq, Prod.mk.injEq, rfv_s, rfv_n, reduceCtorEq, not_true_eq_false, false_implies, true_implies, implies_true, ↓reduceIte, pk_divD, pg_up, th_up, ps_c, ts_c, pg_ps_s, pg_ps_n, th_ps, pg_ts, th_ts_s, th_ts_n, Nat.not_lt, Nat.not_le, Decidable.not_not, nI_add, pk_mul, nI_clamp, vi_t, ja_at, ja_up, nz_eq, nI_eq, nI_ltI, nI_leI, nI_lt0, nI_le0, nI_0lt, nI_0le, if_pos, if_neg, up_at, up_ne, nI_subL, true_or, or_true, false_or, or_false, put_0, put_1, put_2, put_3, put_4, put_5, put_6, put_p0, put_p1, put_p2, put_r, pgr_at, rnr_at, ctr_at, use_at, stg_0, stg_1, stg_2, put_c, put_u, put_f, put_s, put_w0, put_w1, put_w2, put_w3, put_w4, put_w5, put_w6, put_w7, put_w8, put_w9, put_t0, put_t1, put_t2, put_t3, put_t4, put_m7, put_m8, put_m9, put_m13, put_m14, put_m15]
      refine s6t (by rw [ps_c (by omega)]) (ro.of (by rw [ps_c (by omega)])) (fun r' hr' => ?_)
      rw [← e] at hr'
      rw [← e]
      simp (disch := first | omega | simp (disch := omega) only [pg_up, th_up, ps_c, ts_c, pg_ps_s, pg_ps_n, th_ps, pg_ts, th_ts_s, th_ts_n, up_at, up_ne]) only [B_nil, B_iconst, B_bipush, B_sipush, B_ldc, B_null, B_iload_n, B_iload, B_aload_n, B_aload, B_istore_n, B_istore, B_astore_n, B_astore, B_astore_nN, B_astoreN, B_iinc, B_iadd, B_isub, B_imul, B_idiv, B_irem, B_ineg, B_iand, B_ior, B_ixor, B_ishl, B_ishr, B_i2c, B_dup, B_dup2, B_pop, B_goto, B_if_eq, B_if_ne, B_if_lt, B_if_ge, B_if_gt, B_if_le, B_ic_eq, B_ic_ne, B_ic_lt, B_ic_ge, B_ic_gt, B_ic_le, B_ifnullN, B_ifnull, B_ifnonnullN, B_ifnonnull, B_switch, B_ireturn, B_areturn, B_areturnN, B_return, B_getfield, B_putfield, B_iaload, B_ialoadS, B_caload, B_iastore, B_castore, B_aaload, B_aastore, B_alenS, B_alen, B_new, B_newarray, B_anewarray, B_iv0, B_iv1, B_iv2, B_iv3, B_iv4, B_iv6, B_obj, B_is0, B_is1, B_st1, B_st2, B_st3, B_copy, List.getElem?_cons_zero, List.getElem?_cons_succ, List.set_cons_zero, List.set_cons_succ, List.length_cons, List.length_nil, List.all_cons, List.all_nil, List.nil_append, List.cons_append, Option.toList_some, Option.toList_none, okv, kst_0, kst_1, pok_i, pok_z0, pok_z1, pok_o, pok_a, c0_0, c0_1, c1_0, c1_1, c1_2, c2_0, c2_1, c2_2, c2_3, c2_4, c2_5, c2_6, c2_7, c2_8, c2_9, c2_10, c3_0, c3_1, c3_2, c3_3, c3_4, c3_5, c3_6, c3_7, c3_8, c3_9, c3_10, c3_11, c3_12, c4_0, c4_1, c4_2, c4_3, c4_4, c5_0, c5_1, c5_2, c5_3, c5_4, c5_5, c6_0, c6_1, c6_2, c6_3, c6_4, c6_5, c7_0, c7_1, c7_2, c7_3, c7_4, c7_5, c7_6, c7_7, c7_8, c7_9, c7_10, c7_11, zok_int, zok_b0, zok_b1, aok_obj, Bool.and_true, Bool.and_self, true_and, and_true, Nat.reduceAdd, Nat.reduceLeDiff, Nat.reduceEqDiff, Nat.zero_le, Nat.reduceLT, Nat.reduceSub, Nat.reduceMul, ne_eq, not_false_eq_true, Nat.zero_add, Nat.add_zero, exists_eq', Sum.inr.injEq, Prod.mk.injEq, rfv_s, rfv_n, reduceCtorEq, not_true_eq_false, false_implies, true_implies, implies_true, ↓reduceIte, pk_divD, pg_up, th_up, ps_c, ts_c, pg_ps_s, pg_ps_n, th_ps, pg_ts, th_ts_s, th_ts_n, Nat.not_lt, Nat.not_le, Decidable.not_not, nI_add, pk_mul, nI_clamp, vi_t, ja_at, ja_up, nz_eq, nI_eq, nI_ltI, nI_leI, nI_lt0, nI_le0, nI_0lt, nI_0le, if_pos, if_neg, up_at, up_ne, nI_subL, true_or, or_true, false_or, or_false, put_0, put_1, put_2, put_3, put_4, put_5, put_6, put_p0, put_p1, put_p2, put_r, pgr_at, rnr_at, ctr_at, use_at, stg_0, stg_1, stg_2, put_c, put_u, put_f, put_s, put_w0, put_w1, put_w2, put_w3, put_w4, put_w5, put_w6, put_w7, put_w8, put_w9, put_t0, put_t1, put_t2, put_t3, put_t4, put_m7, put_m8, put_m9, put_m13, put_m14, put_m15]
      exact next r' _ _ hr'
theorem s13 {N : Nat → Nat} {r t p : Nat} (o : IW N p 0 0) (ro : RO N r) (ht : t < N 9) (hp : p < N 8) (h7 : N 7 < 100000)
    (k : ∀ r', RO (acW N t p).2 r' → Q (some (.int (nI (acW N t p).1))) (put h b (acW N t p).2 r')) : RUN sc 13 [.ref b, .ref (ra b t), .ref (pa b p)] (put h b N r) Q := by
  have h8 := o.1.1
  have h9 := o.1.2.1
  have hp4 : p < 40 := by omega
  have ht8 : t < 8 := by omega
  have hh := o.1.t ht8
  have h0 := o.1.h hp4
  have hr7 := o.1.room
  have e0 := iw_ac0 o hp h7
  have ea2 : pg (ac0 N p) p 2 = pg N p 2 + 1 := ac0_2
  have eaw : ∀ w, w < 18 → w ≠ 2 → pg (ac0 N p) p w = pg N p w := fun w hw h2 => ac0_pg hw h2
  have eat : ∀ s w, th (ac0 N p) s w = th N s w := fun s w => ac0_th hp4
  have eac : ∀ c, c < 17 → c ≠ 7 → ac0 N p c = N c := fun c hc h7 => ac0_c hc h7
  have hi := iw_at e0 hp4
  -- the class's row ahead of the copies, and the model's
  have wm : WF (pay (ac0 N p) t p 1 (apt (th N t 0) (pg N p 0))) := WF_pay e0.1 ht8 hp4
  have wb : WF (ts (ps (ps (ac0 N p) p 4 (pg N p 4 + 1)) p 3 (pg N p 2 + 1)) t 4 (th N t 4 + 1)) := by
    have := hi.2.2.2.2.1
    rw [eaw 4 (by omega) (by omega), ea2] at this
    have h2 := hi.1
    have h7' : ac0 N p 7 ≤ 100000 := e0.1.room
    rw [ea2] at h2
    exact WF_ts (WF_ps (WF_ps e0.1 hp4 (by omega) (by omega) (by omega) (by omega)) hp4 (by omega) (by omega) (by omega) (by omega)) ht8 (by omega) (by omega)
  have j0 : JW N (ac0 N p) (pay (ts (ps (ps (ac0 N p) p 4 (pg N p 4 + 1)) p 3 (pg N p 2 + 1)) t 4 (th N t 4 + 1)) t p 1 (apt (th N t 0) (pg N p 0) + hcs N p 4)) (pay (ac0 N p) t p 1 (apt (th N t 0) (pg N p 0))) t p (apt (th N t 0) (pg N p 0)) (hcs N p 4) 0 0 := by
    refine ⟨WF_pay wb ht8 hp4, wm, fun c h1 h2 h3 h4 h5 => ?_, pay_c (by omega), ?_, fun q w hq hw hne => ?_, ?_, ?_, ?_, ?_, ?_, ?_, fun s w hs hw hne => ?_, ?_, ?_, ?_, ?_, ?_, ?_, fun g hg hg4 => ?_, ?_⟩
    · unfold pay
      rw [up_ne (by omega), up_ne (by omega), ps_c (by omega), ts_c (by omega), ts_c (by omega), ts_c (by omega), ps_c (by omega), ps_c (by omega), up_ne (by omega), up_ne (by omega), ps_c (by omega), ts_c (by omega), ts_c (by omega)]
    · exact (lge_pay ht8 hp4).trans (((lge_ts ht8 (by omega)).trans ((lge_ps hp4 (by omega)).trans (lge_ps hp4 (by omega)))).trans (lge_pay ht8 hp4).symm)
    · unfold pay
      rw [pg_up (by omega), pg_up (by omega), pg_ps_n (by omega) (by omega) hw, pg_ts hq hw, pg_ts hq hw, pg_ts hq hw, pg_ps_n (by omega) (by omega) hw, pg_ps_n (by omega) (by omega) hw, pg_up (by omega), pg_up (by omega), pg_ps_n (by omega) (by omega) hw, pg_ts hq hw, pg_ts hq hw]
    · rw [pay_pg ht8 hp4 hp4 (by omega) (by omega), pg_ts hp4 (by omega), pg_ps_s, ea2]
    · rw [pay_pg ht8 hp4 hp4 (by omega) (by omega), pg_ts hp4 (by omega), pg_ps_n (by omega) (by omega) (by omega), pg_ps_s, eaw 4 (by omega) (by omega)]
    · rw [pay_pg ht8 hp4 hp4 (by omega) (by omega)]
    · rw [pay_pg ht8 hp4 hp4 (by omega) (by omega)]
    · unfold pay
      rw [pg_up (by omega), pg_up (by omega), pg_ps_s, pg_ts hp4 (by omega), pg_ps_n (by omega) (by omega) (by omega), pg_ps_n (by omega) (by omega) (by omega)]
    · unfold pay
      rw [pg_up (by omega), pg_up (by omega), pg_ps_s]
      rfl
    · rw [th_pay2 hp4 hs hw hne, th_pay2 hp4 hs hw hne, th_ts_n (by omega) (by omega) hw, th_ps hp4 (by omega), th_ps hp4 (by omega)]
    · rw [pay_th hp4 ht8 (by omega) (by omega) (by omega), th_ts_s, eat]
    · rw [pay_th hp4 ht8 (by omega) (by omega) (by omega)]
    · unfold pay
      rw [th_up (by omega), th_up (by omega), th_ps hp4 (by omega), th_ts_n (by omega) (by omega) (by omega), th_ts_s, th_ts_n (by omega) (by omega) (by omega), th_ps hp4 (by omega), th_ps hp4 (by omega), ts_c (by omega), ps_c (by omega), ps_c (by omega)]
    · unfold pay
      rw [th_up (by omega), th_up (by omega), th_ps hp4 (by omega), th_ts_n (by omega) (by omega) (by omega), th_ts_s]
      rfl
    · unfold pay
      rw [th_up (by omega), th_up (by omega), th_ps hp4 (by omega), th_ts_s, th_ts_n (by omega) (by omega) (by omega), th_ps hp4 (by omega), th_ps hp4 (by omega)]
    · unfold pay
      rw [th_up (by omega), th_up (by omega), th_ps hp4 (by omega), th_ts_s]
      rfl
    · rw [pay_pg ht8 hp4 hp4 (by omega) (by omega), eaw 1 (by omega) (by omega)]
    · show 0 = 0 * ac0 N p 5
      rw [Nat.zero_mul]
  have ja := jw_all j0 ht8 hp4 h0
  have j4 := ja 4 (by omega)
  have sam := jw_end j4 ht8 hp4
  have hS := j4.ss
  have iM : IW (acW2 (acW1 N t p).2 t p) p 0 1 ∧ (∀ c, c < 17 → acW2 (acW1 N t p).2 t p c = (acW1 N t p).2 c) ∧ (acW1 N t p).2 8 = N 8 ∧ (acW1 N t p).2 9 = N 9 := iw_acW2 o ht hp h7
  have kt : th (acW2 (acW1 N t p).2 t p) t 0 = th N t 0 := by
    have := sam.2.2.1 t 0 ht8 (by omega)
    have e := j4.tt t 0 ht8 (by omega) (by omega)
    have e2 := (wrl_keep (fr := pg N p 0) wm ht8 hp4 4 (by omega)).2.2.2 t 0 ht8 (by omega) (by omega) (by omega)
    rw [pay_th hp4 ht8 (by omega) (by omega) (by omega), eat] at e2
    exact (this.symm.trans e).trans e2
  have ed : acW N t p = fin (grw (acW2 (acW1 N t p).2 t p) p (th N t 0) 2) t p (th N t 0) 1 (apt (th N t 0) (pg N p 0)) (pg N p 0) (1 + apt (th N t 0) (pg N p 0) * N 5 + (acW1 N t p).1) := rfl
  have ha := apt_lt hh h0
  change SAM _ (acW2 (acW1 N t p).2 t p) at sam
  change (acW1 N t p).1 = _ at hS
  rw [ed, fin_paid] at k
  dsimp only at k
  have es : 1 + apt (th N t 0) (pg N p 0) * N 5 + hcs N p 4 * N 5 = 1 + (apt (th N t 0) (pg N p 0) + hcs N p 4) * N 5 := by rw [Nat.add_assoc, ← Nat.add_mul]
  rw [hS, eac 5 (by omega) (by omega), es] at k
  have fin1 : ∀ (K : Nat → Nat) (r' u v : Nat) (q3 q5 : Value), IW K p 0 1 → K 8 = N 8 → K 9 = N 9 → RO K r' → th K t 0 = th N t 0 → pg K p (10 + th N t 0) ≤ 999 →
      (∀ r', RO (fin (grw K p (th N t 0) 2) t p (th N t 0) 1 (apt (th N t 0) (pg N p 0)) (pg N p 0) 0).2 r' → Q (some (.int (nI (1 + (apt (th N t 0) (pg N p 0) + hcs N p 4) * N 5 + (fin (grw K p (th N t 0) 2) t p (th N t 0) 1 (apt (th N t 0) (pg N p 0)) (pg N p 0) 0).1)))) (put h b (fin (grw K p (th N t 0) 2) t p (th N t 0) 1 (apt (th N t 0) (pg N p 0)) (pg N p 0) 0).2 r')) →
      E sc 13 3 u v [.ref b, .ref (ra b t), .ref (pa b p), q3, .int (nI (1 + (apt (th N t 0) (pg N p 0) + hcs N p 4) * N 5)), q5] [] (put h b K r') Q := fun K r' u v q3 q5 iK k8 k9 rK t0 hcc kk => by
    have ig := iw_grw (h := th N t 0) (by_ := 2) iK (by rw [k8]; exact hp) hh
    have t2 : th (grw K p (th N t 0) 2) t 0 = th N t 0 := by unfold grw; rw [th_ps hp4 (by omega), t0]
    have rG : RO (grw K p (th N t 0) 2) r' := rK.of (ig.2 16 (by omega))
    refine e13_3 ?_
    simp (disch := first | omega | simp (disch := omega) only [pg_up, th_up, ps_c, ts_c, pg_ps_s, pg_ps_n, th_ps, pg_ts, th_ts_s, th_ts_n, up_at, up_ne]) only [k13_3, t0, B_nil, B_iconst, B_bipush, B_sipush, B_ldc, B_null, B_iload_n, B_iload, B_aload_n, B_aload, B_istore_n, B_istore, B_astore_n, B_astore, B_astore_nN, B_astoreN, B_iinc, B_iadd, B_isub, B_imul, B_idiv, B_irem, B_ineg, B_iand, B_ior, B_ixor, B_ishl, B_ishr, B_i2c, B_dup, B_dup2, B_pop, B_goto, B_if_eq, B_if_ne, B_if_lt, B_if_ge, B_if_gt, B_if_le, B_ic_eq, B_ic_ne, B_ic_lt, B_ic_ge, B_ic_gt, B_ic_le, B_ifnullN, B_ifnull, B_ifnonnullN, B_ifnonnull, B_switch, B_ireturn, B_areturn, B_areturnN, B_return, B_getfield, B_putfield, B_iaload, B_ialoadS, B_caload, B_iastore, B_castore, B_aaload, B_aastore, B_alenS, B_alen, B_new, B_newarray, B_anewarray, B_iv0, B_iv1, B_iv2, B_iv3, B_iv4, B_iv6, B_obj, B_is0, B_is1, B_st1, B_st2, B_st3, B_copy, List.getElem?_cons_zero, List.getElem?_cons_succ, List.set_cons_zero, List.set_cons_succ, List.length_cons, List.length_nil, List.all_cons, List.all_nil, List.nil_append, List.cons_append, Option.toList_some, Option.toList_none, okv, kst_0, kst_1, pok_i, pok_z0, pok_z1, pok_o, pok_a, c0_0, c0_1, c1_0, c1_1, c1_2, c2_0, c2_1, c2_2, c2_3, c2_4, c2_5, c2_6, c2_7, c2_8, c2_9, c2_10, c3_0, c3_1, c3_2, c3_3, c3_4, c3_5, c3_6, c3_7, c3_8, c3_9, c3_10, c3_11, c3_12, c4_0, c4_1, c4_2, c4_3, c4_4, c5_0, c5_1, c5_2, c5_3, c5_4, c5_5, c6_0, c6_1, c6_2, c6_3, c6_4, c6_5, c7_0, c7_1, c7_2, c7_3, c7_4, c7_5, c7_6, c7_7, c7_8, c7_9, c7_10, c7_11, zok_int, zok_b0, zok_b1, aok_obj, Bool.and_true, Bool.and_self, true_and, and_true, Nat.reduceAdd, Nat.reduceLeDiff, Nat.reduceEqDiff, Nat.zero_le, Nat.reduceLT, Nat.reduceSub, Nat.reduceMul, ne_eq, not_false_eq_true, Nat.zero_add, Nat.add_zero, exists_eq', Sum.inr.injEq, Prod.mk.injEq, rfv_s, rfv_n, reduceCtorEq, not_true_eq_false, false_implies, true_implies, implies_true, ↓reduceIte, pk_divD, pg_up, th_up, ps_c, ts_c, pg_ps_s, pg_ps_n, th_ps, pg_ts, th_ts_s, th_ts_n, Nat.not_lt, Nat.not_le, Decidable.not_not, nI_add, pk_mul, nI_clamp, vi_t, ja_at, ja_up, nz_eq, nI_eq, nI_ltI, nI_leI, nI_lt0, nI_le0, nI_0lt, nI_0le, if_pos, if_neg, up_at, up_ne, nI_subL, true_or, or_true, false_or, or_false, put_0, put_1, put_2, put_3, put_4, put_5, put_6, put_p0, put_p1, put_p2, put_r, pgr_at, rnr_at, ctr_at, use_at, stg_0, stg_1, stg_2, put_c, put_u, put_f, put_s, put_w0, put_w1, put_w2, put_w3, put_w4, put_w5, put_w6, put_w7, put_w8, put_w9, put_t0, put_t1, put_t2, put_t3, put_t4, put_m7, put_m8, put_m9, put_m13, put_m14, put_m15]
    refine s38 hp4 hh (by omega) hcc ?_
    generalize grw K p (th N t 0) 2 = G at *
    simp (disch := first | omega | simp (disch := omega) only [pg_up, th_up, ps_c, ts_c, pg_ps_s, pg_ps_n, th_ps, pg_ts, th_ts_s, th_ts_n, up_at, up_ne]) only [B_nil, B_iconst, B_bipush, B_sipush, B_ldc, B_null, B_iload_n, B_iload, B_aload_n, B_aload, B_istore_n, B_istore, B_astore_n, B_astore, B_astore_nN, B_astoreN, B_iinc, B_iadd, B_isub, B_imul, B_idiv, B_irem, B_ineg, B_iand, B_ior, B_ixor, B_ishl, B_ishr, B_i2c, B_dup, B_dup2, B_pop, B_goto, B_if_eq, B_if_ne, B_if_lt, B_if_ge, B_if_gt, B_if_le, B_ic_eq, B_ic_ne, B_ic_lt, B_ic_ge, B_ic_gt, B_ic_le, B_ifnullN, B_ifnull, B_ifnonnullN, B_ifnonnull, B_switch, B_ireturn, B_areturn, B_areturnN, B_return, B_getfield, B_putfield, B_iaload, B_ialoadS, B_caload, B_iastore, B_castore, B_aaload, B_aastore, B_alenS, B_alen, B_new, B_newarray, B_anewarray, B_iv0, B_iv1, B_iv2, B_iv3, B_iv4, B_iv6, B_obj, B_is0, B_is1, B_st1, B_st2, B_st3, B_copy, List.getElem?_cons_zero, List.getElem?_cons_succ, List.set_cons_zero, List.set_cons_succ, List.length_cons, List.length_nil, List.all_cons, List.all_nil, List.nil_append, List.cons_append, Option.toList_some, Option.toList_none, okv, kst_0, kst_1, pok_i, pok_z0, pok_z1, pok_o, pok_a, c0_0, c0_1, c1_0, c1_1, c1_2, c2_0, c2_1, c2_2, c2_3, c2_4, c2_5, c2_6, c2_7, c2_8, c2_9, c2_10, c3_0, c3_1, c3_2, c3_3, c3_4, c3_5, c3_6, c3_7, c3_8, c3_9, c3_10, c3_11, c3_12, c4_0, c4_1, c4_2, c4_3, c4_4, c5_0, c5_1, c5_2, c5_3, c5_4, c5_5, c6_0, c6_1, c6_2, c6_3, c6_4, c6_5, c7_0, c7_1, c7_2, c7_3, c7_4, c7_5, c7_6, c7_7, c7_8, c7_9, c7_10, c7_11, zok_int, zok_b0, zok_b1, aok_obj, Bool.and_true, Bool.and_self, true_and, and_true, Nat.reduceAdd, Nat.reduceLeDiff, Nat.reduceEqDiff, Nat.zero_le, Nat.reduceLT, Nat.reduceSub, Nat.reduceMul, ne_eq, not_false_eq_true, Nat.zero_add, Nat.add_zero, exists_eq', Sum.inr.injEq, Prod.mk.injEq, rfv_s, rfv_n, reduceCtorEq, not_true_eq_false, false_implies, true_implies, implies_true, ↓reduceIte, pk_divD, pg_up, th_up, ps_c, ts_c, pg_ps_s, pg_ps_n, th_ps, pg_ts, th_ts_s, th_ts_n, Nat.not_lt, Nat.not_le, Decidable.not_not, nI_add, pk_mul, nI_clamp, vi_t, ja_at, ja_up, nz_eq, nI_eq, nI_ltI, nI_leI, nI_lt0, nI_le0, nI_0lt, nI_0le, if_pos, if_neg, up_at, up_ne, nI_subL, true_or, or_true, false_or, or_false, put_0, put_1, put_2, put_3, put_4, put_5, put_6, put_p0, put_p1, put_p2, put_r, pgr_at, rnr_at, ctr_at, use_at, stg_0, stg_1, stg_2, put_c, put_u, put_f, put_s, put_w0, put_w1, put_w2, put_w3, put_w4, put_w5, put_w6, put_w7, put_w8, put_w9, put_t0, put_t1, put_t2, put_t3, put_t4, put_m7, put_m8, put_m9, put_m13, put_m14, put_m15]
    refine s15 (wr := 1) (far := apt (th N t 0) (pg N p 0)) (fr := pg N p 0) ig.1 rG (by rw [ig.2 9 (by omega), k9]; exact ht) (by rw [ig.2 8 (by omega), k8]; exact hp) (by omega) h0 (Or.inr ⟨rfl, rfl⟩) (fun r' hr' => ?_)
    rw [t2] at hr'
    rw [t2]
    simp (disch := first | omega | simp (disch := omega) only [pg_up, th_up, ps_c, ts_c, pg_ps_s, pg_ps_n, th_ps, pg_ts, th_ts_s, th_ts_n, up_at, up_ne]) only [B_nil, B_iconst, B_bipush, B_sipush, B_ldc, B_null, B_iload_n, B_iload, B_aload_n, B_aload, B_istore_n, B_istore, B_astore_n, B_astore, B_astore_nN, B_astoreN, B_iinc, B_iadd, B_isub, B_imul, B_idiv, B_irem, B_ineg, B_iand, B_ior, B_ixor, B_ishl, B_ishr, B_i2c, B_dup, B_dup2, B_pop, B_goto, B_if_eq, B_if_ne, B_if_lt, B_if_ge, B_if_gt, B_if_le, B_ic_eq, B_ic_ne, B_ic_lt, B_ic_ge, B_ic_gt, B_ic_le, B_ifnullN, B_ifnull, B_ifnonnullN, B_ifnonnull, B_switch, B_ireturn, B_areturn, B_areturnN, B_return, B_getfield, B_putfield, B_iaload, B_ialoadS, B_caload, B_iastore, B_castore, B_aaload, B_aastore, B_alenS, B_alen, B_new, B_newarray, B_anewarray, B_iv0, B_iv1, B_iv2, B_iv3, B_iv4, B_iv6, B_obj, B_is0, B_is1, B_st1, B_st2, B_st3, B_copy, List.getElem?_cons_zero, List.getElem?_cons_succ, List.set_cons_zero, List.set_cons_succ, List.length_cons, List.length_nil, List.all_cons, List.all_nil, List.nil_append, List.cons_append, Option.toList_some, Option.toList_none, okv, kst_0, kst_1, pok_i, pok_z0, pok_z1, pok_o, pok_a, c0_0, c0_1, c1_0, c1_1, c1_2, c2_0, c2_1, c2_2, c2_3, c2_4, c2_5, c2_6, c2_7, c2_8, c2_9, c2_10, c3_0, c3_1, c3_2, c3_3, c3_4, c3_5, c3_6, c3_7, c3_8, c3_9, c3_10, c3_11, c3_12, c4_0, c4_1, c4_2, c4_3, c4_4, c5_0, c5_1, c5_2, c5_3, c5_4, c5_5, c6_0, c6_1, c6_2, c6_3, c6_4, c6_5, c7_0, c7_1, c7_2, c7_3, c7_4, c7_5, c7_6, c7_7, c7_8, c7_9, c7_10, c7_11, zok_int, zok_b0, zok_b1, aok_obj, Bool.and_true, Bool.and_self, true_and, and_true, Nat.reduceAdd, Nat.reduceLeDiff, Nat.reduceEqDiff, Nat.zero_le, Nat.reduceLT, Nat.reduceSub, Nat.reduceMul, ne_eq, not_false_eq_true, Nat.zero_add, Nat.add_zero, exists_eq', Sum.inr.injEq, Prod.mk.injEq, rfv_s, rfv_n, reduceCtorEq, not_true_eq_false, false_implies, true_implies, implies_true, ↓reduceIte, pk_divD, pg_up, th_up, ps_c, ts_c, pg_ps_s, pg_ps_n, th_ps, pg_ts, th_ts_s, th_ts_n, Nat.not_lt, Nat.not_le, Decidable.not_not, nI_add, pk_mul, nI_clamp, vi_t, ja_at, ja_up, nz_eq, nI_eq, nI_ltI, nI_leI, nI_lt0, nI_le0, nI_0lt, nI_0le, if_pos, if_neg, up_at, up_ne, nI_subL, true_or, or_true, false_or, or_false, put_0, put_1, put_2, put_3, put_4, put_5, put_6, put_p0, put_p1, put_p2, put_r, pgr_at, rnr_at, ctr_at, use_at, stg_0, stg_1, stg_2, put_c, put_u, put_f, put_s, put_w0, put_w1, put_w2, put_w3, put_w4, put_w5, put_w6, put_w7, put_w8, put_w9, put_t0, put_t1, put_t2, put_t3, put_t4, put_m7, put_m8, put_m9, put_m13, put_m14, put_m15]
    exact kk r' hr'
  refine r13 ?_
  simp (disch := first | omega | simp (disch := omega) only [pg_up, th_up, ps_c, ts_c, pg_ps_s, pg_ps_n, th_ps, pg_ts, th_ts_s, th_ts_n, up_at, up_ne]) only [k13_0, B_nil, B_iconst, B_bipush, B_sipush, B_ldc, B_null, B_iload_n, B_iload, B_aload_n, B_aload, B_istore_n, B_istore, B_astore_n, B_astore, B_astore_nN, B_astoreN, B_iinc, B_iadd, B_isub, B_imul, B_idiv, B_irem, B_ineg, B_iand, B_ior, B_ixor, B_ishl, B_ishr, B_i2c, B_dup, B_dup2, B_pop, B_goto, B_if_eq, B_if_ne, B_if_lt, B_if_ge, B_if_gt, B_if_le, B_ic_eq, B_ic_ne, B_ic_lt, B_ic_ge, B_ic_gt, B_ic_le, B_ifnullN, B_ifnull, B_ifnonnullN, B_ifnonnull, B_switch, B_ireturn, B_areturn, B_areturnN, B_return, B_getfield, B_putfield, B_iaload, B_ialoadS, B_caload, B_iastore, B_castore, B_aaload, B_aastore, B_alenS, B_alen, B_new, B_newarray, B_anewarray, B_iv0, B_iv1, B_iv2, B_iv3, B_iv4, B_iv6, B_obj, B_is0, B_is1, B_st1, B_st2, B_st3, B_copy, List.getElem?_cons_zero, List.getElem?_cons_succ, List.set_cons_zero, List.set_cons_succ, List.length_cons, List.length_nil, List.all_cons, List.all_nil, List.nil_append, List.cons_append, Option.toList_some, Option.toList_none, okv, kst_0, kst_1, pok_i, pok_z0, pok_z1, pok_o, pok_a, c0_0, c0_1, c1_0, c1_1, c1_2, c2_0, c2_1, c2_2, c2_3, c2_4, c2_5, c2_6, c2_7, c2_8, c2_9, c2_10, c3_0, c3_1, c3_2, c3_3, c3_4, c3_5, c3_6, c3_7, c3_8, c3_9, c3_10, c3_11, c3_12, c4_0, c4_1, c4_2, c4_3, c4_4, c5_0, c5_1, c5_2, c5_3, c5_4, c5_5, c6_0, c6_1, c6_2, c6_3, c6_4, c6_5, c7_0, c7_1, c7_2, c7_3, c7_4, c7_5, c7_6, c7_7, c7_8, c7_9, c7_10, c7_11, zok_int, zok_b0, zok_b1, aok_obj, Bool.and_true, Bool.and_self, true_and, and_true, Nat.reduceAdd, Nat.reduceLeDiff, Nat.reduceEqDiff, Nat.zero_le, Nat.reduceLT, Nat.reduceSub, Nat.reduceMul, ne_eq, not_false_eq_true, Nat.zero_add, Nat.add_zero, exists_eq', Sum.inr.injEq, Prod.mk.injEq, rfv_s, rfv_n, reduceCtorEq, not_true_eq_false, false_implies, true_implies, implies_true, ↓reduceIte, pk_divD, pg_up, th_up, ps_c, ts_c, pg_ps_s, pg_ps_n, th_ps, pg_ts, th_ts_s, th_ts_n, Nat.not_lt, Nat.not_le, Decidable.not_not, nI_add, pk_mul, nI_clamp, vi_t, ja_at, ja_up, nz_eq, nI_eq, nI_ltI, nI_leI, nI_lt0, nI_le0, nI_0lt, nI_0le, if_pos, if_neg, up_at, up_ne, nI_subL, true_or, or_true, false_or, or_false, put_0, put_1, put_2, put_3, put_4, put_5, put_6, put_p0, put_p1, put_p2, put_r, pgr_at, rnr_at, ctr_at, use_at, stg_0, stg_1, stg_2, put_c, put_u, put_f, put_s, put_w0, put_w1, put_w2, put_w3, put_w4, put_w5, put_w6, put_w7, put_w8, put_w9, put_t0, put_t1, put_t2, put_t3, put_t4, put_m7, put_m8, put_m9, put_m13, put_m14, put_m15]
  refine s87 hh h0 ?_
  simp (disch := first | omega | simp (disch := omega) only [pg_up, th_up, ps_c, ts_c, pg_ps_s, pg_ps_n, th_ps, pg_ts, th_ts_s, th_ts_n, up_at, up_ne]) only [B_nil, B_iconst, B_bipush, B_sipush, B_ldc, B_null, B_iload_n, B_iload, B_aload_n, B_aload, B_istore_n, B_istore, B_astore_n, B_astore, B_astore_nN, B_astoreN, B_iinc, B_iadd, B_isub, B_imul, B_idiv, B_irem, B_ineg, B_iand, B_ior, B_ixor, B_ishl, B_ishr, B_i2c, B_dup, B_dup2, B_pop, B_goto, B_if_eq, B_if_ne, B_if_lt, B_if_ge, B_if_gt, B_if_le, B_ic_eq, B_ic_ne, B_ic_lt, B_ic_ge, B_ic_gt, B_ic_le, B_ifnullN, B_ifnull, B_ifnonnullN, B_ifnonnull, B_switch, B_ireturn, B_areturn, B_areturnN, B_return, B_getfield, B_putfield, B_iaload, B_ialoadS, B_caload, B_iastore, B_castore, B_aaload, B_aastore, B_alenS, B_alen, B_new, B_newarray, B_anewarray, B_iv0, B_iv1, B_iv2, B_iv3, B_iv4, B_iv6, B_obj, B_is0, B_is1, B_st1, B_st2, B_st3, B_copy, List.getElem?_cons_zero, List.getElem?_cons_succ, List.set_cons_zero, List.set_cons_succ, List.length_cons, List.length_nil, List.all_cons, List.all_nil, List.nil_append, List.cons_append, Option.toList_some, Option.toList_none, okv, kst_0, kst_1, pok_i, pok_z0, pok_z1, pok_o, pok_a, c0_0, c0_1, c1_0, c1_1, c1_2, c2_0, c2_1, c2_2, c2_3, c2_4, c2_5, c2_6, c2_7, c2_8, c2_9, c2_10, c3_0, c3_1, c3_2, c3_3, c3_4, c3_5, c3_6, c3_7, c3_8, c3_9, c3_10, c3_11, c3_12, c4_0, c4_1, c4_2, c4_3, c4_4, c5_0, c5_1, c5_2, c5_3, c5_4, c5_5, c6_0, c6_1, c6_2, c6_3, c6_4, c6_5, c7_0, c7_1, c7_2, c7_3, c7_4, c7_5, c7_6, c7_7, c7_8, c7_9, c7_10, c7_11, zok_int, zok_b0, zok_b1, aok_obj, Bool.and_true, Bool.and_self, true_and, and_true, Nat.reduceAdd, Nat.reduceLeDiff, Nat.reduceEqDiff, Nat.zero_le, Nat.reduceLT, Nat.reduceSub, Nat.reduceMul, ne_eq, not_false_eq_true, Nat.zero_add, Nat.add_zero, exists_eq', Sum.inr.injEq, Prod.mk.injEq, rfv_s, rfv_n, reduceCtorEq, not_true_eq_false, false_implies, true_implies, implies_true, ↓reduceIte, pk_divD, pg_up, th_up, ps_c, ts_c, pg_ps_s, pg_ps_n, th_ps, pg_ts, th_ts_s, th_ts_n, Nat.not_lt, Nat.not_le, Decidable.not_not, nI_add, pk_mul, nI_clamp, vi_t, ja_at, ja_up, nz_eq, nI_eq, nI_ltI, nI_leI, nI_lt0, nI_le0, nI_0lt, nI_0le, if_pos, if_neg, up_at, up_ne, nI_subL, true_or, or_true, false_or, or_false, put_0, put_1, put_2, put_3, put_4, put_5, put_6, put_p0, put_p1, put_p2, put_r, pgr_at, rnr_at, ctr_at, use_at, stg_0, stg_1, stg_2, put_c, put_u, put_f, put_s, put_w0, put_w1, put_w2, put_w3, put_w4, put_w5, put_w6, put_w7, put_w8, put_w9, put_t0, put_t1, put_t2, put_t3, put_t4, put_m7, put_m8, put_m9, put_m13, put_m14, put_m15]
  change RUN sc 37 _ (put h b (ts (ps (ps (ac0 N p) p 4 (pg N p 4 + 1)) p 3 (pg N p 2 + 1)) t 4 (th N t 4 + 1)) r) _
  refine s37 wb hp4 ?_
  have eh : hcs (ts (ps (ps (ac0 N p) p 4 (pg N p 4 + 1)) p 3 (pg N p 2 + 1)) t 4 (th N t 4 + 1)) p 4 = hcs N p 4 := by
    have x0 : pg (ts (ps (ps (ac0 N p) p 4 (pg N p 4 + 1)) p 3 (pg N p 2 + 1)) t 4 (th N t 4 + 1)) p 0 = pg N p 0 := by rw [pg_ts hp4 (by omega), pg_ps_n (by omega) (by omega) (by omega), pg_ps_n (by omega) (by omega) (by omega), eaw 0 (by omega) (by omega)]
    have x1 : pg (ts (ps (ps (ac0 N p) p 4 (pg N p 4 + 1)) p 3 (pg N p 2 + 1)) t 4 (th N t 4 + 1)) p 1 = pg N p 1 := by rw [pg_ts hp4 (by omega), pg_ps_n (by omega) (by omega) (by omega), pg_ps_n (by omega) (by omega) (by omega), eaw 1 (by omega) (by omega)]
    unfold hcs
    rw [x0, x1]
  have e5 : ts (ps (ps (ac0 N p) p 4 (pg N p 4 + 1)) p 3 (pg N p 2 + 1)) t 4 (th N t 4 + 1) 5 = N 5 := by rw [ts_c (by omega), ps_c (by omega), ps_c (by omega), eac 5 (by omega) (by omega)]
  have e16 : ts (ps (ps (ac0 N p) p 4 (pg N p 4 + 1)) p 3 (pg N p 2 + 1)) t 4 (th N t 4 + 1) 16 = N 16 := by rw [ts_c (by omega), ps_c (by omega), ps_c (by omega), eac 16 (by omega) (by omega)]
  rw [eh]
  generalize ts (ps (ps (ac0 N p) p 4 (pg N p 4 + 1)) p 3 (pg N p 2 + 1)) t 4 (th N t 4 + 1) = X at *
  simp (disch := first | omega | simp (disch := omega) only [pg_up, th_up, ps_c, ts_c, pg_ps_s, pg_ps_n, th_ps, pg_ts, th_ts_s, th_ts_n, up_at, up_ne]) only [B_nil, B_iconst, B_bipush, B_sipush, B_ldc, B_null, B_iload_n, B_iload, B_aload_n, B_aload, B_istore_n, B_istore, B_astore_n, B_astore, B_astore_nN, B_astoreN, B_iinc, B_iadd, B_isub, B_imul, B_idiv, B_irem, B_ineg, B_iand, B_ior, B_ixor, B_ishl, B_ishr, B_i2c, B_dup, B_dup2, B_pop, B_goto, B_if_eq, B_if_ne, B_if_lt, B_if_ge, B_if_gt, B_if_le, B_ic_eq, B_ic_ne, B_ic_lt, B_ic_ge, B_ic_gt, B_ic_le, B_ifnullN, B_ifnull, B_ifnonnullN, B_ifnonnull, B_switch, B_ireturn, B_areturn, B_areturnN, B_return, B_getfield, B_putfield, B_iaload, B_ialoadS, B_caload, B_iastore, B_castore, B_aaload, B_aastore, B_alenS, B_alen, B_new, B_newarray, B_anewarray, B_iv0, B_iv1, B_iv2, B_iv3, B_iv4, B_iv6, B_obj, B_is0, B_is1, B_st1, B_st2, B_st3, B_copy, List.getElem?_cons_zero, List.getElem?_cons_succ, List.set_cons_zero, List.set_cons_succ, List.length_cons, List.length_nil, List.all_cons, List.all_nil, List.nil_append, List.cons_append, Option.toList_some, Option.toList_none, okv, kst_0, kst_1, pok_i, pok_z0, pok_z1, pok_o, pok_a, c0_0, c0_1, c1_0, c1_1, c1_2, c2_0, c2_1, c2_2, c2_3, c2_4, c2_5, c2_6, c2_7, c2_8, c2_9, c2_10, c3_0, c3_1, c3_2, c3_3, c3_4, c3_5, c3_6, c3_7, c3_8, c3_9, c3_10, c3_11, c3_12, c4_0, c4_1, c4_2, c4_3, c4_4, c5_0, c5_1, c5_2, c5_3, c5_4, c5_5, c6_0, c6_1, c6_2, c6_3, c6_4, c6_5, c7_0, c7_1, c7_2, c7_3, c7_4, c7_5, c7_6, c7_7, c7_8, c7_9, c7_10, c7_11, zok_int, zok_b0, zok_b1, aok_obj, Bool.and_true, Bool.and_self, true_and, and_true, Nat.reduceAdd, Nat.reduceLeDiff, Nat.reduceEqDiff, Nat.zero_le, Nat.reduceLT, Nat.reduceSub, Nat.reduceMul, ne_eq, not_false_eq_true, Nat.zero_add, Nat.add_zero, exists_eq', Sum.inr.injEq, Prod.mk.injEq, rfv_s, rfv_n, reduceCtorEq, not_true_eq_false, false_implies, true_implies, implies_true, ↓reduceIte, pk_divD, pg_up, th_up, ps_c, ts_c, pg_ps_s, pg_ps_n, th_ps, pg_ts, th_ts_s, th_ts_n, Nat.not_lt, Nat.not_le, Decidable.not_not, nI_add, pk_mul, nI_clamp, vi_t, ja_at, ja_up, nz_eq, nI_eq, nI_ltI, nI_leI, nI_lt0, nI_le0, nI_0lt, nI_0le, if_pos, if_neg, up_at, up_ne, nI_subL, true_or, or_true, false_or, or_false, put_0, put_1, put_2, put_3, put_4, put_5, put_6, put_p0, put_p1, put_p2, put_r, pgr_at, rnr_at, ctr_at, use_at, stg_0, stg_1, stg_2, put_c, put_u, put_f, put_s, put_w0, put_w1, put_w2, put_w3, put_w4, put_w5, put_w6, put_w7, put_w8, put_w9, put_t0, put_t1, put_t2, put_t3, put_t4, put_m7, put_m8, put_m9, put_m13, put_m14, put_m15]
  refine s14 ht8 hp4 ?_
  rw [e5]
  have r0 : RO (pay X t p 1 (apt (th N t 0) (pg N p 0) + hcs N p 4)) r := ro.of (by
    have := (lge_pay (A := X) (c := 1) (hp := apt (th N t 0) (pg N p 0) + hcs N p 4) ht8 hp4).1
    rw [this, e16])
  have wfs : ∀ n, n ≤ 4 → WF (dps (pay X t p 1 (apt (th N t 0) (pg N p 0) + hcs N p 4)) p n) := fun n hn => (ja n hn).wd
  generalize pay X t p 1 (apt (th N t 0) (pg N p 0) + hcs N p 4) = Y at *
  simp (disch := first | omega | simp (disch := omega) only [pg_up, th_up, ps_c, ts_c, pg_ps_s, pg_ps_n, th_ps, pg_ts, th_ts_s, th_ts_n, up_at, up_ne]) only [B_nil, B_iconst, B_bipush, B_sipush, B_ldc, B_null, B_iload_n, B_iload, B_aload_n, B_aload, B_istore_n, B_istore, B_astore_n, B_astore, B_astore_nN, B_astoreN, B_iinc, B_iadd, B_isub, B_imul, B_idiv, B_irem, B_ineg, B_iand, B_ior, B_ixor, B_ishl, B_ishr, B_i2c, B_dup, B_dup2, B_pop, B_goto, B_if_eq, B_if_ne, B_if_lt, B_if_ge, B_if_gt, B_if_le, B_ic_eq, B_ic_ne, B_ic_lt, B_ic_ge, B_ic_gt, B_ic_le, B_ifnullN, B_ifnull, B_ifnonnullN, B_ifnonnull, B_switch, B_ireturn, B_areturn, B_areturnN, B_return, B_getfield, B_putfield, B_iaload, B_ialoadS, B_caload, B_iastore, B_castore, B_aaload, B_aastore, B_alenS, B_alen, B_new, B_newarray, B_anewarray, B_iv0, B_iv1, B_iv2, B_iv3, B_iv4, B_iv6, B_obj, B_is0, B_is1, B_st1, B_st2, B_st3, B_copy, List.getElem?_cons_zero, List.getElem?_cons_succ, List.set_cons_zero, List.set_cons_succ, List.length_cons, List.length_nil, List.all_cons, List.all_nil, List.nil_append, List.cons_append, Option.toList_some, Option.toList_none, okv, kst_0, kst_1, pok_i, pok_z0, pok_z1, pok_o, pok_a, c0_0, c0_1, c1_0, c1_1, c1_2, c2_0, c2_1, c2_2, c2_3, c2_4, c2_5, c2_6, c2_7, c2_8, c2_9, c2_10, c3_0, c3_1, c3_2, c3_3, c3_4, c3_5, c3_6, c3_7, c3_8, c3_9, c3_10, c3_11, c3_12, c4_0, c4_1, c4_2, c4_3, c4_4, c5_0, c5_1, c5_2, c5_3, c5_4, c5_5, c6_0, c6_1, c6_2, c6_3, c6_4, c6_5, c7_0, c7_1, c7_2, c7_3, c7_4, c7_5, c7_6, c7_7, c7_8, c7_9, c7_10, c7_11, zok_int, zok_b0, zok_b1, aok_obj, Bool.and_true, Bool.and_self, true_and, and_true, Nat.reduceAdd, Nat.reduceLeDiff, Nat.reduceEqDiff, Nat.zero_le, Nat.reduceLT, Nat.reduceSub, Nat.reduceMul, ne_eq, not_false_eq_true, Nat.zero_add, Nat.add_zero, exists_eq', Sum.inr.injEq, Prod.mk.injEq, rfv_s, rfv_n, reduceCtorEq, not_true_eq_false, false_implies, true_implies, implies_true, ↓reduceIte, pk_divD, pg_up, th_up, ps_c, ts_c, pg_ps_s, pg_ps_n, th_ps, pg_ts, th_ts_s, th_ts_n, Nat.not_lt, Nat.not_le, Decidable.not_not, nI_add, pk_mul, nI_clamp, vi_t, ja_at, ja_up, nz_eq, nI_eq, nI_ltI, nI_leI, nI_lt0, nI_le0, nI_0lt, nI_0le, if_pos, if_neg, up_at, up_ne, nI_subL, true_or, or_true, false_or, or_false, put_0, put_1, put_2, put_3, put_4, put_5, put_6, put_p0, put_p1, put_p2, put_r, pgr_at, rnr_at, ctr_at, use_at, stg_0, stg_1, stg_2, put_c, put_u, put_f, put_s, put_w0, put_w1, put_w2, put_w3, put_w4, put_w5, put_w6, put_w7, put_w8, put_w9, put_t0, put_t1, put_t2, put_t3, put_t4, put_m7, put_m8, put_m9, put_m13, put_m14, put_m15]
  refine l13 hp4 wfs (fun r' u v q5 hr' => ?_) 4 0 r _ _ (by omega) r0
  rw [put_ext sam]
  exact fin1 _ _ _ _ _ _ iM.1 (by rw [iM.2.1 8 (by omega)]; exact iM.2.2.1) (by rw [iM.2.1 9 (by omega)]; exact iM.2.2.2) (hr'.sam sam) kt (iw_0h iM.1 hp4 _ hh) k
where
  th_pay2 {A : Nat → Nat} {t p c hp s w : Nat} (hp40 : p < 40) (hs : s < 8) (hw : w < 5) (h1 : ¬ (s = t ∧ (w = 1 ∨ w = 2 ∨ w = 4))) : th (pay A t p c hp) s w = th A s w := by
    unfold pay
    rw [th_up (by omega), th_up (by omega), th_ps hp40 (by omega), th_ts_n (by omega) (by omega) hw, th_ts_n (by omega) (by omega) hw]
  iw_acW2 {N : Nat → Nat} {t p : Nat} (o : IW N p 0 0) (ht : t < N 9) (hp : p < N 8) (h7 : N 7 < 100000) : IW (acW2 (acW1 N t p).2 t p) p 0 1 ∧ (∀ c, c < 17 → acW2 (acW1 N t p).2 t p c = (acW1 N t p).2 c) ∧ (acW1 N t p).2 8 = N 8 ∧ (acW1 N t p).2 9 = N 9 := by
    have h8 := o.1.1
    have h9 := o.1.2.1
    have e0 := iw_ac0 o hp h7
    have e1 : IW (pay (ac0 N p) t p 1 (apt (th N t 0) (pg N p 0))) p 1 1 := iw_pay e0 (by rw [ac0_c (by omega) (by omega)]; exact ht) (by rw [ac0_c (by omega) (by omega)]; exact hp)
    have c1 : ∀ c, c < 10 → pay (ac0 N p) t p 1 (apt (th N t 0) (pg N p 0)) c = ac0 N p c := fun c hc => pay_c hc
    have e2 : IW (acW1 N t p).2 p 1 1 := iw_wrl e1 (by rw [c1 9 (by omega), ac0_c (by omega) (by omega)]; exact ht) (by rw [c1 8 (by omega), ac0_c (by omega) (by omega)]; exact hp) 4 (by omega)
    have c2 : ∀ c, c < 10 → (acW1 N t p).2 c = ac0 N p c := fun c hc => by
      have := (wrl_keep (fr := pg N p 0) e1.1 (show t < 8 by omega) (show p < 40 by omega) 4 (by omega)).2.1 c hc
      rw [c1 c hc] at this
      exact this
    generalize (acW1 N t p).2 = M at *
    have m7 : M 7 = N 7 + 1 := by rw [c2 7 (by omega), ac0_7]
    have m8 : M 8 = N 8 := by rw [c2 8 (by omega), ac0_c (by omega) (by omega)]
    have m9 : M 9 = N 9 := by rw [c2 9 (by omega), ac0_c (by omega) (by omega)]
    obtain ⟨i1, i2, i3, i4, i5, i6, i7, i8, i9, i10, i11⟩ := iw_at e2 (show p < 40 by omega)
    refine ⟨?_, fun c hc => by unfold acW2; rw [ts_c (by omega), ps_c (by omega), ps_c (by omega)], m8, m9⟩
    unfold acW2
    refine iw_ts (iw_pg e2 (by rw [m8]; exact hp) ?_ (fun c hc => by rw [ps_c (by omega), ps_c (by omega)]) (fun q w hq hw hn => by rw [pg_ps_n (by omega) (by omega) hw, pg_ps_n (by omega) (by omega) hw]) (by rw [pg_ps_n (by omega) (by omega) (by omega), pg_ps_n (by omega) (by omega) (by omega)]) (fun s w hs hw => by rw [th_ps (by omega) (by omega), th_ps (by omega) (by omega)]) ?_) (by rw [ps_c (by omega), ps_c (by omega), m9]; exact ht) (by omega) (by omega)
    · exact WF_ps (WF_ps e2.1 (by omega) (by omega) (by omega) (by omega) (by omega)) (by omega) (by omega) (by omega) (by omega) (by omega)
    · refine PI.congr (f := up (up (pg M p) 3 (pg M p 2)) 4 (pg M p 4 + 1)) ?_ (fun w h1 h2 h3 => ?_)
      · unfold PI
        rw [up_ne (by omega), up_ne (by omega), up_ne (by omega), up_at, up_ne (by omega), up_ne (by omega), up_ne (by omega), up_ne (by omega), up_at, up_ne (by omega), up_ne (by omega), up_ne (by omega), up_ne (by omega), up_ne (by omega), up_ne (by omega)]
        refine ⟨i1, Nat.le_refl _, i3, i4, by omega, i6, fun j hj => ?_, i8, by omega, i10, i11⟩
        rw [up_ne (by omega), up_ne (by omega)]
        exact i7 j hj
      · by_cases e4 : w = 4
        · subst e4; rw [up_at, pg_ps_s]
        · by_cases e3 : w = 3
          · subst e3; rw [up_ne e4, up_at, pg_ps_n (by omega) (by omega) (by omega), pg_ps_s]
          · rw [up_ne e4, up_ne e3, pg_ps_n (by omega) (by omega) (by omega), pg_ps_n (by omega) (by omega) (by omega)]
end CQ
