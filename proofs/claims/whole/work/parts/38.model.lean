theorem wf_set {N : Nat → Nat} {c v : Nat} (o : WF N) (hc : c < 7) (h : (c < 4 → v ≤ 20) ∧ (c = 4 → v ≤ 3) ∧ (5 ≤ c → v ≤ 99)) : WF (up N c v) := by
  obtain ⟨a1, a2, a3, a4, a5, a6, a7, a8, a9, a10, a11⟩ := o
  refine ⟨by rw [up_ne (by omega)]; exact a1, by rw [up_ne (by omega)]; exact a2, by rw [up_ne (by omega)]; exact a3, fun i hi => ?_, ?_, ?_, ?_, by rw [up_ne (by omega)]; exact a8, fun q hq => by rw [pg_up (by omega), pg_up (by omega)]; exact a9 q hq, fun q w hq hw h7 => by rw [pg_up (by omega)]; exact a10 q w hq hw h7, fun t ht => by rw [th_up (by omega)]; exact a11 t ht⟩
  · by_cases e : i = c
    · subst e; rw [up_at]; exact h.1 hi
    · rw [up_ne e]; exact a4 i hi
  · by_cases e : 4 = c
    · subst e; rw [up_at]; exact h.2.1 rfl
    · rw [up_ne e]; exact a5
  · by_cases e : 5 = c
    · subst e; rw [up_at]; exact h.2.2 (by omega)
    · rw [up_ne e]; exact a6
  · by_cases e : 6 = c
    · subst e; rw [up_at]; exact h.2.2 (by omega)
    · rw [up_ne e]; exact a7
theorem iw_set {N : Nat → Nat} {c v p s4 s5 : Nat} (o : IW N p s4 s5) (hc : c < 7) (w : WF (up N c v)) : IW (up N c v) p s4 s5 :=
  iw_same o w (fun i _ _ => up_ne (by omega)) (fun q w _ _ _ _ => pg_up (by omega)) (fun q w _ _ _ => pg_up (by omega)) (fun t w _ _ => th_up (by omega)) (fun t w _ _ _ => th_up (by omega))
/-- one access of a trace, and all its steps -/
def acc (N : Nat → Nat) (s : STP) : Nat × (Nat → Nat) := if s.1 = 119 then acW N s.2.1 s.2.2 else acR N s.2.1 s.2.2 ((src N s.2.2 (th N s.2.1 0) 4).getD 0)
def doL : List STP → (Nat → Nat) → Nat × (Nat → Nat)
  | [], N => (0, N)
  | s :: l, N => if s.1 = 103 then doL l (ts N s.2.1 0 s.2.2) else ((acc N s).1 + (doL l (acc N s).2).1, (doL l (acc N s).2).2)
theorem iw_acc {N : Nat → Nat} {s : STP} (o : IW N 0 0 0) (hs : okS N s) (h0 : s.1 ≠ 103) (h7 : N 7 < 100000) : IW (acc N s).2 0 0 0 ∧ (acc N s).2 7 = N 7 + 1 ∧ ∀ c, c < 10 → c ≠ 7 → (acc N s).2 c = N c := by
  have h8 := o.1.1
  have h9 := o.1.2.1
  have hp : s.2.2 < N 8 := hs.2.resolve_left h0
  unfold acc
  split
  · have a := iw_acW (iw_zero (q := s.2.2) o) hs.1 hp h7
    exact ⟨iw_zero a.1, a.2⟩
  · obtain ⟨b, hb⟩ := src_some (N := N) (p := s.2.2) (h := th N s.2.1 0) 4 (o.1.h (by omega))
    rw [hb]
    have a := iw_acR (iw_zero (q := s.2.2) o) hs.1 hp h7 hb
    exact ⟨iw_zero a.1, a.2⟩
theorem okS_of {N N' : Nat → Nat} {s : STP} (h : okS N s) (h8 : N' 8 = N 8) (h9 : N' 9 = N 9) : okS N' s := by
  unfold okS at h ⊢
  rw [h8, h9]
  exact h
theorem iw_doL : ∀ (l : List STP) {N : Nat → Nat}, IW N 0 0 0 → (∀ s, s ∈ l → okS N s) → (∀ s, s ∈ l → s.1 = 103 → s.2.2 < 4) → N 7 + l.length ≤ 100000 → IW (doL l N).2 0 0 0 ∧ (doL l N).2 7 ≤ N 7 + l.length ∧ ∀ c, c < 10 → c ≠ 7 → (doL l N).2 c = N c
  | [], N, o, _, _, _ => ⟨o, Nat.le_refl _, fun _ _ _ => rfl⟩
  | s :: l, N, o, ho, hg, h7 => by
    rw [List.length_cons] at h7
    have hs := ho s List.mem_cons_self
    have h9 := o.1.2.1
    unfold doL
    split
    · rename_i c
      have o2 : IW (ts N s.2.1 0 s.2.2) 0 0 0 := iw_ts0 o hs.1 (hg s List.mem_cons_self c)
      have i := iw_doL l o2 (fun r hr => okS_of (ho r (List.mem_cons_of_mem _ hr)) (ts_c (by omega)) (ts_c (by omega))) (fun r hr => hg r (List.mem_cons_of_mem _ hr)) (by rw [ts_c (by omega)]; omega)
      rw [ts_c (by omega)] at i
      exact ⟨i.1, by rw [List.length_cons]; omega, fun c h1 h2 => by rw [i.2.2 c h1 h2, ts_c (by omega)]⟩
    · rename_i c
      have a := iw_acc o hs c (by omega)
      have i := iw_doL l a.1 (fun r hr => okS_of (ho r (List.mem_cons_of_mem _ hr)) (a.2.2 8 (by omega) (by omega)) (a.2.2 9 (by omega) (by omega))) (fun r hr => hg r (List.mem_cons_of_mem _ hr)) (by rw [a.2.1]; omega)
      rw [a.2.1] at i
      exact ⟨i.1, by rw [List.length_cons]; dsimp only; omega, fun c h1 h2 => by dsimp only; rw [i.2.2 c h1 h2, a.2.2 c h1 h2]⟩
theorem mul99 {a b : Nat} (ha : a < 3) (hb : b ≤ 99) : a * b ≤ 198 := Nat.le_trans (Nat.mul_le_mul (show a ≤ 2 by omega) hb) (by decide)
theorem fin_le {N : Nat → Nat} {t p h wr far fr paid : Nat} (o : WF N) (hp : p < 40) (hh : h < 4) (hf : fr < 4) : (fin N t p h wr far fr paid).1 ≤ paid + 208 := by
  have hm : (mks N t p h fr).1 ≤ 208 := by
    unfold mks
    split
    · exact Nat.zero_le _
    · have := mul99 (apt_lt hf hh) o.toll
      dsimp only
      omega
  have hv : ∀ {M : Nat → Nat}, M 5 = N 5 → pg M p 0 = pg N p 0 → (mvs M t p h).1 ≤ 208 := fun {M} e e2 => by
    unfold mvs
    split
    · exact Nat.zero_le _
    · have := mul99 (apt_lt (o.h hp) hh) o.toll
      dsimp only
      rw [e, e2]
      omega
  have h2 : ∀ {M : Nat → Nat} {P : Nat}, M 5 = N 5 → pg M p 0 = pg N p 0 → (ask2 P M t p h).1 ≤ 208 := fun {M P} e e2 => by
    unfold ask2
    split
    · exact hv e e2
    · exact Nat.zero_le _
  unfold fin
  split
  · dsimp only; omega
  · refine Nat.add_le_add_left ?_ _
    unfold ask
    split
    · split
      · exact hm
      · rename_i c2
        have e : (mks N t p h fr).2 = (fre p h 41 N).2 := by
          unfold mks at c2 ⊢
          split
          · rfl
          · rename_i c3
            rw [if_neg c3] at c2
            exact absurd c2 (by simp)
        have k := fre_keep (h := h) hp hh 41 N o
        rw [e]
        exact h2 (k.2.2.1 5 (by omega)) (k.2.2.2.1 p 0 hp (by omega) (by omega))
    · exact h2 rfl rfl
theorem cl9 {x : Nat} : (if 999 < x then 999 else x) ≤ 200000 := by split <;> omega
theorem acc_le {N : Nat → Nat} {s : STP} (o : IW N 0 0 0) (hs : okS N s) (h0 : s.1 ≠ 103) (h7 : N 7 < 100000) : (acc N s).1 ≤ 2000 := by
  have h8 := o.1.1
  have h9 := o.1.2.1
  have hp : s.2.2 < N 8 := hs.2.resolve_left h0
  have ht := hs.1
  have hm := o.1.t (show s.2.1 < 8 by omega)
  have hh := o.1.h (show s.2.2 < 40 by omega)
  unfold acc
  generalize s.2.2 = p at *
  generalize s.2.1 = t at *
  have e0 := iw_ac0 (iw_zero (q := p) o) hp h7
  split
  · have e1 : IW (pay (ac0 N p) t p 1 (apt (th N t 0) (pg N p 0))) p 1 1 := iw_pay e0 (by rw [ac0_c (by omega) (by omega)]; exact ht) (by rw [ac0_c (by omega) (by omega)]; exact hp)
    have c1 : ∀ c, c < 10 → pay (ac0 N p) t p 1 (apt (th N t 0) (pg N p 0)) c = ac0 N p c := fun c hc => pay_c hc
    have hw : ∀ n, n ≤ 4 → (wrl (pay (ac0 N p) t p 1 (apt (th N t 0) (pg N p 0))) t p (pg N p 0) n).1 ≤ n * 198 := fun n => by
      induction n with
      | zero => intro _; exact Nat.zero_le _
      | succ n ih =>
        intro hn
        have i := ih (by omega)
        have k := (wrl_keep (fr := pg N p 0) e1.1 (show t < 8 by omega) (show p < 40 by omega) n (by omega)).2.1 5 (by omega)
        have h5 : pay (ac0 N p) t p 1 (apt (th N t 0) (pg N p 0)) 5 ≤ 99 := e1.1.toll
        have := mul99 (apt_lt hh (show n < 4 by omega)) h5
        unfold wrl
        split
        · dsimp only
          rw [k]
          omega
        · omega
    have e2 : IW (acW1 N t p).2 p 1 1 := iw_wrl e1 (by rw [c1 9 (by omega), ac0_c (by omega) (by omega)]; exact ht) (by rw [c1 8 (by omega), ac0_c (by omega) (by omega)]; exact hp) 4 (by omega)
    have m8 : (acW1 N t p).2 8 = N 8 := by
      have := (wrl_keep (fr := pg N p 0) e1.1 (show t < 8 by omega) (show p < 40 by omega) 4 (by omega)).2.1 8 (by omega)
      rw [c1 8 (by omega), ac0_c (by omega) (by omega)] at this
      exact this
    have a1 := hw 4 (by omega)
    have a2 := mul99 (apt_lt hm hh) o.1.toll
    unfold acW
    obtain ⟨i1, i2, i3, i4, i5, i6, i7, i8, i9, i10, i11⟩ := iw_at e2 (show p < 40 by omega)
    have hr := e2.1.room
    have wf : WF (grw (acW2 (acW1 N t p).2 t p) p (th N t 0) 2) := by
      unfold grw
      refine WF_ps ?_ (by omega) (by omega) (by omega) (by omega) (fun _ => cl9)
      unfold acW2
      exact WF_ts (WF_ps (WF_ps e2.1 (by omega) (by omega) (by omega) (by omega) (by omega)) (by omega) (by omega) (by omega) (by omega) (by omega)) (by omega) (by omega) (by omega)
    have := fin_le (t := t) (wr := 1) (far := apt (th N t 0) (pg N p 0)) (paid := 1 + apt (th N t 0) (pg N p 0) * N 5 + (acW1 N t p).1) wf (show p < 40 by omega) hm hh
    have a1 : (acW1 N t p).1 ≤ 4 * 198 := a1
    omega
  · obtain ⟨b, hb⟩ := src_some (N := N) (p := p) (h := th N t 0) 4 (o.1.h (by omega))
    rw [hb]
    have hf := src_lt hb
    have a2 := mul99 (apt_lt hm hf) o.1.toll
    have hr := o.1.room
    unfold acR
    dsimp only [Option.getD_some]
    have wf : WF (grw (ts (if b = pg N p 0 then pay (ac0 N p) t p 1 (apt (th N t 0) b) else ps (pay (ac0 N p) t p 1 (apt (th N t 0) b)) p (14 + b) (N 7 + 1)) t 3 (th N t 3 + 1)) p (th N t 0) 1) := by
      unfold grw
      refine WF_ps (WF_ts ?_ (by omega) (by omega) (by omega)) (by omega) (by omega) (by omega) (by omega) (fun _ => cl9)
      have w1 : WF (pay (ac0 N p) t p 1 (apt (th N t 0) b)) := WF_pay e0.1 (by omega) (by omega)
      split
      · exact w1
      · exact WF_ps w1 (by omega) (by omega) (by omega) (by omega) (by omega)
    have := fin_le (t := t) (wr := 0) (far := apt (th N t 0) b) (paid := 1 + apt (th N t 0) b * N 5) wf (show p < 40 by omega) hm hf
    omega
theorem doL_le : ∀ (l : List STP) {N : Nat → Nat}, IW N 0 0 0 → (∀ s, s ∈ l → okS N s) → (∀ s, s ∈ l → s.1 = 103 → s.2.2 < 4) → N 7 + l.length ≤ 100000 → (doL l N).1 ≤ l.length * 2000
  | [], N, o, _, _, _ => Nat.zero_le _
  | s :: l, N, o, ho, hg, h7 => by
    rw [List.length_cons] at h7
    rw [List.length_cons, Nat.add_mul, Nat.one_mul]
    have hs := ho s List.mem_cons_self
    have h9 := o.1.2.1
    unfold doL
    split
    · rename_i c
      have o2 : IW (ts N s.2.1 0 s.2.2) 0 0 0 := iw_ts0 o hs.1 (hg s List.mem_cons_self c)
      have i := doL_le l o2 (fun r hr => okS_of (ho r (List.mem_cons_of_mem _ hr)) (ts_c (by omega)) (ts_c (by omega))) (fun r hr => hg r (List.mem_cons_of_mem _ hr)) (by rw [ts_c (by omega)]; omega)
      exact Nat.le_trans i (Nat.le_add_right _ _)
    · rename_i c
      have a := iw_acc o hs c (by omega)
      have b := acc_le o hs c (by omega)
      have i := doL_le l a.1 (fun r hr => okS_of (ho r (List.mem_cons_of_mem _ hr)) (a.2.2 8 (by omega) (by omega)) (a.2.2 9 (by omega) (by omega))) (fun r hr => hg r (List.mem_cons_of_mem _ hr)) (by rw [a.2.1]; omega)
      rw [Nat.add_comm (l.length * 2000)]
      exact Nat.add_le_add b i
/-- the policy that costs least, of those up to n -/
def bst (F : Nat → Nat) : Nat → Nat × Nat
  | 0 => (0, F 0)
  | n + 1 => if F (n + 1) < (bst F n).2 then (n + 1, F (n + 1)) else bst F n
section MX2
variable {sc : SC} {h : AHp} {Q : PT} {Hi Sl Sp Tx : Nat → Nat} {a2 a4 L : Nat}
theorem l128 (h60 : L ≤ 60) (hT : ∀ i, i < 60 → Tx i < 65536) : ∀ (l : List STP) (N : Nat → Nat) (f c a u v kk tt nn : Nat), IW N 0 0 0 → (∀ s, s ∈ l → okS N s) → N 7 + l.length ≤ 100000 → (l ≠ [] → a ≤ L ∧ prs Tx L f a = .inr l) → (l = [] → L ≤ a ∧ a ≤ 100) →
    (∀ a' k' t' n', Q (some (.int (nI (c + (doL l N).1)))) (pm h (doL l N).2 Hi Sl Sp Tx (zf a2 a4 L a' k' t' n'))) →
    E sc 128 1 u v [.ref 953, .int (nI c)] [] (pm h N Hi Sl Sp Tx (zf a2 a4 L (a) (kk) (tt) (nn))) Q
  | [], N, f, c, a, u, v, kk, tt, nn, o, ho, h7, hl, ha, k => by
    have ha := ha rfl
    refine e128_1 ?_
    simp (disch := omega) only [k128_1, ad1, ad2, ad3, ad4, zf_2, zf_4, zf_6, zf_8, zf_9, zf_10, zf_11, pm_y8, pm_y9, pm_y10, pm_y11, B_nil, B_iconst, B_bipush, B_sipush, B_ldc, B_null, B_iload_n, B_iload, B_aload_n, B_aload, B_istore_n, B_istore, B_astore_n, B_astore, B_astore_nN, B_astoreN, B_iinc, B_iadd, B_isub, B_imul, B_idiv, B_irem, B_ineg, B_iand, B_ior, B_ixor, B_ishl, B_ishr, B_i2c, B_dup, B_dup2, B_pop, B_goto, B_if_eq, B_if_ne, B_if_lt, B_if_ge, B_if_gt, B_if_le, B_ic_eq, B_ic_ne, B_ic_lt, B_ic_ge, B_ic_gt, B_ic_le, B_ifnullN, B_ifnull, B_ifnonnullN, B_ifnonnull, B_switch, B_ireturn, B_areturn, B_areturnN, B_return, B_getfield, B_putfield, B_iaload, B_ialoadS, B_caload, B_iastore, B_castore, B_aaload, B_aastore, B_alenS, B_alen, B_new, B_newarray, B_anewarray, B_iv0, B_iv1, B_iv2, B_iv3, B_iv4, B_iv6, B_obj, B_is0, B_is1, B_st1, B_st2, B_st3, B_copy, List.getElem?_cons_zero, List.getElem?_cons_succ, List.set_cons_zero, List.set_cons_succ, List.length_cons, List.length_nil, List.all_cons, List.all_nil, List.nil_append, List.cons_append, Option.toList_some, Option.toList_none, okv, kst_0, kst_1, pok_i, pok_z0, pok_z1, pok_o, pok_a, c0_0, c0_1, c1_0, c1_1, c1_2, c2_0, c2_1, c2_2, c2_3, c2_4, c2_5, c2_6, c2_7, c2_8, c2_9, c2_10, c3_0, c3_1, c3_2, c3_3, c3_4, c3_5, c3_6, c3_7, c3_8, c3_9, c3_10, c3_11, c3_12, c4_0, c4_1, c4_2, c4_3, c4_4, c5_0, c5_1, c5_2, c5_3, c5_4, c5_5, c6_0, c6_1, c6_2, c6_3, c6_4, c6_5, c7_0, c7_1, c7_2, c7_3, c7_4, c7_5, c7_6, c7_7, c7_8, c7_9, c7_10, c7_11, zok_int, zok_b0, zok_b1, aok_obj, Bool.and_true, Bool.and_self, true_and, and_true, Nat.reduceAdd, Nat.reduceLeDiff, Nat.reduceEqDiff, Nat.zero_le, Nat.reduceLT, Nat.reduceSub, Nat.reduceMul, ne_eq, not_false_eq_true, Nat.zero_add, Nat.add_zero, exists_eq', Sum.inr.injEq, Prod.mk.injEq, rfv_s, rfv_n, reduceCtorEq, not_true_eq_false, false_implies, true_implies, implies_true, ↓reduceIte, pk_divD, pg_up, th_up, ps_c, ts_c, pg_ps_s, pg_ps_n, th_ps, pg_ts, th_ts_s, th_ts_n, Nat.not_lt, Nat.not_le, Decidable.not_not, nI_add, pk_mul, nI_clamp, vi_t, ja_at, ja_up, nz_eq, nI_eq, nI_ltI, nI_leI, nI_lt0, nI_le0, nI_0lt, nI_0le, if_pos, if_neg, up_at, up_ne, nI_subL, pm_0, pm_1, pm_2, pm_3, pm_4, pm_5, pm_n, pm_s1, pm_s2, pm_s3, pm_s4, pm_s5, pm_z2, pm_z4, pm_z6, pm_z8, pm_z9, pm_z10, pm_z11]
    refine ⟨fun _ => ?_, fun c => absurd c (by omega)⟩
    refine e128_5 ?_
    simp (disch := omega) only [k128_5, B_nil, B_iconst, B_bipush, B_sipush, B_ldc, B_null, B_iload_n, B_iload, B_aload_n, B_aload, B_istore_n, B_istore, B_astore_n, B_astore, B_astore_nN, B_astoreN, B_iinc, B_iadd, B_isub, B_imul, B_idiv, B_irem, B_ineg, B_iand, B_ior, B_ixor, B_ishl, B_ishr, B_i2c, B_dup, B_dup2, B_pop, B_goto, B_if_eq, B_if_ne, B_if_lt, B_if_ge, B_if_gt, B_if_le, B_ic_eq, B_ic_ne, B_ic_lt, B_ic_ge, B_ic_gt, B_ic_le, B_ifnullN, B_ifnull, B_ifnonnullN, B_ifnonnull, B_switch, B_ireturn, B_areturn, B_areturnN, B_return, B_getfield, B_putfield, B_iaload, B_ialoadS, B_caload, B_iastore, B_castore, B_aaload, B_aastore, B_alenS, B_alen, B_new, B_newarray, B_anewarray, B_iv0, B_iv1, B_iv2, B_iv3, B_iv4, B_iv6, B_obj, B_is0, B_is1, B_st1, B_st2, B_st3, B_copy, List.getElem?_cons_zero, List.getElem?_cons_succ, List.set_cons_zero, List.set_cons_succ, List.length_cons, List.length_nil, List.all_cons, List.all_nil, List.nil_append, List.cons_append, Option.toList_some, Option.toList_none, okv, kst_0, kst_1, pok_i, pok_z0, pok_z1, pok_o, pok_a, c0_0, c0_1, c1_0, c1_1, c1_2, c2_0, c2_1, c2_2, c2_3, c2_4, c2_5, c2_6, c2_7, c2_8, c2_9, c2_10, c3_0, c3_1, c3_2, c3_3, c3_4, c3_5, c3_6, c3_7, c3_8, c3_9, c3_10, c3_11, c3_12, c4_0, c4_1, c4_2, c4_3, c4_4, c5_0, c5_1, c5_2, c5_3, c5_4, c5_5, c6_0, c6_1, c6_2, c6_3, c6_4, c6_5, c7_0, c7_1, c7_2, c7_3, c7_4, c7_5, c7_6, c7_7, c7_8, c7_9, c7_10, c7_11, zok_int, zok_b0, zok_b1, aok_obj, Bool.and_true, Bool.and_self, true_and, and_true, Nat.reduceAdd, Nat.reduceLeDiff, Nat.reduceEqDiff, Nat.zero_le, Nat.reduceLT, Nat.reduceSub, Nat.reduceMul, ne_eq, not_false_eq_true, Nat.zero_add, Nat.add_zero, exists_eq', Sum.inr.injEq, Prod.mk.injEq, rfv_s, rfv_n, reduceCtorEq, not_true_eq_false, false_implies, true_implies, implies_true, ↓reduceIte, pk_divD, pg_up, th_up, ps_c, ts_c, pg_ps_s, pg_ps_n, th_ps, pg_ts, th_ts_s, th_ts_n, Nat.not_lt, Nat.not_le, Decidable.not_not, nI_add, pk_mul, nI_clamp, vi_t, ja_at, ja_up, nz_eq, nI_eq, nI_ltI, nI_leI, nI_lt0, nI_le0, nI_0lt, nI_0le, if_pos, if_neg, up_at, up_ne, nI_subL, pm_0, pm_1, pm_2, pm_3, pm_4, pm_5, pm_n, pm_s1, pm_s2, pm_s3, pm_s4, pm_s5, pm_z2, pm_z4, pm_z6, pm_z8, pm_z9, pm_z10, pm_z11]
    exact k _ _ _ _
  | s :: l, N, f, c, a, u, v, kk, tt, nn, o, ho, h7, hl, _, k => by
    rw [List.length_cons] at h7
    obtain ⟨ha, hp⟩ := hl (by simp)
    have hlt := prs_lt ha hp
    have hall := prs_all ha hp
    obtain ⟨f', l', ef, el, h1, hr⟩ := prs_cons ha hp
    injection el with es el
    subst el
    have h9 := o.1.2.1
    have h8 := o.1.1
    have hs := ho s List.mem_cons_self
    have hsv := hall s List.mem_cons_self
    have ok := stq_ok ha (show (stq Tx L a).1 ≠ 0 by omega)
    have hle := ok.2.2.2.2.2.2.2.2
    have next : ∀ (N' : Nat → Nat) c' u v kk tt nn, IW N' 0 0 0 → N' 8 = N 8 → N' 9 = N 9 → N' 7 ≤ N 7 + 1 → (∀ a' k' t' n', Q (some (.int (nI (c' + (doL l N').1)))) (pm h (doL l N').2 Hi Sl Sp Tx (zf a2 a4 L a' k' t' n'))) → E sc 128 1 u v [.ref 953, .int (nI c')] [] (pm h N' Hi Sl Sp Tx (zf a2 a4 L ((stq Tx L a).2 + 1) kk tt nn)) Q := fun N' c' u v kk tt nn o' e8 e9 e7 kQ => by
      refine l128 h60 hT l N' f' c' ((stq Tx L a).2 + 1) u v kk tt nn o' (fun r hr => okS_of (ho r (List.mem_cons_of_mem _ hr)) e8 e9) (by omega) (fun hne => ?_) (fun e => ?_) kQ
      · rcases hr with ⟨_, e⟩ | ⟨e1, _, e2⟩
        · exact absurd e hne
        · exact ⟨e1, e2⟩
      · rcases hr with ⟨e1, _⟩ | ⟨e1, _, e2⟩
        · omega
        · subst e
          have := prs_cons (show (stq Tx L a).2 + 1 ≤ L by omega) e2
          obtain ⟨_, _, _, z, _⟩ := this
          cases z
    refine e128_1 ?_
    simp (disch := omega) only [k128_1, ad1, ad2, ad3, ad4, zf_2, zf_4, zf_6, zf_8, zf_9, zf_10, zf_11, pm_y8, pm_y9, pm_y10, pm_y11, B_nil, B_iconst, B_bipush, B_sipush, B_ldc, B_null, B_iload_n, B_iload, B_aload_n, B_aload, B_istore_n, B_istore, B_astore_n, B_astore, B_astore_nN, B_astoreN, B_iinc, B_iadd, B_isub, B_imul, B_idiv, B_irem, B_ineg, B_iand, B_ior, B_ixor, B_ishl, B_ishr, B_i2c, B_dup, B_dup2, B_pop, B_goto, B_if_eq, B_if_ne, B_if_lt, B_if_ge, B_if_gt, B_if_le, B_ic_eq, B_ic_ne, B_ic_lt, B_ic_ge, B_ic_gt, B_ic_le, B_ifnullN, B_ifnull, B_ifnonnullN, B_ifnonnull, B_switch, B_ireturn, B_areturn, B_areturnN, B_return, B_getfield, B_putfield, B_iaload, B_ialoadS, B_caload, B_iastore, B_castore, B_aaload, B_aastore, B_alenS, B_alen, B_new, B_newarray, B_anewarray, B_iv0, B_iv1, B_iv2, B_iv3, B_iv4, B_iv6, B_obj, B_is0, B_is1, B_st1, B_st2, B_st3, B_copy, List.getElem?_cons_zero, List.getElem?_cons_succ, List.set_cons_zero, List.set_cons_succ, List.length_cons, List.length_nil, List.all_cons, List.all_nil, List.nil_append, List.cons_append, Option.toList_some, Option.toList_none, okv, kst_0, kst_1, pok_i, pok_z0, pok_z1, pok_o, pok_a, c0_0, c0_1, c1_0, c1_1, c1_2, c2_0, c2_1, c2_2, c2_3, c2_4, c2_5, c2_6, c2_7, c2_8, c2_9, c2_10, c3_0, c3_1, c3_2, c3_3, c3_4, c3_5, c3_6, c3_7, c3_8, c3_9, c3_10, c3_11, c3_12, c4_0, c4_1, c4_2, c4_3, c4_4, c5_0, c5_1, c5_2, c5_3, c5_4, c5_5, c6_0, c6_1, c6_2, c6_3, c6_4, c6_5, c7_0, c7_1, c7_2, c7_3, c7_4, c7_5, c7_6, c7_7, c7_8, c7_9, c7_10, c7_11, zok_int, zok_b0, zok_b1, aok_obj, Bool.and_true, Bool.and_self, true_and, and_true, Nat.reduceAdd, Nat.reduceLeDiff, Nat.reduceEqDiff, Nat.zero_le, Nat.reduceLT, Nat.reduceSub, Nat.reduceMul, ne_eq, not_false_eq_true, Nat.zero_add, Nat.add_zero, exists_eq', Sum.inr.injEq, Prod.mk.injEq, rfv_s, rfv_n, reduceCtorEq, not_true_eq_false, false_implies, true_implies, implies_true, ↓reduceIte, pk_divD, pg_up, th_up, ps_c, ts_c, pg_ps_s, pg_ps_n, th_ps, pg_ts, th_ts_s, th_ts_n, Nat.not_lt, Nat.not_le, Decidable.not_not, nI_add, pk_mul, nI_clamp, vi_t, ja_at, ja_up, nz_eq, nI_eq, nI_ltI, nI_leI, nI_lt0, nI_le0, nI_0lt, nI_0le, if_pos, if_neg, up_at, up_ne, nI_subL, pm_0, pm_1, pm_2, pm_3, pm_4, pm_5, pm_n, pm_s1, pm_s2, pm_s3, pm_s4, pm_s5, pm_z2, pm_z4, pm_z6, pm_z8, pm_z9, pm_z10, pm_z11]
    refine ⟨fun c => absurd c (by omega), fun c1 => ?_⟩
    refine s125 h60 ha hT (fun k' t' n' hk => ?_)
    obtain ⟨rfl, rfl, rfl⟩ := hk (by omega)
    have e0 : Tx a = s.1 := by rw [es]; rfl
    have e1 : Tx (a + 1) - 48 = s.2.1 := by rw [es]; rfl
    have e2 : stn Tx L a = s.2.2 := by rw [es]; rfl
    rw [e0, e1, e2]
    have hTa := hT a (by omega)
    rw [e0] at hTa
    have hs1 := hs.1
    obtain ⟨v1, v2, v3, v4⟩ := hsv
    simp (disch := omega) only [ad1, ad2, ad3, ad4, zf_2, zf_4, zf_6, zf_8, zf_9, zf_10, zf_11, pm_y8, pm_y9, pm_y10, pm_y11, B_nil, B_iconst, B_bipush, B_sipush, B_ldc, B_null, B_iload_n, B_iload, B_aload_n, B_aload, B_istore_n, B_istore, B_astore_n, B_astore, B_astore_nN, B_astoreN, B_iinc, B_iadd, B_isub, B_imul, B_idiv, B_irem, B_ineg, B_iand, B_ior, B_ixor, B_ishl, B_ishr, B_i2c, B_dup, B_dup2, B_pop, B_goto, B_if_eq, B_if_ne, B_if_lt, B_if_ge, B_if_gt, B_if_le, B_ic_eq, B_ic_ne, B_ic_lt, B_ic_ge, B_ic_gt, B_ic_le, B_ifnullN, B_ifnull, B_ifnonnullN, B_ifnonnull, B_switch, B_ireturn, B_areturn, B_areturnN, B_return, B_getfield, B_putfield, B_iaload, B_ialoadS, B_caload, B_iastore, B_castore, B_aaload, B_aastore, B_alenS, B_alen, B_new, B_newarray, B_anewarray, B_iv0, B_iv1, B_iv2, B_iv3, B_iv4, B_iv6, B_obj, B_is0, B_is1, B_st1, B_st2, B_st3, B_copy, List.getElem?_cons_zero, List.getElem?_cons_succ, List.set_cons_zero, List.set_cons_succ, List.length_cons, List.length_nil, List.all_cons, List.all_nil, List.nil_append, List.cons_append, Option.toList_some, Option.toList_none, okv, kst_0, kst_1, pok_i, pok_z0, pok_z1, pok_o, pok_a, c0_0, c0_1, c1_0, c1_1, c1_2, c2_0, c2_1, c2_2, c2_3, c2_4, c2_5, c2_6, c2_7, c2_8, c2_9, c2_10, c3_0, c3_1, c3_2, c3_3, c3_4, c3_5, c3_6, c3_7, c3_8, c3_9, c3_10, c3_11, c3_12, c4_0, c4_1, c4_2, c4_3, c4_4, c5_0, c5_1, c5_2, c5_3, c5_4, c5_5, c6_0, c6_1, c6_2, c6_3, c6_4, c6_5, c7_0, c7_1, c7_2, c7_3, c7_4, c7_5, c7_6, c7_7, c7_8, c7_9, c7_10, c7_11, zok_int, zok_b0, zok_b1, aok_obj, Bool.and_true, Bool.and_self, true_and, and_true, Nat.reduceAdd, Nat.reduceLeDiff, Nat.reduceEqDiff, Nat.zero_le, Nat.reduceLT, Nat.reduceSub, Nat.reduceMul, ne_eq, not_false_eq_true, Nat.zero_add, Nat.add_zero, exists_eq', Sum.inr.injEq, Prod.mk.injEq, rfv_s, rfv_n, reduceCtorEq, not_true_eq_false, false_implies, true_implies, implies_true, ↓reduceIte, pk_divD, pg_up, th_up, ps_c, ts_c, pg_ps_s, pg_ps_n, th_ps, pg_ts, th_ts_s, th_ts_n, Nat.not_lt, Nat.not_le, Decidable.not_not, nI_add, pk_mul, nI_clamp, vi_t, ja_at, ja_up, nz_eq, nI_eq, nI_ltI, nI_leI, nI_lt0, nI_le0, nI_0lt, nI_0le, if_pos, if_neg, up_at, up_ne, nI_subL, pm_0, pm_1, pm_2, pm_3, pm_4, pm_5, pm_n, pm_s1, pm_s2, pm_s3, pm_s4, pm_s5, pm_z2, pm_z4, pm_z6, pm_z8, pm_z9, pm_z10, pm_z11]
    refine ⟨fun c2 => ?_, fun c2 => ?_⟩
    · have hp : s.2.2 < N 8 := hs.2.resolve_left c2
      have ha : AC N s.2.2 := AC_of (iw_zero o) (by omega) (by omega)
      have ac := iw_acc o hs c2 (by omega)
      have ek : ∀ a' k' t' n', Q (some (.int (nI (c + (acc N s).1 + (doL l (acc N s).2).1)))) (pm h (doL l (acc N s).2).2 Hi Sl Sp Tx (zf a2 a4 L a' k' t' n')) := fun a' k' t' n' => by
        have := k a' k' t' n'
        have e : doL (s :: l) N = ((acc N s).1 + (doL l (acc N s).2).1, (doL l (acc N s).2).2) := by
          conv => lhs; unfold doL
          rw [if_neg c2]
        rw [e] at this
        rw [Nat.add_assoc]
        exact this
      refine e128_2 ?_
      simp (disch := omega) only [k128_2, ad1, ad2, ad3, ad4, zf_2, zf_4, zf_6, zf_8, zf_9, zf_10, zf_11, pm_y8, pm_y9, pm_y10, pm_y11, B_nil, B_iconst, B_bipush, B_sipush, B_ldc, B_null, B_iload_n, B_iload, B_aload_n, B_aload, B_istore_n, B_istore, B_astore_n, B_astore, B_astore_nN, B_astoreN, B_iinc, B_iadd, B_isub, B_imul, B_idiv, B_irem, B_ineg, B_iand, B_ior, B_ixor, B_ishl, B_ishr, B_i2c, B_dup, B_dup2, B_pop, B_goto, B_if_eq, B_if_ne, B_if_lt, B_if_ge, B_if_gt, B_if_le, B_ic_eq, B_ic_ne, B_ic_lt, B_ic_ge, B_ic_gt, B_ic_le, B_ifnullN, B_ifnull, B_ifnonnullN, B_ifnonnull, B_switch, B_ireturn, B_areturn, B_areturnN, B_return, B_getfield, B_putfield, B_iaload, B_ialoadS, B_caload, B_iastore, B_castore, B_aaload, B_aastore, B_alenS, B_alen, B_new, B_newarray, B_anewarray, B_iv0, B_iv1, B_iv2, B_iv3, B_iv4, B_iv6, B_obj, B_is0, B_is1, B_st1, B_st2, B_st3, B_copy, List.getElem?_cons_zero, List.getElem?_cons_succ, List.set_cons_zero, List.set_cons_succ, List.length_cons, List.length_nil, List.all_cons, List.all_nil, List.nil_append, List.cons_append, Option.toList_some, Option.toList_none, okv, kst_0, kst_1, pok_i, pok_z0, pok_z1, pok_o, pok_a, c0_0, c0_1, c1_0, c1_1, c1_2, c2_0, c2_1, c2_2, c2_3, c2_4, c2_5, c2_6, c2_7, c2_8, c2_9, c2_10, c3_0, c3_1, c3_2, c3_3, c3_4, c3_5, c3_6, c3_7, c3_8, c3_9, c3_10, c3_11, c3_12, c4_0, c4_1, c4_2, c4_3, c4_4, c5_0, c5_1, c5_2, c5_3, c5_4, c5_5, c6_0, c6_1, c6_2, c6_3, c6_4, c6_5, c7_0, c7_1, c7_2, c7_3, c7_4, c7_5, c7_6, c7_7, c7_8, c7_9, c7_10, c7_11, zok_int, zok_b0, zok_b1, aok_obj, Bool.and_true, Bool.and_self, true_and, and_true, Nat.reduceAdd, Nat.reduceLeDiff, Nat.reduceEqDiff, Nat.zero_le, Nat.reduceLT, Nat.reduceSub, Nat.reduceMul, ne_eq, not_false_eq_true, Nat.zero_add, Nat.add_zero, exists_eq', Sum.inr.injEq, Prod.mk.injEq, rfv_s, rfv_n, reduceCtorEq, not_true_eq_false, false_implies, true_implies, implies_true, ↓reduceIte, pk_divD, pg_up, th_up, ps_c, ts_c, pg_ps_s, pg_ps_n, th_ps, pg_ts, th_ts_s, th_ts_n, Nat.not_lt, Nat.not_le, Decidable.not_not, nI_add, pk_mul, nI_clamp, vi_t, ja_at, ja_up, nz_eq, nI_eq, nI_ltI, nI_leI, nI_lt0, nI_le0, nI_0lt, nI_0le, if_pos, if_neg, up_at, up_ne, nI_subL, pm_0, pm_1, pm_2, pm_3, pm_4, pm_5, pm_n, pm_s1, pm_s2, pm_s3, pm_s4, pm_s5, pm_z2, pm_z4, pm_z6, pm_z8, pm_z9, pm_z10, pm_z11]
      refine ⟨fun c3 => ?_, fun c3 => ?_⟩
      · refine e128_3 ?_
        simp (disch := omega) only [k128_3, B_nil, B_iconst, B_bipush, B_sipush, B_ldc, B_null, B_iload_n, B_iload, B_aload_n, B_aload, B_istore_n, B_istore, B_astore_n, B_astore, B_astore_nN, B_astoreN, B_iinc, B_iadd, B_isub, B_imul, B_idiv, B_irem, B_ineg, B_iand, B_ior, B_ixor, B_ishl, B_ishr, B_i2c, B_dup, B_dup2, B_pop, B_goto, B_if_eq, B_if_ne, B_if_lt, B_if_ge, B_if_gt, B_if_le, B_ic_eq, B_ic_ne, B_ic_lt, B_ic_ge, B_ic_gt, B_ic_le, B_ifnullN, B_ifnull, B_ifnonnullN, B_ifnonnull, B_switch, B_ireturn, B_areturn, B_areturnN, B_return, B_getfield, B_putfield, B_iaload, B_ialoadS, B_caload, B_iastore, B_castore, B_aaload, B_aastore, B_alenS, B_alen, B_new, B_newarray, B_anewarray, B_iv0, B_iv1, B_iv2, B_iv3, B_iv4, B_iv6, B_obj, B_is0, B_is1, B_st1, B_st2, B_st3, B_copy, List.getElem?_cons_zero, List.getElem?_cons_succ, List.set_cons_zero, List.set_cons_succ, List.length_cons, List.length_nil, List.all_cons, List.all_nil, List.nil_append, List.cons_append, Option.toList_some, Option.toList_none, okv, kst_0, kst_1, pok_i, pok_z0, pok_z1, pok_o, pok_a, c0_0, c0_1, c1_0, c1_1, c1_2, c2_0, c2_1, c2_2, c2_3, c2_4, c2_5, c2_6, c2_7, c2_8, c2_9, c2_10, c3_0, c3_1, c3_2, c3_3, c3_4, c3_5, c3_6, c3_7, c3_8, c3_9, c3_10, c3_11, c3_12, c4_0, c4_1, c4_2, c4_3, c4_4, c5_0, c5_1, c5_2, c5_3, c5_4, c5_5, c6_0, c6_1, c6_2, c6_3, c6_4, c6_5, c7_0, c7_1, c7_2, c7_3, c7_4, c7_5, c7_6, c7_7, c7_8, c7_9, c7_10, c7_11, zok_int, zok_b0, zok_b1, aok_obj, Bool.and_true, Bool.and_self, true_and, and_true, Nat.reduceAdd, Nat.reduceLeDiff, Nat.reduceEqDiff, Nat.zero_le, Nat.reduceLT, Nat.reduceSub, Nat.reduceMul, ne_eq, not_false_eq_true, Nat.zero_add, Nat.add_zero, exists_eq', Sum.inr.injEq, Prod.mk.injEq, rfv_s, rfv_n, reduceCtorEq, not_true_eq_false, false_implies, true_implies, implies_true, ↓reduceIte, pk_divD, pg_up, th_up, ps_c, ts_c, pg_ps_s, pg_ps_n, th_ps, pg_ts, th_ts_s, th_ts_n, Nat.not_lt, Nat.not_le, Decidable.not_not, nI_add, pk_mul, nI_clamp, vi_t, ja_at, ja_up, nz_eq, nI_eq, nI_ltI, nI_leI, nI_lt0, nI_le0, nI_0lt, nI_0le, if_pos, if_neg, up_at, up_ne, nI_subL, pm_0, pm_1, pm_2, pm_3, pm_4, pm_5, pm_n, pm_s1, pm_s2, pm_s3, pm_s4, pm_s5, pm_z2, pm_z4, pm_z6, pm_z8, pm_z9, pm_z10, pm_z11]
        refine e128_4 ?_
        simp (disch := omega) only [k128_4, B_nil, B_iconst, B_bipush, B_sipush, B_ldc, B_null, B_iload_n, B_iload, B_aload_n, B_aload, B_istore_n, B_istore, B_astore_n, B_astore, B_astore_nN, B_astoreN, B_iinc, B_iadd, B_isub, B_imul, B_idiv, B_irem, B_ineg, B_iand, B_ior, B_ixor, B_ishl, B_ishr, B_i2c, B_dup, B_dup2, B_pop, B_goto, B_if_eq, B_if_ne, B_if_lt, B_if_ge, B_if_gt, B_if_le, B_ic_eq, B_ic_ne, B_ic_lt, B_ic_ge, B_ic_gt, B_ic_le, B_ifnullN, B_ifnull, B_ifnonnullN, B_ifnonnull, B_switch, B_ireturn, B_areturn, B_areturnN, B_return, B_getfield, B_putfield, B_iaload, B_ialoadS, B_caload, B_iastore, B_castore, B_aaload, B_aastore, B_alenS, B_alen, B_new, B_newarray, B_anewarray, B_iv0, B_iv1, B_iv2, B_iv3, B_iv4, B_iv6, B_obj, B_is0, B_is1, B_st1, B_st2, B_st3, B_copy, List.getElem?_cons_zero, List.getElem?_cons_succ, List.set_cons_zero, List.set_cons_succ, List.length_cons, List.length_nil, List.all_cons, List.all_nil, List.nil_append, List.cons_append, Option.toList_some, Option.toList_none, okv, kst_0, kst_1, pok_i, pok_z0, pok_z1, pok_o, pok_a, c0_0, c0_1, c1_0, c1_1, c1_2, c2_0, c2_1, c2_2, c2_3, c2_4, c2_5, c2_6, c2_7, c2_8, c2_9, c2_10, c3_0, c3_1, c3_2, c3_3, c3_4, c3_5, c3_6, c3_7, c3_8, c3_9, c3_10, c3_11, c3_12, c4_0, c4_1, c4_2, c4_3, c4_4, c5_0, c5_1, c5_2, c5_3, c5_4, c5_5, c6_0, c6_1, c6_2, c6_3, c6_4, c6_5, c7_0, c7_1, c7_2, c7_3, c7_4, c7_5, c7_6, c7_7, c7_8, c7_9, c7_10, c7_11, zok_int, zok_b0, zok_b1, aok_obj, Bool.and_true, Bool.and_self, true_and, and_true, Nat.reduceAdd, Nat.reduceLeDiff, Nat.reduceEqDiff, Nat.zero_le, Nat.reduceLT, Nat.reduceSub, Nat.reduceMul, ne_eq, not_false_eq_true, Nat.zero_add, Nat.add_zero, exists_eq', Sum.inr.injEq, Prod.mk.injEq, rfv_s, rfv_n, reduceCtorEq, not_true_eq_false, false_implies, true_implies, implies_true, ↓reduceIte, pk_divD, pg_up, th_up, ps_c, ts_c, pg_ps_s, pg_ps_n, th_ps, pg_ts, th_ts_s, th_ts_n, Nat.not_lt, Nat.not_le, Decidable.not_not, nI_add, pk_mul, nI_clamp, vi_t, ja_at, ja_up, nz_eq, nI_eq, nI_ltI, nI_leI, nI_lt0, nI_le0, nI_0lt, nI_0le, if_pos, if_neg, up_at, up_ne, nI_subL, pm_0, pm_1, pm_2, pm_3, pm_4, pm_5, pm_n, pm_s1, pm_s2, pm_s3, pm_s4, pm_s5, pm_z2, pm_z4, pm_z6, pm_z8, pm_z9, pm_z10, pm_z11]
        obtain ⟨b, hb⟩ := src_some (N := N) (p := s.2.2) (h := th N s.2.1 0) 4 (o.1.h (by omega))
        have ea : acc N s = acR N s.2.1 s.2.2 b := by unfold acc; rw [if_neg c3, hb]; rfl
        refine s116r o.1 (by omega) (by omega) ha hb ?_
        simp (disch := omega) only [B_nil, B_iconst, B_bipush, B_sipush, B_ldc, B_null, B_iload_n, B_iload, B_aload_n, B_aload, B_istore_n, B_istore, B_astore_n, B_astore, B_astore_nN, B_astoreN, B_iinc, B_iadd, B_isub, B_imul, B_idiv, B_irem, B_ineg, B_iand, B_ior, B_ixor, B_ishl, B_ishr, B_i2c, B_dup, B_dup2, B_pop, B_goto, B_if_eq, B_if_ne, B_if_lt, B_if_ge, B_if_gt, B_if_le, B_ic_eq, B_ic_ne, B_ic_lt, B_ic_ge, B_ic_gt, B_ic_le, B_ifnullN, B_ifnull, B_ifnonnullN, B_ifnonnull, B_switch, B_ireturn, B_areturn, B_areturnN, B_return, B_getfield, B_putfield, B_iaload, B_ialoadS, B_caload, B_iastore, B_castore, B_aaload, B_aastore, B_alenS, B_alen, B_new, B_newarray, B_anewarray, B_iv0, B_iv1, B_iv2, B_iv3, B_iv4, B_iv6, B_obj, B_is0, B_is1, B_st1, B_st2, B_st3, B_copy, List.getElem?_cons_zero, List.getElem?_cons_succ, List.set_cons_zero, List.set_cons_succ, List.length_cons, List.length_nil, List.all_cons, List.all_nil, List.nil_append, List.cons_append, Option.toList_some, Option.toList_none, okv, kst_0, kst_1, pok_i, pok_z0, pok_z1, pok_o, pok_a, c0_0, c0_1, c1_0, c1_1, c1_2, c2_0, c2_1, c2_2, c2_3, c2_4, c2_5, c2_6, c2_7, c2_8, c2_9, c2_10, c3_0, c3_1, c3_2, c3_3, c3_4, c3_5, c3_6, c3_7, c3_8, c3_9, c3_10, c3_11, c3_12, c4_0, c4_1, c4_2, c4_3, c4_4, c5_0, c5_1, c5_2, c5_3, c5_4, c5_5, c6_0, c6_1, c6_2, c6_3, c6_4, c6_5, c7_0, c7_1, c7_2, c7_3, c7_4, c7_5, c7_6, c7_7, c7_8, c7_9, c7_10, c7_11, zok_int, zok_b0, zok_b1, aok_obj, Bool.and_true, Bool.and_self, true_and, and_true, Nat.reduceAdd, Nat.reduceLeDiff, Nat.reduceEqDiff, Nat.zero_le, Nat.reduceLT, Nat.reduceSub, Nat.reduceMul, ne_eq, not_false_eq_true, Nat.zero_add, Nat.add_zero, exists_eq', Sum.inr.injEq, Prod.mk.injEq, rfv_s, rfv_n, reduceCtorEq, not_true_eq_false, false_implies, true_implies, implies_true, ↓reduceIte, pk_divD, pg_up, th_up, ps_c, ts_c, pg_ps_s, pg_ps_n, th_ps, pg_ts, th_ts_s, th_ts_n, Nat.not_lt, Nat.not_le, Decidable.not_not, nI_add, pk_mul, nI_clamp, vi_t, ja_at, ja_up, nz_eq, nI_eq, nI_ltI, nI_leI, nI_lt0, nI_le0, nI_0lt, nI_0le, if_pos, if_neg, up_at, up_ne, nI_subL, pm_0, pm_1, pm_2, pm_3, pm_4, pm_5, pm_n, pm_s1, pm_s2, pm_s3, pm_s4, pm_s5, pm_z2, pm_z4, pm_z6, pm_z8, pm_z9, pm_z10, pm_z11]
        rw [← ea]
        exact next _ _ _ _ _ _ _ ac.1 (ac.2.2 8 (by omega) (by omega)) (ac.2.2 9 (by omega) (by omega)) (by rw [ac.2.1]; omega) ek
      · have ea : acc N s = acW N s.2.1 s.2.2 := by unfold acc; rw [if_pos c3]
        refine e128_4 ?_
        simp (disch := omega) only [k128_4, B_nil, B_iconst, B_bipush, B_sipush, B_ldc, B_null, B_iload_n, B_iload, B_aload_n, B_aload, B_istore_n, B_istore, B_astore_n, B_astore, B_astore_nN, B_astoreN, B_iinc, B_iadd, B_isub, B_imul, B_idiv, B_irem, B_ineg, B_iand, B_ior, B_ixor, B_ishl, B_ishr, B_i2c, B_dup, B_dup2, B_pop, B_goto, B_if_eq, B_if_ne, B_if_lt, B_if_ge, B_if_gt, B_if_le, B_ic_eq, B_ic_ne, B_ic_lt, B_ic_ge, B_ic_gt, B_ic_le, B_ifnullN, B_ifnull, B_ifnonnullN, B_ifnonnull, B_switch, B_ireturn, B_areturn, B_areturnN, B_return, B_getfield, B_putfield, B_iaload, B_ialoadS, B_caload, B_iastore, B_castore, B_aaload, B_aastore, B_alenS, B_alen, B_new, B_newarray, B_anewarray, B_iv0, B_iv1, B_iv2, B_iv3, B_iv4, B_iv6, B_obj, B_is0, B_is1, B_st1, B_st2, B_st3, B_copy, List.getElem?_cons_zero, List.getElem?_cons_succ, List.set_cons_zero, List.set_cons_succ, List.length_cons, List.length_nil, List.all_cons, List.all_nil, List.nil_append, List.cons_append, Option.toList_some, Option.toList_none, okv, kst_0, kst_1, pok_i, pok_z0, pok_z1, pok_o, pok_a, c0_0, c0_1, c1_0, c1_1, c1_2, c2_0, c2_1, c2_2, c2_3, c2_4, c2_5, c2_6, c2_7, c2_8, c2_9, c2_10, c3_0, c3_1, c3_2, c3_3, c3_4, c3_5, c3_6, c3_7, c3_8, c3_9, c3_10, c3_11, c3_12, c4_0, c4_1, c4_2, c4_3, c4_4, c5_0, c5_1, c5_2, c5_3, c5_4, c5_5, c6_0, c6_1, c6_2, c6_3, c6_4, c6_5, c7_0, c7_1, c7_2, c7_3, c7_4, c7_5, c7_6, c7_7, c7_8, c7_9, c7_10, c7_11, zok_int, zok_b0, zok_b1, aok_obj, Bool.and_true, Bool.and_self, true_and, and_true, Nat.reduceAdd, Nat.reduceLeDiff, Nat.reduceEqDiff, Nat.zero_le, Nat.reduceLT, Nat.reduceSub, Nat.reduceMul, ne_eq, not_false_eq_true, Nat.zero_add, Nat.add_zero, exists_eq', Sum.inr.injEq, Prod.mk.injEq, rfv_s, rfv_n, reduceCtorEq, not_true_eq_false, false_implies, true_implies, implies_true, ↓reduceIte, pk_divD, pg_up, th_up, ps_c, ts_c, pg_ps_s, pg_ps_n, th_ps, pg_ts, th_ts_s, th_ts_n, Nat.not_lt, Nat.not_le, Decidable.not_not, nI_add, pk_mul, nI_clamp, vi_t, ja_at, ja_up, nz_eq, nI_eq, nI_ltI, nI_leI, nI_lt0, nI_le0, nI_0lt, nI_0le, if_pos, if_neg, up_at, up_ne, nI_subL, pm_0, pm_1, pm_2, pm_3, pm_4, pm_5, pm_n, pm_s1, pm_s2, pm_s3, pm_s4, pm_s5, pm_z2, pm_z4, pm_z6, pm_z8, pm_z9, pm_z10, pm_z11]
        refine s116w o.1 (by omega) (by omega) ha ?_
        simp (disch := omega) only [B_nil, B_iconst, B_bipush, B_sipush, B_ldc, B_null, B_iload_n, B_iload, B_aload_n, B_aload, B_istore_n, B_istore, B_astore_n, B_astore, B_astore_nN, B_astoreN, B_iinc, B_iadd, B_isub, B_imul, B_idiv, B_irem, B_ineg, B_iand, B_ior, B_ixor, B_ishl, B_ishr, B_i2c, B_dup, B_dup2, B_pop, B_goto, B_if_eq, B_if_ne, B_if_lt, B_if_ge, B_if_gt, B_if_le, B_ic_eq, B_ic_ne, B_ic_lt, B_ic_ge, B_ic_gt, B_ic_le, B_ifnullN, B_ifnull, B_ifnonnullN, B_ifnonnull, B_switch, B_ireturn, B_areturn, B_areturnN, B_return, B_getfield, B_putfield, B_iaload, B_ialoadS, B_caload, B_iastore, B_castore, B_aaload, B_aastore, B_alenS, B_alen, B_new, B_newarray, B_anewarray, B_iv0, B_iv1, B_iv2, B_iv3, B_iv4, B_iv6, B_obj, B_is0, B_is1, B_st1, B_st2, B_st3, B_copy, List.getElem?_cons_zero, List.getElem?_cons_succ, List.set_cons_zero, List.set_cons_succ, List.length_cons, List.length_nil, List.all_cons, List.all_nil, List.nil_append, List.cons_append, Option.toList_some, Option.toList_none, okv, kst_0, kst_1, pok_i, pok_z0, pok_z1, pok_o, pok_a, c0_0, c0_1, c1_0, c1_1, c1_2, c2_0, c2_1, c2_2, c2_3, c2_4, c2_5, c2_6, c2_7, c2_8, c2_9, c2_10, c3_0, c3_1, c3_2, c3_3, c3_4, c3_5, c3_6, c3_7, c3_8, c3_9, c3_10, c3_11, c3_12, c4_0, c4_1, c4_2, c4_3, c4_4, c5_0, c5_1, c5_2, c5_3, c5_4, c5_5, c6_0, c6_1, c6_2, c6_3, c6_4, c6_5, c7_0, c7_1, c7_2, c7_3, c7_4, c7_5, c7_6, c7_7, c7_8, c7_9, c7_10, c7_11, zok_int, zok_b0, zok_b1, aok_obj, Bool.and_true, Bool.and_self, true_and, and_true, Nat.reduceAdd, Nat.reduceLeDiff, Nat.reduceEqDiff, Nat.zero_le, Nat.reduceLT, Nat.reduceSub, Nat.reduceMul, ne_eq, not_false_eq_true, Nat.zero_add, Nat.add_zero, exists_eq', Sum.inr.injEq, Prod.mk.injEq, rfv_s, rfv_n, reduceCtorEq, not_true_eq_false, false_implies, true_implies, implies_true, ↓reduceIte, pk_divD, pg_up, th_up, ps_c, ts_c, pg_ps_s, pg_ps_n, th_ps, pg_ts, th_ts_s, th_ts_n, Nat.not_lt, Nat.not_le, Decidable.not_not, nI_add, pk_mul, nI_clamp, vi_t, ja_at, ja_up, nz_eq, nI_eq, nI_ltI, nI_leI, nI_lt0, nI_le0, nI_0lt, nI_0le, if_pos, if_neg, up_at, up_ne, nI_subL, pm_0, pm_1, pm_2, pm_3, pm_4, pm_5, pm_n, pm_s1, pm_s2, pm_s3, pm_s4, pm_s5, pm_z2, pm_z4, pm_z6, pm_z8, pm_z9, pm_z10, pm_z11]
        rw [← ea]
        exact next _ _ _ _ _ _ _ ac.1 (ac.2.2 8 (by omega) (by omega)) (ac.2.2 9 (by omega) (by omega)) (by rw [ac.2.1]; omega) ek
    · refine next (ts N s.2.1 0 s.2.2) c _ _ _ _ _ (iw_ts0 o hs.1 (v3 c2)) (ts_c (by omega)) (ts_c (by omega)) (by rw [ts_c (by omega)]; omega) (fun a' k' t' n' => ?_)
      have := k a' k' t' n'
      have e : doL (s :: l) N = doL l (ts N s.2.1 0 s.2.2) := by
        conv => lhs; unfold doL
        rw [if_pos c2]
      rw [e] at this
      exact this
theorem s128 {N : Nat → Nat} {l : List STP} {a kk tt nn : Nat} (h60 : L ≤ 60) (hT : ∀ i, i < 60 → Tx i < 65536) (o : IW N 0 0 0) (ho : ∀ s, s ∈ l → okS N s) (h7 : N 7 + l.length ≤ 100000) (hl : prs Tx L 61 0 = .inr l)
    (k : ∀ a' k' t' n', Q (some (.int (nI (doL l N).1))) (pm h (doL l N).2 Hi Sl Sp Tx (zf a2 a4 L a' k' t' n'))) : RUN sc 128 [.ref 953] (pm h N Hi Sl Sp Tx (zf a2 a4 L (a) (kk) (tt) (nn))) Q := by
  refine r128 ?_
  simp (disch := omega) only [k128_0, ad1, ad2, ad3, ad4, zf_2, zf_4, zf_6, zf_8, zf_9, zf_10, zf_11, pm_y8, pm_y9, pm_y10, pm_y11, B_nil, B_iconst, B_bipush, B_sipush, B_ldc, B_null, B_iload_n, B_iload, B_aload_n, B_aload, B_istore_n, B_istore, B_astore_n, B_astore, B_astore_nN, B_astoreN, B_iinc, B_iadd, B_isub, B_imul, B_idiv, B_irem, B_ineg, B_iand, B_ior, B_ixor, B_ishl, B_ishr, B_i2c, B_dup, B_dup2, B_pop, B_goto, B_if_eq, B_if_ne, B_if_lt, B_if_ge, B_if_gt, B_if_le, B_ic_eq, B_ic_ne, B_ic_lt, B_ic_ge, B_ic_gt, B_ic_le, B_ifnullN, B_ifnull, B_ifnonnullN, B_ifnonnull, B_switch, B_ireturn, B_areturn, B_areturnN, B_return, B_getfield, B_putfield, B_iaload, B_ialoadS, B_caload, B_iastore, B_castore, B_aaload, B_aastore, B_alenS, B_alen, B_new, B_newarray, B_anewarray, B_iv0, B_iv1, B_iv2, B_iv3, B_iv4, B_iv6, B_obj, B_is0, B_is1, B_st1, B_st2, B_st3, B_copy, List.getElem?_cons_zero, List.getElem?_cons_succ, List.set_cons_zero, List.set_cons_succ, List.length_cons, List.length_nil, List.all_cons, List.all_nil, List.nil_append, List.cons_append, Option.toList_some, Option.toList_none, okv, kst_0, kst_1, pok_i, pok_z0, pok_z1, pok_o, pok_a, c0_0, c0_1, c1_0, c1_1, c1_2, c2_0, c2_1, c2_2, c2_3, c2_4, c2_5, c2_6, c2_7, c2_8, c2_9, c2_10, c3_0, c3_1, c3_2, c3_3, c3_4, c3_5, c3_6, c3_7, c3_8, c3_9, c3_10, c3_11, c3_12, c4_0, c4_1, c4_2, c4_3, c4_4, c5_0, c5_1, c5_2, c5_3, c5_4, c5_5, c6_0, c6_1, c6_2, c6_3, c6_4, c6_5, c7_0, c7_1, c7_2, c7_3, c7_4, c7_5, c7_6, c7_7, c7_8, c7_9, c7_10, c7_11, zok_int, zok_b0, zok_b1, aok_obj, Bool.and_true, Bool.and_self, true_and, and_true, Nat.reduceAdd, Nat.reduceLeDiff, Nat.reduceEqDiff, Nat.zero_le, Nat.reduceLT, Nat.reduceSub, Nat.reduceMul, ne_eq, not_false_eq_true, Nat.zero_add, Nat.add_zero, exists_eq', Sum.inr.injEq, Prod.mk.injEq, rfv_s, rfv_n, reduceCtorEq, not_true_eq_false, false_implies, true_implies, implies_true, ↓reduceIte, pk_divD, pg_up, th_up, ps_c, ts_c, pg_ps_s, pg_ps_n, th_ps, pg_ts, th_ts_s, th_ts_n, Nat.not_lt, Nat.not_le, Decidable.not_not, nI_add, pk_mul, nI_clamp, vi_t, ja_at, ja_up, nz_eq, nI_eq, nI_ltI, nI_leI, nI_lt0, nI_le0, nI_0lt, nI_0le, if_pos, if_neg, up_at, up_ne, nI_subL, pm_0, pm_1, pm_2, pm_3, pm_4, pm_5, pm_n, pm_s1, pm_s2, pm_s3, pm_s4, pm_s5, pm_z2, pm_z4, pm_z6, pm_z8, pm_z9, pm_z10, pm_z11]
  refine l128 h60 hT l N 61 0 0 _ _ _ _ _ o ho h7 (fun _ => ⟨by omega, hl⟩) (fun e => ?_) (fun a' k' t' n' => by rw [Nat.zero_add]; exact k a' k' t' n')
  subst e
  obtain ⟨_, _, _, z, _⟩ := prs_cons (show 0 ≤ L by omega) hl
  cases z
end MX2
