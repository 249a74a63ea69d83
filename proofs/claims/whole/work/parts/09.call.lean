section NW
variable {l : Launch} {sc : SC} {m : Nat} {p : Program} {e : Env} {R : Room} {s : State} {mid : MethodId} {args : Array Value} {below : List Frame} {meth : Method} {cd : Code} {lo bb : Nat} {D : va_G} {cA : Nat → ClassId} {Z : State → Prop}
theorem st_new (C : CX m p R s mid args meth cd) (KK : KX sc lo bb D cA s) {n a b c pc u v : Nat} {ls st : List Value} {h : AHp} (ok : okI m pc (.new n) a b c = true) (hu1 : u + 1 ≤ mAl m) (hv1 : v + (dfl a).length ≤ mAs m)
    (hk : WA l p e R s mid args below meth cd lo bb D cA Z m (pc + 3) (u + 1) (v + (dfl a).length) ls (.ref h.1 :: st) (hnew h (.inr (.inr (a, dfl a))))) : WA l p e R s mid args below meth cd lo bb D cA Z m pc u v ls st h := by
  intro H locs lsA X L hu hv
  have hd := okI_dec ok
  simp only [okI, Bool.and_eq_true, decide_eq_true_eq] at ok
  obtain ⟨-, h4, ha8⟩ := ok
  obtain ⟨k, hk4⟩ := has4_in h4
  have h1 := List.all_eq_true.mp cres_all _ hk4
  unfold cchk at h1
  split at h1
  · rename_i C' T N e1
    have e1 : classes[a]? = some (C', T, N) := e1
    have hz := X.2.1
    obtain ⟨c1, c2, c3, c4, c5, c6, c7, c8, c9⟩ := cl_facts e1
    obtain ⟨hex, hb, hml, hown, hts, -, -, -, -, -, hrc, hrs⟩ := C
    have hKn := KK.1.1 a _ e1
    rw [c5] at hv1 hk
    refine W.newcK hex hb hown (hts _ (lwAt_in h1)) (hts _ c3) (hts _ c4) rfl hd (by omega) (by omega) hKn.2.1 X.2.1 fun H1 kC hkC e2 z1 o1 => ?_
    refine hk H1 _ lsA (X.push (by omega) (fun q hq => o1 q (by rw [← X.2.1]; exact hq)) ?_) L (by omega) (by omega)
    refine ⟨_, e1, (u_born (cTy a) hts c2 hKn hkC e2 c6).to (fun k hk => ?_)⟩
    rw [c7 k hk]
    show (dfl a).getD k .null = ((dfl a).map (cv lo bb)).getD k .null
    have hk' : k < (dfl a).length := by omega
    have hfix : ∀ w ∈ dfl a, cv lo bb w = w := by
      have : ∀ a', a' < 8 → ∀ w ∈ dfl a', w = .null ∨ w = .int 0 := by decide +kernel
      intro w hw
      rcases this a ha8 w hw with rfl | rfl <;> rfl
    rw [List.map_congr_left (g := id) hfix, List.map_id]
  · cases h1
theorem st_newa (C : CX m p R s mid args meth cd) (KK : KX sc lo bb D cA s) {t : ArrayType} {a b c pc u v : Nat} {n : Int32} {ls st : List Value} {h : AHp} (ok : okI m pc (.newarray t) a b c = true) (hn : ¬ n < 0) (hby : n.toNatClampNeg * 4 ≤ 536870912) (hu1 : u + 1 ≤ mAl m) (hv1 : v + n.toNatClampNeg ≤ mAs m)
    (hk : WA l p e R s mid args below meth cd lo bb D cA Z m (pc + 2) (u + 1) (v + n.toNatClampNeg) ls (.ref h.1 :: st) (hnew h (.inl (a, n.toNatClampNeg, fun _ => 0)))) : WA l p e R s mid args below meth cd lo bb D cA Z m pc u v ls (.int n :: st) h := by
  intro H locs lsA X L hu hv
  have hd := okI_dec ok
  simp only [okI, Bool.and_eq_true, decide_eq_true_eq] at ok
  obtain ⟨hex, hb, hml, hown, hts, -, -, -, -, -, hrc, hrs⟩ := C
  have hz := X.2.1
  rcases ok.2 with ⟨rfl, rfl⟩ | ⟨rfl, rfl⟩
  · refine va_newaK hex hb (hts _ (lwAt_in x_int)) rfl hd rfl hn rfl (by show _ * 4 ≤ _; exact hby) (by omega) (by omega) X.2.1 fun H1 cA' e1 z1 o1 hAr hNm => ?_
    have he : cA' = cA 0 := Option.some.inj (hNm.symm.trans (KK.1.2 0 _ (tysOf_at (by omega))).2)
    subst he
    exact hk H1 _ lsA (X.push (by omega) (fun q hq => o1 q (by rw [← X.2.1]; exact hq)) e1) L (by omega) (by omega)
  · refine va_newaK hex hb (hts _ (lwAt_in x_char)) rfl hd rfl hn rfl (by show _ * 2 ≤ _; omega) (by omega) (by omega) X.2.1 fun H1 cA' e1 z1 o1 hAr hNm => ?_
    have he : cA' = cA 1 := Option.some.inj (hNm.symm.trans (KK.1.2 1 _ (tysOf_at (by omega))).2)
    subst he
    exact hk H1 _ lsA (X.push (by omega) (fun q hq => o1 q (by rw [← X.2.1]; exact hq)) e1) L (by omega) (by omega)
theorem st_anew (C : CX m p R s mid args meth cd) (KK : KX sc lo bb D cA s) {i a b c pc u v : Nat} {n : Int32} {ls st : List Value} {h : AHp} (ok : okI m pc (.anewarray i) a b c = true) (hn : ¬ n < 0) (hby : n.toNatClampNeg * 4 ≤ 536870912) (hu1 : u + 1 ≤ mAl m) (hv1 : v + n.toNatClampNeg ≤ mAs m)
    (hk : WA l p e R s mid args below meth cd lo bb D cA Z m (pc + 3) (u + 1) (v + n.toNatClampNeg) ls (.ref h.1 :: st) (hnew h (.inr (.inl (a, n.toNatClampNeg, fun _ => none))))) : WA l p e R s mid args below meth cd lo bb D cA Z m pc u v ls (.int n :: st) h := by
  intro H locs lsA X L hu hv
  have hd := okI_dec ok
  simp only [okI, Bool.and_eq_true, decide_eq_true_eq] at ok
  obtain ⟨-, h4, ha⟩ := ok
  obtain ⟨k, hk4⟩ := has4_in h4
  have h1 := List.all_eq_true.mp cres_all _ hk4
  unfold cchk at h1
  obtain ⟨hex, hb, hml, hown, hts, -, -, -, -, -, hrc, hrs⟩ := C
  obtain ⟨CN, hCN, hcl, hao⟩ : ∃ CN, kty a = .object CN ∧ (∃ T N, classes[a]? = some (CN, T, N)) ∧ va_AO CN s := by
    rcases ha with rfl | rfl | rfl
    · exact ⟨_, rfl, ⟨_, _, rfl⟩, KK.2.2.2.2.2.1⟩
    · exact ⟨_, rfl, ⟨_, _, rfl⟩, KK.2.2.2.2.2.2.1⟩
    · exact ⟨_, rfl, ⟨_, _, rfl⟩, KK.2.2.2.2.2.2.2⟩
  obtain ⟨T, N, hcl⟩ := hcl
  rw [hcl] at h1
  have ht := tysOf_at (cA := cA) (k := a) (by omega)
  rw [hCN] at ht
  obtain ⟨-, kA, comp, g2, g3, g4, g5⟩ := KK.1.2 a _ ht
  refine W.anew hex hb hown (hts _ (lwAt_in h1)) (va_AO.use hao) rfl hd rfl hn hby (by omega) (by omega) fun cA' kA' comp' f1 f2 f3 f4 => ?_
  have he : cA' = cA a := Option.some.inj (f1.symm.trans g5)
  subst he
  have hz := X.2.1
  generalize hH1 : H.push ({ cls := cA a, slots := Array.replicate n.toNatClampNeg .null, vm := .none } : Cell) = H1
  have z1 : H1.size = H.size + 1 := by rw [← hH1, Array.size_push]
  have e1 : H1[lo + h.1]? = some (arrV (cA a) n.toNatClampNeg (fun _ => .null)) := by rw [← hz, ← hH1, Array.getElem?_push_size, ← arrV_new]
  have o1 : ∀ q : Nat, q < H.size → H1[q]? = H[q]? := fun q hq => by rw [← hH1, Array.getElem?_push, if_neg (Nat.ne_of_lt hq)]
  have hK := hk H1 locs lsA (X.push z1 o1 e1) L (by omega) (by omega)
  rw [List.map_cons] at hK
  show W p l e R s mid args below meth cd H1 locs (u + 1) (v + n.toNatClampNeg) Z (F0 mid (pc + 3) lsA (.ref H.size :: st.map (cv lo bb)))
  rw [hz]
  exact hK
theorem cats {lo bb : Nat} : ∀ {st : List Value}, st.all okv = true → ((st.map (cv lo bb)).map fun v => v.category).sum = st.length
  | [], _ => rfl
  | w :: st, h => by
    simp only [List.all_cons, Bool.and_eq_true] at h
    simp only [List.map_cons, List.sum_cons, List.length_cons, cv_cat h.1, cats h.2]
    omega
theorem st_obj (C : CX m p R s mid args meth cd) {i b c pc u v x : Nat} {ls st : List Value} {h : AHp} (ok : okI m pc (.invokespecial i) 9999 b c = true) (h8 : st.length ≤ 8) (ho : st.all okv = true)
    (hk : WA l p e R s mid args below meth cd lo bb D cA Z m (pc + 3) u v ls st h) : WA l p e R s mid args below meth cd lo bb D cA Z m pc u v ls (.ref x :: st) h := by
  intro H locs lsA X L hu hv
  have hd := okI_dec ok
  simp only [okI, Bool.and_eq_true, decide_eq_true_eq, if_true] at ok
  obtain ⟨-, ⟨h4, hfr⟩, hlc⟩ := ok
  obtain ⟨k, hk4⟩ := has4_in h4
  have h1 := List.all_eq_true.mp ires_all _ hk4
  obtain ⟨hex, hb, hml, hown, hts, -, -, -, hrf, hrl, -⟩ := C
  refine W.objInit hex hb hown (hts _ (lwAt_in h1)) (hts _ (lwAt_in x_obj1)) (hts _ x_obj2) rfl (by rw [hml]; exact L.1) rfl hd (by omega) ?_ (hk H locs lsA X L hu hv)
  rw [cats ho]
  show 2 * 0 + st.length + 12 ≤ R.locals
  omega
theorem st_copy (C : CX m p R s mid args meth cd) (KK : KX sc lo bb D cA s) {i b c pc u v x y nx ny : Nat} {f g : Nat → Int32} {sp dp n : Int32} {ls st : List Value} {h : AHp} (ok : okI m pc (.invokestatic i) 9004 b c = true) (hx : h.2 x = .inl (0, nx, f)) (hy : h.2 y = .inl (0, ny, g)) (h8 : st.length ≤ 8) (ho : st.all okv = true)
    (h1 : ¬ sp < 0) (h2 : ¬ dp < 0) (h3 : ¬ n < 0) (h4 : sp.toNatClampNeg + n.toNatClampNeg ≤ nx) (h5 : dp.toNatClampNeg + n.toNatClampNeg ≤ ny)
    (hk : WA l p e R s mid args below meth cd lo bb D cA Z m (pc + 3) u v ls st (hset h y (.inl (0, ny, va_cpy f g sp.toNatClampNeg dp.toNatClampNeg n.toNatClampNeg)))) : WA l p e R s mid args below meth cd lo bb D cA Z m pc u v ls (.int n :: .int dp :: .ref y :: .int sp :: .ref x :: st) h := by
  intro H locs lsA X L hu hv
  have hd := okI_dec ok
  simp only [okI, Bool.and_eq_true, decide_eq_true_eq, if_true] at ok
  obtain ⟨-, ⟨⟨h40, hfr⟩, hlc⟩, hal⟩ := ok
  obtain ⟨k, hk4⟩ := has4_in h40
  have hm := List.all_eq_true.mp sres_all _ hk4
  obtain ⟨hex, hb, hml, hown, hts, -, -, -, hrf, hrl, -⟩ := C
  have hlx := X.lt hx noA
  have hly := X.lt hy noA
  refine va_copyi hex hb (hml.trans L.1.symm) hown (hts _ (lwAt_in hm)) (hts _ (lwAt_in x_cp1)) (hts _ (lwAt_in x_cp2)) (hts _ (lwAt_in x_cp3)) KK.1 X.1 ws_D X.2.2.2 x y 0 0 (by rw [ws_at hlx, hx]; rfl) (by rw [ws_at hly, hy]; rfl) (tysOf_at (by omega)) (tysOf_at (by omega)) rfl h1 h2 h3 h4 h5 (fun i hi => rfl) (by omega) ?_ hd fun H1 locs1 hP1 hD1 hS1 => ?_
  · have hnf : nativeFrameWords "java/lang/System" "arraycopy" 5 = 7 := by decide +kernel
    rw [cats ho, hnf]
    omega
  · intro T hT X0
    have hz : H1.size = H.size := by
      have a1 := X0.heapSize
      rw [hT] at a1
      have a2 := X.2.2.2.1
      have a3 := hS1.1
      have a4 := X.2.1
      have a5 : lo + h.1 ≤ H1.size := by
        rcases Nat.eq_zero_or_pos h.1 with q | q
        · omega
        · have := hP1 (h.1 - 1) _ (show ((wsOf lo bb cA h).set y _)[h.1 - 1]? = some (lo + (h.1 - 1), (((wsOf lo bb cA h).set y (lo + y, .inl (cA 0, ny, .inl (va_cpy f g sp.toNatClampNeg dp.toNatClampNeg n.toNatClampNeg))))[h.1 - 1]?.map (fun q => q.2)).getD (.inr (0, []))) from ?_)
          · have := this.lt
            simp only at this
            omega
          · by_cases hq : h.1 - 1 = y
            · subst hq
              rw [List.getElem?_set_self (by simpa [wsOf] using hly)]
              simp
            · rw [List.getElem?_set_ne (Ne.symm hq), ws_at (by omega)]
              simp
      omega
    exact hk H1 locs1 lsA (X.set hly hz hP1 hS1) L hu hv T hT X0
end NW
