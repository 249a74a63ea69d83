theorem cl_facts {ci : Nat} {C : String} {T : u_T} {N : Nat} (h : classes[ci]? = some (C, T, N)) : ci < 8 ∧ (∀ w ∈ u_ws C T N, w ∈ TB) ∧ Jvm.Cond.instantiable C N ∈ TB ∧ Jvm.Cond.initialized C ∈ TB ∧ (dfl ci).length = N ∧ (∀ k, k < N → parseFieldDescriptor (T k).2.2.1 = some (cTy ci k)) ∧ (∀ k, k < N → defaultValue (cTy ci k) = (dfl ci).getD k .null) ∧ (∀ a, a < N → ∀ b, b < N → a ≠ b → (T a).2.1 ≠ (T b).2.1) ∧ C = ow ci := by
  have hl : ci < 8 := (List.getElem?_eq_some_iff.mp h).1
  have h1 := List.all_eq_true.mp cl_all ci (List.mem_range.mpr hl)
  unfold clchk at h1
  rw [h] at h1
  split at h1
  · rename_i C' T' N' ps p1 p2 e1 e2 e3
    cases e1
    simp only [Bool.and_eq_true, decide_eq_true_eq, List.all_eq_true, List.mem_range, Bool.or_eq_true] at h1
    obtain ⟨⟨⟨⟨⟨⟨g0, g1⟩, g2⟩, g3⟩, g4⟩, g5⟩, g6⟩ := h1
    refine ⟨hl, fun w hw => ?_, lwAt_in g2, lwAt_in g3, g4, fun k hk => (g5 k hk).1.1, fun k hk => (g5 k hk).1.2, fun a ha b hb hne => ?_, g6⟩
    · obtain ⟨k, hk, rfl⟩ := List.mem_map.mp hw
      exact lwAt_in (g1 k (List.mem_range.mp hk))
    · exact ((g5 a ha).2 b hb).resolve_left hne
  · cases h1
theorem fld_facts {o n a b k : Nat} (h : (o, n, a, b, k) ∈ fresL) : ∃ (C : String) (T : u_T) (N : Nat), classes[a]? = some (C, T, N) ∧ b < N ∧ Jvm.Cond.fieldLink (ow o) n (T b).1 (T b).2.1 (T b).2.2.1 ∈ TB := by
  have h1 := List.all_eq_true.mp fres_all _ h
  unfold fchk at h1
  split at h1
  · rename_i C T N e1
    simp only [Bool.and_eq_true, decide_eq_true_eq] at h1
    exact ⟨C, T, N, e1, h1.1, lwAt_in h1.2⟩
  · cases h1
theorem pok_cv {ty : FieldType} {w : Value} {lo bb : Nat} (h : pok ty w) : narrow ty (cv lo bb w) = cv lo bb w ∧ fits ty (cv lo bb w) = true := by
  unfold pok at h
  split at h
  · exact ⟨rfl, rfl⟩
  · rcases h with rfl | rfl <;> exact ⟨rfl, rfl⟩
  · exact ⟨rfl, rfl⟩
  · exact ⟨rfl, rfl⟩
  · exact h.elim
theorem no99 {a : Nat} {gs : List Value} (h : a < 8) : ∀ fs, (.inr (.inr (a, gs)) : ACell) ≠ .inr (.inr (99, fs)) := by
  intro fs e
  injection e with e
  injection e with e
  have := congrArg Prod.fst e
  simp only at this
  omega
section HP
variable {l : Launch} {sc : SC} {m : Nat} {p : Program} {e : Env} {R : Room} {s : State} {mid : MethodId} {args : Array Value} {below : List Frame} {meth : Method} {cd : Code} {lo bb : Nat} {D : va_G} {cA : Nat → ClassId} {Z : State → Prop}
theorem st_get (C : CX m p R s mid args meth cd) (KK : KX sc lo bb D cA s) {n a b c pc u v x ci : Nat} {fs : List Value} {w : Value} {ls st : List Value} {h : AHp} (ok : okI m pc (.getfield n) a b c = true) (hx : h.2 x = .inr (.inr (ci, fs))) (hc : ci = a) (hw : fs[b]? = some w)
    (hk : WA l p e R s mid args below meth cd lo bb D cA Z m (pc + 3) u v ls (w :: st) h) : WA l p e R s mid args below meth cd lo bb D cA Z m pc u v ls (.ref x :: st) h := by
  intro H locs lsA X L hu hv
  subst hc
  have hd := okI_dec ok
  simp only [okI, Bool.and_eq_true, decide_eq_true_eq] at ok
  obtain ⟨k, hk5⟩ := has5_in ok.2
  obtain ⟨C', T, N, e1, e2, e3⟩ := fld_facts hk5
  obtain ⟨c1, c2, c3, c4, c5, c6, c7, c8, c9⟩ := cl_facts e1
  obtain ⟨hex, hb, hml, hown, hts, -⟩ := C
  have hl := X.lt hx (no99 c1)
  refine va_get (D := D) (C := C') (T := T) (N := N) (ci := ci) (fs := fs.map (cv lo bb)) (v := cv lo bb w) hex hb hts c2 hown KK.1 X.1 x ?_ e1 b e2 (hts _ e3) (fun _ h => h) ?_ hd (hk H locs lsA X L hu hv)
  · rw [ws_at hl, hx]; rfl
  · simp [hw]
theorem st_put (C : CX m p R s mid args meth cd) (KK : KX sc lo bb D cA s) {n a b c pc u v x ci : Nat} {fs : List Value} {w : Value} {ls st : List Value} {h : AHp} (ok : okI m pc (.putfield n) a b c = true) (hx : h.2 x = .inr (.inr (ci, fs))) (hc : ci = a) (hlen : b < fs.length) (hpok : pok (cTy a b) w)
    (hk : WA l p e R s mid args below meth cd lo bb D cA Z m (pc + 3) u v ls st (hset h x (.inr (.inr (ci, fs.set b w))))) : WA l p e R s mid args below meth cd lo bb D cA Z m pc u v ls (w :: .ref x :: st) h := by
  intro H locs lsA X L hu hv
  subst hc
  have hd := okI_dec ok
  simp only [okI, Bool.and_eq_true, decide_eq_true_eq, Bool.or_eq_true, Bool.not_eq_true'] at ok
  obtain ⟨-, h5, hfin⟩ := ok
  obtain ⟨k, hk5⟩ := has5_in h5
  obtain ⟨C', T, N, e1, e2, e3⟩ := fld_facts hk5
  obtain ⟨c1, c2, c3, c4, c5, c6, c7, c8, c9⟩ := cl_facts e1
  obtain ⟨hex, hb, hml, hown, hts, -, -, hmin, -⟩ := C
  have hl := X.lt hx (no99 c1)
  have hat := X.1 x _ (ws_at hl)
  rw [hx] at hat
  obtain ⟨r, h1, cell, q1, q2, q3, q4⟩ := hat
  cases h1.symm.trans e1
  have hap := va_apart (own := ow (mOw m)) hts c2 (cTy ci) c6 c8 KK.1 e1
  obtain ⟨hS, hfc, kC, hkC, hkind⟩ := KK.1.1 ci _ e1
  obtain ⟨cf, kf, fi, f, hi, hsl⟩ := hS b e2
  obtain ⟨hn, hfit⟩ := pok_cv (lo := lo) (bb := bb) hpok
  have hst := (u_facts hfc hkC (u_lays hts c2 e2) hi).1
  have fin : ∀ H' : Heap, H'[lo + x]? = some (cell.setSlot (D.2 ci b) (cv lo bb w)) → H'.size = H.size → (∀ q, q ≠ lo + x → H'[q]? = H[q]?) → W p l e R s mid args below meth cd H' (locs ++ [⟨lo + x, D.2 ci b⟩]) u v Z (F0 mid (pc + 3) lsA (st.map (cv lo bb))) := by
    intro H' a1 a2 a3
    refine hk H' _ lsA (X.cell hx (no99 c1) a2 a3 ?_) L hu hv
    refine ⟨_, e1, t_OB.to (V := updV (vp_V (fs.map (cv lo bb))) b (cv lo bb w)) ⟨_, a1, q2, q3, t_set q4 hap e2 (cv lo bb w)⟩ (fun j _ => ?_)⟩
    rw [vp_updV_set (by simpa using hlen) (cv lo bb w) j, List.map_set]
  have hlay := hts _ (c2 _ (u_in_lay e2))
  unfold u_lay at hlay
  by_cases hf : (T b).2.2.2 = true
  · rw [if_pos hf] at hlay
    have hF : cFin ci b = true := by unfold cFin; rw [e1]; exact hf
    have hO : cOwn ci b = (T b).1 := by unfold cOwn; rw [e1]
    rcases hfin with hfin | hfin
    · rw [hF] at hfin; cases hfin
    have hcf : mid.cls = cf := by
      obtain ⟨_, _, c', _, _, _, -, -, hf', -, -, -, hown2, -⟩ := Cond.laysFinal_spec hlay
      have g1 : c' = cf := by have := hi.symm.trans hf'; simp at this; exact this.1.symm
      rw [← hO, hfin.2] at hown2
      rw [← g1]; exact Option.some.inj (hown.symm.trans hown2)
    have h6 := u_fits hfc hkC hkind (Or.inr hlay) hi (c6 b e2) hn hfit
    refine W.putFinK hex hb hown (hts _ e3) hi hst hcf (hmin hfin.1) (by rw [q2]; exact h6) q1 q3 (by rw [hsl]; exact k2_hasslot (q4 b e2)) rfl rfl hd fun H' a1 a2 a3 => ?_
    rw [hsl] at a1 ⊢
    exact fin H' a1 a2 a3
  · rw [if_neg hf] at hlay
    have h6 := u_store hfc hkC hkind hlay hi (c6 b e2) hn hfit
    refine W.putK hex hb (f := f) ⟨hown, hts _ e3, ⟨_, _, _, hi⟩, hst⟩ (by rw [q2]; exact h6) q1 q3 (by rw [hsl]; exact k2_hasslot (q4 b e2)) rfl rfl hd fun H' a1 a2 a3 => ?_
    rw [hsl] at a1 ⊢
    exact fin H' a1 a2 a3
theorem noA {k n : Nat} {f : Nat → Int32} : ∀ fs, (.inl (k, n, f) : ACell) ≠ .inr (.inr (99, fs)) := fun _ h => by cases h
theorem noQ {k n : Nat} {f : Nat → Option Nat} : ∀ fs, (.inr (.inl (k, n, f)) : ACell) ≠ .inr (.inr (99, fs)) := fun _ h => by injection h with h; cases h
theorem st_iald (C : CX m p R s mid args meth cd) (KK : KX sc lo bb D cA s) {a b c pc u v x n : Nat} {f : Nat → Int32} {j : Int32} {ls st : List Value} {h : AHp} (ok : okI m pc .iaload a b c = true) (hx : h.2 x = .inl (0, n, f)) (hj : vp_in j n)
    (hk : WA l p e R s mid args below meth cd lo bb D cA Z m (pc + 1) u v ls (.int (f j.toNatClampNeg) :: st) h) : WA l p e R s mid args below meth cd lo bb D cA Z m pc u v ls (.int j :: .ref x :: st) h := by
  intro H locs lsA X L hu hv
  have hl := X.lt hx noA
  exact va_iald C.1 C.2.1 KK.1 X.1 x 0 (by rw [ws_at hl, hx]; rfl) (tysOf_at (by omega)) hj (okI_dec ok) (hk H locs lsA X L hu hv)
theorem st_cald (C : CX m p R s mid args meth cd) (KK : KX sc lo bb D cA s) {a b c pc u v x n : Nat} {f : Nat → Int32} {j : Int32} {ls st : List Value} {h : AHp} (ok : okI m pc .caload a b c = true) (hx : h.2 x = .inl (1, n, f)) (hj : vp_in j n)
    (hk : WA l p e R s mid args below meth cd lo bb D cA Z m (pc + 1) u v ls (.int (f j.toNatClampNeg) :: st) h) : WA l p e R s mid args below meth cd lo bb D cA Z m pc u v ls (.int j :: .ref x :: st) h := by
  intro H locs lsA X L hu hv
  have hl := X.lt hx noA
  exact va_cald C.1 C.2.1 KK.1 X.1 x 1 (by rw [ws_at hl, hx]; rfl) (tysOf_at (by omega)) hj (okI_dec ok) (hk H locs lsA X L hu hv)
theorem st_sald (C : CX m p R s mid args meth cd) (KK : KX sc lo bb D cA s) {a b c pc u v x : Nat} {j : Int32} {ls st : List Value} {h : AHp} (ok : okI m pc .iaload a b c = true) (hj : vp_in j sc.1)
    (hk : WA l p e R s mid args below meth cd lo bb D cA Z m (pc + 1) u v ls (.int (sc.2 j.toNatClampNeg) :: st) h) : WA l p e R s mid args below meth cd lo bb D cA Z m pc u v ls (.int j :: .retAddr x :: st) h := by
  intro H locs lsA X L hu hv
  exact va_sld C.1 C.2.1 KK.2.1 (Nat.lt_of_lt_of_le KK.2.2.1 KK.2.2.2.1) (Nat.not_le.mpr KK.2.2.1) X.2.2.2 hj (okI_dec ok) (hk H locs lsA X L hu hv)
theorem st_alen (C : CX m p R s mid args meth cd) (KK : KX sc lo bb D cA s) {a b c pc u v x n : Nat} {f : Nat → Int32} {ls st : List Value} {h : AHp} (ok : okI m pc .arraylength a b c = true) (hx : h.2 x = .inl (0, n, f))
    (hk : WA l p e R s mid args below meth cd lo bb D cA Z m (pc + 1) u v ls (.int (nI n) :: st) h) : WA l p e R s mid args below meth cd lo bb D cA Z m pc u v ls (.ref x :: st) h := by
  intro H locs lsA X L hu hv
  have hl := X.lt hx noA
  exact va_alen (x := (n, .inl f)) C.1 C.2.1 KK.1 X.1 x 0 (by rw [ws_at hl, hx]; rfl) (tysOf_at (by omega)) rfl (okI_dec ok) (hk H locs lsA X L hu hv)
theorem st_slen (C : CX m p R s mid args meth cd) (KK : KX sc lo bb D cA s) {a b c pc u v x : Nat} {ls st : List Value} {h : AHp} (ok : okI m pc .arraylength a b c = true)
    (hk : WA l p e R s mid args below meth cd lo bb D cA Z m (pc + 1) u v ls (.int (nI sc.1) :: st) h) : WA l p e R s mid args below meth cd lo bb D cA Z m pc u v ls (.retAddr x :: st) h := by
  intro H locs lsA X L hu hv
  exact va_slen C.1 C.2.1 KK.2.1 (Nat.lt_of_lt_of_le KK.2.2.1 KK.2.2.2.1) (Nat.not_le.mpr KK.2.2.1) X.2.2.2 (okI_dec ok) (hk H locs lsA X L hu hv)
theorem st_iast (C : CX m p R s mid args meth cd) (KK : KX sc lo bb D cA s) {a b c pc u v x n : Nat} {f : Nat → Int32} {j w : Int32} {ls st : List Value} {h : AHp} (ok : okI m pc .iastore a b c = true) (hx : h.2 x = .inl (0, n, f)) (hj : vp_in j n)
    (hk : WA l p e R s mid args below meth cd lo bb D cA Z m (pc + 1) u v ls st (hset h x (.inl (0, n, upd f j.toNatClampNeg w)))) : WA l p e R s mid args below meth cd lo bb D cA Z m pc u v ls (.int w :: .int j :: .ref x :: st) h := by
  intro H locs lsA X L hu hv
  have hl := X.lt hx noA
  have hat := X.1 x _ (ws_at hl)
  rw [hx] at hat
  refine W.iast C.1 C.2.1 hat ((KK.1.2 0 _ (tysOf_at (by omega))).1 n (fun j => .int (f j))) (fun q => by cases q) (by show ¬ (j < 0 ∨ (arrV _ _ _).slots.size ≤ _); rw [arrV_size]; exact hj) rfl rfl (okI_dec ok) fun H1 e1 z oq => ?_
  refine hk H1 _ lsA (X.cell hx noA z oq ?_) L hu hv
  show H1[lo + x]? = some (vp_cell _ _)
  rw [e1]
  show some ((arrV _ _ _).setSlot _ _) = _
  rw [arrV_store]
  show some (arrV (cA 0) n (updV (fun j => Value.int (f j)) j.toNatClampNeg (.int w))) = some (vp_cell (cA 0) (n, .inl (upd f j.toNatClampNeg w)))
  rw [vp_cell_i]
  congr 2
  funext q
  by_cases hq : q = j.toNatClampNeg
  · subst hq
    simp [updV, upd]
  · simp [updV, upd, hq]
theorem st_cast (C : CX m p R s mid args meth cd) (KK : KX sc lo bb D cA s) {a b c pc u v x n : Nat} {f : Nat → Int32} {j w : Int32} {ls st : List Value} {h : AHp} (ok : okI m pc .castore a b c = true) (hx : h.2 x = .inl (1, n, f)) (hj : vp_in j n)
    (hk : WA l p e R s mid args below meth cd lo bb D cA Z m (pc + 1) u v ls st (hset h x (.inl (1, n, upd f j.toNatClampNeg (vp_nar .char w))))) : WA l p e R s mid args below meth cd lo bb D cA Z m pc u v ls (.int w :: .int j :: .ref x :: st) h := by
  intro H locs lsA X L hu hv
  have hl := X.lt hx noA
  have hat := X.1 x _ (ws_at hl)
  rw [hx] at hat
  refine W.cast C.1 C.2.1 hat ((KK.1.2 1 _ (tysOf_at (by omega))).1 n (fun j => .int (f j))) (fun q => by cases q) (by show ¬ (j < 0 ∨ (arrV _ _ _).slots.size ≤ _); rw [arrV_size]; exact hj) rfl rfl (okI_dec ok) fun H1 e1 z oq => ?_
  refine hk H1 _ lsA (X.cell hx noA z oq ?_) L hu hv
  show H1[lo + x]? = some (vp_cell _ _)
  rw [e1]
  show some ((arrV _ _ _).setSlot _ _) = _
  rw [arrV_store]
  show some (arrV (cA 1) n (updV (fun j => Value.int (f j)) j.toNatClampNeg (narrow .char (.int w)))) = some (vp_cell (cA 1) (n, .inl (upd f j.toNatClampNeg (vp_nar .char w))))
  rw [vp_cell_i]
  congr 2
  funext q
  by_cases hq : q = j.toNatClampNeg
  · subst hq
    simp [updV, upd, vp_nar]
    try rfl
  · simp [updV, upd, hq]
theorem st_aald (C : CX m p R s mid args meth cd) (KK : KX sc lo bb D cA s) {a b c pc u v x n kd : Nat} {f : Nat → Option Nat} {j : Int32} {ls st : List Value} {h : AHp} (ok : okI m pc .aaload a b c = true) (hx : h.2 x = .inr (.inl (kd, n, f))) (hkd : kd = 2 ∨ kd = 3 ∨ kd = 4) (hj : vp_in j n)
    (hk : WA l p e R s mid args below meth cd lo bb D cA Z m (pc + 1) u v ls (rfv (f j.toNatClampNeg) :: st) h) : WA l p e R s mid args below meth cd lo bb D cA Z m pc u v ls (.int j :: .ref x :: st) h := by
  intro H locs lsA X L hu hv
  have hl := X.lt hx noQ
  obtain ⟨CN, hCN⟩ : ∃ CN, kty kd = .object CN := by rcases hkd with rfl | rfl | rfl <;> exact ⟨_, rfl⟩
  have ht := tysOf_at (cA := cA) (k := kd) (by omega)
  rw [hCN] at ht
  have hK := hk H locs lsA X L hu hv
  have he : cv lo bb (rfv (f j.toNatClampNeg)) = va_rf ((f j.toNatClampNeg).map (fun x => lo + x)) := by cases f j.toNatClampNeg <;> rfl
  rw [List.map_cons, he] at hK
  exact va_aldq C.1 C.2.1 KK.1 X.1 x kd (f := fun j => (f j).map (fun x => lo + x)) (by rw [ws_at hl, hx]; rfl) ht hj (okI_dec ok) hK
theorem st_aast (C : CX m p R s mid args meth cd) (KK : KX sc lo bb D cA s) {a b c pc u v x n kd w : Nat} {f : Nat → Option Nat} {gs : List Value} {j : Int32} {ls st : List Value} {h : AHp} (ok : okI m pc .aastore a b c = true) (hx : h.2 x = .inr (.inl (kd, n, f))) (hw : h.2 w = .inr (.inr (kd, gs))) (hkd : kd = 2 ∨ kd = 3 ∨ kd = 4) (hj : vp_in j n)
    (hk : WA l p e R s mid args below meth cd lo bb D cA Z m (pc + 1) u v ls st (hset h x (.inr (.inl (kd, n, va_up f j.toNatClampNeg (some w)))))) : WA l p e R s mid args below meth cd lo bb D cA Z m pc u v ls (.ref w :: .int j :: .ref x :: st) h := by
  intro H locs lsA X L hu hv
  have hl := X.lt hx noQ
  have hl2 := X.lt hw (no99 (by omega))
  have hat := X.1 x _ (ws_at hl)
  rw [hx] at hat
  have hat2 := X.1 w _ (ws_at hl2)
  rw [hw] at hat2
  obtain ⟨CN, hCN, hcl⟩ : ∃ CN, kty kd = .object CN ∧ ∃ T N, classes[kd]? = some (CN, T, N) := by rcases hkd with rfl | rfl | rfl <;> exact ⟨_, rfl, _, _, rfl⟩
  obtain ⟨T, N, hcl⟩ := hcl
  have ht := tysOf_at (cA := cA) (k := kd) (by omega)
  rw [hCN] at ht
  have hlt : j.toNatClampNeg < n := Nat.not_le.mp fun q => hj (Or.inr q)
  have h0 : ¬ j < 0 := fun q => hj (Or.inl q)
  obtain ⟨r', hr', cellV, g1, g2, g3, -⟩ := hat2
  have hcls := (KK.1.1 kd _ hcl).2
  obtain ⟨kA, comp, k1, k2, k3, -⟩ := (KK.1.2 kd _ ht).2
  have hcomp : comp = D.1 kd := Option.some.inj (k3.symm.trans hcls.1)
  subst hcomp
  obtain ⟨kC, hkC, -⟩ := hcls.2
  refine W.aast C.1 C.2.1 hat (fun q h => by cases h) (fun h => by cases h) k1 k2 rfl hkC ⟨h0, by show _ < (arrV _ _ _).slots.size; rw [arrV_size]; exact hlt⟩ g1 (fun q h => by rw [g3] at h; cases h) (by rw [g2]; exact hkC) (by rw [g2]; exact va_assign hcls) rfl rfl (okI_dec ok) fun H1 e1 z oq => ?_
  refine hk H1 _ lsA (X.cell hx noQ z oq ?_) L hu hv
  show H1[lo + x]? = some (vp_cell _ _)
  rw [e1]
  show some ((arrV _ _ _).setSlot _ _) = _
  rw [arrV_store]
  show some (arrV (cA kd) n (updV (fun j => va_rf ((f j).map (fun x => lo + x))) j.toNatClampNeg (.ref (lo + w)))) = some (vp_cell (cA kd) (n, .inr (.inr (.inr (.inr (fun i => (va_up f j.toNatClampNeg (some w) i).map (fun x => lo + x)))))))
  rw [vp_cell_q]
  congr 2
  funext q
  by_cases hq : q = j.toNatClampNeg
  · subst hq
    simp [updV, va_up, va_rf]
  · simp [updV, va_up, hq]
end HP
