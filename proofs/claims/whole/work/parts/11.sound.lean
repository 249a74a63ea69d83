section CL
variable {l : Launch} {sc : SC} {m : Nat} {p : Program} {e : Env} {R : Room} {s : State} {mid : MethodId} {args : Array Value} {below : List Frame} {meth : Method} {cd : Code} {lo bb : Nat} {D : va_G} {cA : Nat → ClassId} {Z : State → Prop}
theorem st_back {H : Heap} {locs : List Loc} {lsA : Array Slot} {u v mc ms pc : Nat} {h : AHp} {st0 rest : List Value} {a : Array Value} {post : PT} (X : HX lo bb D cA s h H locs)
    (hr : va_Run p l e R s mid args below meth cd H locs u v mc ms (F0 mid pc lsA st0) (rest.map (cv lo bb)) (QW lo bb D cA post a) (fun q => lo ≤ q))
    (kk : ∀ (r : Option Value) (h' : AHp) (H1 : Heap) (locs1 : List Loc), post r h' → HX lo bb D cA s h' H1 locs1 → W p l e R s mid args below meth cd H1 locs1 (u + mc) (v + ms) Z (F0 mid (pc + 3) lsA ((r.toList ++ rest).map (cv lo bb)))) :
    W p l e R s mid args below meth cd H locs u v Z (F0 mid pc lsA st0) := by
  intro T hT X0
  obtain ⟨w, st₀, t, T', L, h0, X', hL, e1, e2, ⟨⟨r, h', hv, hp, hP, hz, hb⟩, hz2, hk2⟩, st⟩ := hr T hT X0
  have hw : w = r.map (cv lo bb) := by injection hv
  subst hw
  rw [h0] at hz2 hk2
  have hX : HX lo bb D cA s h' T'.heap (locs ++ L) := by
    refine ⟨by rw [e1]; exact hP, by rw [e1]; exact hz, hb, ?_, fun q h1 h2 => ?_, fun q hq => ?_⟩
    · exact Nat.le_trans X.2.2.2.1 (by rw [e1]; exact hz2)
    · rw [e1, hk2 q (Nat.lt_of_lt_of_le h1 X.2.2.2.1) h2]
      exact X.2.2.2.2.1 q h1 h2
    · rcases List.mem_append.mp hq with h | h
      · exact X.2.2.2.2.2 q h
      · exact hL q h
  obtain ⟨t2, a1, b1⟩ := kk r h' T'.heap (locs ++ L) hp hX T' rfl X'
  refine ⟨t2, st t2 ?_, b1⟩
  have he : (r.map (cv lo bb)).toList ++ rest.map (cv lo bb) = (r.toList ++ rest).map (cv lo bb) := by cases r <;> simp
  show Steps p.tables e below (T'.setTop { F0 mid pc lsA st0 with pc := pc + 3, stack := (r.map (cv lo bb)).toList ++ rest.map (cv lo bb) }) t2
  rw [he]
  exact a1
theorem KX_at {h : AHp} {H : Heap} {locs : List Loc} {U : State} (KK : KX sc lo bb D cA s) (X : HX lo bb D cA s h H locs) (hU : U.heap = H) (hW : s.WarmedH U.vm) : PX sc lo bb D cA h U := by
  refine ⟨⟨va_K.moved hW.alike KK.1, ?_, KK.2.2.1, ?_, NX.moved hW KK.2.2.2.2⟩, ?_, by rw [hU]; exact X.2.1, X.2.2.1, va_S.rf⟩
  · rw [hU]
    exact (KK.2.1.kept (X.2.2.2.2.1 bb (Nat.lt_of_lt_of_le KK.2.2.1 KK.2.2.2.1) (Nat.not_le.mpr KK.2.2.1))).moved hW.alike
  · rw [hU, X.2.1]
    exact Nat.le_add_right _ _
  · rw [hU]; exact X.1
theorem PX_blind {h : AHp} {av : List Value} : FrameBlind (va_Pc av (PX sc lo bb D cA h)) := by
  intro a U g mk q
  obtain ⟨q1, ⟨k1, k2, k3, k4, k5⟩, k6⟩ := q
  refine ⟨q1, ⟨va_K.moved (u := U) (U := U.calling g mk a) (Vm.Alike.refl U.vm) k1, va_X.moved (u := U) (U := U.calling g mk a) (Vm.Alike.refl U.vm) k2, k3, k4, ?_⟩, k6⟩
  exact NX.moved (u := U) (U := U.calling g mk a) (State.WarmedH.refl U) k5
theorem nparam {a n : Nat} (hp : (parseMethodDescriptor (mY a).desc).map (fun d => d.parameters.length) = some (mNp a)) (hn : n = mNp a) : (parseMethodDescriptor (mY a).desc).map (fun d => d.parameters.length) = some n := by rw [hn]; exact hp
theorem rest_room {pc : Nat} {lsA : Array Slot} {x rest : List Value} (h8 : rest.length ≤ 8) (ho : rest.all okv = true) : 2 * (F0 mid pc lsA x).monitorRoom + ((rest.map (cv lo bb)).map fun v => v.category).sum ≤ 8 := lv_room (by rw [cats ho]; exact h8)
theorem all_drop {st : List Value} {b : Nat} (h : st.all okv = true) : (st.drop b).all okv = true := by
  rw [List.all_eq_true] at h ⊢
  exact fun x hx => h x (List.mem_of_mem_drop hx)
theorem all_take {st : List Value} {b : Nat} (h : st.all okv = true) : (st.take b).reverse.all okv = true := by
  rw [List.all_eq_true] at h ⊢
  exact fun x hx => h x (List.mem_of_mem_take (List.mem_reverse.mp hx))
theorem callok_of {a : Nat} (h : callok m a = true) : a < 153 ∧ mFr a + 1 ≤ mFr m ∧ 8 + (mMax a + 11) + mLc a ≤ mLc m := by
  simp only [callok, Bool.and_eq_true, decide_eq_true_eq] at h
  exact ⟨h.1.1, h.1.2, h.2⟩
theorem st_iv (hz0 : ∀ a, (blk a 0).1 = 0) (C : CX m p R s mid args meth cd) (KK : KX sc lo bb D cA s) {n a b c pc u v x : Nat} {ls st rest : List Value} {fs : List Value} {h : AHp} {post : PT} (ok : okI m pc (.invokevirtual n) a b c = true) (hst : st.drop b = .ref x :: rest) (hb : (st.take b).length = b) (h8 : rest.length ≤ 8) (ho : st.all okv = true) (hx : h.2 x = .inr (.inr (c, fs)))
    (hw : PW l sc a 0 0 0 (ini a (.ref x :: (st.take b).reverse)) [] h post) (hk : ∀ r h', post r h' → WA l p e R s mid args below meth cd lo bb D cA Z m (pc + 3) u v ls (r.toList ++ rest) h') : WA l p e R s mid args below meth cd lo bb D cA Z m pc u v ls st h := by
  intro H locs lsA X L hu hv
  have hd := okI_dec ok
  simp only [okI, Bool.and_eq_true, decide_eq_true_eq] at ok
  obtain ⟨-, ⟨⟨⟨⟨⟨⟨⟨h4, hco⟩, hkd⟩, hc⟩, hnp⟩, hmx⟩, hal⟩, has⟩, hc8⟩ := ok
  obtain ⟨k, hk4⟩ := has4_in h4
  have hm := List.all_eq_true.mp vres_all _ hk4
  obtain ⟨ha, hfr, hlc⟩ := callok_of hco
  obtain ⟨f1, f2, f3, f4, f5, f6, f7, f8⟩ := m_facts ha
  have CC := C
  obtain ⟨hex, hbb, hml, hown, hts, -, -, -, hrf, hrl, hrc, hrs⟩ := C
  have hl := X.lt hx (no99 hc8)
  have hat := X.1 x _ (ws_at hl)
  rw [hx] at hat
  obtain ⟨r, h1, cell, q1, q2, q3, q4⟩ := hat
  obtain ⟨C', T, N, rfl⟩ : ∃ C' T N, r = (C', T, N) := ⟨r.1, r.2.1, r.2.2, rfl⟩
  obtain ⟨c1, c2, c3, c4, c5, c6, c7, c8, c9⟩ := cl_facts h1
  have hlink : Jvm.Cond.methodLink (ow (mOw m)) n (mY a) ∈ TB := by
    have := lwAt_in hm
    simpa [show a ≠ 9004 by omega, show a ≠ 9999 by omega] using this
  have hsplit : st = st.take b ++ .ref x :: rest := by rw [← hst]; exact (List.take_append_drop b st).symm
  have hor : rest.all okv = true := by
    have := all_drop (b := b) ho
    rw [hst, List.all_cons, Bool.and_eq_true] at this
    exact this.2
  have hM := met_of (l := l) (sc := sc) (a := a) (as := .ref x :: (st.take b).reverse) (h := h) (post := post) (lo := lo) (bb := bb) (D := D) (cA := cA) ha (by rw [List.length_cons, List.length_reverse, hb]; omega) (by rw [List.all_cons, all_take ho]; rfl) hw (hz0 a)
  refine st_back (rest := rest) X (va_runV (As := (st.take b).reverse.map (cv lo bb)) (b := lo + x) (C := (mY a).cls) (n := b) (rest := rest.map (cv lo bb)) ⟨hex, hbb, hml, hown, hts⟩ hM
    ⟨callB_of b hts (mWs_good (mc_all a ha)) rfl rfl rfl (hts _ f1) (hts _ hlink) ⟨(cls_ne a ha).1, (cls_ne a ha).2, nparam f3 hnp⟩ ⟨by show mFr a + 1 ≤ _; omega, by show 8 + (mMax a + 11) + mLc a ≤ _; omega⟩, hts _ (f6 hkd).1, hts _ (f6 hkd).2⟩
    ⟨PX_blind, ⟨cell, q1, by rw [q3]; rfl, ?_⟩, fun U hU hW => ⟨rfl, KX_at KK X hU hW⟩⟩ rfl (by rw [List.length_map, List.length_reverse, hb]) L.1 ?_ (rest_room h8 hor) hd ⟨by omega, by omega⟩) (fun r h' H1 locs1 hp hX1 => ?_)
  · rw [q2, f4, ← hc, ← c9]
    exact (KK.1.1 c _ h1).2.1
  · show st.map (cv lo bb) = _
    conv => lhs; rw [hsplit]
    simp [cv]
  · have := hk r h' hp H1 locs1 lsA hX1 L hu hv
    rw [hal, has]
    exact this
theorem st_is (hz0 : ∀ a, (blk a 0).1 = 0) (C : CX m p R s mid args meth cd) (KK : KX sc lo bb D cA s) {n a b c pc u v x : Nat} {ls st rest : List Value} {h : AHp} {post : PT} (ok : okI m pc (.invokespecial n) a b c = true) (ha9 : a ≠ 9999) (hst : st.drop b = .ref x :: rest) (hb : (st.take b).length = b) (h8 : rest.length ≤ 8) (ho : st.all okv = true) (hu1 : u + mAl a ≤ mAl m) (hv1 : v + mAs a ≤ mAs m)
    (hw : PW l sc a 0 0 0 (ini a (.ref x :: (st.take b).reverse)) [] h post) (hk : ∀ r h', post r h' → WA l p e R s mid args below meth cd lo bb D cA Z m (pc + 3) (u + mAl a) (v + mAs a) ls (r.toList ++ rest) h') : WA l p e R s mid args below meth cd lo bb D cA Z m pc u v ls st h := by
  intro H locs lsA X L hu hv
  have hd := okI_dec ok
  simp only [okI, Bool.and_eq_true, decide_eq_true_eq, if_neg ha9, Bool.or_eq_true] at ok
  obtain ⟨-, ⟨⟨⟨h4, hco⟩, hkd⟩, hnp⟩, hmx⟩ := ok
  obtain ⟨ha, hfr, hlc⟩ := callok_of hco
  obtain ⟨f1, f2, f3, f4, f5, f6, f7, f8⟩ := m_facts ha
  obtain ⟨g1, g2, g3⟩ := f8 hkd
  have CC := C
  obtain ⟨hex, hbb, hml, hown, hts, -, -, -, hrf, hrl, hrc, hrs⟩ := C
  have hsplit : st = st.take b ++ .ref x :: rest := by rw [← hst]; exact (List.take_append_drop b st).symm
  have hor : rest.all okv = true := by
    have := all_drop (b := b) ho
    rw [hst, List.all_cons, Bool.and_eq_true] at this
    exact this.2
  have hM := met_of (l := l) (sc := sc) (a := a) (as := .ref x :: (st.take b).reverse) (h := h) (post := post) (lo := lo) (bb := bb) (D := D) (cA := cA) ha (by rw [List.length_cons, List.length_reverse, hb]; omega) (by rw [List.all_cons, all_take ho]; rfl) hw (hz0 a)
  have hws : mWs a = Jvm.Cond.code (mY a) (mCode a) (mMax a) none :: TB := by unfold mWs; rw [g3]
  have hstk : (F0 mid pc lsA (st.map (cv lo bb))).stack = ((st.take b).reverse.map (cv lo bb)).reverse ++ .ref (lo + x) :: rest.map (cv lo bb) := by
    show st.map (cv lo bb) = _
    conv => lhs; rw [hsplit]
    simp [cv]
  have fin : ∀ (r : Option Value) (h' : AHp) (H1 : Heap) (locs1 : List Loc), post r h' → HX lo bb D cA s h' H1 locs1 → W p l e R s mid args below meth cd H1 locs1 (u + mAl a) (v + mAs a) Z (F0 mid (pc + 3) lsA ((r.toList ++ rest).map (cv lo bb))) := fun r h' H1 locs1 hp hX1 => hk r h' hp H1 locs1 lsA hX1 L hu1 hv1
  rcases h4 with h4 | h4
  · obtain ⟨k, hk4⟩ := has4_in h4
    have hm := List.all_eq_true.mp ires_all _ hk4
    have hlink : Jvm.Cond.methodLink (ow (mOw m)) n (mY a) ∈ TB := by
      have := lwAt_in hm
      simpa [show a ≠ 9004 by omega, show a ≠ 9999 by omega] using this
    exact st_back (rest := rest) X (va_runI (As := (st.take b).reverse.map (cv lo bb)) (b := lo + x) (n := b) (rest := rest.map (cv lo bb)) ⟨hex, hbb, hml, hown, hts⟩ hM
      ⟨callB_of b hts (mWs_good (mc_all a ha)) hws rfl rfl (hts _ f1) (hts _ hlink) ⟨(cls_ne a ha).1, (cls_ne a ha).2, nparam f3 hnp⟩ ⟨by show mFr a + 1 ≤ _; omega, by show 8 + (mMax a + 11) + mLc a ≤ _; omega⟩, g2, hts _ g1⟩
      ⟨PX_blind, fun U hU hW => ⟨rfl, KX_at KK X hU hW⟩⟩ rfl (by rw [List.length_map, List.length_reverse, hb]) L.1 hstk (rest_room h8 hor) hd ⟨by omega, by omega⟩) fin
  · obtain ⟨k, hk4⟩ := has4_in h4
    have hn := KK.2.2.2.2.1 _ hk4
    exact st_back (rest := rest) X (va_runIN (As := (st.take b).reverse.map (cv lo bb)) (b := lo + x) (n := b) (rest := rest.map (cv lo bb)) ⟨hex, hbb, hml, hown, hts⟩ hM
      ⟨va_cnB b hts (mWs_good (mc_all a ha)) hws rfl rfl hn (hts _ f1) ⟨(cls_ne a ha).1, (cls_ne a ha).2, nparam f3 hnp⟩ ⟨by show mFr a + 1 ≤ _; omega, by show 8 + (mMax a + 11) + mLc a ≤ _; omega⟩, g2, hts _ g1⟩
      ⟨PX_blind, fun U hU hW => ⟨rfl, KX_at KK X hU hW⟩⟩ rfl (by rw [List.length_map, List.length_reverse, hb]) L.1 hstk (rest_room h8 hor) hd ⟨by omega, by omega⟩) fin
theorem st_ss (hz0 : ∀ a, (blk a 0).1 = 0) (C : CX m p R s mid args meth cd) (KK : KX sc lo bb D cA s) {n a b c pc u v : Nat} {ls st : List Value} {h : AHp} {post : PT} (ok : okI m pc (.invokestatic n) a b c = true) (ha9 : a ≠ 9004) (hb : (st.take b).length = b) (h8 : (st.drop b).length ≤ 8) (ho : st.all okv = true)
    (hw : PW l sc a 0 0 0 (ini a (st.take b).reverse) [] h post) (hk : ∀ r h', post r h' → WA l p e R s mid args below meth cd lo bb D cA Z m (pc + 3) u v ls (r.toList ++ st.drop b) h') : WA l p e R s mid args below meth cd lo bb D cA Z m pc u v ls st h := by
  intro H locs lsA X L hu hv
  have hd := okI_dec ok
  simp only [okI, Bool.and_eq_true, decide_eq_true_eq, if_neg ha9, Bool.or_eq_true] at ok
  obtain ⟨-, ⟨⟨⟨⟨⟨h4, hco⟩, hkd⟩, hnp⟩, hmx⟩, hal⟩, has⟩ := ok
  obtain ⟨ha, hfr, hlc⟩ := callok_of hco
  obtain ⟨f1, f2, f3, f4, f5, f6, f7, f8⟩ := m_facts ha
  have g1 := f7 hkd
  have CC := C
  obtain ⟨hex, hbb, hml, hown, hts, -, -, -, hrf, hrl, hrc, hrs⟩ := C
  have hor := all_drop (b := b) ho
  have hM := met_of (l := l) (sc := sc) (a := a) (as := (st.take b).reverse) (h := h) (post := post) (lo := lo) (bb := bb) (D := D) (cA := cA) ha (by rw [List.length_reverse, hb]; omega) (all_take ho) hw (hz0 a)
  have hstk : (F0 mid pc lsA (st.map (cv lo bb))).stack = ((st.take b).reverse.map (cv lo bb)).reverse ++ (st.drop b).map (cv lo bb) := by
    show st.map (cv lo bb) = _
    rw [← List.map_reverse, List.reverse_reverse, ← List.map_append, List.take_append_drop]
  have fin : ∀ (r : Option Value) (h' : AHp) (H1 : Heap) (locs1 : List Loc), post r h' → HX lo bb D cA s h' H1 locs1 → W p l e R s mid args below meth cd H1 locs1 (u + mAl a) (v + mAs a) Z (F0 mid (pc + 3) lsA ((r.toList ++ st.drop b).map (cv lo bb))) := fun r h' H1 locs1 hp hX1 => by
    have := hk r h' hp H1 locs1 lsA hX1 L hu hv
    rw [hal, has]
    exact this
  rcases h4 with h4 | h4
  · obtain ⟨k, hk4⟩ := has4_in h4
    have hm := List.all_eq_true.mp sres_all _ hk4
    have hlink : Jvm.Cond.methodLink (ow (mOw m)) n (mY a) ∈ TB := by
      have := lwAt_in hm
      simpa [show a ≠ 9004 by omega, show a ≠ 9999 by omega] using this
    exact st_back (rest := st.drop b) X (va_runS (As := (st.take b).reverse.map (cv lo bb)) (n := b) (rest := (st.drop b).map (cv lo bb)) ⟨hex, hbb, hml, hown, hts⟩ hM
      ⟨callB_of b hts (mWs_good (mc_all a ha)) rfl rfl rfl (hts _ f1) (hts _ hlink) ⟨(cls_ne a ha).1, (cls_ne a ha).2, nparam f3 hnp⟩ ⟨by show mFr a + 1 ≤ _; omega, by show 8 + (mMax a + 11) + mLc a ≤ _; omega⟩, hts _ g1⟩
      ⟨PX_blind, fun U hU hW => ⟨rfl, KX_at KK X hU hW⟩⟩ rfl (by rw [List.length_map, List.length_reverse, hb]) L.1 hstk (rest_room h8 hor) hd ⟨by omega, by omega⟩) fin
  · obtain ⟨k, hk4⟩ := has4_in h4
    have hn := KK.2.2.2.2.1 _ hk4
    exact st_back (rest := st.drop b) X (va_runSN (As := (st.take b).reverse.map (cv lo bb)) (n := b) (rest := (st.drop b).map (cv lo bb)) ⟨hex, hbb, hml, hown, hts⟩ hM
      ⟨va_cnB b hts (mWs_good (mc_all a ha)) rfl rfl rfl hn (hts _ f1) ⟨(cls_ne a ha).1, (cls_ne a ha).2, nparam f3 hnp⟩ ⟨by show mFr a + 1 ≤ _; omega, by show 8 + (mMax a + 11) + mLc a ≤ _; omega⟩, hts _ g1, trivial⟩
      ⟨PX_blind, fun U hU hW => ⟨rfl, KX_at KK X hU hW⟩⟩ rfl (by rw [List.length_map, List.length_reverse, hb]) L.1 hstk (rest_room h8 hor) hd ⟨by omega, by omega⟩) fin
end CL
