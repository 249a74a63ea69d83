def retI (m pc : Nat) (r : Option Value) : Prop := match r with
  | none => decode (mCode m) pc = .ok (.return_, 1) ∧ mRet m = none
  | some (.int x) => decode (mCode m) pc = .ok (.ireturn, 1) ∧ zok (mRet m) x
  | some (.ref _) => decode (mCode m) pc = .ok (.areturn, 1) ∧ aok (mRet m)
  | some .null => decode (mCode m) pc = .ok (.areturn, 1) ∧ aok (mRet m)
  | _ => False
def FIN (l : Launch) (p : Program) (e : Env) (R : Room) (s : State) (mid : MethodId) (args : Array Value) (below : List Frame) (meth : Method) (cd : Code) (lo bb : Nat) (D : va_G) (cA : Nat → ClassId) (Z : State → Prop) (m : Nat) (Q : PT) : Prop :=
  ∀ (r : Option Value) (h : AHp) (H : Heap) (locs : List Loc) (lsA : Array Slot) (u v pc : Nat), HX lo bb D cA s h H locs → u ≤ mAl m → v ≤ mAs m → Q r h → retI m pc r → W p l e R s mid args below meth cd H locs u v Z (F0 mid pc lsA (r.toList.map (cv lo bb)))
def PW (l : Launch) (sc : SC) : ET := fun m b u v ls st h Q => ∀ (p : Program) (e : Env) (R : Room) (s : State) (mid : MethodId) (args : Array Value) (below : List Frame) (meth : Method) (cd : Code) (lo bb : Nat) (D : va_G) (cA : Nat → ClassId) (Z : State → Prop),
  CX m p R s mid args meth cd → KX sc lo bb D cA s → FIN l p e R s mid args below meth cd lo bb D cA Z m Q → WA l p e R s mid args below meth cd lo bb D cA Z m (blk m b).1 u v ls st h
/-- a call's end -/
def QW (lo bb : Nat) (D : va_G) (cA : Nat → ClassId) (post : PT) : Array Value → State → Outcome → State → Prop := fun _ st oc t =>
  (∃ (r : Option Value) (h' : AHp), oc = .returned (r.map (cv lo bb)) ∧ post r h' ∧ va_P D classes (wsOf lo bb cA h') t.heap ∧ t.heap.size = lo + h'.1 ∧ ∀ q, h'.1 ≤ q → h'.2 q = bad) ∧ va_F (fun q => lo ≤ q) st t
def PX (sc : SC) (lo bb : Nat) (D : va_G) (cA : Nat → ClassId) (h : AHp) (U : State) : Prop := KX sc lo bb D cA U ∧ HX lo bb D cA U h U.heap []
def mRoom (m : Nat) : Room := { frames := mFr m, cells := mAl m, slots := mAs m, locals := mLc m }
theorem Met.ofP {l : Launch} {y : MethodName} {ws ws' : List Jvm.Cond} {rm : Room} {Pc : Array Value → State → Prop} {Qc : Array Value → State → Outcome → State → Prop} {mc ms : Nat} {free : Addr → Prop} {cc : ByteArray} {maxL : Nat} {ret : Option FieldType}
    (hy : plainFor y = true) (hw : ws = Jvm.Cond.code y cc maxL ret :: ws')
    (body : ∀ p e s m args below meth c s₁, BodyLoose p l y (headSpec ws rm) cc maxL ret e s m args below meth c s₁ → c.maxLocals = maxL → Pc args s →
      W p l e (headSpec ws rm).room s m args below meth c s.heap [] 0 0 (MQ below Qc args s mc ms free) (entryFrame m args maxL)) : Met l y ws rm Pc Qc mc ms free := by
  refine MetFree.of_bodySF (code := cc) (maxLocals := maxL) (ret := ret) hy ?_ ?_
  · intro args s m h hn
    obtain ⟨meth, c, h1, h2, h3, h4, h5, h6, -, -⟩ := Cond.code_spec hn (atoms_spec (ws := ws) h _ (by rw [hw]; exact List.mem_cons_self))
    exact ⟨meth, c, h1, h2, h3, h4, h5, h6⟩
  · intro p e s m args below meth c s₁ Bd hml hP _
    have hh0 : s₁.heap = s.heap := by rw [Bd.state]; rfl
    obtain ⟨t, a1, o, b1, b2, b3⟩ := body p e s m args below meth c s₁ Bd hml hP s₁ hh0 (Stand.of_body Bd)
    exact ⟨t, o, a1, b1, b2, ⟨b3.1, b3.2⟩⟩
theorem m_facts {a : Nat} (h : a < 153) : Jvm.Cond.initialized (mY a).cls ∈ TB ∧ plainFor (mY a) = true ∧ (parseMethodDescriptor (mY a).desc).map (fun d => d.parameters.length) = some (mNp a) ∧ (mY a).cls = ow (mOw a) ∧ (mIn a = true → (mY a).name = "<init>") ∧ (mkd a = 0 → Jvm.Cond.instanceMethod (mY a) ∈ TB ∧ Jvm.Cond.selects (mY a).cls (mY a) (mY a) ∈ TB) ∧ (mkd a = 1 → Jvm.Cond.static (mY a) ∈ TB) ∧ (mkd a = 2 → Jvm.Cond.instanceMethod (mY a) ∈ TB ∧ (mY a).name = "<init>" ∧ mRet a = none) := by
  have h1 := List.all_eq_true.mp m_all a (List.mem_range.mpr h)
  unfold mchk at h1
  split at h1
  · rename_i p0 p1 p2 p3 k e1
    have hk : mkd a = k := by unfold mkd; rw [e1]
    simp only [Bool.and_eq_true, decide_eq_true_eq] at h1
    obtain ⟨⟨⟨⟨⟨g1, g2⟩, g3⟩, g4⟩, g5⟩, g6⟩ := h1
    refine ⟨lwAt_in g1, g3, g4, g5, g6, fun z => ?_, fun z => ?_, fun z => ?_⟩
    · rw [hk] at z; subst z
      simp only [Bool.and_eq_true] at g2
      exact ⟨lwAt_in g2.1, lwAt_in g2.2⟩
    · rw [hk] at z; subst z
      exact lwAt_in g2
    · rw [hk] at z; subst z
      simp only [Bool.and_eq_true, decide_eq_true_eq] at g2
      exact ⟨lwAt_in g2.1.1, g2.1.2, g2.2⟩
  · cases h1
theorem cls_ne : ∀ a, a < 153 → (mY a).cls ≠ "java/lang/invoke/MethodHandle" ∧ (mY a).cls ≠ "java/lang/invoke/VarHandle" := by
  have : (List.range 153).all (fun a => decide ((mY a).cls ≠ "java/lang/invoke/MethodHandle" ∧ (mY a).cls ≠ "java/lang/invoke/VarHandle")) = true := by decide +kernel
  intro a ha
  exact of_decide_eq_true (List.all_eq_true.mp this a (List.mem_range.mpr ha))
theorem lv_args_at {lo bb : Nat} : ∀ (as : List Value) (k i : Nat) (w : Value), as.all okv = true → as[i]? = some w → (k + i, cv lo bb w) ∈ lv_args k (as.map (cv lo bb))
  | [], _, _, _, _, h => by simp at h
  | y :: as, k, 0, w, ho, h => by
    simp at h
    subst h
    exact List.mem_cons_self
  | y :: as, k, i + 1, w, ho, h => by
    simp only [List.all_cons, Bool.and_eq_true] at ho
    have hr := lv_args_at (lo := lo) (bb := bb) as (k + 1) i w ho.2 (by simpa using h)
    show _ ∈ (k, cv lo bb y) :: lv_args (if (cv lo bb y).category = 2 then k + 2 else k + 1) (as.map (cv lo bb))
    rw [if_neg (by rw [cv_cat ho.1]; decide)]
    refine List.mem_cons_of_mem _ ?_
    rw [show k + (i + 1) = k + 1 + i by omega]
    exact hr
theorem sl_len {lo bb : Nat} : ∀ (as : List Value), as.all okv = true → (lg_sl (as.map (cv lo bb))).length = as.length
  | [], _ => rfl
  | y :: as, ho => by
    simp only [List.all_cons, Bool.and_eq_true] at ho
    have hr := sl_len (lo := lo) (bb := bb) as ho.2
    have hc : ¬ (cv lo bb y).category = 2 := by rw [cv_cat ho.1]; decide
    simp only [lg_sl, List.map_cons, List.flatMap_cons, List.length_append, List.length_cons] at hr ⊢
    rw [hr]
    simp [hc]
    try omega
set_option maxHeartbeats 2000000 in
theorem met_of {l : Launch} {sc : SC} {a : Nat} {as : List Value} {h : AHp} {post : PT} {lo bb : Nat} {D : va_G} {cA : Nat → ClassId} (ha : a < 153) (hlen : as.length ≤ mMax a) (ho : as.all okv = true) (hw : PW l sc a 0 0 0 (ini a as) [] h post) (hpc : (blk a 0).1 = 0) :
    Met l (mY a) (mWs a) (mRoom a) (va_Pc (as.map (cv lo bb)) (PX sc lo bb D cA h)) (QW lo bb D cA post) (mAl a) (mAs a) (fun q => lo ≤ q) := by
  obtain ⟨f1, f2, f3, f4, f5, f6, f7, f8⟩ := m_facts ha
  refine Met.ofP (cc := mCode a) (maxL := mMax a) (ret := mRet a) f2 rfl ?_
  intro p e s m args below meth c s₁ Bd hml hv
  obtain ⟨rfl, hKX, hHX⟩ := hv
  have hts := atoms_spec (ws := mWs a) Bd.pre
  have hown : s.vm.findClass (mY a).cls = some m.cls := findClass_of_methodNamed Bd.named
  have hname : meth.name = (mY a).name := (name_of_methodNamed Bd.named Bd.method).1
  have hlocks := Bd.notSynchronized
  have C : CX a p (headSpec (mWs a) (mRoom a)).room s m (as.map (cv lo bb)).toArray meth c := ⟨Bd.exec, Bd.bytes, hml, by rw [← f4]; exact hown, fun w hw => hts w (List.mem_cons_of_mem _ hw), Bd.returns, hlocks, fun hi => by rw [hname]; exact f5 hi, rfl, rfl, rfl, rfl⟩
  have hF : FIN l p e (headSpec (mWs a) (mRoom a)).room s m (as.map (cv lo bb)).toArray below meth c lo bb D cA (MQ below (QW lo bb D cA post) (as.map (cv lo bb)).toArray s (mAl a) (mAs a) (fun q => lo ≤ q)) a post := by
    intro r h' H locs lsA u v pc X hu hv hQ hR
    have hq : ∀ t : State, t.heap = H → s.WarmedH t.vm → QW lo bb D cA post (as.map (cv lo bb)).toArray s (.returned (r.map (cv lo bb))) t := fun t ht hW => ⟨⟨r, h', rfl, hQ, by rw [ht]; exact X.1, by rw [ht]; exact X.2.1, X.2.2.1⟩, X.2.2.2.F ht⟩
    refine W.widen hu hv ?_
    unfold retI at hR
    split at hR
    · exact W.vret C.1 C.2.1 (by rw [Bd.returns, hR.2]) hq X.2.2.2.2.2 hR.1
    · rename_i x
      have hz := hR.2
      unfold zok at hz
      split at hz
      · rename_i hrt
        exact W.zret C.1 C.2.1 (ty := .int) (by rw [Bd.returns, hrt]) rfl hq X.2.2.2.2.2 hR.1
      · rename_i hrt
        exact W.zret C.1 C.2.1 (ty := .boolean) (by rw [Bd.returns, hrt]) (by rcases hz with rfl | rfl <;> rfl) hq X.2.2.2.2.2 hR.1
      · exact hz.elim
    · rename_i x
      have hz := hR.2
      unfold aok at hz
      split at hz
      · rename_i nm hrt
        exact W.aret (v := .ref (lo + x)) C.1 C.2.1 (rt := .object nm) (by rw [Bd.returns, hrt]) (Or.inl ⟨_, rfl⟩) (Or.inr ⟨_, rfl⟩) hq X.2.2.2.2.2 hR.1
      · exact hz.elim
    · have hz := hR.2
      unfold aok at hz
      split at hz
      · rename_i nm hrt
        exact W.aret (v := .null) C.1 C.2.1 (rt := .object nm) (by rw [Bd.returns, hrt]) (Or.inl ⟨_, rfl⟩) (Or.inl rfl) hq X.2.2.2.2.2 hR.1
      · exact hz.elim
    · exact hR.elim
  have hWA := hw p e _ s m _ below meth c lo bb D cA _ C hKX hF
  rw [hpc] at hWA
  rw [lg_entry_eq]
  have hsl := sl_len (lo := lo) (bb := bb) as ho
  have hl := lv_entry (as.map (cv lo bb)) (n := mMax a) (by rw [hsl]; exact hlen)
  refine hWA s.heap [] _ hHX ⟨hl.1, hl.2.1, ?_, fun i w hw hok => ?_⟩ (Nat.zero_le _) (Nat.zero_le _)
  · simp [ini]
    omega
  · unfold ini at hw
    by_cases hi : i < as.length
    · rw [List.getElem?_append_left hi] at hw
      have := hl.2.2 _ (lv_args_at (lo := lo) (bb := bb) as 0 i w ho hw)
      simpa using this
    · rw [List.getElem?_append_right (by omega)] at hw
      have := (List.getElem?_eq_some_iff.mp hw).2
      rw [List.getElem_replicate] at this
      subst this
      cases hok
