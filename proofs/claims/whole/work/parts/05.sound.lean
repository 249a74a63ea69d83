/-! the machine's judgement holds of the JVM: the pictures -/
def TB : List Jvm.Cond := lw_tbl.filter goodWord
theorem mem_TB {w : Jvm.Cond} (i : Nat) (h : lw_tbl[i]? = some w) (g : goodWord w = true) : w ∈ TB := List.mem_filter.mpr ⟨List.mem_of_getElem? h, g⟩
theorem TB_lw : ∀ w ∈ TB, w ∈ lw_tbl := fun w h => (List.mem_filter.mp h).1
theorem TB_good : GoodIn TB TB := fun w h => ⟨h, good_of_word (List.mem_filter.mp h).2⟩
def mWs (m : Nat) : List Jvm.Cond := Jvm.Cond.code (mY m) (mCode m) (mMax m) (mRet m) :: TB
theorem mWs_good {m : Nat} (h : Jvm.Cond.code (mY m) (mCode m) (mMax m) (mRet m) ∈ TB) : GoodIn TB (mWs m) := by
  intro w hw
  rcases List.mem_cons.mp hw with rfl | hw
  · exact TB_good _ h
  · exact TB_good _ hw
def cv (lo bb : Nat) : Value → Value
  | .ref k => .ref (lo + k)
  | .retAddr _ => .ref bb
  | w => w
theorem cv_cat {lo bb : Nat} {w : Value} (h : okv w = true) : (cv lo bb w).category = 1 := by cases w <;> first | rfl | cases h
def cE (lo bb : Nat) (cA : Nat → ClassId) : ACell → va_E
  | .inl (k, n, f) => .inl (cA k, n, .inl f)
  | .inr (.inl (k, n, f)) => .inl (cA k, n, .inr (.inr (.inr (.inr (fun j => (f j).map (fun x => lo + x))))))
  | .inr (.inr (ci, fs)) => .inr (ci, fs.map (cv lo bb))
def wsOf (lo bb : Nat) (cA : Nat → ClassId) (h : AHp) : va_W := (List.range h.1).map (fun k => (lo + k, cE lo bb cA (h.2 k)))
def kty (k : Nat) : FieldType := match k with
  | 0 => .int
  | 1 => .char
  | 2 => .object RX2
  | 3 => .object RX3
  | 4 => .object RX4
  | _ => .int
def tysOf (cA : Nat → ClassId) : List (ClassId × FieldType) := (List.range 5).map (fun k => (cA k, kty k))
theorem tysOf_at {cA : Nat → ClassId} {k : Nat} (h : k < 5) : (tysOf cA)[k]? = some (cA k, kty k) := by simp [tysOf, List.getElem?_range h]
def bad : ACell := .inr (.inr (99, []))
theorem ws_at {lo bb : Nat} {cA : Nat → ClassId} {h : AHp} {x : Nat} (hx : x < h.1) : (wsOf lo bb cA h)[x]? = some (lo + x, cE lo bb cA (h.2 x)) := by simp [wsOf, List.getElem?_range hx]
theorem ws_in {lo bb : Nat} {cA : Nat → ClassId} {h : AHp} {k : Nat} {q : Nat × va_E} (hq : (wsOf lo bb cA h)[k]? = some q) : k < h.1 ∧ q = (lo + k, cE lo bb cA (h.2 k)) := by
  have hl := (List.getElem?_eq_some_iff.mp hq).1
  have hk : k < h.1 := by simpa [wsOf] using hl
  rw [ws_at hk] at hq
  exact ⟨hk, (Option.some.inj hq).symm⟩
theorem ws_set {lo bb : Nat} {cA : Nat → ClassId} {h : AHp} {x : Nat} {c : ACell} : (wsOf lo bb cA h).set x (lo + x, cE lo bb cA c) = wsOf lo bb cA (hset h x c) := by
  apply List.ext_getElem?
  intro k
  by_cases hk : k = x
  · subst hk
    by_cases hl : k < h.1
    · rw [List.getElem?_set_self (by simpa [wsOf] using hl), ws_at (h := hset h k c) hl]
      simp [hset]
    · rw [List.getElem?_eq_none (by simpa [wsOf] using hl), List.getElem?_eq_none (by simpa [wsOf, hset] using hl)]
  · rw [List.getElem?_set_ne (Ne.symm hk)]
    by_cases hl : k < h.1
    · rw [ws_at hl, ws_at (h := hset h x c) hl]
      simp [hset, hk]
    · rw [List.getElem?_eq_none (by simpa [wsOf] using hl), List.getElem?_eq_none (by simpa [wsOf, hset] using hl)]
theorem ws_new {lo bb : Nat} {cA : Nat → ClassId} {h : AHp} {c : ACell} : wsOf lo bb cA (hnew h c) = wsOf lo bb cA h ++ [(lo + h.1, cE lo bb cA c)] := by
  unfold wsOf
  show (List.range (h.1 + 1)).map _ = _
  rw [List.range_succ, List.map_append]
  congr 1
  · apply List.map_congr_left
    intro k hk
    have := List.mem_range.mp hk
    simp [hnew, show k ≠ h.1 by omega]
  · simp [hnew]
theorem ws_D {lo bb : Nat} {cA : Nat → ClassId} {h : AHp} : va_D (fun q => lo ≤ q) (wsOf lo bb cA h) := by
  refine ⟨fun i j p q hi hj hpq => ?_, fun k q hk => ?_⟩
  · have h1 := (ws_in hi).2
    have h2 := (ws_in hj).2
    rw [h1, h2] at hpq
    simp only at hpq
    omega
  · rw [(ws_in hk).2]
    exact Nat.le_add_right _ _
/-- the heap holds the abstract one; nothing old has changed -/
def HX (lo bb : Nat) (D : va_G) (cA : Nat → ClassId) (s : State) (h : AHp) (H : Heap) (locs : List Loc) : Prop :=
  va_P D classes (wsOf lo bb cA h) H ∧ H.size = lo + h.1 ∧ (∀ q, h.1 ≤ q → h.2 q = bad) ∧ va_S (fun q => lo ≤ q) s.heap H locs
def NX (s : State) : Prop := (∀ q ∈ snresL ++ inresL, va_Nw (.methodLinkNest (ow q.1) q.2.1 (mY q.2.2.1) RX6) s) ∧ va_AO RX2 s ∧ va_AO RX3 s ∧ va_AO RX4 s
theorem NX.moved {u U : State} (hW : u.WarmedH U.vm) (h : NX u) : NX U := ⟨fun q hq => va_Nw.warmM hW (h.1 q hq), va_AO.moved hW.alike h.2.1, va_AO.moved hW.alike h.2.2.1, va_AO.moved hW.alike h.2.2.2⟩
def KX (sc : SC) (lo bb : Nat) (D : va_G) (cA : Nat → ClassId) (s : State) : Prop := va_K D classes (tysOf cA) s ∧ va_X bb sc.1 sc.2 s s.heap ∧ bb < lo ∧ lo ≤ s.heap.size ∧ NX s
def LR (lo bb : Nat) (lsA : Array Slot) (n : Nat) (ls : List Value) : Prop := lsA.size = n ∧ lv_wf lsA ∧ ls.length = n ∧ ∀ (i : Nat) (w : Value), ls[i]? = some w → okv w = true → lsA[i]? = some (.val (cv lo bb w))
def CX (m : Nat) (p : Program) (R : Room) (s : State) (mid : MethodId) (args : Array Value) (meth : Method) (c : Code) : Prop :=
  p.tables.exec = Jvm.exec ∧ c.code = mCode m ∧ c.maxLocals = mMax m ∧ s.vm.findClass (ow (mOw m)) = some mid.cls ∧ (∀ w ∈ TB, w.before args s = true) ∧ meth.sig.returnType = mRet m ∧ meth.locks = false ∧ (mIn m = true → meth.name = "<init>") ∧ R.frames = mFr m ∧ R.locals = mLc m ∧ R.cells = mAl m ∧ R.slots = mAs m
theorem HX.lt {lo bb : Nat} {D : va_G} {cA : Nat → ClassId} {s : State} {h : AHp} {H : Heap} {locs : List Loc} (X : HX lo bb D cA s h H locs) {x : Nat} {c : ACell} (hx : h.2 x = c) (hc : ∀ fs, c ≠ .inr (.inr (99, fs))) : x < h.1 := by
  rcases Nat.lt_or_ge x h.1 with q | q
  · exact q
  · exact absurd ((hx.symm.trans (X.2.2.1 x q))) (hc [])
theorem HX.set {lo bb : Nat} {D : va_G} {cA : Nat → ClassId} {s : State} {h : AHp} {H H1 : Heap} {locs locs1 : List Loc} {x : Nat} {c : ACell} (X : HX lo bb D cA s h H locs) (hx : x < h.1) (hz : H1.size = H.size) (hP : va_P D classes ((wsOf lo bb cA h).set x (lo + x, cE lo bb cA c)) H1) (hS : va_S (fun q => lo ≤ q) s.heap H1 locs1) : HX lo bb D cA s (hset h x c) H1 locs1 := by
  refine ⟨by rw [← ws_set]; exact hP, by rw [hz]; exact X.2.1, fun q hq => ?_, hS⟩
  have hq' : h.1 ≤ q := hq
  show (if q = x then c else h.2 q) = bad
  rw [if_neg (by omega)]
  exact X.2.2.1 q hq'
def lvs (lo bb n : Nat) (ls : List Value) : List (Nat × Value) := (List.range n).filterMap (fun j => match ls[j]? with
  | some w => if okv w = true then some (j, cv lo bb w) else none
  | none => none)
theorem lvs_mem {lo bb n : Nat} {ls : List Value} (h3 : ls.length = n) (j : Nat) (y : Value) : (j, y) ∈ lvs lo bb n ls ↔ ∃ w, ls[j]? = some w ∧ okv w = true ∧ y = cv lo bb w := by
  unfold lvs
  rw [List.mem_filterMap]
  constructor
  · rintro ⟨j', -, hj⟩
    split at hj
    · rename_i w hw
      split at hj
      · rename_i hok
        cases hj
        exact ⟨w, hw, hok, rfl⟩
      · cases hj
    · cases hj
  · rintro ⟨w, hw, hok, rfl⟩
    refine ⟨j, List.mem_range.mpr (by rw [← h3]; exact (List.getElem?_eq_some_iff.mp hw).1), ?_⟩
    simp [hw, hok]
theorem LR.has {lo bb : Nat} {lsA : Array Slot} {n : Nat} {ls : List Value} (h : LR lo bb lsA n ls) : lv_has lsA n (lvs lo bb n ls) := ⟨h.1, h.2.1, fun q hq => by
  obtain ⟨w, a1, a2, a3⟩ := (lvs_mem h.2.2.1 q.1 q.2).mp hq
  rw [a3]
  exact h.2.2.2 _ _ a1 a2⟩
theorem LR.store {lo bb : Nat} {lsA ls' : Array Slot} {n : Nat} {ls : List Value} (h : LR lo bb lsA n ls) {i : Nat} (hi : i < n) {w : Value} {y : Value} (hy : y = cv lo bb w) (g : lv_has ls' n ((i, y) :: (lvs lo bb n ls).filter (fun q => !(q.1 == i) && !(q.1 + 1 == i && q.2.category == 2)))) : LR lo bb ls' n (ls.set i w) := by
  subst hy
  obtain ⟨h1, h2, h3, h4⟩ := h
  obtain ⟨g1, g2, g3⟩ := g
  refine ⟨g1, g2, by simpa using h3, fun j y hj hy => ?_⟩
  by_cases hji : j = i
  · subst hji
    rw [List.getElem?_set_self (by omega)] at hj
    cases hj
    exact g3 (j, cv lo bb w) List.mem_cons_self
  · rw [List.getElem?_set_ne (Ne.symm hji)] at hj
    refine g3 (j, cv lo bb y) (List.mem_cons_of_mem _ (List.mem_filter.mpr ⟨(lvs_mem h3 _ _).mpr ⟨y, hj, hy, rfl⟩, ?_⟩))
    simp [hji, cv_cat hy]
theorem LR.get {lo bb : Nat} {lsA : Array Slot} {n : Nat} {ls : List Value} (h : LR lo bb lsA n ls) {i : Nat} {w : Value} (hw : ls[i]? = some w) (ho : okv w = true) : lsA[i]? = some (.val (cv lo bb w)) := h.2.2.2 i w hw ho
theorem LR.lt {lo bb : Nat} {lsA : Array Slot} {n : Nat} {ls : List Value} (h : LR lo bb lsA n ls) {i : Nat} {w : Value} (hw : ls[i]? = some w) : i < n := by rw [← h.2.2.1]; exact (List.getElem?_eq_some_iff.mp hw).1
theorem va_S.at {A : Nat → Prop} {H0 H H1 : Heap} {locs : List Loc} {a k : Nat} (h : va_S A H0 H locs) (z : H1.size = H.size) (oq : ∀ q : Nat, q ≠ a → H1[q]? = H[q]?) (ha : A a) : va_S A H0 H1 (locs ++ [⟨a, k⟩]) := h.put z oq ha
theorem HX.cell {lo bb : Nat} {D : va_G} {cA : Nat → ClassId} {s : State} {h : AHp} {H H1 : Heap} {locs : List Loc} {x i : Nat} {c c0 : ACell} (X : HX lo bb D cA s h H locs) (hx : h.2 x = c0) (hc : ∀ fs, c0 ≠ .inr (.inr (99, fs))) (z : H1.size = H.size) (oq : ∀ q : Nat, q ≠ lo + x → H1[q]? = H[q]?) (he : va_at D classes (lo + x, cE lo bb cA c) H1) : HX lo bb D cA s (hset h x c) H1 (locs ++ [⟨lo + x, i⟩]) := by
  have hl := X.lt hx hc
  exact X.set hl z (X.1.set ws_D (ws_at hl) he oq) (X.2.2.2.put z oq (Nat.le_add_right _ _))
theorem HX.push {lo bb : Nat} {D : va_G} {cA : Nat → ClassId} {s : State} {h : AHp} {H H1 : Heap} {locs : List Loc} {c : ACell} (X : HX lo bb D cA s h H locs) (z : H1.size = H.size + 1) (oq : ∀ q : Nat, q < H.size → H1[q]? = H[q]?) (he : va_at D classes (lo + h.1, cE lo bb cA c) H1) : HX lo bb D cA s (hnew h c) H1 locs := by
  have X' := X
  obtain ⟨hP, hz, hb, hS⟩ := X
  refine ⟨?_, by rw [z, hz]; rfl, fun q hq => ?_, Nat.le_trans hS.1 (by omega), fun q h1 h2 => (oq q (Nat.lt_of_lt_of_le h1 hS.1)).trans (hS.2.1 q h1 h2), hS.2.2⟩
  · rw [ws_new]
    refine va_P.app (hP.kept (fun k q hk => oq q.1 (hP k q hk).lt)) (fun k q hk => ?_)
    have hk1 : k < 1 := (List.getElem?_eq_some_iff.mp hk).1
    rw [show k = 0 by omega] at hk
    cases hk
    exact he
  · have hq' : h.1 + 1 ≤ q := hq
    show (if q = h.1 then c else h.2 q) = bad
    rw [if_neg (by omega)]
    exact hb q (by omega)
