/-! each instruction of the machine is a step of the JVM -/
def lenI (pc : Nat) : Instr → Nat
  | .bipush _ | .iload _ | .aload _ | .istore _ | .astore _ | .ldc _ | .newarray _ => 2
  | .sipush _ | .iinc _ _ | .goto _ | .ifCond _ _ | .if_icmp _ _ | .ifnull _ | .ifnonnull _ | .getfield _ | .putfield _ | .invokevirtual _ | .invokespecial _ | .invokestatic _ | .new _ | .anewarray _ => 3
  | .tableswitch _ _ _ offs => 1 + (3 - pc % 4) + 12 + 4 * offs.size
  | _ => 1
def has4 (L : List (Nat × Nat × Nat × Nat)) (o n a : Nat) : Bool := L.any (fun q => decide (q.1 = o) && decide (q.2.1 = n) && decide (q.2.2.1 = a))
def has5 (L : List (Nat × Nat × Nat × Nat × Nat)) (o n a b : Nat) : Bool := L.any (fun q => decide (q.1 = o) && decide (q.2.1 = n) && decide (q.2.2.1 = a) && decide (q.2.2.2.1 = b))
theorem has4_in {L : List (Nat × Nat × Nat × Nat)} {o n a : Nat} (h : has4 L o n a = true) : ∃ k, (o, n, a, k) ∈ L := by
  obtain ⟨q, hq, h⟩ := List.any_eq_true.mp h
  simp only [Bool.and_eq_true, decide_eq_true_eq] at h
  obtain ⟨⟨rfl, rfl⟩, rfl⟩ := h
  exact ⟨_, hq⟩
theorem has5_in {L : List (Nat × Nat × Nat × Nat × Nat)} {o n a b : Nat} (h : has5 L o n a b = true) : ∃ k, (o, n, a, b, k) ∈ L := by
  obtain ⟨q, hq, h⟩ := List.any_eq_true.mp h
  simp only [Bool.and_eq_true, decide_eq_true_eq] at h
  obtain ⟨⟨⟨rfl, rfl⟩, rfl⟩, rfl⟩ := h
  exact ⟨_, hq⟩
def cFin (a b : Nat) : Bool := match classes[a]? with
  | some (_, T, _) => (T b).2.2.2
  | none => true
def cOwn (a b : Nat) : String := match classes[a]? with
  | some (_, T, _) => (T b).1
  | none => ""
def callok (m a : Nat) : Bool := decide (a < 153) && decide (mFr a + 1 ≤ mFr m) && decide (8 + (mMax a + 11) + mLc a ≤ mLc m)
/-- what an instruction's row must keep (decided for the whole program) -/
def okI (m pc : Nat) (i : Instr) (a b c : Nat) : Bool := decide (decode (mCode m) pc = .ok (i, lenI pc i)) && match i with
  | .iconst n => decide (Int32.ofInt n = kst a b)
  | .bipush n => decide ((Int8.ofInt n).toInt32 = kst a b)
  | .sipush n => decide ((Int16.ofInt n).toInt32 = kst a b)
  | .ldc n => has4 kresL (mOw m) n a && decide (b = 0)
  | .iload_n k => decide (k.val = a)
  | .aload_n k => decide (k.val = a)
  | .istore_n k => decide (k.val = a) && decide (a < mMax m)
  | .astore_n k => decide (k.val = a) && decide (a < mMax m)
  | .iload k => decide (k = a)
  | .aload k => decide (k = a)
  | .istore k => decide (k = a) && decide (a < mMax m)
  | .astore k => decide (k = a) && decide (a < mMax m)
  | .iinc k n => decide (k = a) && decide (Int32.ofInt n = nI b)
  | .goto o => decide ((pc : Int) + o = ((blk m a).1 : Int))
  | .ifCond _ o => decide ((pc : Int) + o = ((blk m a).1 : Int))
  | .if_icmp _ o => decide ((pc : Int) + o = ((blk m a).1 : Int))
  | .ifnull o => decide ((pc : Int) + o = ((blk m a).1 : Int))
  | .ifnonnull o => decide ((pc : Int) + o = ((blk m a).1 : Int))
  | .tableswitch d lo hi os => decide ((pc : Int) + d = ((blk m b).1 : Int)) && decide (hi + 1 = lo + (os.size : Int)) && decide (os.toList.map (fun o => (pc : Int) + o) = (swt a).map (fun t => ((blk m t).1 : Int)))
  | .getfield n => has5 fresL (mOw m) n a b
  | .putfield n => has5 fresL (mOw m) n a b && (!(cFin a b) || (mIn m && decide (cOwn a b = ow (mOw m))))
  | .invokevirtual n => has4 vresL (mOw m) n a && callok m a && decide (mkd a = 0) && decide (c = mOw a) && decide (b = mNp a) && decide (b + 1 ≤ mMax a) && decide (mAl a = 0) && decide (mAs a = 0) && decide (c < 8)
  | .invokespecial n => if a = 9999 then has4 iresL (mOw m) n 9999 && decide (1 ≤ mFr m) && decide (20 ≤ mLc m) else (has4 iresL (mOw m) n a || has4 (snresL ++ inresL) (mOw m) n a) && callok m a && decide (mkd a = 2) && decide (b = mNp a) && decide (b + 1 ≤ mMax a)
  | .invokestatic n => if a = 9004 then has4 sresL (mOw m) n 9004 && decide (1 ≤ mFr m) && decide (60 ≤ mLc m) && decide (mAl m = 0) else (has4 sresL (mOw m) n a || has4 (snresL ++ inresL) (mOw m) n a) && callok m a && decide (mkd a = 1) && decide (b = mNp a) && decide (b ≤ mMax a) && decide (mAl a = 0) && decide (mAs a = 0)
  | .new n => has4 (cresL ++ aresL) (mOw m) n a && decide (a < 8)
  | .newarray t => decide ((a = 0 ∧ t = .int) ∨ (a = 1 ∧ t = .char))
  | .anewarray n => has4 (cresL ++ aresL) (mOw m) n a && decide (a = 2 ∨ a = 3 ∨ a = 4)
  | _ => true
theorem okI_dec {m pc a b c : Nat} {i : Instr} (h : okI m pc i a b c = true) : decode (mCode m) pc = .ok (i, lenI pc i) := by
  unfold okI at h
  exact of_decide_eq_true ((Bool.and_eq_true _ _).mp h).1
section ST
variable {l : Launch} {sc : SC} {m : Nat} {p : Program} {e : Env} {R : Room} {s : State} {mid : MethodId} {args : Array Value} {below : List Frame} {meth : Method} {cd : Code} {lo bb : Nat} {D : va_G} {cA : Nat → ClassId} {Z : State → Prop}
def WA (l : Launch) (p : Program) (e : Env) (R : Room) (s : State) (mid : MethodId) (args : Array Value) (below : List Frame) (meth : Method) (cd : Code) (lo bb : Nat) (D : va_G) (cA : Nat → ClassId) (Z : State → Prop) (m pc u v : Nat) (ls st : List Value) (h : AHp) : Prop :=
  ∀ (H : Heap) (locs : List Loc) (lsA : Array Slot), HX lo bb D cA s h H locs → LR lo bb lsA (mMax m) ls → u ≤ mAl m → v ≤ mAs m → W p l e R s mid args below meth cd H locs u v Z (F0 mid pc lsA (st.map (cv lo bb)))
set_option maxHeartbeats 4000000 in
theorem st_pur (C : CX m p R s mid args meth cd) {i : Instr} {a b c pc u v : Nat} {ls st : List Value} {h : AHp} {q : List Value × List Value} (hp : pur i a b ls st = some q) (ok : okI m pc i a b c = true)
    (hk : WA l p e R s mid args below meth cd lo bb D cA Z m (pc + lenI pc i) u v q.1 q.2 h) : WA l p e R s mid args below meth cd lo bb D cA Z m pc u v ls st h := by
  intro H locs lsA X L hu hv
  have hd := okI_dec ok
  obtain ⟨hx, hb, hml, hown, hts, -⟩ := C
  have K := fun ls' L' => hk H locs ls' X L' hu hv
  clear hk
  cases i <;> simp only [pur] at hp <;> try (exact (Option.some_ne_none _ hp.symm).elim)
  case iconst n =>
    cases hp
    simp only [okI, Bool.and_eq_true, decide_eq_true_eq] at ok
    exact lv_iconst hx hb hd ok.2 (K _ L)
  case bipush n =>
    cases hp
    simp only [okI, Bool.and_eq_true, decide_eq_true_eq] at ok
    exact lv_bipush hx hb hd ok.2 (K _ L)
  case sipush n =>
    cases hp
    simp only [okI, Bool.and_eq_true, decide_eq_true_eq] at ok
    exact lv_sipush hx hb hd ok.2 (K _ L)
  case ldc n =>
    cases hp
    simp only [okI, Bool.and_eq_true, decide_eq_true_eq] at ok
    obtain ⟨-, h1, rfl⟩ := ok
    obtain ⟨k, hk⟩ := has4_in h1
    have h2 := List.all_eq_true.mp kres_all _ hk
    exact lv_ldc hx hb hown (hts _ (lwAt_in h2)) hd (K _ L)
  case aconst_null =>
    cases hp
    exact lv_null hx hb hd (K _ L)
  case iload_n k =>
    simp only [okI, Bool.and_eq_true, decide_eq_true_eq] at ok
    split at hp
    · rename_i x hx1
      cases hp
      exact lv_iload_n hx hb hd ok.2 (L.get hx1 rfl) (K _ L)
    · cases hp
  case iload k =>
    simp only [okI, Bool.and_eq_true, decide_eq_true_eq] at ok
    obtain ⟨-, rfl⟩ := ok
    split at hp
    · rename_i x hx1
      cases hp
      exact lv_iload hx hb hd (L.get hx1 rfl) (K _ L)
    · cases hp
  case aload_n k =>
    simp only [okI, Bool.and_eq_true, decide_eq_true_eq] at ok
    split at hp
    · rename_i x hx1
      cases hp
      exact lv_aload_n hx hb hd ok.2 (L.get hx1 rfl) (K _ L)
    · rename_i hx1
      cases hp
      exact lv_aload_nN hx hb hd ok.2 (L.get hx1 rfl) (K _ L)
    · rename_i x hx1
      cases hp
      exact lv_aload_n hx hb hd ok.2 (L.get hx1 rfl) (K _ L)
    · cases hp
  case aload k =>
    simp only [okI, Bool.and_eq_true, decide_eq_true_eq] at ok
    obtain ⟨-, rfl⟩ := ok
    split at hp
    · rename_i x hx1
      cases hp
      exact lv_aload hx hb hd (L.get hx1 rfl) (K _ L)
    · rename_i hx1
      cases hp
      exact lv_aloadN hx hb hd (L.get hx1 rfl) (K _ L)
    · rename_i x hx1
      cases hp
      exact lv_aload hx hb hd (L.get hx1 rfl) (K _ L)
    · cases hp
  case istore_n k =>
    simp only [okI, Bool.and_eq_true, decide_eq_true_eq] at ok
    split at hp
    · cases hp
      exact lv_istore_n hx hb hd ok.2.1 L.has ok.2.2 rfl (fun ls' g => K ls' (L.store ok.2.2 rfl g))
    · cases hp
  case istore k =>
    simp only [okI, Bool.and_eq_true, decide_eq_true_eq] at ok
    obtain ⟨-, rfl, h2⟩ := ok
    split at hp
    · cases hp
      exact lv_istore hx hb hd L.has h2 rfl (fun ls' g => K ls' (L.store h2 rfl g))
    · cases hp
  case astore_n k =>
    simp only [okI, Bool.and_eq_true, decide_eq_true_eq] at ok
    split at hp
    · cases hp
      exact lv_astore_n hx hb hd ok.2.1 L.has ok.2.2 rfl (fun ls' g => K ls' (L.store ok.2.2 rfl g))
    · cases hp
      exact lv_astore_nN hx hb hd ok.2.1 L.has ok.2.2 rfl (fun ls' g => K ls' (L.store ok.2.2 rfl g))
    · cases hp
  case astore k =>
    simp only [okI, Bool.and_eq_true, decide_eq_true_eq] at ok
    obtain ⟨-, rfl, h2⟩ := ok
    split at hp
    · cases hp
      exact lv_astore hx hb hd L.has h2 rfl (fun ls' g => K ls' (L.store h2 rfl g))
    · cases hp
      exact lv_astoreN hx hb hd L.has h2 rfl (fun ls' g => K ls' (L.store h2 rfl g))
    · cases hp
  case iinc k n =>
    simp only [okI, Bool.and_eq_true, decide_eq_true_eq] at ok
    obtain ⟨-, rfl, h2⟩ := ok
    split at hp
    · rename_i x hx1
      cases hp
      obtain ⟨kk, hkk⟩ := List.getElem?_of_mem ((lvs_mem (lo := lo) (bb := bb) L.2.2.1 k (.int x)).mpr ⟨_, hx1, rfl, rfl⟩)
      exact lv_iinc hx hb hd L.has hkk (by rw [h2]) (L.lt hx1) rfl (fun ls' g => K ls' (L.store (L.lt hx1) rfl g))
    · cases hp
  case iadd => split at hp <;> cases hp; exact lv_iadd hx hb hd (K _ L)
  case isub => split at hp <;> cases hp; exact lv_isub hx hb hd (K _ L)
  case imul => split at hp <;> cases hp; exact lv_imul hx hb hd (K _ L)
  case idiv =>
    split at hp
    · split at hp
      · cases hp
      · rename_i hne
        cases hp
        exact lv_idiv hx hb hd hne (K _ L)
    · cases hp
  case irem =>
    split at hp
    · split at hp
      · cases hp
      · rename_i hne
        cases hp
        exact lv_irem hx hb hd hne (K _ L)
    · cases hp
  case ineg => split at hp <;> cases hp; exact lv_ineg hx hb hd (K _ L)
  case iand => split at hp <;> cases hp; exact lv_iand hx hb hd (K _ L)
  case ior => split at hp <;> cases hp; exact lv_ior hx hb hd (K _ L)
  case ixor => split at hp <;> cases hp; exact lv_ixor hx hb hd (K _ L)
  case ishl => split at hp <;> cases hp; exact lv_ishl hx hb hd (K _ L)
  case ishr => split at hp <;> cases hp; exact lv_ishr hx hb hd (K _ L)
  case i2c => split at hp <;> cases hp; exact lv_i2c hx hb hd rfl (K _ L)
  case dup =>
    split at hp
    · split at hp
      · rename_i ho
        cases hp
        exact lv_dup hx hb hd (cv_cat ho) (K _ L)
      · cases hp
    · cases hp
  case dup2 =>
    split at hp
    · split at hp
      · rename_i ho
        cases hp
        exact lv_dup2_11 hx hb hd (cv_cat ho.1) (cv_cat ho.2) (K _ L)
      · cases hp
    · cases hp
  case pop =>
    split at hp
    · split at hp
      · rename_i ho
        cases hp
        exact lv_pop hx hb hd (cv_cat ho) (K _ L)
      · cases hp
    · cases hp
end ST
