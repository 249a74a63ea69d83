/-! a small machine: what an instruction does to locals, operands and an abstract heap; a judgement E, the least one closed under it -/
abbrev ACell : Type := (Nat × Nat × (Nat → Int32)) ⊕ ((Nat × Nat × (Nat → Option Nat)) ⊕ (Nat × List Value))
abbrev AHp : Type := Nat × (Nat → ACell)
abbrev SC : Type := Nat × (Nat → Int32)
abbrev PT : Type := Option Value → AHp → Prop
abbrev KT : Type := Nat → Nat → List Value → List Value → AHp → Prop
abbrev JT : Type := Nat → Nat → Nat → List Value → List Value → AHp → Prop
abbrev CT : Type := Nat → List Value → AHp → PT → Prop
def hset (h : AHp) (a : Nat) (c : ACell) : AHp := (h.1, fun q => if q = a then c else h.2 q)
def hnew (h : AHp) (c : ACell) : AHp := (h.1 + 1, fun q => if q = h.1 then c else h.2 q)
def rfv (r : Option Nat) : Value := match r with
  | some a => .ref a
  | none => .null
def icn (c : ClassFile.Cond) (x y : Int32) : Prop := match c with
  | .eq => x = y
  | .ne => ¬ x = y
  | .lt => x < y
  | .ge => y ≤ x
  | .gt => y < x
  | .le => x ≤ y
def kst (a b : Nat) : Int32 := if b = 0 then nI a else - nI a
def okv : Value → Bool
  | .int _ | .ref _ | .null | .retAddr _ => true
  | _ => false
def zok (rt : Option FieldType) (y : Int32) : Prop := match rt with
  | some .int => True
  | some .boolean => y = 0 ∨ y = 1
  | _ => False
def aok (rt : Option FieldType) : Prop := match rt with
  | some (.object _) => True
  | _ => False
def pok (ty : FieldType) (w : Value) : Prop := match ty, w with
  | .int, .int _ => True
  | .boolean, .int x => x = 0 ∨ x = 1
  | .object _, .ref _ => True
  | .array _, .ref _ => True
  | _, _ => False
/-- straight instructions: no heap, no jump -/
def pur (i : Instr) (a b : Nat) (ls st : List Value) : Option (List Value × List Value) := match i with
  | .iconst _ | .bipush _ | .sipush _ | .ldc _ => some (ls, .int (kst a b) :: st)
  | .aconst_null => some (ls, .null :: st)
  | .iload_n _ | .iload _ => match ls[a]? with
    | some (.int x) => some (ls, .int x :: st)
    | _ => none
  | .aload_n _ | .aload _ => match ls[a]? with
    | some (.ref x) => some (ls, .ref x :: st)
    | some .null => some (ls, .null :: st)
    | some (.retAddr x) => some (ls, .retAddr x :: st)
    | _ => none
  | .istore_n _ | .istore _ => match st with
    | .int x :: st => some (ls.set a (.int x), st)
    | _ => none
  | .astore_n _ | .astore _ => match st with
    | .ref x :: st => some (ls.set a (.ref x), st)
    | .null :: st => some (ls.set a .null, st)
    | _ => none
  | .iinc _ _ => match ls[a]? with
    | some (.int x) => some (ls.set a (.int (x + nI b)), st)
    | _ => none
  | .iadd => match st with
    | .int y :: .int x :: st => some (ls, .int (x + y) :: st)
    | _ => none
  | .isub => match st with
    | .int y :: .int x :: st => some (ls, .int (x - y) :: st)
    | _ => none
  | .imul => match st with
    | .int y :: .int x :: st => some (ls, .int (x * y) :: st)
    | _ => none
  | .idiv => match st with
    | .int y :: .int x :: st => if y = 0 then none else some (ls, .int (x / y) :: st)
    | _ => none
  | .irem => match st with
    | .int y :: .int x :: st => if y = 0 then none else some (ls, .int (x - x / y * y) :: st)
    | _ => none
  | .ineg => match st with
    | .int x :: st => some (ls, .int (- x) :: st)
    | _ => none
  | .iand => match st with
    | .int y :: .int x :: st => some (ls, .int (x &&& y) :: st)
    | _ => none
  | .ior => match st with
    | .int y :: .int x :: st => some (ls, .int (x ||| y) :: st)
    | _ => none
  | .ixor => match st with
    | .int y :: .int x :: st => some (ls, .int (x ^^^ y) :: st)
    | _ => none
  | .ishl => match st with
    | .int y :: .int x :: st => some (ls, .int (x <<< (y &&& 31)) :: st)
    | _ => none
  | .ishr => match st with
    | .int y :: .int x :: st => some (ls, .int (x >>> (y &&& 31)) :: st)
    | _ => none
  | .i2c => match st with
    | .int x :: st => some (ls, .int (x.toUInt32 % 65536).toInt32 :: st)
    | _ => none
  | .dup => match st with
    | x :: st => if okv x = true then some (ls, x :: x :: st) else none
    | _ => none
  | .dup2 => match st with
    | y :: x :: st => if okv y = true ∧ okv x = true then some (ls, y :: x :: y :: x :: st) else none
    | _ => none
  | .pop => match st with
    | x :: st => if okv x = true then some (ls, st) else none
    | _ => none
  | _ => none
/-- one instruction: J where it jumps, K what it calls, Q where it returns, k what stands behind it -/
def stp (sc : SC) (al as : Nat) (rt : Option FieldType) (J : JT) (K : CT) (Q : PT) (i : Instr) (a b c : Nat) (k : KT) (u v : Nat) (ls st : List Value) (h : AHp) : Prop := match i with
  | .goto _ => J a u v ls st h
  | .ifCond cn _ => match st with
    | .int x :: st => (icn cn x 0 → J a u v ls st h) ∧ (¬ icn cn x 0 → k u v ls st h)
    | _ => False
  | .if_icmp cn _ => match st with
    | .int y :: .int x :: st => (icn cn x y → J a u v ls st h) ∧ (¬ icn cn x y → k u v ls st h)
    | _ => False
  | .ifnull _ => match st with
    | .null :: st => J a u v ls st h
    | .ref _ :: st => k u v ls st h
    | _ => False
  | .ifnonnull _ => match st with
    | .null :: st => k u v ls st h
    | .ref _ :: st => J a u v ls st h
    | _ => False
  | .tableswitch _ lo hi _ => match st with
    | .int x :: st => ((x.toInt < lo ∨ hi < x.toInt) → J b u v ls st h) ∧ ∀ (j t : Nat), (swt a)[j]? = some t → x.toInt = lo + j → J t u v ls st h
    | _ => False
  | .ireturn => match st with
    | [.int x] => zok rt x ∧ Q (some (.int x)) h
    | _ => False
  | .areturn => match st with
    | [.ref x] => aok rt ∧ Q (some (.ref x)) h
    | [.null] => aok rt ∧ Q (some .null) h
    | _ => False
  | .return_ => match st with
    | [] => rt = none ∧ Q none h
    | _ => False
  | .getfield _ => match st with
    | .ref x :: st => match h.2 x with
      | .inr (.inr (ci, fs)) => ci = a ∧ match fs[b]? with
        | some w => k u v ls (w :: st) h
        | none => False
      | _ => False
    | _ => False
  | .putfield _ => match st with
    | w :: .ref x :: st => match h.2 x with
      | .inr (.inr (ci, fs)) => ci = a ∧ b < fs.length ∧ pok (cTy a b) w ∧ k u v ls st (hset h x (.inr (.inr (ci, fs.set b w))))
      | _ => False
    | _ => False
  | .iaload => match st with
    | .int j :: .ref x :: st => match h.2 x with
      | .inl (kd, n, f) => kd = 0 ∧ vp_in j n ∧ k u v ls (.int (f j.toNatClampNeg) :: st) h
      | _ => False
    | .int j :: .retAddr _ :: st => vp_in j sc.1 ∧ k u v ls (.int (sc.2 j.toNatClampNeg) :: st) h
    | _ => False
  | .caload => match st with
    | .int j :: .ref x :: st => match h.2 x with
      | .inl (kd, n, f) => kd = 1 ∧ vp_in j n ∧ k u v ls (.int (f j.toNatClampNeg) :: st) h
      | _ => False
    | _ => False
  | .iastore => match st with
    | .int w :: .int j :: .ref x :: st => match h.2 x with
      | .inl (kd, n, f) => kd = 0 ∧ vp_in j n ∧ k u v ls st (hset h x (.inl (kd, n, upd f j.toNatClampNeg w)))
      | _ => False
    | _ => False
  | .castore => match st with
    | .int w :: .int j :: .ref x :: st => match h.2 x with
      | .inl (kd, n, f) => kd = 1 ∧ vp_in j n ∧ k u v ls st (hset h x (.inl (kd, n, upd f j.toNatClampNeg (vp_nar .char w))))
      | _ => False
    | _ => False
  | .aaload => match st with
    | .int j :: .ref x :: st => match h.2 x with
      | .inr (.inl (kd, n, f)) => (kd = 2 ∨ kd = 3 ∨ kd = 4) ∧ vp_in j n ∧ k u v ls (rfv (f j.toNatClampNeg) :: st) h
      | _ => False
    | _ => False
  | .aastore => match st with
    | .ref w :: .int j :: .ref x :: st => match h.2 x, h.2 w with
      | .inr (.inl (kd, n, f)), .inr (.inr (ci, _)) => (kd = 2 ∨ kd = 3 ∨ kd = 4) ∧ ci = kd ∧ vp_in j n ∧ k u v ls st (hset h x (.inr (.inl (kd, n, va_up f j.toNatClampNeg (some w)))))
      | _, _ => False
    | _ => False
  | .arraylength => match st with
    | .ref x :: st => match h.2 x with
      | .inl (kd, n, _) => kd = 0 ∧ k u v ls (.int (nI n) :: st) h
      | _ => False
    | .retAddr _ :: st => k u v ls (.int (nI sc.1) :: st) h
    | _ => False
  | .new _ => u + 1 ≤ al ∧ v + (dfl a).length ≤ as ∧ k (u + 1) (v + (dfl a).length) ls (.ref h.1 :: st) (hnew h (.inr (.inr (a, dfl a))))
  | .newarray _ => match st with
    | .int n :: st => ¬ n < 0 ∧ n.toNatClampNeg * 4 ≤ 536870912 ∧ u + 1 ≤ al ∧ v + n.toNatClampNeg ≤ as ∧ k (u + 1) (v + n.toNatClampNeg) ls (.ref h.1 :: st) (hnew h (.inl (a, n.toNatClampNeg, fun _ => 0)))
    | _ => False
  | .anewarray _ => match st with
    | .int n :: st => ¬ n < 0 ∧ n.toNatClampNeg * 4 ≤ 536870912 ∧ u + 1 ≤ al ∧ v + n.toNatClampNeg ≤ as ∧ k (u + 1) (v + n.toNatClampNeg) ls (.ref h.1 :: st) (hnew h (.inr (.inl (a, n.toNatClampNeg, fun _ => none))))
    | _ => False
  | .invokevirtual _ => match st.drop b with
    | .ref x :: rest => (st.take b).length = b ∧ rest.length ≤ 8 ∧ st.all okv = true ∧ (∃ fs, h.2 x = .inr (.inr (c, fs))) ∧ K a (.ref x :: (st.take b).reverse) h (fun r h' => k u v ls (r.toList ++ rest) h')
    | _ => False
  | .invokespecial _ => match a with
    | 9999 => match st with
      | .ref _ :: st => st.length ≤ 8 ∧ st.all okv = true ∧ k u v ls st h
      | _ => False
    | _ => match st.drop b with
      | .ref x :: rest => (st.take b).length = b ∧ rest.length ≤ 8 ∧ st.all okv = true ∧ u + mAl a ≤ al ∧ v + mAs a ≤ as ∧ K a (.ref x :: (st.take b).reverse) h (fun r h' => k (u + mAl a) (v + mAs a) ls (r.toList ++ rest) h')
      | _ => False
  | .invokestatic _ => match a with
    | 9004 => match st with
      | .int n :: .int dp :: .ref y :: .int sp :: .ref x :: rest => match h.2 x, h.2 y with
        | .inl (kx, nx, f), .inl (ky, ny, g) => kx = 0 ∧ ky = 0 ∧ rest.length ≤ 8 ∧ rest.all okv = true ∧ ¬ sp < 0 ∧ ¬ dp < 0 ∧ ¬ n < 0 ∧ sp.toNatClampNeg + n.toNatClampNeg ≤ nx ∧ dp.toNatClampNeg + n.toNatClampNeg ≤ ny ∧
          k u v ls rest (hset h y (.inl (ky, ny, va_cpy f g sp.toNatClampNeg dp.toNatClampNeg n.toNatClampNeg)))
        | _, _ => False
      | _ => False
    | _ => (st.take b).length = b ∧ (st.drop b).length ≤ 8 ∧ st.all okv = true ∧ K a (st.take b).reverse h (fun r h' => k u v ls (r.toList ++ st.drop b) h')
  | i => match pur i a b ls st with
    | some q => k u v q.1 q.2 h
    | none => False
def B (sc : SC) (al as : Nat) (rt : Option FieldType) (J : JT) (K : CT) (Q : PT) (nxt : Nat) : List MI → KT
  | [] => fun u v ls st h => J nxt u v ls st h
  | x :: r => fun u v ls st h => stp sc al as rt J K Q x.1 x.2.1 x.2.2.1 x.2.2.2 (B sc al as rt J K Q nxt r) u v ls st h
def ini (m : Nat) (as : List Value) : List Value := as ++ List.replicate (mMax m - as.length) (.long 0)
abbrev ET : Type := Nat → Nat → Nat → Nat → List Value → List Value → AHp → PT → Prop
/-- the body of a block of method m, over a judgement P -/
def BM (sc : SC) (P : ET) (m b u v : Nat) (ls st : List Value) (h : AHp) (Q : PT) : Prop :=
  B sc (mAl m) (mAs m) (mRet m) (fun b' u' v' ls' st' h' => P m b' u' v' ls' st' h' Q) (fun m' as h' post => P m' 0 0 0 (ini m' as) [] h' post) Q (blk m b).2.2 (blk m b).2.1 u v ls st h
def Cl (sc : SC) (P : ET) : Prop :=
  (∀ m b u v ls st h Q Q', (∀ r h', Q r h' → Q' r h') → P m b u v ls st h Q → P m b u v ls st h Q') ∧
  ∀ m b u v ls st h Q, BM sc P m b u v ls st h Q → P m b u v ls st h Q
def E (sc : SC) : ET := fun m b u v ls st h Q => ∀ P, Cl sc P → P m b u v ls st h Q
/-- a call of method m -/
def RUN (sc : SC) (m : Nat) (as : List Value) (h : AHp) (Q : PT) : Prop := E sc m 0 0 0 (ini m as) [] h Q
theorem stp_mono {sc : SC} {al as : Nat} {rt : Option FieldType} {J J' : JT} {K K' : CT} {Q Q' : PT} {k k' : KT} (hJ : ∀ b u v ls st h, J b u v ls st h → J' b u v ls st h) (hK : ∀ m a h p p', (∀ r h', p r h' → p' r h') → K m a h p → K' m a h p') (hQ : ∀ r h, Q r h → Q' r h) (hk : ∀ u v ls st h, k u v ls st h → k' u v ls st h)
    (i : Instr) (a b c u v : Nat) (ls st : List Value) (h : AHp) (H : stp sc al as rt J K Q i a b c k u v ls st h) : stp sc al as rt J' K' Q' i a b c k' u v ls st h := by
  cases i <;> simp only [stp] at H ⊢ <;> (repeat' split at H) <;> first
    | exact H.elim
    | exact hJ _ _ _ _ _ _ H
    | exact hk _ _ _ _ _ H
    | exact ⟨fun q => hJ _ _ _ _ _ _ (H.1 q), fun q => hk _ _ _ _ _ (H.2 q)⟩
    | exact ⟨fun q => hJ _ _ _ _ _ _ (H.1 q), fun j t q w => hJ _ _ _ _ _ _ (H.2 j t q w)⟩
    | exact ⟨H.1, hQ _ _ H.2⟩
    | exact ⟨H.1, hk _ _ _ _ _ H.2⟩
    | exact H.2.elim
    | exact ⟨H.1, H.2.1, hk _ _ _ _ _ H.2.2⟩
    | exact ⟨H.1, H.2.1, H.2.2.1, hk _ _ _ _ _ H.2.2.2⟩
    | exact ⟨H.1, H.2.1, H.2.2.1, H.2.2.2.1, hk _ _ _ _ _ H.2.2.2.2⟩
    | exact ⟨H.1, H.2.1, hK _ _ _ _ _ (fun r h' => hk _ _ _ _ _) H.2.2⟩
    | exact ⟨H.1, H.2.1, H.2.2.1, hK _ _ _ _ _ (fun r h' => hk _ _ _ _ _) H.2.2.2⟩
    | exact ⟨H.1, H.2.1, H.2.2.1, H.2.2.2.1, hK _ _ _ _ _ (fun r h' => hk _ _ _ _ _) H.2.2.2.2⟩
    | exact ⟨H.1, H.2.1, H.2.2.1, H.2.2.2.1, H.2.2.2.2.1, hK _ _ _ _ _ (fun r h' => hk _ _ _ _ _) H.2.2.2.2.2⟩
    | exact ⟨H.1, H.2.1, H.2.2.1, H.2.2.2.1, H.2.2.2.2.1, H.2.2.2.2.2.1, H.2.2.2.2.2.2.1, H.2.2.2.2.2.2.2.1, H.2.2.2.2.2.2.2.2.1, hk _ _ _ _ _ H.2.2.2.2.2.2.2.2.2⟩
