theorem B_mono {sc : SC} {al as : Nat} {rt : Option FieldType} {J J' : JT} {K K' : CT} {Q Q' : PT} {nxt : Nat} (hJ : ∀ b u v ls st h, J b u v ls st h → J' b u v ls st h) (hK : ∀ m a h p p', (∀ r h', p r h' → p' r h') → K m a h p → K' m a h p') (hQ : ∀ r h, Q r h → Q' r h) :
    ∀ (l : List MI) (u v : Nat) (ls st : List Value) (h : AHp), B sc al as rt J K Q nxt l u v ls st h → B sc al as rt J' K' Q' nxt l u v ls st h
  | [], u, v, ls, st, h, H => hJ _ _ _ _ _ _ H
  | x :: r, u, v, ls, st, h, H => stp_mono hJ hK hQ (B_mono hJ hK hQ r) x.1 x.2.1 x.2.2.1 x.2.2.2 u v ls st h H
theorem E_mono {sc : SC} {m b u v : Nat} {ls st : List Value} {h : AHp} {Q Q' : PT} (hQ : ∀ r h', Q r h' → Q' r h') (H : E sc m b u v ls st h Q) : E sc m b u v ls st h Q' := fun P hP => hP.1 m b u v ls st h Q Q' hQ (H P hP)
theorem E_in {sc : SC} {m b u v : Nat} {ls st : List Value} {h : AHp} {Q : PT} (H : BM sc (E sc) m b u v ls st h Q) : E sc m b u v ls st h Q := by
  intro P hP
  refine hP.2 m b u v ls st h Q (B_mono (fun b u v ls st h w => w P hP) (fun m a h p p' hp w => hP.1 _ _ _ _ _ _ _ p p' hp (w P hP)) (fun _ _ w => w) _ _ _ _ _ _ H)
theorem RUN_mono {sc : SC} {m : Nat} {as : List Value} {h : AHp} {Q Q' : PT} (H : RUN sc m as h Q) (hQ : ∀ r h', Q r h' → Q' r h') : RUN sc m as h Q' := E_mono hQ H
/-- a block, given as a list -/
theorem E_blk {sc : SC} {m b u v : Nat} {ls st : List Value} {h : AHp} {Q : PT} (l : List MI) (nxt : Nat) {al as : Nat} {rt : Option FieldType} {pc : Nat} (hb : blk m b = (pc, l, nxt)) (hal : mAl m = al) (has : mAs m = as) (hrt : mRet m = rt)
    (H : B sc al as rt (fun b' u' v' ls' st' h' => E sc m b' u' v' ls' st' h' Q) (RUN sc) Q nxt l u v ls st h) : E sc m b u v ls st h Q := by
  refine E_in ?_
  unfold BM
  rw [hb, hal, has, hrt]
  exact H
/-! the rows by which a block is run -/
section BR
variable {sc : SC} {al as : Nat} {rt : Option FieldType} {J : JT} {K : CT} {Q : PT} {nxt : Nat} {r : List MI} {a b c u v : Nat} {ls st : List Value} {h : AHp}
theorem B_nil : B sc al as rt J K Q nxt [] u v ls st h = J nxt u v ls st h := rfl
theorem B_iconst {n : Int} : B sc al as rt J K Q nxt ((.iconst n, a, b, c) :: r) u v ls st h = B sc al as rt J K Q nxt r u v ls (.int (kst a b) :: st) h := rfl
theorem B_bipush {n : Int} : B sc al as rt J K Q nxt ((.bipush n, a, b, c) :: r) u v ls st h = B sc al as rt J K Q nxt r u v ls (.int (kst a b) :: st) h := rfl
theorem B_sipush {n : Int} : B sc al as rt J K Q nxt ((.sipush n, a, b, c) :: r) u v ls st h = B sc al as rt J K Q nxt r u v ls (.int (kst a b) :: st) h := rfl
theorem B_ldc {n : Nat} : B sc al as rt J K Q nxt ((.ldc n, a, b, c) :: r) u v ls st h = B sc al as rt J K Q nxt r u v ls (.int (kst a b) :: st) h := rfl
theorem B_null : B sc al as rt J K Q nxt ((.aconst_null, a, b, c) :: r) u v ls st h = B sc al as rt J K Q nxt r u v ls (.null :: st) h := rfl
theorem B_iload_n {n : Fin 4} : B sc al as rt J K Q nxt ((.iload_n n, a, b, c) :: r) u v ls st h = (match (match ls[a]? with | some (.int x) => some (ls, .int x :: st) | _ => none : Option (List Value × List Value)) with | some q => B sc al as rt J K Q nxt r u v q.1 q.2 h | none => False) := rfl
theorem B_iload {n : Nat} : B sc al as rt J K Q nxt ((.iload n, a, b, c) :: r) u v ls st h = (match (match ls[a]? with | some (.int x) => some (ls, .int x :: st) | _ => none : Option (List Value × List Value)) with | some q => B sc al as rt J K Q nxt r u v q.1 q.2 h | none => False) := rfl
theorem B_aload_n {n : Fin 4} : B sc al as rt J K Q nxt ((.aload_n n, a, b, c) :: r) u v ls st h = (match (match ls[a]? with | some (.ref x) => some (ls, .ref x :: st) | some .null => some (ls, .null :: st) | some (.retAddr x) => some (ls, .retAddr x :: st) | _ => none : Option (List Value × List Value)) with | some q => B sc al as rt J K Q nxt r u v q.1 q.2 h | none => False) := rfl
theorem B_aload {n : Nat} : B sc al as rt J K Q nxt ((.aload n, a, b, c) :: r) u v ls st h = (match (match ls[a]? with | some (.ref x) => some (ls, .ref x :: st) | some .null => some (ls, .null :: st) | some (.retAddr x) => some (ls, .retAddr x :: st) | _ => none : Option (List Value × List Value)) with | some q => B sc al as rt J K Q nxt r u v q.1 q.2 h | none => False) := rfl
theorem B_istore_n {n : Fin 4} {x : Int32} : B sc al as rt J K Q nxt ((.istore_n n, a, b, c) :: r) u v ls (.int x :: st) h = B sc al as rt J K Q nxt r u v (ls.set a (.int x)) st h := rfl
theorem B_istore {n : Nat} {x : Int32} : B sc al as rt J K Q nxt ((.istore n, a, b, c) :: r) u v ls (.int x :: st) h = B sc al as rt J K Q nxt r u v (ls.set a (.int x)) st h := rfl
theorem B_astore_n {n : Fin 4} {x : Nat} : B sc al as rt J K Q nxt ((.astore_n n, a, b, c) :: r) u v ls (.ref x :: st) h = B sc al as rt J K Q nxt r u v (ls.set a (.ref x)) st h := rfl
theorem B_astore {n : Nat} {x : Nat} : B sc al as rt J K Q nxt ((.astore n, a, b, c) :: r) u v ls (.ref x :: st) h = B sc al as rt J K Q nxt r u v (ls.set a (.ref x)) st h := rfl
theorem B_astore_nN {n : Fin 4} : B sc al as rt J K Q nxt ((.astore_n n, a, b, c) :: r) u v ls (.null :: st) h = B sc al as rt J K Q nxt r u v (ls.set a .null) st h := rfl
theorem B_astoreN {n : Nat} : B sc al as rt J K Q nxt ((.astore n, a, b, c) :: r) u v ls (.null :: st) h = B sc al as rt J K Q nxt r u v (ls.set a .null) st h := rfl
theorem B_iinc {n : Nat} {i : Int} : B sc al as rt J K Q nxt ((.iinc n i, a, b, c) :: r) u v ls st h = (match (match ls[a]? with | some (.int x) => some (ls.set a (.int (x + nI b)), st) | _ => none : Option (List Value × List Value)) with | some q => B sc al as rt J K Q nxt r u v q.1 q.2 h | none => False) := rfl
theorem B_iadd {x y : Int32} : B sc al as rt J K Q nxt ((.iadd, a, b, c) :: r) u v ls (.int y :: .int x :: st) h = B sc al as rt J K Q nxt r u v ls (.int (x + y) :: st) h := rfl
theorem B_isub {x y : Int32} : B sc al as rt J K Q nxt ((.isub, a, b, c) :: r) u v ls (.int y :: .int x :: st) h = B sc al as rt J K Q nxt r u v ls (.int (x - y) :: st) h := rfl
theorem B_imul {x y : Int32} : B sc al as rt J K Q nxt ((.imul, a, b, c) :: r) u v ls (.int y :: .int x :: st) h = B sc al as rt J K Q nxt r u v ls (.int (x * y) :: st) h := rfl
theorem B_idiv {x y : Int32} : B sc al as rt J K Q nxt ((.idiv, a, b, c) :: r) u v ls (.int y :: .int x :: st) h = (match (if y = 0 then none else some (ls, .int (x / y) :: st) : Option (List Value × List Value)) with | some q => B sc al as rt J K Q nxt r u v q.1 q.2 h | none => False) := rfl
theorem B_irem {x y : Int32} : B sc al as rt J K Q nxt ((.irem, a, b, c) :: r) u v ls (.int y :: .int x :: st) h = (match (if y = 0 then none else some (ls, .int (x - x / y * y) :: st) : Option (List Value × List Value)) with | some q => B sc al as rt J K Q nxt r u v q.1 q.2 h | none => False) := rfl
theorem B_ineg {x : Int32} : B sc al as rt J K Q nxt ((.ineg, a, b, c) :: r) u v ls (.int x :: st) h = B sc al as rt J K Q nxt r u v ls (.int (- x) :: st) h := rfl
theorem B_iand {x y : Int32} : B sc al as rt J K Q nxt ((.iand, a, b, c) :: r) u v ls (.int y :: .int x :: st) h = B sc al as rt J K Q nxt r u v ls (.int (x &&& y) :: st) h := rfl
theorem B_ior {x y : Int32} : B sc al as rt J K Q nxt ((.ior, a, b, c) :: r) u v ls (.int y :: .int x :: st) h = B sc al as rt J K Q nxt r u v ls (.int (x ||| y) :: st) h := rfl
theorem B_ixor {x y : Int32} : B sc al as rt J K Q nxt ((.ixor, a, b, c) :: r) u v ls (.int y :: .int x :: st) h = B sc al as rt J K Q nxt r u v ls (.int (x ^^^ y) :: st) h := rfl
theorem B_ishl {x y : Int32} : B sc al as rt J K Q nxt ((.ishl, a, b, c) :: r) u v ls (.int y :: .int x :: st) h = B sc al as rt J K Q nxt r u v ls (.int (x <<< (y &&& 31)) :: st) h := rfl
theorem B_ishr {x y : Int32} : B sc al as rt J K Q nxt ((.ishr, a, b, c) :: r) u v ls (.int y :: .int x :: st) h = B sc al as rt J K Q nxt r u v ls (.int (x >>> (y &&& 31)) :: st) h := rfl
theorem B_i2c {x : Int32} : B sc al as rt J K Q nxt ((.i2c, a, b, c) :: r) u v ls (.int x :: st) h = B sc al as rt J K Q nxt r u v ls (.int (x.toUInt32 % 65536).toInt32 :: st) h := rfl
theorem B_dup {x : Value} : B sc al as rt J K Q nxt ((.dup, a, b, c) :: r) u v ls (x :: st) h = (match (if okv x = true then some (ls, x :: x :: st) else none : Option (List Value × List Value)) with | some q => B sc al as rt J K Q nxt r u v q.1 q.2 h | none => False) := rfl
theorem B_dup2 {x y : Value} : B sc al as rt J K Q nxt ((.dup2, a, b, c) :: r) u v ls (y :: x :: st) h = (match (if okv y = true ∧ okv x = true then some (ls, y :: x :: y :: x :: st) else none : Option (List Value × List Value)) with | some q => B sc al as rt J K Q nxt r u v q.1 q.2 h | none => False) := rfl
theorem B_pop {x : Value} : B sc al as rt J K Q nxt ((.pop, a, b, c) :: r) u v ls (x :: st) h = (match (if okv x = true then some (ls, st) else none : Option (List Value × List Value)) with | some q => B sc al as rt J K Q nxt r u v q.1 q.2 h | none => False) := rfl
theorem B_goto {o : Int} : B sc al as rt J K Q nxt ((.goto o, a, b, c) :: r) u v ls st h = J a u v ls st h := rfl
theorem B_if_eq {o : Int} {x : Int32} : B sc al as rt J K Q nxt ((.ifCond .eq o, a, b, c) :: r) u v ls (.int x :: st) h = ((x = 0 → J a u v ls st h) ∧ (¬ x = 0 → B sc al as rt J K Q nxt r u v ls st h)) := rfl
theorem B_if_ne {o : Int} {x : Int32} : B sc al as rt J K Q nxt ((.ifCond .ne o, a, b, c) :: r) u v ls (.int x :: st) h = ((¬ x = 0 → J a u v ls st h) ∧ (¬ ¬ x = 0 → B sc al as rt J K Q nxt r u v ls st h)) := rfl
theorem B_if_lt {o : Int} {x : Int32} : B sc al as rt J K Q nxt ((.ifCond .lt o, a, b, c) :: r) u v ls (.int x :: st) h = ((x < 0 → J a u v ls st h) ∧ (¬ x < 0 → B sc al as rt J K Q nxt r u v ls st h)) := rfl
theorem B_if_ge {o : Int} {x : Int32} : B sc al as rt J K Q nxt ((.ifCond .ge o, a, b, c) :: r) u v ls (.int x :: st) h = ((0 ≤ x → J a u v ls st h) ∧ (¬ 0 ≤ x → B sc al as rt J K Q nxt r u v ls st h)) := rfl
theorem B_if_gt {o : Int} {x : Int32} : B sc al as rt J K Q nxt ((.ifCond .gt o, a, b, c) :: r) u v ls (.int x :: st) h = ((0 < x → J a u v ls st h) ∧ (¬ 0 < x → B sc al as rt J K Q nxt r u v ls st h)) := rfl
theorem B_if_le {o : Int} {x : Int32} : B sc al as rt J K Q nxt ((.ifCond .le o, a, b, c) :: r) u v ls (.int x :: st) h = ((x ≤ 0 → J a u v ls st h) ∧ (¬ x ≤ 0 → B sc al as rt J K Q nxt r u v ls st h)) := rfl
theorem B_ic_eq {o : Int} {x y : Int32} : B sc al as rt J K Q nxt ((.if_icmp .eq o, a, b, c) :: r) u v ls (.int y :: .int x :: st) h = ((x = y → J a u v ls st h) ∧ (¬ x = y → B sc al as rt J K Q nxt r u v ls st h)) := rfl
theorem B_ic_ne {o : Int} {x y : Int32} : B sc al as rt J K Q nxt ((.if_icmp .ne o, a, b, c) :: r) u v ls (.int y :: .int x :: st) h = ((¬ x = y → J a u v ls st h) ∧ (¬ ¬ x = y → B sc al as rt J K Q nxt r u v ls st h)) := rfl
theorem B_ic_lt {o : Int} {x y : Int32} : B sc al as rt J K Q nxt ((.if_icmp .lt o, a, b, c) :: r) u v ls (.int y :: .int x :: st) h = ((x < y → J a u v ls st h) ∧ (¬ x < y → B sc al as rt J K Q nxt r u v ls st h)) := rfl
theorem B_ic_ge {o : Int} {x y : Int32} : B sc al as rt J K Q nxt ((.if_icmp .ge o, a, b, c) :: r) u v ls (.int y :: .int x :: st) h = ((y ≤ x → J a u v ls st h) ∧ (¬ y ≤ x → B sc al as rt J K Q nxt r u v ls st h)) := rfl
theorem B_ic_gt {o : Int} {x y : Int32} : B sc al as rt J K Q nxt ((.if_icmp .gt o, a, b, c) :: r) u v ls (.int y :: .int x :: st) h = ((y < x → J a u v ls st h) ∧ (¬ y < x → B sc al as rt J K Q nxt r u v ls st h)) := rfl
theorem B_ic_le {o : Int} {x y : Int32} : B sc al as rt J K Q nxt ((.if_icmp .le o, a, b, c) :: r) u v ls (.int y :: .int x :: st) h = ((x ≤ y → J a u v ls st h) ∧ (¬ x ≤ y → B sc al as rt J K Q nxt r u v ls st h)) := rfl
theorem B_ifnullN {o : Int} : B sc al as rt J K Q nxt ((.ifnull o, a, b, c) :: r) u v ls (.null :: st) h = J a u v ls st h := rfl
theorem B_ifnull {o : Int} {x : Nat} : B sc al as rt J K Q nxt ((.ifnull o, a, b, c) :: r) u v ls (.ref x :: st) h = B sc al as rt J K Q nxt r u v ls st h := rfl
theorem B_ifnonnullN {o : Int} : B sc al as rt J K Q nxt ((.ifnonnull o, a, b, c) :: r) u v ls (.null :: st) h = B sc al as rt J K Q nxt r u v ls st h := rfl
theorem B_ifnonnull {o : Int} {x : Nat} : B sc al as rt J K Q nxt ((.ifnonnull o, a, b, c) :: r) u v ls (.ref x :: st) h = J a u v ls st h := rfl
theorem B_switch {d lo hi : Int} {os : Array Int} {x : Int32} : B sc al as rt J K Q nxt ((.tableswitch d lo hi os, a, b, c) :: r) u v ls (.int x :: st) h = (((x.toInt < lo ∨ hi < x.toInt) → J b u v ls st h) ∧ ∀ (j t : Nat), (swt a)[j]? = some t → x.toInt = lo + j → J t u v ls st h) := rfl
theorem B_ireturn {x : Int32} : B sc al as rt J K Q nxt ((.ireturn, a, b, c) :: r) u v ls [.int x] h = (zok rt x ∧ Q (some (.int x)) h) := rfl
theorem B_areturn {x : Nat} : B sc al as rt J K Q nxt ((.areturn, a, b, c) :: r) u v ls [.ref x] h = (aok rt ∧ Q (some (.ref x)) h) := rfl
theorem B_areturnN : B sc al as rt J K Q nxt ((.areturn, a, b, c) :: r) u v ls [.null] h = (aok rt ∧ Q (some .null) h) := rfl
theorem B_return : B sc al as rt J K Q nxt ((.return_, a, b, c) :: r) u v ls [] h = (rt = none ∧ Q none h) := rfl
theorem B_getfield {n x : Nat} : B sc al as rt J K Q nxt ((.getfield n, a, b, c) :: r) u v ls (.ref x :: st) h = (match h.2 x with | .inr (.inr (ci, fs)) => ci = a ∧ (match fs[b]? with | some w => B sc al as rt J K Q nxt r u v ls (w :: st) h | none => False) | _ => False) := rfl
theorem B_putfield {n x : Nat} {w : Value} : B sc al as rt J K Q nxt ((.putfield n, a, b, c) :: r) u v ls (w :: .ref x :: st) h = (match h.2 x with | .inr (.inr (ci, fs)) => ci = a ∧ b < fs.length ∧ pok (cTy a b) w ∧ B sc al as rt J K Q nxt r u v ls st (hset h x (.inr (.inr (ci, fs.set b w)))) | _ => False) := rfl
theorem B_iaload {x : Nat} {j : Int32} : B sc al as rt J K Q nxt ((.iaload, a, b, c) :: r) u v ls (.int j :: .ref x :: st) h = (match h.2 x with | .inl (kd, n, f) => kd = 0 ∧ vp_in j n ∧ B sc al as rt J K Q nxt r u v ls (.int (f j.toNatClampNeg) :: st) h | _ => False) := rfl
theorem B_ialoadS {x : Nat} {j : Int32} : B sc al as rt J K Q nxt ((.iaload, a, b, c) :: r) u v ls (.int j :: .retAddr x :: st) h = (vp_in j sc.1 ∧ B sc al as rt J K Q nxt r u v ls (.int (sc.2 j.toNatClampNeg) :: st) h) := rfl
theorem B_caload {x : Nat} {j : Int32} : B sc al as rt J K Q nxt ((.caload, a, b, c) :: r) u v ls (.int j :: .ref x :: st) h = (match h.2 x with | .inl (kd, n, f) => kd = 1 ∧ vp_in j n ∧ B sc al as rt J K Q nxt r u v ls (.int (f j.toNatClampNeg) :: st) h | _ => False) := rfl
theorem B_iastore {x : Nat} {j w : Int32} : B sc al as rt J K Q nxt ((.iastore, a, b, c) :: r) u v ls (.int w :: .int j :: .ref x :: st) h = (match h.2 x with | .inl (kd, n, f) => kd = 0 ∧ vp_in j n ∧ B sc al as rt J K Q nxt r u v ls st (hset h x (.inl (kd, n, upd f j.toNatClampNeg w))) | _ => False) := rfl
theorem B_castore {x : Nat} {j w : Int32} : B sc al as rt J K Q nxt ((.castore, a, b, c) :: r) u v ls (.int w :: .int j :: .ref x :: st) h = (match h.2 x with | .inl (kd, n, f) => kd = 1 ∧ vp_in j n ∧ B sc al as rt J K Q nxt r u v ls st (hset h x (.inl (kd, n, upd f j.toNatClampNeg (vp_nar .char w)))) | _ => False) := rfl
theorem B_aaload {x : Nat} {j : Int32} : B sc al as rt J K Q nxt ((.aaload, a, b, c) :: r) u v ls (.int j :: .ref x :: st) h = (match h.2 x with | .inr (.inl (kd, n, f)) => (kd = 2 ∨ kd = 3 ∨ kd = 4) ∧ vp_in j n ∧ B sc al as rt J K Q nxt r u v ls (rfv (f j.toNatClampNeg) :: st) h | _ => False) := rfl
theorem B_aastore {x w : Nat} {j : Int32} : B sc al as rt J K Q nxt ((.aastore, a, b, c) :: r) u v ls (.ref w :: .int j :: .ref x :: st) h = (match h.2 x, h.2 w with | .inr (.inl (kd, n, f)), .inr (.inr (ci, _)) => (kd = 2 ∨ kd = 3 ∨ kd = 4) ∧ ci = kd ∧ vp_in j n ∧ B sc al as rt J K Q nxt r u v ls st (hset h x (.inr (.inl (kd, n, va_up f j.toNatClampNeg (some w))))) | _, _ => False) := rfl
theorem B_alen {x : Nat} : B sc al as rt J K Q nxt ((.arraylength, a, b, c) :: r) u v ls (.ref x :: st) h = (match h.2 x with | .inl (kd, n, _) => kd = 0 ∧ B sc al as rt J K Q nxt r u v ls (.int (nI n) :: st) h | _ => False) := rfl
theorem B_alenS {x : Nat} : B sc al as rt J K Q nxt ((.arraylength, a, b, c) :: r) u v ls (.retAddr x :: st) h = B sc al as rt J K Q nxt r u v ls (.int (nI sc.1) :: st) h := rfl
theorem B_new {n : Nat} : B sc al as rt J K Q nxt ((.new n, a, b, c) :: r) u v ls st h = (u + 1 ≤ al ∧ v + (dfl a).length ≤ as ∧ B sc al as rt J K Q nxt r (u + 1) (v + (dfl a).length) ls (.ref h.1 :: st) (hnew h (.inr (.inr (a, dfl a))))) := rfl
theorem B_newarray {t : ArrayType} {n : Int32} : B sc al as rt J K Q nxt ((.newarray t, a, b, c) :: r) u v ls (.int n :: st) h = (¬ n < 0 ∧ n.toNatClampNeg * 4 ≤ 536870912 ∧ u + 1 ≤ al ∧ v + n.toNatClampNeg ≤ as ∧ B sc al as rt J K Q nxt r (u + 1) (v + n.toNatClampNeg) ls (.ref h.1 :: st) (hnew h (.inl (a, n.toNatClampNeg, fun _ => 0)))) := rfl
theorem B_anewarray {i : Nat} {n : Int32} : B sc al as rt J K Q nxt ((.anewarray i, a, b, c) :: r) u v ls (.int n :: st) h = (¬ n < 0 ∧ n.toNatClampNeg * 4 ≤ 536870912 ∧ u + 1 ≤ al ∧ v + n.toNatClampNeg ≤ as ∧ B sc al as rt J K Q nxt r (u + 1) (v + n.toNatClampNeg) ls (.ref h.1 :: st) (hnew h (.inr (.inl (a, n.toNatClampNeg, fun _ => none))))) := rfl
theorem B_iv0 {i x : Nat} : B sc al as rt J K Q nxt ((.invokevirtual i, a, 0, c) :: r) u v ls (.ref x :: st) h = (([] : List Value).length = 0 ∧ st.length ≤ 8 ∧ (.ref x :: st : List Value).all okv = true ∧ (∃ fs, h.2 x = .inr (.inr (c, fs))) ∧ K a [.ref x] h (fun r' h' => B sc al as rt J K Q nxt r u v ls (r'.toList ++ st) h')) := rfl
theorem B_iv1 {i x : Nat} {w1 : Value} : B sc al as rt J K Q nxt ((.invokevirtual i, a, 1, c) :: r) u v ls (w1 :: .ref x :: st) h = ([w1].length = 1 ∧ st.length ≤ 8 ∧ (w1 :: .ref x :: st : List Value).all okv = true ∧ (∃ fs, h.2 x = .inr (.inr (c, fs))) ∧ K a [.ref x, w1] h (fun r' h' => B sc al as rt J K Q nxt r u v ls (r'.toList ++ st) h')) := rfl
theorem B_iv2 {i x : Nat} {w1 w2 : Value} : B sc al as rt J K Q nxt ((.invokevirtual i, a, 2, c) :: r) u v ls (w2 :: w1 :: .ref x :: st) h = ([w2, w1].length = 2 ∧ st.length ≤ 8 ∧ (w2 :: w1 :: .ref x :: st : List Value).all okv = true ∧ (∃ fs, h.2 x = .inr (.inr (c, fs))) ∧ K a [.ref x, w1, w2] h (fun r' h' => B sc al as rt J K Q nxt r u v ls (r'.toList ++ st) h')) := rfl
theorem B_iv3 {i x : Nat} {w1 w2 w3 : Value} : B sc al as rt J K Q nxt ((.invokevirtual i, a, 3, c) :: r) u v ls (w3 :: w2 :: w1 :: .ref x :: st) h = ([w3, w2, w1].length = 3 ∧ st.length ≤ 8 ∧ (w3 :: w2 :: w1 :: .ref x :: st : List Value).all okv = true ∧ (∃ fs, h.2 x = .inr (.inr (c, fs))) ∧ K a [.ref x, w1, w2, w3] h (fun r' h' => B sc al as rt J K Q nxt r u v ls (r'.toList ++ st) h')) := rfl
theorem B_iv4 {i x : Nat} {w1 w2 w3 w4 : Value} : B sc al as rt J K Q nxt ((.invokevirtual i, a, 4, c) :: r) u v ls (w4 :: w3 :: w2 :: w1 :: .ref x :: st) h = ([w4, w3, w2, w1].length = 4 ∧ st.length ≤ 8 ∧ (w4 :: w3 :: w2 :: w1 :: .ref x :: st : List Value).all okv = true ∧ (∃ fs, h.2 x = .inr (.inr (c, fs))) ∧ K a [.ref x, w1, w2, w3, w4] h (fun r' h' => B sc al as rt J K Q nxt r u v ls (r'.toList ++ st) h')) := rfl
theorem B_iv6 {i x : Nat} {w1 w2 w3 w4 w5 w6 : Value} : B sc al as rt J K Q nxt ((.invokevirtual i, a, 6, c) :: r) u v ls (w6 :: w5 :: w4 :: w3 :: w2 :: w1 :: .ref x :: st) h = ([w6, w5, w4, w3, w2, w1].length = 6 ∧ st.length ≤ 8 ∧ (w6 :: w5 :: w4 :: w3 :: w2 :: w1 :: .ref x :: st : List Value).all okv = true ∧ (∃ fs, h.2 x = .inr (.inr (c, fs))) ∧ K a [.ref x, w1, w2, w3, w4, w5, w6] h (fun r' h' => B sc al as rt J K Q nxt r u v ls (r'.toList ++ st) h')) := rfl
theorem B_obj {i x : Nat} : B sc al as rt J K Q nxt ((.invokespecial i, 9999, b, c) :: r) u v ls (.ref x :: st) h = (st.length ≤ 8 ∧ st.all okv = true ∧ B sc al as rt J K Q nxt r u v ls st h) := by simp only [B, stp]
theorem B_is0 {i x : Nat} (ha : a ≠ 9999) : B sc al as rt J K Q nxt ((.invokespecial i, a, 0, c) :: r) u v ls (.ref x :: st) h = (([] : List Value).length = 0 ∧ st.length ≤ 8 ∧ (.ref x :: st : List Value).all okv = true ∧ u + mAl a ≤ al ∧ v + mAs a ≤ as ∧ K a [.ref x] h (fun r' h' => B sc al as rt J K Q nxt r (u + mAl a) (v + mAs a) ls (r'.toList ++ st) h')) := by
  simp only [B, stp]
  rfl
theorem B_is1 {i x : Nat} {w1 : Value} (ha : a ≠ 9999) : B sc al as rt J K Q nxt ((.invokespecial i, a, 1, c) :: r) u v ls (w1 :: .ref x :: st) h = ([w1].length = 1 ∧ st.length ≤ 8 ∧ (w1 :: .ref x :: st : List Value).all okv = true ∧ u + mAl a ≤ al ∧ v + mAs a ≤ as ∧ K a [.ref x, w1] h (fun r' h' => B sc al as rt J K Q nxt r (u + mAl a) (v + mAs a) ls (r'.toList ++ st) h')) := by
  simp only [B, stp]
  rfl
theorem B_st1 {i : Nat} {w1 : Value} (ha : a ≠ 9004) : B sc al as rt J K Q nxt ((.invokestatic i, a, 1, c) :: r) u v ls (w1 :: st) h = ([w1].length = 1 ∧ st.length ≤ 8 ∧ (w1 :: st : List Value).all okv = true ∧ K a [w1] h (fun r' h' => B sc al as rt J K Q nxt r u v ls (r'.toList ++ st) h')) := by
  simp only [B, stp]
  rfl
theorem B_st2 {i : Nat} {w1 w2 : Value} (ha : a ≠ 9004) : B sc al as rt J K Q nxt ((.invokestatic i, a, 2, c) :: r) u v ls (w2 :: w1 :: st) h = ([w2, w1].length = 2 ∧ st.length ≤ 8 ∧ (w2 :: w1 :: st : List Value).all okv = true ∧ K a [w1, w2] h (fun r' h' => B sc al as rt J K Q nxt r u v ls (r'.toList ++ st) h')) := by
  simp only [B, stp]
  rfl
theorem B_st3 {i : Nat} {w1 w2 w3 : Value} (ha : a ≠ 9004) : B sc al as rt J K Q nxt ((.invokestatic i, a, 3, c) :: r) u v ls (w3 :: w2 :: w1 :: st) h = ([w3, w2, w1].length = 3 ∧ st.length ≤ 8 ∧ (w3 :: w2 :: w1 :: st : List Value).all okv = true ∧ K a [w1, w2, w3] h (fun r' h' => B sc al as rt J K Q nxt r u v ls (r'.toList ++ st) h')) := by
  simp only [B, stp]
  rfl
theorem B_copy {i x y : Nat} {sp dp n : Int32} : B sc al as rt J K Q nxt ((.invokestatic i, 9004, b, c) :: r) u v ls (.int n :: .int dp :: .ref y :: .int sp :: .ref x :: st) h = (match h.2 x, h.2 y with | .inl (kx, nx, f), .inl (ky, ny, g) => kx = 0 ∧ ky = 0 ∧ st.length ≤ 8 ∧ st.all okv = true ∧ ¬ sp < 0 ∧ ¬ dp < 0 ∧ ¬ n < 0 ∧ sp.toNatClampNeg + n.toNatClampNeg ≤ nx ∧ dp.toNatClampNeg + n.toNatClampNeg ≤ ny ∧ B sc al as rt J K Q nxt r u v ls st (hset h y (.inl (ky, ny, va_cpy f g sp.toNatClampNeg dp.toNatClampNeg n.toNatClampNeg))) | _, _ => False) := by
  simp only [B, stp]
  rfl
end BR
