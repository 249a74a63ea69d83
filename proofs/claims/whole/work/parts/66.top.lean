/-! the whole heap: 0 HopHomes, memories at mb 0 .. mb 6 (now, tried, snapshot, four of the history), 406 History, 407 its array, the trace, the model -/
def mb (k : Nat) : Nat := if k < 3 then 1 + 135 * k else 3 + 135 * k
def sts (pi : Nat → Nat) (i : Nat) : Option Nat := if i < 4 then some (mb (3 + pi i)) else none
def uN (NN : Nat → Nat → Nat) (k : Nat) (N : Nat → Nat) : Nat → Nat → Nat := fun j => if j = k then N else NN j
def whf (NN : Nat → Nat → Nat) (RR : Nat → Nat) (hs sz : Nat) (pi : Nat → Nat) (h : AHp) (q : Nat) : ACell :=
  if q = 0 then .inr (.inr (6, [.ref (mb 0), .ref (mb 1), .ref (mb 2), .ref 406, .ref 948, .int (nI hs)]))
  else if q < 406 then cel (1 + 135 * ((q - 1) / 135)) (NN ((q - 1) / 135)) (RR ((q - 1) / 135)) ((q - 1) % 135)
  else if q = 406 then .inr (.inr (0, [.ref 407, .int (nI sz)]))
  else if q = 407 then .inr (.inl (2, 4, sts pi))
  else if q < 948 then cel (408 + 135 * ((q - 408) / 135)) (NN (3 + (q - 408) / 135)) (RR (3 + (q - 408) / 135)) ((q - 408) % 135)
  else h.2 q
def WH (NN : Nat → Nat → Nat) (RR : Nat → Nat) (hs sz : Nat) (pi : Nat → Nat) (h : AHp) : AHp := (h.1, whf NN RR hs sz pi h)
def CL (g : AHp) (NN : Nat → Nat → Nat) (RR : Nat → Nat) (hs sz : Nat) (pi Tx : Nat → Nat) (L : Nat) (K R T : Nat → Nat) (S : Nat) : AHp := ptr (WH NN RR hs sz pi g) Tx L K R T S
theorem mb_lt {k : Nat} (hk : k < 7) : 0 < mb k ∧ mb k + 135 ≤ 948 ∧ (mb k + 135 ≤ 406 ∨ 408 ≤ mb k) := by
  unfold mb
  split <;> omega
theorem mb_dis {j k : Nat} (h : j ≠ k) : DIS (mb j) (mb k) := by
  unfold DIS mb
  split <;> split <;> omega
theorem mb_0 : mb 0 = 1 := rfl
section WH
variable {NN : Nat → Nat → Nat} {RR pi Tx K R T N N' : Nat → Nat} {hs sz L S k r r' : Nat} {g h : AHp}
theorem wh_at {o : Nat} (hk : k < 7) (ho : o < 135) : whf NN RR hs sz pi g (mb k + o) = cel (mb k) (NN k) (RR k) o := by
  unfold whf
  by_cases c : k < 3
  · have e : mb k = 1 + 135 * k := by unfold mb; rw [if_pos c]
    rw [e, if_neg (by omega), if_pos (by omega), show (1 + 135 * k + o - 1) / 135 = k by omega, show (1 + 135 * k + o - 1) % 135 = o by omega]
  · have e : mb k = 3 + 135 * k := by unfold mb; rw [if_neg c]
    rw [e, if_neg (by omega), if_neg (by omega), if_neg (by omega), if_neg (by omega), if_pos (by omega), show 3 + (3 + 135 * k + o - 408) / 135 = k by omega, show (3 + 135 * k + o - 408) % 135 = o by omega, show 408 + 135 * ((3 + 135 * k + o - 408) / 135) = 3 + 135 * k by omega]
theorem cl_atm (hk : k < 7) : ATM (CL g NN RR hs sz pi Tx L K R T S) (mb k) (NN k) (RR k) := fun o ho => by
  have := mb_lt hk
  show (if mb k + o < 948 then whf NN RR hs sz pi g (mb k + o) else _) = _
  rw [if_pos (by omega), wh_at hk ho]
theorem cl_put (hk : k < 7) : put (CL g NN RR hs sz pi Tx L K R T S) (mb k) N r = CL g (uN NN k N) (up RR k r) hs sz pi Tx L K R T S := by
  have hm := mb_lt hk
  refine Prod.ext rfl (funext (fun q => ?_))
  show (if mb k ≤ q ∧ q < mb k + 135 then cel (mb k) N r (q - mb k) else if q < 948 then whf NN RR hs sz pi g q else if q < 953 then ptf Tx L K R T S (q - 948) else whf NN RR hs sz pi g q) = (if q < 948 then whf (uN NN k N) (up RR k r) hs sz pi g q else if q < 953 then ptf Tx L K R T S (q - 948) else whf (uN NN k N) (up RR k r) hs sz pi g q)
  by_cases c : mb k ≤ q ∧ q < mb k + 135
  · rw [if_pos c, if_pos (by omega)]
    have := wh_at (NN := uN NN k N) (RR := up RR k r) (hs := hs) (sz := sz) (pi := pi) (g := g) (o := q - mb k) hk (by omega)
    rw [show mb k + (q - mb k) = q by omega] at this
    rw [this]
    unfold uN
    rw [if_pos rfl, up_at]
  · rw [if_neg c]
    have e : whf NN RR hs sz pi g q = whf (uN NN k N) (up RR k r) hs sz pi g q := by
      unfold whf
      by_cases c0 : q = 0
      · rw [if_pos c0, if_pos c0]
      rw [if_neg c0, if_neg c0]
      by_cases c1 : q < 406
      · have hne : (q - 1) / 135 ≠ k := fun e => c (by
          have e2 : mb k = 1 + 135 * k := by unfold mb; rw [if_pos (by omega)]
          rw [e2]; omega)
        unfold uN
        rw [if_pos c1, if_pos c1, if_neg hne, up_ne hne]
      rw [if_neg c1, if_neg c1]
      by_cases c2 : q = 406
      · rw [if_pos c2, if_pos c2]
      rw [if_neg c2, if_neg c2]
      by_cases c3 : q = 407
      · rw [if_pos c3, if_pos c3]
      rw [if_neg c3, if_neg c3]
      by_cases c4 : q < 948
      · have hne : 3 + (q - 408) / 135 ≠ k := fun e => c (by
          have e2 : mb k = 3 + 135 * k := by unfold mb; rw [if_neg (by omega)]
          rw [e2]; omega)
        unfold uN
        rw [if_pos c4, if_pos c4, if_neg hne, up_ne hne]
      rw [if_neg c4, if_neg c4]
    rw [e]
theorem uN_id : uN NN k (NN k) = NN := by
  funext j
  unfold uN
  by_cases e : j = k
  · rw [if_pos e, e]
  · rw [if_neg e]
theorem uN_at : uN NN k N k = N := if_pos rfl
theorem uN_ne {j : Nat} (h : j ≠ k) : uN NN k N j = NN j := if_neg h
theorem cl_id (hk : k < 7) : put (CL g NN RR hs sz pi Tx L K R T S) (mb k) (NN k) (RR k) = CL g NN RR hs sz pi Tx L K R T S := by
  rw [cl_put hk, uN_id, up_id rfl]
theorem put_put : put (put h k N r) k N' r' = put h k N' r' := by
  refine Prod.ext rfl (funext (fun q => ?_))
  show (if k ≤ q ∧ q < k + 135 then cel k N' r' (q - k) else if k ≤ q ∧ q < k + 135 then cel k N r (q - k) else h.2 q) = (if k ≤ q ∧ q < k + 135 then cel k N' r' (q - k) else h.2 q)
  split <;> rfl
theorem put_comm {b b2 : Nat} (d : DIS b b2) : put (put h b N r) b2 N' r' = put (put h b2 N' r') b N r := by
  unfold DIS at d
  refine Prod.ext rfl (funext (fun q => ?_))
  show (if b2 ≤ q ∧ q < b2 + 135 then cel b2 N' r' (q - b2) else if b ≤ q ∧ q < b + 135 then cel b N r (q - b) else h.2 q) = (if b ≤ q ∧ q < b + 135 then cel b N r (q - b) else if b2 ≤ q ∧ q < b2 + 135 then cel b2 N' r' (q - b2) else h.2 q)
  by_cases c : b2 ≤ q ∧ q < b2 + 135
  · rw [if_pos c, if_neg (by omega), if_pos c]
  · rw [if_neg c]
    split
    · rfl
    · rfl
/-- the world as the class sees it: N is now -/
abbrev CW (g : AHp) (NN : Nat → Nat → Nat) (RR : Nat → Nat) (hs sz : Nat) (pi Tx : Nat → Nat) (L : Nat) (K R T : Nat → Nat) (S : Nat) (N : Nat → Nat) (r : Nat) : AHp := put (CL g NN RR hs sz pi Tx L K R T S) (mb 0) N r
theorem cw_put (hk : k < 7) (h0 : k ≠ 0) : put (CW g NN RR hs sz pi Tx L K R T S N r) (mb k) N' r' = CW g (uN NN k N') (up RR k r') hs sz pi Tx L K R T S N r := by
  unfold CW
  rw [put_comm (mb_dis (Ne.symm h0)), cl_put hk]
theorem cw_id (hk : k < 7) (h0 : k ≠ 0) : CW g NN RR hs sz pi Tx L K R T S N r = put (CW g NN RR hs sz pi Tx L K R T S N r) (mb k) (NN k) (RR k) := by
  rw [cw_put hk h0, uN_id, up_id rfl]
theorem cw_atm0 : ATM (CW g NN RR hs sz pi Tx L K R T S N r) (mb 0) N r := fun o ho => put_at ho
theorem cw_0 : (CW g NN RR hs sz pi Tx L K R T S N r).2 0 = .inr (.inr (6, [.ref (mb 0), .ref (mb 1), .ref (mb 2), .ref 406, .ref 948, .int (nI hs)])) := by
  unfold CW
  rw [put_out (Or.inl (mb_lt (by omega)).1)]
  rfl
theorem cw_406 : (CW g NN RR hs sz pi Tx L K R T S N r).2 406 = .inr (.inr (0, [.ref 407, .int (nI sz)])) := by
  unfold CW
  rw [put_out (by rw [mb_0]; omega)]
  rfl
theorem cw_407 : (CW g NN RR hs sz pi Tx L K R T S N r).2 407 = .inr (.inl (2, 4, sts pi)) := by
  unfold CW
  rw [put_out (by rw [mb_0]; omega)]
  rfl
theorem cw_atr : ATR (CW g NN RR hs sz pi Tx L K R T S N r) Tx L K R T S := fun o ho => by
  unfold CW
  rw [put_out (by rw [mb_0]; omega)]
  show (if 948 + o < 948 then _ else if 948 + o < 953 then ptf Tx L K R T S (948 + o - 948) else _) = _
  rw [if_neg (by omega), if_pos (by omega), show 948 + o - 948 = o by omega]
theorem ptr_put {b : Nat} (hb : b + 135 ≤ 948) : put (ptr h Tx L K R T S) b N r = ptr (put h b N r) Tx L K R T S := by
  refine Prod.ext rfl (funext (fun q => ?_))
  show (if b ≤ q ∧ q < b + 135 then cel b N r (q - b) else if q < 948 then h.2 q else if q < 953 then ptf Tx L K R T S (q - 948) else h.2 q) = (if q < 948 then (if b ≤ q ∧ q < b + 135 then cel b N r (q - b) else h.2 q) else if q < 953 then ptf Tx L K R T S (q - 948) else (if b ≤ q ∧ q < b + 135 then cel b N r (q - b) else h.2 q))
  by_cases c : b ≤ q ∧ q < b + 135
  · rw [if_pos c, if_pos (by omega), if_pos c]
  · rw [if_neg c, if_neg c]
theorem cw_ptr : CW g NN RR hs sz pi Tx L K R T S N r = ptr (put (WH NN RR hs sz pi g) (mb 0) N r) Tx L K R T S := by
  unfold CW CL
  rw [ptr_put (mb_lt (by omega)).2.1]
theorem cw_s0 {v : Nat} : hset (CW g NN RR hs sz pi Tx L K R T S N r) 0 (.inr (.inr (6, [.ref (mb 0), .ref (mb 1), .ref (mb 2), .ref 406, .ref 948, .int (nI v)]))) = CW g NN RR v sz pi Tx L K R T S N r := by
  refine Prod.ext rfl (funext (fun q => ?_))
  show (if q = 0 then _ else if mb 0 ≤ q ∧ q < mb 0 + 135 then cel (mb 0) N r (q - mb 0) else if q < 948 then whf NN RR hs sz pi g q else if q < 953 then ptf Tx L K R T S (q - 948) else whf NN RR hs sz pi g q) = (if mb 0 ≤ q ∧ q < mb 0 + 135 then cel (mb 0) N r (q - mb 0) else if q < 948 then whf NN RR v sz pi g q else if q < 953 then ptf Tx L K R T S (q - 948) else whf NN RR v sz pi g q)
  rw [mb_0]
  by_cases c : q = 0
  · subst c
    rw [if_pos rfl, if_neg (by omega), if_pos (by omega)]
    rfl
  · rw [if_neg c]
    have e : whf NN RR hs sz pi g q = whf NN RR v sz pi g q := by unfold whf; rw [if_neg c, if_neg c]
    rw [e]
theorem cw_s406 {v : Nat} : hset (CW g NN RR hs sz pi Tx L K R T S N r) 406 (.inr (.inr (0, [.ref 407, .int (nI v)]))) = CW g NN RR hs v pi Tx L K R T S N r := by
  refine Prod.ext rfl (funext (fun q => ?_))
  show (if q = 406 then _ else if mb 0 ≤ q ∧ q < mb 0 + 135 then cel (mb 0) N r (q - mb 0) else if q < 948 then whf NN RR hs sz pi g q else if q < 953 then ptf Tx L K R T S (q - 948) else whf NN RR hs sz pi g q) = (if mb 0 ≤ q ∧ q < mb 0 + 135 then cel (mb 0) N r (q - mb 0) else if q < 948 then whf NN RR hs v pi g q else if q < 953 then ptf Tx L K R T S (q - 948) else whf NN RR hs v pi g q)
  rw [mb_0]
  by_cases c : q = 406
  · subst c
    rw [if_pos rfl, if_neg (by omega), if_pos (by omega)]
    rfl
  · rw [if_neg c]
    have e : whf NN RR hs sz pi g q = whf NN RR hs v pi g q := by
      unfold whf
      by_cases c0 : q = 0
      · rw [if_pos c0, if_pos c0]
      rw [if_neg c0, if_neg c0]
      by_cases c1 : q < 406
      · rw [if_pos c1, if_pos c1]
      rw [if_neg c1, if_neg c1, if_neg c, if_neg c]
    rw [e]
theorem cw_s407 {pi' : Nat → Nat} {f : Nat → Option Nat} (hf : f = sts pi') : hset (CW g NN RR hs sz pi Tx L K R T S N r) 407 (.inr (.inl (2, 4, f))) = CW g NN RR hs sz pi' Tx L K R T S N r := by
  subst hf
  refine Prod.ext rfl (funext (fun q => ?_))
  show (if q = 407 then _ else if mb 0 ≤ q ∧ q < mb 0 + 135 then cel (mb 0) N r (q - mb 0) else if q < 948 then whf NN RR hs sz pi g q else if q < 953 then ptf Tx L K R T S (q - 948) else whf NN RR hs sz pi g q) = (if mb 0 ≤ q ∧ q < mb 0 + 135 then cel (mb 0) N r (q - mb 0) else if q < 948 then whf NN RR hs sz pi' g q else if q < 953 then ptf Tx L K R T S (q - 948) else whf NN RR hs sz pi' g q)
  rw [mb_0]
  by_cases c : q = 407
  · subst c
    rw [if_pos rfl, if_neg (by omega), if_pos (by omega)]
    rfl
  · rw [if_neg c]
    have e : whf NN RR hs sz pi g q = whf NN RR hs sz pi' g q := by
      unfold whf
      by_cases c0 : q = 0
      · rw [if_pos c0, if_pos c0]
      rw [if_neg c0, if_neg c0]
      by_cases c1 : q < 406
      · rw [if_pos c1, if_pos c1]
      rw [if_neg c1, if_neg c1]
      by_cases c2 : q = 406
      · rw [if_pos c2, if_pos c2]
      rw [if_neg c2, if_neg c2, if_neg c, if_neg c]
    rw [e]
theorem cw_ext (e : SAM N N') : CW g NN RR hs sz pi Tx L K R T S N r = CW g NN RR hs sz pi Tx L K R T S N' r := put_ext e
/-- the model beside it -/
theorem cw_pm {M Hi Sl Sp Tx2 Z : Nat → Nat} : CW (pm g M Hi Sl Sp Tx2 Z) NN RR hs sz pi Tx L K R T S N r = pm (CW g NN RR hs sz pi Tx L K R T S N r) M Hi Sl Sp Tx2 Z := by
  refine Prod.ext rfl (funext (fun q => ?_))
  show (if mb 0 ≤ q ∧ q < mb 0 + 135 then cel (mb 0) N r (q - mb 0) else if q < 948 then whf NN RR hs sz pi (pm g M Hi Sl Sp Tx2 Z) q else if q < 953 then ptf Tx L K R T S (q - 948) else whf NN RR hs sz pi (pm g M Hi Sl Sp Tx2 Z) q) = (if q < 953 then (if mb 0 ≤ q ∧ q < mb 0 + 135 then cel (mb 0) N r (q - mb 0) else if q < 948 then whf NN RR hs sz pi g q else if q < 953 then ptf Tx L K R T S (q - 948) else whf NN RR hs sz pi g q) else if q < 959 then pmf M Hi Sl Sp Tx2 Z (q - 953) else (if mb 0 ≤ q ∧ q < mb 0 + 135 then cel (mb 0) N r (q - mb 0) else if q < 948 then whf NN RR hs sz pi g q else if q < 953 then ptf Tx L K R T S (q - 948) else whf NN RR hs sz pi g q))
  rw [mb_0]
  by_cases c : q < 953
  · rw [if_pos c]
    split
    · rfl
    · split
      · rename_i h8
        unfold whf
        by_cases c0 : q = 0
        · rw [if_pos c0, if_pos c0]
        rw [if_neg c0, if_neg c0]
        by_cases c1 : q < 406
        · rw [if_pos c1, if_pos c1]
        rw [if_neg c1, if_neg c1]
        by_cases c2 : q = 406
        · rw [if_pos c2, if_pos c2]
        rw [if_neg c2, if_neg c2]
        by_cases c3 : q = 407
        · rw [if_pos c3, if_pos c3]
        rw [if_neg c3, if_neg c3, if_pos h8, if_pos h8]
      · rfl
  · have w1 : ∀ G : AHp, whf NN RR hs sz pi G q = G.2 q := fun G => by
      unfold whf
      rw [if_neg (by omega), if_neg (by omega), if_neg (by omega), if_neg (by omega), if_neg (by omega)]
    have h1 : ¬ (1 ≤ q ∧ q < 1 + 135) := by omega
    have h2 : ¬ q < 948 := by omega
    simp only [w1, if_neg h1, if_neg h2, if_neg c]
    show (if q < 953 then g.2 q else if q < 959 then pmf M Hi Sl Sp Tx2 Z (q - 953) else g.2 q) = _
    rw [if_neg c]
end WH
