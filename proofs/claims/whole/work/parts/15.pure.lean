/-! numbers and rows: all that the objects hold is a row of natural numbers -/
def ja (n : Nat) (f : Nat → Nat) : Nat → Int32 := fun i => if i < n then nI (f i) else 0
def up (f : Nat → Nat) (k v : Nat) : Nat → Nat := fun i => if i = k then v else f i
theorem up_at {f : Nat → Nat} {k v : Nat} : up f k v k = v := by simp [up]
theorem up_ne {f : Nat → Nat} {k v j : Nat} (h : j ≠ k) : up f k v j = f j := by simp [up, h]
theorem ja_at {n i : Nat} {f : Nat → Nat} (h : i < n) : ja n f i = nI (f i) := by simp [ja, h]
theorem ja_up {n i v : Nat} {f : Nat → Nat} (h : i < n) : upd (ja n f) i (nI v) = ja n (up f i v) := by
  funext j
  by_cases hj : j = i
  · subst hj
    simp [upd, ja, up, h]
  · simp [upd, ja, up, hj]
theorem kst_0 {a : Nat} : kst a 0 = nI a := rfl
theorem kst_1 {a : Nat} : kst a 1 = - nI a := rfl
theorem vi_t {n N : Nat} (h : n < N) (hN : N < 2147483648) : vp_in (nI n) N = True := eq_true (vp_in_nI h hN)
theorem nz_eq {a : Nat} (h : a < 2147483648) : (nI a = 0) = (a = 0) := by
  rw [show (0 : Int32) = nI 0 from rfl, nI_eq h (by omega)]
theorem nI_lt0 {a : Nat} (h : a < 2147483648) : (nI a < 0) = False := eq_false (nI_pos h)
theorem nI_le0 {a : Nat} (h : a < 2147483648) : (nI a ≤ 0) = (a = 0) := by
  rw [show (0 : Int32) = nI 0 from rfl, nI_leI h (by omega)]
  exact propext ⟨fun h => by omega, fun h => by omega⟩
theorem nI_0lt {a : Nat} (h : a < 2147483648) : (0 < nI a) = (0 < a) := by
  rw [show (0 : Int32) = nI 0 from rfl, nI_ltI (by omega) h]
theorem nI_0le {a : Nat} (h : a < 2147483648) : (0 ≤ nI a) = True := eq_true (nI_pos' h)
theorem nI_subL {a b : Nat} (h : b ≤ a) : nI a - nI b = nI (a - b) := pk_sub h
theorem pk_divD {a d : Nat} (ha : a < 2147483648) (h0 : 0 < d) (hd : d < 2147483648) : nI a / nI d = nI (a / d) := pk_div ha h0 hd
theorem pok_i {x : Int32} : pok .int (.int x) = True := rfl
theorem pok_z0 : pok .boolean (.int (nI 0)) = True := eq_true (Or.inl rfl)
theorem pok_z1 : pok .boolean (.int (nI 1)) = True := eq_true (Or.inr rfl)
theorem pok_o {n : String} {x : Nat} : pok (.object n) (.ref x) = True := rfl
theorem pok_a {t : FieldType} {x : Nat} : pok (.array t) (.ref x) = True := rfl
theorem c0_0 : cTy 0 0 = (.array (.object "HopHomes$Memory")) := rfl
theorem c0_1 : cTy 0 1 = .int := rfl
theorem c1_0 : cTy 1 0 = (.array .int) := rfl
theorem c1_1 : cTy 1 1 = .int := rfl
theorem c1_2 : cTy 1 2 = .int := rfl
theorem c2_0 : cTy 2 0 = (.array .int) := rfl
theorem c2_1 : cTy 2 1 = (.array .int) := rfl
theorem c2_2 : cTy 2 2 = (.array (.object "HopHomes$Page")) := rfl
theorem c2_3 : cTy 2 3 = (.array (.object "HopHomes$Runner")) := rfl
theorem c2_4 : cTy 2 4 = (.object "HopHomes$Log") := rfl
theorem c2_5 : cTy 2 5 = .int := rfl
theorem c2_6 : cTy 2 6 = .int := rfl
theorem c2_7 : cTy 2 7 = .int := rfl
theorem c2_8 : cTy 2 8 = .int := rfl
theorem c2_9 : cTy 2 9 = .int := rfl
theorem c2_10 : cTy 2 10 = .int := rfl
theorem c3_0 : cTy 3 0 = .int := rfl
theorem c3_1 : cTy 3 1 = (.array .int) := rfl
theorem c3_2 : cTy 3 2 = (.array .int) := rfl
theorem c3_3 : cTy 3 3 = .int := rfl
theorem c3_4 : cTy 3 4 = .int := rfl
theorem c3_5 : cTy 3 5 = .int := rfl
theorem c3_6 : cTy 3 6 = .int := rfl
theorem c3_7 : cTy 3 7 = .int := rfl
theorem c3_8 : cTy 3 8 = .int := rfl
theorem c3_9 : cTy 3 9 = .int := rfl
theorem c3_10 : cTy 3 10 = .int := rfl
theorem c3_11 : cTy 3 11 = .int := rfl
theorem c3_12 : cTy 3 12 = .int := rfl
theorem c4_0 : cTy 4 0 = .int := rfl
theorem c4_1 : cTy 4 1 = .int := rfl
theorem c4_2 : cTy 4 2 = .int := rfl
theorem c4_3 : cTy 4 3 = .int := rfl
theorem c4_4 : cTy 4 4 = .int := rfl
theorem c5_0 : cTy 5 0 = (.array .char) := rfl
theorem c5_1 : cTy 5 1 = .int := rfl
theorem c5_2 : cTy 5 2 = (.array .char) := rfl
theorem c5_3 : cTy 5 3 = (.array .int) := rfl
theorem c5_4 : cTy 5 4 = (.array .int) := rfl
theorem c5_5 : cTy 5 5 = .int := rfl
theorem c6_0 : cTy 6 0 = (.object "HopHomes$Memory") := rfl
theorem c6_1 : cTy 6 1 = (.object "HopHomes$Memory") := rfl
theorem c6_2 : cTy 6 2 = (.object "HopHomes$Memory") := rfl
theorem c6_3 : cTy 6 3 = (.object "HopHomes$History") := rfl
theorem c6_4 : cTy 6 4 = (.object "HopHomes$Trace") := rfl
theorem c6_5 : cTy 6 5 = .boolean := rfl
theorem c7_0 : cTy 7 0 = (.array .int) := rfl
theorem c7_1 : cTy 7 1 = (.array .int) := rfl
theorem c7_2 : cTy 7 2 = .int := rfl
theorem c7_3 : cTy 7 3 = (.array .int) := rfl
theorem c7_4 : cTy 7 4 = .boolean := rfl
theorem c7_5 : cTy 7 5 = (.array .int) := rfl
theorem c7_6 : cTy 7 6 = .int := rfl
theorem c7_7 : cTy 7 7 = (.array .char) := rfl
theorem c7_8 : cTy 7 8 = .int := rfl
theorem c7_9 : cTy 7 9 = .int := rfl
theorem c7_10 : cTy 7 10 = .int := rfl
theorem c7_11 : cTy 7 11 = .int := rfl
theorem zok_int {x : Int32} : zok (some .int) x = True := rfl
theorem zok_b0 : zok (some .boolean) (nI 0) = True := eq_true (Or.inl rfl)
theorem zok_b1 : zok (some .boolean) (nI 1) = True := eq_true (Or.inr rfl)
theorem aok_obj {n : String} : aok (some (.object n)) = True := rfl
theorem rfv_s {a : Nat} : rfv (some a) = .ref a := rfl
theorem rfv_n : rfv none = .null := rfl
/-! the model's cells: 953 the object, 954 now, 955 history, 956 slot, 957 spare, 958 text -/
def pmf (N Hi Sl Sp Tx Z : Nat → Nat) (o : Nat) : ACell := match o with
  | 0 => .inr (.inr (7, [.ref 954, .ref 955, .int (nI (Z 2)), .ref 956, .int (nI (Z 4)), .ref 957, .int (nI (Z 6)), .ref 958, .int (nI (Z 8)), .int (nI (Z 9)), .int (nI (Z 10)), .int (nI (Z 11))]))
  | 1 => .inl (0, 817, ja 817 N)
  | 2 => .inl (0, 3268, ja 3268 Hi)
  | 3 => .inl (0, 817, ja 817 Sl)
  | 4 => .inl (0, 817, ja 817 Sp)
  | _ => .inl (1, 60, ja 60 Tx)
def pm (h : AHp) (N Hi Sl Sp Tx Z : Nat → Nat) : AHp := (h.1, fun q => if q < 953 then h.2 q else if q < 959 then pmf N Hi Sl Sp Tx Z (q - 953) else h.2 q)
section PM
variable {h : AHp} {N Hi Sl Sp Tx Z : Nat → Nat} {x v : Nat}
theorem pm_n : (pm h N Hi Sl Sp Tx Z).1 = h.1 := rfl
theorem pm_0 : (pm h N Hi Sl Sp Tx Z).2 953 = .inr (.inr (7, [.ref 954, .ref 955, .int (nI (Z 2)), .ref 956, .int (nI (Z 4)), .ref 957, .int (nI (Z 6)), .ref 958, .int (nI (Z 8)), .int (nI (Z 9)), .int (nI (Z 10)), .int (nI (Z 11))])) := rfl
theorem pm_1 : (pm h N Hi Sl Sp Tx Z).2 954 = .inl (0, 817, ja 817 N) := rfl
theorem pm_2 : (pm h N Hi Sl Sp Tx Z).2 955 = .inl (0, 3268, ja 3268 Hi) := rfl
theorem pm_3 : (pm h N Hi Sl Sp Tx Z).2 956 = .inl (0, 817, ja 817 Sl) := rfl
theorem pm_4 : (pm h N Hi Sl Sp Tx Z).2 957 = .inl (0, 817, ja 817 Sp) := rfl
theorem pm_5 : (pm h N Hi Sl Sp Tx Z).2 958 = .inl (1, 60, ja 60 Tx) := rfl
theorem pm_set {N' Hi' Sl' Sp' Tx' Z' : Nat → Nat} {c : ACell} (o : Nat) (ho : o < 6) (hc : pmf N' Hi' Sl' Sp' Tx' Z' o = c) (hr : ∀ j, j < 6 → j ≠ o → pmf N' Hi' Sl' Sp' Tx' Z' j = pmf N Hi Sl Sp Tx Z j) : hset (pm h N Hi Sl Sp Tx Z) (953 + o) c = pm h N' Hi' Sl' Sp' Tx' Z' := by
  unfold hset pm
  congr 1
  funext q
  simp only
  by_cases hq : q = 953 + o
  · subst hq
    rw [if_pos rfl, if_neg (by omega), if_pos (by omega), show 953 + o - 953 = o by omega, hc]
  · rw [if_neg hq]
    split
    · rfl
    · split
      · rw [hr _ (by omega) (by omega)]
      · rfl
theorem o6 {P : Nat → Prop} {o : Nat} (h : ∀ j, j < 6 → j ≠ o → P j) : ∀ j, j < 6 → j ≠ o → P j := h
theorem pm_s1 : hset (pm h N Hi Sl Sp Tx Z) 954 (.inl (0, 817, ja 817 (up N x v))) = pm h (up N x v) Hi Sl Sp Tx Z := pm_set 1 (by omega) rfl (fun j hj hn => by
  match j, hj, hn with
  | 0, _, _ | 2, _, _ | 3, _, _ | 4, _, _ | 5, _, _ => rfl
  | 1, _, hn => exact absurd rfl hn)
theorem pm_s2 : hset (pm h N Hi Sl Sp Tx Z) 955 (.inl (0, 3268, ja 3268 (up Hi x v))) = pm h N (up Hi x v) Sl Sp Tx Z := pm_set 2 (by omega) rfl (fun j hj hn => by
  match j, hj, hn with
  | 0, _, _ | 1, _, _ | 3, _, _ | 4, _, _ | 5, _, _ => rfl
  | 2, _, hn => exact absurd rfl hn)
theorem pm_s3 : hset (pm h N Hi Sl Sp Tx Z) 956 (.inl (0, 817, ja 817 (up Sl x v))) = pm h N Hi (up Sl x v) Sp Tx Z := pm_set 3 (by omega) rfl (fun j hj hn => by
  match j, hj, hn with
  | 0, _, _ | 2, _, _ | 1, _, _ | 4, _, _ | 5, _, _ => rfl
  | 3, _, hn => exact absurd rfl hn)
theorem pm_s4 : hset (pm h N Hi Sl Sp Tx Z) 957 (.inl (0, 817, ja 817 (up Sp x v))) = pm h N Hi Sl (up Sp x v) Tx Z := pm_set 4 (by omega) rfl (fun j hj hn => by
  match j, hj, hn with
  | 0, _, _ | 2, _, _ | 3, _, _ | 1, _, _ | 5, _, _ => rfl
  | 4, _, hn => exact absurd rfl hn)
theorem pm_s5 : hset (pm h N Hi Sl Sp Tx Z) 958 (.inl (1, 60, ja 60 (up Tx x v))) = pm h N Hi Sl Sp (up Tx x v) Z := pm_set 5 (by omega) rfl (fun j hj hn => by
  match j, hj, hn with
  | 0, _, _ | 2, _, _ | 3, _, _ | 4, _, _ | 1, _, _ => rfl
  | 5, _, hn => exact absurd rfl hn)
theorem pm_zz (i : Nat) {c : ACell} (hc : pmf N Hi Sl Sp Tx (up Z i v) 0 = c) : hset (pm h N Hi Sl Sp Tx Z) 953 c = pm h N Hi Sl Sp Tx (up Z i v) := pm_set 0 (by omega) hc (fun j hj hn => by
  match j, hj, hn with
  | 1, _, _ | 2, _, _ | 3, _, _ | 4, _, _ | 5, _, _ => rfl
  | 0, _, hn => exact absurd rfl hn)
theorem pm_z2 : hset (pm h N Hi Sl Sp Tx Z) 953 (.inr (.inr (7, [.ref 954, .ref 955, .int (nI v), .ref 956, .int (nI (Z 4)), .ref 957, .int (nI (Z 6)), .ref 958, .int (nI (Z 8)), .int (nI (Z 9)), .int (nI (Z 10)), .int (nI (Z 11))]))) = pm h N Hi Sl Sp Tx (up Z 2 v) := pm_zz 2 rfl
theorem pm_z4 : hset (pm h N Hi Sl Sp Tx Z) 953 (.inr (.inr (7, [.ref 954, .ref 955, .int (nI (Z 2)), .ref 956, .int (nI v), .ref 957, .int (nI (Z 6)), .ref 958, .int (nI (Z 8)), .int (nI (Z 9)), .int (nI (Z 10)), .int (nI (Z 11))]))) = pm h N Hi Sl Sp Tx (up Z 4 v) := pm_zz 4 rfl
theorem pm_z6 : hset (pm h N Hi Sl Sp Tx Z) 953 (.inr (.inr (7, [.ref 954, .ref 955, .int (nI (Z 2)), .ref 956, .int (nI (Z 4)), .ref 957, .int (nI v), .ref 958, .int (nI (Z 8)), .int (nI (Z 9)), .int (nI (Z 10)), .int (nI (Z 11))]))) = pm h N Hi Sl Sp Tx (up Z 6 v) := pm_zz 6 rfl
theorem pm_z8 : hset (pm h N Hi Sl Sp Tx Z) 953 (.inr (.inr (7, [.ref 954, .ref 955, .int (nI (Z 2)), .ref 956, .int (nI (Z 4)), .ref 957, .int (nI (Z 6)), .ref 958, .int (nI v), .int (nI (Z 9)), .int (nI (Z 10)), .int (nI (Z 11))]))) = pm h N Hi Sl Sp Tx (up Z 8 v) := pm_zz 8 rfl
theorem pm_z9 : hset (pm h N Hi Sl Sp Tx Z) 953 (.inr (.inr (7, [.ref 954, .ref 955, .int (nI (Z 2)), .ref 956, .int (nI (Z 4)), .ref 957, .int (nI (Z 6)), .ref 958, .int (nI (Z 8)), .int (nI v), .int (nI (Z 10)), .int (nI (Z 11))]))) = pm h N Hi Sl Sp Tx (up Z 9 v) := pm_zz 9 rfl
theorem pm_z10 : hset (pm h N Hi Sl Sp Tx Z) 953 (.inr (.inr (7, [.ref 954, .ref 955, .int (nI (Z 2)), .ref 956, .int (nI (Z 4)), .ref 957, .int (nI (Z 6)), .ref 958, .int (nI (Z 8)), .int (nI (Z 9)), .int (nI v), .int (nI (Z 11))]))) = pm h N Hi Sl Sp Tx (up Z 10 v) := pm_zz 10 rfl
theorem pm_z11 : hset (pm h N Hi Sl Sp Tx Z) 953 (.inr (.inr (7, [.ref 954, .ref 955, .int (nI (Z 2)), .ref 956, .int (nI (Z 4)), .ref 957, .int (nI (Z 6)), .ref 958, .int (nI (Z 8)), .int (nI (Z 9)), .int (nI (Z 10)), .int (nI v)]))) = pm h N Hi Sl Sp Tx (up Z 11 v) := pm_zz 11 rfl
end PM
