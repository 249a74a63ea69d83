/-! a write of one field of an object of a memory -/
section PW
variable {h : AHp} {b r p t v x : Nat} {N : Nat → Nat} {a0 a1 a2 a3 a4 a5 a6 a7 a8 a9 a13 a14 a15 : Nat}
theorem agr_cel {N' : Nat → Nat} {o : Nat} {c : ACell} (ho : o < 135) (a : AGR N' N o) (hc : cel b N' r o = c) : hset (put h b N r) (b + o) c = put h b N' r :=
  put_set ho hc (fun j hj hn => cel_agr a hj hn)
theorem put_w0 (hp : p < 40) (e1 : a1 = pg N p 1) (e7 : a7 = pg N p 7) (e4 : a4 = pg N p 4) (e5 : a5 = pg N p 5) (e2 : a2 = pg N p 2) (e3 : a3 = pg N p 3) (e9 : a9 = pg N p 9) (e8 : a8 = pg N p 8) (e6 : a6 = pg N p 6) : hset (put h b N r) (pa b p) (.inr (.inr (3, [.int (nI p), .ref (pa b p + 1), .ref (pa b p + 2), .int (nI v), .int (nI a1), .int (nI a7), .int (nI a4), .int (nI a5), .int (nI a2), .int (nI a3), .int (nI a9), .int (nI a8), .int (nI a6)]))) = put h b (ps N p 0 v) r := by
  rw [show hset (put h b N r) (pa b p) = hset (put h b N r) (b + (7 + 3 * p + 0)) by unfold pa; rw [show b + 7 + 3 * p = b + (7 + 3 * p + 0) by omega]]
  refine agr_cel (by omega) (agr_ps hp (by omega) (by simp)) ?_
  rw [cel_p hp (by omega)]
  show pob b (ps N p 0 v) p = _
  unfold pob
  rw [pg_ps_s, pg_ps_n (show p ≠ p ∨ 1 ≠ 0 by omega) (by omega) (by omega), pg_ps_n (show p ≠ p ∨ 7 ≠ 0 by omega) (by omega) (by omega), pg_ps_n (show p ≠ p ∨ 4 ≠ 0 by omega) (by omega) (by omega), pg_ps_n (show p ≠ p ∨ 5 ≠ 0 by omega) (by omega) (by omega), pg_ps_n (show p ≠ p ∨ 2 ≠ 0 by omega) (by omega) (by omega), pg_ps_n (show p ≠ p ∨ 3 ≠ 0 by omega) (by omega) (by omega), pg_ps_n (show p ≠ p ∨ 9 ≠ 0 by omega) (by omega) (by omega), pg_ps_n (show p ≠ p ∨ 8 ≠ 0 by omega) (by omega) (by omega), pg_ps_n (show p ≠ p ∨ 6 ≠ 0 by omega) (by omega) (by omega), e1, e7, e4, e5, e2, e3, e9, e8, e6]
theorem put_w1 (hp : p < 40) (e0 : a0 = pg N p 0) (e7 : a7 = pg N p 7) (e4 : a4 = pg N p 4) (e5 : a5 = pg N p 5) (e2 : a2 = pg N p 2) (e3 : a3 = pg N p 3) (e9 : a9 = pg N p 9) (e8 : a8 = pg N p 8) (e6 : a6 = pg N p 6) : hset (put h b N r) (pa b p) (.inr (.inr (3, [.int (nI p), .ref (pa b p + 1), .ref (pa b p + 2), .int (nI a0), .int (nI v), .int (nI a7), .int (nI a4), .int (nI a5), .int (nI a2), .int (nI a3), .int (nI a9), .int (nI a8), .int (nI a6)]))) = put h b (ps N p 1 v) r := by
  rw [show hset (put h b N r) (pa b p) = hset (put h b N r) (b + (7 + 3 * p + 0)) by unfold pa; rw [show b + 7 + 3 * p = b + (7 + 3 * p + 0) by omega]]
  refine agr_cel (by omega) (agr_ps hp (by omega) (by simp)) ?_
  rw [cel_p hp (by omega)]
  show pob b (ps N p 1 v) p = _
  unfold pob
  rw [pg_ps_n (show p ≠ p ∨ 0 ≠ 1 by omega) (by omega) (by omega), pg_ps_s, pg_ps_n (show p ≠ p ∨ 7 ≠ 1 by omega) (by omega) (by omega), pg_ps_n (show p ≠ p ∨ 4 ≠ 1 by omega) (by omega) (by omega), pg_ps_n (show p ≠ p ∨ 5 ≠ 1 by omega) (by omega) (by omega), pg_ps_n (show p ≠ p ∨ 2 ≠ 1 by omega) (by omega) (by omega), pg_ps_n (show p ≠ p ∨ 3 ≠ 1 by omega) (by omega) (by omega), pg_ps_n (show p ≠ p ∨ 9 ≠ 1 by omega) (by omega) (by omega), pg_ps_n (show p ≠ p ∨ 8 ≠ 1 by omega) (by omega) (by omega), pg_ps_n (show p ≠ p ∨ 6 ≠ 1 by omega) (by omega) (by omega), e0, e7, e4, e5, e2, e3, e9, e8, e6]
theorem put_w7 (hp : p < 40) (e0 : a0 = pg N p 0) (e1 : a1 = pg N p 1) (e4 : a4 = pg N p 4) (e5 : a5 = pg N p 5) (e2 : a2 = pg N p 2) (e3 : a3 = pg N p 3) (e9 : a9 = pg N p 9) (e8 : a8 = pg N p 8) (e6 : a6 = pg N p 6) : hset (put h b N r) (pa b p) (.inr (.inr (3, [.int (nI p), .ref (pa b p + 1), .ref (pa b p + 2), .int (nI a0), .int (nI a1), .int (nI v), .int (nI a4), .int (nI a5), .int (nI a2), .int (nI a3), .int (nI a9), .int (nI a8), .int (nI a6)]))) = put h b (ps N p 7 v) r := by
  rw [show hset (put h b N r) (pa b p) = hset (put h b N r) (b + (7 + 3 * p + 0)) by unfold pa; rw [show b + 7 + 3 * p = b + (7 + 3 * p + 0) by omega]]
  refine agr_cel (by omega) (agr_ps hp (by omega) (by simp)) ?_
  rw [cel_p hp (by omega)]
  show pob b (ps N p 7 v) p = _
  unfold pob
  rw [pg_ps_n (show p ≠ p ∨ 0 ≠ 7 by omega) (by omega) (by omega), pg_ps_n (show p ≠ p ∨ 1 ≠ 7 by omega) (by omega) (by omega), pg_ps_s, pg_ps_n (show p ≠ p ∨ 4 ≠ 7 by omega) (by omega) (by omega), pg_ps_n (show p ≠ p ∨ 5 ≠ 7 by omega) (by omega) (by omega), pg_ps_n (show p ≠ p ∨ 2 ≠ 7 by omega) (by omega) (by omega), pg_ps_n (show p ≠ p ∨ 3 ≠ 7 by omega) (by omega) (by omega), pg_ps_n (show p ≠ p ∨ 9 ≠ 7 by omega) (by omega) (by omega), pg_ps_n (show p ≠ p ∨ 8 ≠ 7 by omega) (by omega) (by omega), pg_ps_n (show p ≠ p ∨ 6 ≠ 7 by omega) (by omega) (by omega), e0, e1, e4, e5, e2, e3, e9, e8, e6]
theorem put_w4 (hp : p < 40) (e0 : a0 = pg N p 0) (e1 : a1 = pg N p 1) (e7 : a7 = pg N p 7) (e5 : a5 = pg N p 5) (e2 : a2 = pg N p 2) (e3 : a3 = pg N p 3) (e9 : a9 = pg N p 9) (e8 : a8 = pg N p 8) (e6 : a6 = pg N p 6) : hset (put h b N r) (pa b p) (.inr (.inr (3, [.int (nI p), .ref (pa b p + 1), .ref (pa b p + 2), .int (nI a0), .int (nI a1), .int (nI a7), .int (nI v), .int (nI a5), .int (nI a2), .int (nI a3), .int (nI a9), .int (nI a8), .int (nI a6)]))) = put h b (ps N p 4 v) r := by
  rw [show hset (put h b N r) (pa b p) = hset (put h b N r) (b + (7 + 3 * p + 0)) by unfold pa; rw [show b + 7 + 3 * p = b + (7 + 3 * p + 0) by omega]]
  refine agr_cel (by omega) (agr_ps hp (by omega) (by simp)) ?_
  rw [cel_p hp (by omega)]
  show pob b (ps N p 4 v) p = _
  unfold pob
  rw [pg_ps_n (show p ≠ p ∨ 0 ≠ 4 by omega) (by omega) (by omega), pg_ps_n (show p ≠ p ∨ 1 ≠ 4 by omega) (by omega) (by omega), pg_ps_n (show p ≠ p ∨ 7 ≠ 4 by omega) (by omega) (by omega), pg_ps_s, pg_ps_n (show p ≠ p ∨ 5 ≠ 4 by omega) (by omega) (by omega), pg_ps_n (show p ≠ p ∨ 2 ≠ 4 by omega) (by omega) (by omega), pg_ps_n (show p ≠ p ∨ 3 ≠ 4 by omega) (by omega) (by omega), pg_ps_n (show p ≠ p ∨ 9 ≠ 4 by omega) (by omega) (by omega), pg_ps_n (show p ≠ p ∨ 8 ≠ 4 by omega) (by omega) (by omega), pg_ps_n (show p ≠ p ∨ 6 ≠ 4 by omega) (by omega) (by omega), e0, e1, e7, e5, e2, e3, e9, e8, e6]
theorem put_w5 (hp : p < 40) (e0 : a0 = pg N p 0) (e1 : a1 = pg N p 1) (e7 : a7 = pg N p 7) (e4 : a4 = pg N p 4) (e2 : a2 = pg N p 2) (e3 : a3 = pg N p 3) (e9 : a9 = pg N p 9) (e8 : a8 = pg N p 8) (e6 : a6 = pg N p 6) : hset (put h b N r) (pa b p) (.inr (.inr (3, [.int (nI p), .ref (pa b p + 1), .ref (pa b p + 2), .int (nI a0), .int (nI a1), .int (nI a7), .int (nI a4), .int (nI v), .int (nI a2), .int (nI a3), .int (nI a9), .int (nI a8), .int (nI a6)]))) = put h b (ps N p 5 v) r := by
  rw [show hset (put h b N r) (pa b p) = hset (put h b N r) (b + (7 + 3 * p + 0)) by unfold pa; rw [show b + 7 + 3 * p = b + (7 + 3 * p + 0) by omega]]
  refine agr_cel (by omega) (agr_ps hp (by omega) (by simp)) ?_
  rw [cel_p hp (by omega)]
  show pob b (ps N p 5 v) p = _
  unfold pob
  rw [pg_ps_n (show p ≠ p ∨ 0 ≠ 5 by omega) (by omega) (by omega), pg_ps_n (show p ≠ p ∨ 1 ≠ 5 by omega) (by omega) (by omega), pg_ps_n (show p ≠ p ∨ 7 ≠ 5 by omega) (by omega) (by omega), pg_ps_n (show p ≠ p ∨ 4 ≠ 5 by omega) (by omega) (by omega), pg_ps_s, pg_ps_n (show p ≠ p ∨ 2 ≠ 5 by omega) (by omega) (by omega), pg_ps_n (show p ≠ p ∨ 3 ≠ 5 by omega) (by omega) (by omega), pg_ps_n (show p ≠ p ∨ 9 ≠ 5 by omega) (by omega) (by omega), pg_ps_n (show p ≠ p ∨ 8 ≠ 5 by omega) (by omega) (by omega), pg_ps_n (show p ≠ p ∨ 6 ≠ 5 by omega) (by omega) (by omega), e0, e1, e7, e4, e2, e3, e9, e8, e6]
theorem put_w2 (hp : p < 40) (e0 : a0 = pg N p 0) (e1 : a1 = pg N p 1) (e7 : a7 = pg N p 7) (e4 : a4 = pg N p 4) (e5 : a5 = pg N p 5) (e3 : a3 = pg N p 3) (e9 : a9 = pg N p 9) (e8 : a8 = pg N p 8) (e6 : a6 = pg N p 6) : hset (put h b N r) (pa b p) (.inr (.inr (3, [.int (nI p), .ref (pa b p + 1), .ref (pa b p + 2), .int (nI a0), .int (nI a1), .int (nI a7), .int (nI a4), .int (nI a5), .int (nI v), .int (nI a3), .int (nI a9), .int (nI a8), .int (nI a6)]))) = put h b (ps N p 2 v) r := by
  rw [show hset (put h b N r) (pa b p) = hset (put h b N r) (b + (7 + 3 * p + 0)) by unfold pa; rw [show b + 7 + 3 * p = b + (7 + 3 * p + 0) by omega]]
  refine agr_cel (by omega) (agr_ps hp (by omega) (by simp)) ?_
  rw [cel_p hp (by omega)]
  show pob b (ps N p 2 v) p = _
  unfold pob
  rw [pg_ps_n (show p ≠ p ∨ 0 ≠ 2 by omega) (by omega) (by omega), pg_ps_n (show p ≠ p ∨ 1 ≠ 2 by omega) (by omega) (by omega), pg_ps_n (show p ≠ p ∨ 7 ≠ 2 by omega) (by omega) (by omega), pg_ps_n (show p ≠ p ∨ 4 ≠ 2 by omega) (by omega) (by omega), pg_ps_n (show p ≠ p ∨ 5 ≠ 2 by omega) (by omega) (by omega), pg_ps_s, pg_ps_n (show p ≠ p ∨ 3 ≠ 2 by omega) (by omega) (by omega), pg_ps_n (show p ≠ p ∨ 9 ≠ 2 by omega) (by omega) (by omega), pg_ps_n (show p ≠ p ∨ 8 ≠ 2 by omega) (by omega) (by omega), pg_ps_n (show p ≠ p ∨ 6 ≠ 2 by omega) (by omega) (by omega), e0, e1, e7, e4, e5, e3, e9, e8, e6]
theorem put_w3 (hp : p < 40) (e0 : a0 = pg N p 0) (e1 : a1 = pg N p 1) (e7 : a7 = pg N p 7) (e4 : a4 = pg N p 4) (e5 : a5 = pg N p 5) (e2 : a2 = pg N p 2) (e9 : a9 = pg N p 9) (e8 : a8 = pg N p 8) (e6 : a6 = pg N p 6) : hset (put h b N r) (pa b p) (.inr (.inr (3, [.int (nI p), .ref (pa b p + 1), .ref (pa b p + 2), .int (nI a0), .int (nI a1), .int (nI a7), .int (nI a4), .int (nI a5), .int (nI a2), .int (nI v), .int (nI a9), .int (nI a8), .int (nI a6)]))) = put h b (ps N p 3 v) r := by
  rw [show hset (put h b N r) (pa b p) = hset (put h b N r) (b + (7 + 3 * p + 0)) by unfold pa; rw [show b + 7 + 3 * p = b + (7 + 3 * p + 0) by omega]]
  refine agr_cel (by omega) (agr_ps hp (by omega) (by simp)) ?_
  rw [cel_p hp (by omega)]
  show pob b (ps N p 3 v) p = _
  unfold pob
  rw [pg_ps_n (show p ≠ p ∨ 0 ≠ 3 by omega) (by omega) (by omega), pg_ps_n (show p ≠ p ∨ 1 ≠ 3 by omega) (by omega) (by omega), pg_ps_n (show p ≠ p ∨ 7 ≠ 3 by omega) (by omega) (by omega), pg_ps_n (show p ≠ p ∨ 4 ≠ 3 by omega) (by omega) (by omega), pg_ps_n (show p ≠ p ∨ 5 ≠ 3 by omega) (by omega) (by omega), pg_ps_n (show p ≠ p ∨ 2 ≠ 3 by omega) (by omega) (by omega), pg_ps_s, pg_ps_n (show p ≠ p ∨ 9 ≠ 3 by omega) (by omega) (by omega), pg_ps_n (show p ≠ p ∨ 8 ≠ 3 by omega) (by omega) (by omega), pg_ps_n (show p ≠ p ∨ 6 ≠ 3 by omega) (by omega) (by omega), e0, e1, e7, e4, e5, e2, e9, e8, e6]
theorem put_w9 (hp : p < 40) (e0 : a0 = pg N p 0) (e1 : a1 = pg N p 1) (e7 : a7 = pg N p 7) (e4 : a4 = pg N p 4) (e5 : a5 = pg N p 5) (e2 : a2 = pg N p 2) (e3 : a3 = pg N p 3) (e8 : a8 = pg N p 8) (e6 : a6 = pg N p 6) : hset (put h b N r) (pa b p) (.inr (.inr (3, [.int (nI p), .ref (pa b p + 1), .ref (pa b p + 2), .int (nI a0), .int (nI a1), .int (nI a7), .int (nI a4), .int (nI a5), .int (nI a2), .int (nI a3), .int (nI v), .int (nI a8), .int (nI a6)]))) = put h b (ps N p 9 v) r := by
  rw [show hset (put h b N r) (pa b p) = hset (put h b N r) (b + (7 + 3 * p + 0)) by unfold pa; rw [show b + 7 + 3 * p = b + (7 + 3 * p + 0) by omega]]
  refine agr_cel (by omega) (agr_ps hp (by omega) (by simp)) ?_
  rw [cel_p hp (by omega)]
  show pob b (ps N p 9 v) p = _
  unfold pob
  rw [pg_ps_n (show p ≠ p ∨ 0 ≠ 9 by omega) (by omega) (by omega), pg_ps_n (show p ≠ p ∨ 1 ≠ 9 by omega) (by omega) (by omega), pg_ps_n (show p ≠ p ∨ 7 ≠ 9 by omega) (by omega) (by omega), pg_ps_n (show p ≠ p ∨ 4 ≠ 9 by omega) (by omega) (by omega), pg_ps_n (show p ≠ p ∨ 5 ≠ 9 by omega) (by omega) (by omega), pg_ps_n (show p ≠ p ∨ 2 ≠ 9 by omega) (by omega) (by omega), pg_ps_n (show p ≠ p ∨ 3 ≠ 9 by omega) (by omega) (by omega), pg_ps_s, pg_ps_n (show p ≠ p ∨ 8 ≠ 9 by omega) (by omega) (by omega), pg_ps_n (show p ≠ p ∨ 6 ≠ 9 by omega) (by omega) (by omega), e0, e1, e7, e4, e5, e2, e3, e8, e6]
theorem put_w8 (hp : p < 40) (e0 : a0 = pg N p 0) (e1 : a1 = pg N p 1) (e7 : a7 = pg N p 7) (e4 : a4 = pg N p 4) (e5 : a5 = pg N p 5) (e2 : a2 = pg N p 2) (e3 : a3 = pg N p 3) (e9 : a9 = pg N p 9) (e6 : a6 = pg N p 6) : hset (put h b N r) (pa b p) (.inr (.inr (3, [.int (nI p), .ref (pa b p + 1), .ref (pa b p + 2), .int (nI a0), .int (nI a1), .int (nI a7), .int (nI a4), .int (nI a5), .int (nI a2), .int (nI a3), .int (nI a9), .int (nI v), .int (nI a6)]))) = put h b (ps N p 8 v) r := by
  rw [show hset (put h b N r) (pa b p) = hset (put h b N r) (b + (7 + 3 * p + 0)) by unfold pa; rw [show b + 7 + 3 * p = b + (7 + 3 * p + 0) by omega]]
  refine agr_cel (by omega) (agr_ps hp (by omega) (by simp)) ?_
  rw [cel_p hp (by omega)]
  show pob b (ps N p 8 v) p = _
  unfold pob
  rw [pg_ps_n (show p ≠ p ∨ 0 ≠ 8 by omega) (by omega) (by omega), pg_ps_n (show p ≠ p ∨ 1 ≠ 8 by omega) (by omega) (by omega), pg_ps_n (show p ≠ p ∨ 7 ≠ 8 by omega) (by omega) (by omega), pg_ps_n (show p ≠ p ∨ 4 ≠ 8 by omega) (by omega) (by omega), pg_ps_n (show p ≠ p ∨ 5 ≠ 8 by omega) (by omega) (by omega), pg_ps_n (show p ≠ p ∨ 2 ≠ 8 by omega) (by omega) (by omega), pg_ps_n (show p ≠ p ∨ 3 ≠ 8 by omega) (by omega) (by omega), pg_ps_n (show p ≠ p ∨ 9 ≠ 8 by omega) (by omega) (by omega), pg_ps_s, pg_ps_n (show p ≠ p ∨ 6 ≠ 8 by omega) (by omega) (by omega), e0, e1, e7, e4, e5, e2, e3, e9, e6]
theorem put_w6 (hp : p < 40) (e0 : a0 = pg N p 0) (e1 : a1 = pg N p 1) (e7 : a7 = pg N p 7) (e4 : a4 = pg N p 4) (e5 : a5 = pg N p 5) (e2 : a2 = pg N p 2) (e3 : a3 = pg N p 3) (e9 : a9 = pg N p 9) (e8 : a8 = pg N p 8) : hset (put h b N r) (pa b p) (.inr (.inr (3, [.int (nI p), .ref (pa b p + 1), .ref (pa b p + 2), .int (nI a0), .int (nI a1), .int (nI a7), .int (nI a4), .int (nI a5), .int (nI a2), .int (nI a3), .int (nI a9), .int (nI a8), .int (nI v)]))) = put h b (ps N p 6 v) r := by
  rw [show hset (put h b N r) (pa b p) = hset (put h b N r) (b + (7 + 3 * p + 0)) by unfold pa; rw [show b + 7 + 3 * p = b + (7 + 3 * p + 0) by omega]]
  refine agr_cel (by omega) (agr_ps hp (by omega) (by simp)) ?_
  rw [cel_p hp (by omega)]
  show pob b (ps N p 6 v) p = _
  unfold pob
  rw [pg_ps_n (show p ≠ p ∨ 0 ≠ 6 by omega) (by omega) (by omega), pg_ps_n (show p ≠ p ∨ 1 ≠ 6 by omega) (by omega) (by omega), pg_ps_n (show p ≠ p ∨ 7 ≠ 6 by omega) (by omega) (by omega), pg_ps_n (show p ≠ p ∨ 4 ≠ 6 by omega) (by omega) (by omega), pg_ps_n (show p ≠ p ∨ 5 ≠ 6 by omega) (by omega) (by omega), pg_ps_n (show p ≠ p ∨ 2 ≠ 6 by omega) (by omega) (by omega), pg_ps_n (show p ≠ p ∨ 3 ≠ 6 by omega) (by omega) (by omega), pg_ps_n (show p ≠ p ∨ 9 ≠ 6 by omega) (by omega) (by omega), pg_ps_n (show p ≠ p ∨ 8 ≠ 6 by omega) (by omega) (by omega), pg_ps_s, e0, e1, e7, e4, e5, e2, e3, e9, e8]
theorem put_t0 (ht : t < 8) (e1 : a1 = th N t 1) (e2 : a2 = th N t 2) (e3 : a3 = th N t 3) (e4 : a4 = th N t 4) : hset (put h b N r) (ra b t) (.inr (.inr (4, [.int (nI v), .int (nI a1), .int (nI a2), .int (nI a3), .int (nI a4)]))) = put h b (ts N t 0 v) r := by
  rw [show hset (put h b N r) (ra b t) = hset (put h b N r) (b + (127 + t)) by unfold ra; rw [Nat.add_assoc]]
  refine agr_cel (by omega) (agr_ts ht (by omega)) ?_
  rw [cel_r ht]
  unfold rcl
  rw [th_ts_s, th_ts_n (show t ≠ t ∨ 1 ≠ 0 by omega) (by omega) (by omega), th_ts_n (show t ≠ t ∨ 2 ≠ 0 by omega) (by omega) (by omega), th_ts_n (show t ≠ t ∨ 3 ≠ 0 by omega) (by omega) (by omega), th_ts_n (show t ≠ t ∨ 4 ≠ 0 by omega) (by omega) (by omega), e1, e2, e3, e4]
theorem put_t1 (ht : t < 8) (e0 : a0 = th N t 0) (e2 : a2 = th N t 2) (e3 : a3 = th N t 3) (e4 : a4 = th N t 4) : hset (put h b N r) (ra b t) (.inr (.inr (4, [.int (nI a0), .int (nI v), .int (nI a2), .int (nI a3), .int (nI a4)]))) = put h b (ts N t 1 v) r := by
  rw [show hset (put h b N r) (ra b t) = hset (put h b N r) (b + (127 + t)) by unfold ra; rw [Nat.add_assoc]]
  refine agr_cel (by omega) (agr_ts ht (by omega)) ?_
  rw [cel_r ht]
  unfold rcl
  rw [th_ts_n (show t ≠ t ∨ 0 ≠ 1 by omega) (by omega) (by omega), th_ts_s, th_ts_n (show t ≠ t ∨ 2 ≠ 1 by omega) (by omega) (by omega), th_ts_n (show t ≠ t ∨ 3 ≠ 1 by omega) (by omega) (by omega), th_ts_n (show t ≠ t ∨ 4 ≠ 1 by omega) (by omega) (by omega), e0, e2, e3, e4]
theorem put_t2 (ht : t < 8) (e0 : a0 = th N t 0) (e1 : a1 = th N t 1) (e3 : a3 = th N t 3) (e4 : a4 = th N t 4) : hset (put h b N r) (ra b t) (.inr (.inr (4, [.int (nI a0), .int (nI a1), .int (nI v), .int (nI a3), .int (nI a4)]))) = put h b (ts N t 2 v) r := by
  rw [show hset (put h b N r) (ra b t) = hset (put h b N r) (b + (127 + t)) by unfold ra; rw [Nat.add_assoc]]
  refine agr_cel (by omega) (agr_ts ht (by omega)) ?_
  rw [cel_r ht]
  unfold rcl
  rw [th_ts_n (show t ≠ t ∨ 0 ≠ 2 by omega) (by omega) (by omega), th_ts_n (show t ≠ t ∨ 1 ≠ 2 by omega) (by omega) (by omega), th_ts_s, th_ts_n (show t ≠ t ∨ 3 ≠ 2 by omega) (by omega) (by omega), th_ts_n (show t ≠ t ∨ 4 ≠ 2 by omega) (by omega) (by omega), e0, e1, e3, e4]
theorem put_t3 (ht : t < 8) (e0 : a0 = th N t 0) (e1 : a1 = th N t 1) (e2 : a2 = th N t 2) (e4 : a4 = th N t 4) : hset (put h b N r) (ra b t) (.inr (.inr (4, [.int (nI a0), .int (nI a1), .int (nI a2), .int (nI v), .int (nI a4)]))) = put h b (ts N t 3 v) r := by
  rw [show hset (put h b N r) (ra b t) = hset (put h b N r) (b + (127 + t)) by unfold ra; rw [Nat.add_assoc]]
  refine agr_cel (by omega) (agr_ts ht (by omega)) ?_
  rw [cel_r ht]
  unfold rcl
  rw [th_ts_n (show t ≠ t ∨ 0 ≠ 3 by omega) (by omega) (by omega), th_ts_n (show t ≠ t ∨ 1 ≠ 3 by omega) (by omega) (by omega), th_ts_n (show t ≠ t ∨ 2 ≠ 3 by omega) (by omega) (by omega), th_ts_s, th_ts_n (show t ≠ t ∨ 4 ≠ 3 by omega) (by omega) (by omega), e0, e1, e2, e4]
theorem put_t4 (ht : t < 8) (e0 : a0 = th N t 0) (e1 : a1 = th N t 1) (e2 : a2 = th N t 2) (e3 : a3 = th N t 3) : hset (put h b N r) (ra b t) (.inr (.inr (4, [.int (nI a0), .int (nI a1), .int (nI a2), .int (nI a3), .int (nI v)]))) = put h b (ts N t 4 v) r := by
  rw [show hset (put h b N r) (ra b t) = hset (put h b N r) (b + (127 + t)) by unfold ra; rw [Nat.add_assoc]]
  refine agr_cel (by omega) (agr_ts ht (by omega)) ?_
  rw [cel_r ht]
  unfold rcl
  rw [th_ts_n (show t ≠ t ∨ 0 ≠ 4 by omega) (by omega) (by omega), th_ts_n (show t ≠ t ∨ 1 ≠ 4 by omega) (by omega) (by omega), th_ts_n (show t ≠ t ∨ 2 ≠ 4 by omega) (by omega) (by omega), th_ts_n (show t ≠ t ∨ 3 ≠ 4 by omega) (by omega) (by omega), th_ts_s, e0, e1, e2, e3]
theorem put_m8 (e9 : a9 = N 9) (e7 : a7 = N 7) (e13 : a13 = N 13) (e14 : a14 = N 14) (e15 : a15 = N 15) : hset (put h b N r) b (.inr (.inr (2, [.ref (b + 1), .ref (b + 2), .ref (b + 3), .ref (b + 4), .ref (b + 5), .int (nI v), .int (nI a9), .int (nI a7), .int (nI a13), .int (nI a14), .int (nI a15)]))) = put h b (up N 8 v) r := by
  refine agr_cel (o := 0) (by omega) (agr_up (by omega) (by simp)) ?_
  show mob b (up N 8 v) = _
  unfold mob
  rw [up_at, up_ne (show 9 ≠ 8 by omega), up_ne (show 7 ≠ 8 by omega), up_ne (show 13 ≠ 8 by omega), up_ne (show 14 ≠ 8 by omega), up_ne (show 15 ≠ 8 by omega), e9, e7, e13, e14, e15]
theorem put_m9 (e8 : a8 = N 8) (e7 : a7 = N 7) (e13 : a13 = N 13) (e14 : a14 = N 14) (e15 : a15 = N 15) : hset (put h b N r) b (.inr (.inr (2, [.ref (b + 1), .ref (b + 2), .ref (b + 3), .ref (b + 4), .ref (b + 5), .int (nI a8), .int (nI v), .int (nI a7), .int (nI a13), .int (nI a14), .int (nI a15)]))) = put h b (up N 9 v) r := by
  refine agr_cel (o := 0) (by omega) (agr_up (by omega) (by simp)) ?_
  show mob b (up N 9 v) = _
  unfold mob
  rw [up_ne (show 8 ≠ 9 by omega), up_at, up_ne (show 7 ≠ 9 by omega), up_ne (show 13 ≠ 9 by omega), up_ne (show 14 ≠ 9 by omega), up_ne (show 15 ≠ 9 by omega), e8, e7, e13, e14, e15]
theorem put_m7 (e8 : a8 = N 8) (e9 : a9 = N 9) (e13 : a13 = N 13) (e14 : a14 = N 14) (e15 : a15 = N 15) : hset (put h b N r) b (.inr (.inr (2, [.ref (b + 1), .ref (b + 2), .ref (b + 3), .ref (b + 4), .ref (b + 5), .int (nI a8), .int (nI a9), .int (nI v), .int (nI a13), .int (nI a14), .int (nI a15)]))) = put h b (up N 7 v) r := by
  refine agr_cel (o := 0) (by omega) (agr_up (by omega) (by simp)) ?_
  show mob b (up N 7 v) = _
  unfold mob
  rw [up_ne (show 8 ≠ 7 by omega), up_ne (show 9 ≠ 7 by omega), up_at, up_ne (show 13 ≠ 7 by omega), up_ne (show 14 ≠ 7 by omega), up_ne (show 15 ≠ 7 by omega), e8, e9, e13, e14, e15]
theorem put_m13 (e8 : a8 = N 8) (e9 : a9 = N 9) (e7 : a7 = N 7) (e14 : a14 = N 14) (e15 : a15 = N 15) : hset (put h b N r) b (.inr (.inr (2, [.ref (b + 1), .ref (b + 2), .ref (b + 3), .ref (b + 4), .ref (b + 5), .int (nI a8), .int (nI a9), .int (nI a7), .int (nI v), .int (nI a14), .int (nI a15)]))) = put h b (up N 13 v) r := by
  refine agr_cel (o := 0) (by omega) (agr_up (by omega) (by simp)) ?_
  show mob b (up N 13 v) = _
  unfold mob
  rw [up_ne (show 8 ≠ 13 by omega), up_ne (show 9 ≠ 13 by omega), up_ne (show 7 ≠ 13 by omega), up_at, up_ne (show 14 ≠ 13 by omega), up_ne (show 15 ≠ 13 by omega), e8, e9, e7, e14, e15]
theorem put_m14 (e8 : a8 = N 8) (e9 : a9 = N 9) (e7 : a7 = N 7) (e13 : a13 = N 13) (e15 : a15 = N 15) : hset (put h b N r) b (.inr (.inr (2, [.ref (b + 1), .ref (b + 2), .ref (b + 3), .ref (b + 4), .ref (b + 5), .int (nI a8), .int (nI a9), .int (nI a7), .int (nI a13), .int (nI v), .int (nI a15)]))) = put h b (up N 14 v) r := by
  refine agr_cel (o := 0) (by omega) (agr_up (by omega) (by simp)) ?_
  show mob b (up N 14 v) = _
  unfold mob
  rw [up_ne (show 8 ≠ 14 by omega), up_ne (show 9 ≠ 14 by omega), up_ne (show 7 ≠ 14 by omega), up_ne (show 13 ≠ 14 by omega), up_at, up_ne (show 15 ≠ 14 by omega), e8, e9, e7, e13, e15]
theorem put_m15 (e8 : a8 = N 8) (e9 : a9 = N 9) (e7 : a7 = N 7) (e13 : a13 = N 13) (e14 : a14 = N 14) : hset (put h b N r) b (.inr (.inr (2, [.ref (b + 1), .ref (b + 2), .ref (b + 3), .ref (b + 4), .ref (b + 5), .int (nI a8), .int (nI a9), .int (nI a7), .int (nI a13), .int (nI a14), .int (nI v)]))) = put h b (up N 15 v) r := by
  refine agr_cel (o := 0) (by omega) (agr_up (by omega) (by simp)) ?_
  show mob b (up N 15 v) = _
  unfold mob
  rw [up_ne (show 8 ≠ 15 by omega), up_ne (show 9 ≠ 15 by omega), up_ne (show 7 ≠ 15 by omega), up_ne (show 13 ≠ 15 by omega), up_ne (show 14 ≠ 15 by omega), up_at, e8, e9, e7, e13, e14]
theorem put_c (hp : p < 40) (hx : x < 4) : hset (put h b N r) (pa b p + 1) (.inl (0, 4, ja 4 (up (ctr N p) x v))) = put h b (ps N p (10 + x) v) r := by
  rw [show hset (put h b N r) (pa b p + 1) = hset (put h b N r) (b + (7 + 3 * p + 1)) by unfold pa; rw [show b + 7 + 3 * p + 1 = b + (7 + 3 * p + 1) by omega]]
  refine agr_cel (by omega) (agr_ps hp (by omega) (by rw [if_neg (by omega), if_pos (by omega)])) ?_
  rw [cel_p hp (by omega)]
  refine congrArg (fun f => (Sum.inl (0, 4, f) : ACell)) (ja_ext fun i hi => ?_)
  show pg (ps N p (10 + x) v) p (10 + i) = up (ctr N p) x v i
  by_cases e : i = x
  · subst e; rw [pg_ps_s, up_at]
  · rw [pg_ps_n (by omega) (by omega) (by omega), up_ne e]; rfl
theorem put_u (hp : p < 40) (hx : x < 4) : hset (put h b N r) (pa b p + 2) (.inl (0, 4, ja 4 (up (use N p) x v))) = put h b (ps N p (14 + x) v) r := by
  rw [show hset (put h b N r) (pa b p + 2) = hset (put h b N r) (b + (7 + 3 * p + 2)) by unfold pa; rw [show b + 7 + 3 * p + 2 = b + (7 + 3 * p + 2) by omega]]
  refine agr_cel (by omega) (agr_ps hp (by omega) (by rw [if_neg (by omega), if_neg (by omega)])) ?_
  rw [cel_p hp (by omega)]
  refine congrArg (fun f => (Sum.inl (0, 4, f) : ACell)) (ja_ext fun i hi => ?_)
  show pg (ps N p (14 + x) v) p (14 + i) = up (use N p) x v i
  by_cases e : i = x
  · subst e; rw [pg_ps_s, up_at]
  · rw [pg_ps_n (by omega) (by omega) (by omega), up_ne e]; rfl
theorem put_f (hx : x < 4) : hset (put h b N r) (b + 1) (.inl (0, 4, ja 4 (up N x v))) = put h b (up N x v) r :=
  agr_cel (o := 1) (by omega) (agr_up (by omega) (by rw [if_pos hx])) rfl
theorem put_s (hx : x < 3) : hset (put h b N r) (b + 2) (.inl (0, 3, ja 3 (up (stg N) x v))) = put h b (up N (4 + x) v) r := by
  refine agr_cel (o := 2) (by omega) (agr_up (by omega) (by rw [if_neg (by omega), if_pos (by omega)])) ?_
  refine congrArg (fun f => (Sum.inl (0, 3, f) : ACell)) (ja_ext fun i hi => ?_)
  show up N (4 + x) v (4 + i) = up (stg N) x v i
  by_cases e : i = x
  · subst e; rw [up_at, up_at]
  · rw [up_ne (by omega), up_ne e]; rfl
end PW
