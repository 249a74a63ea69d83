/-! the class's memories: a row N of numbers laid out as objects at b .. b+134 (1 frames, 2 settings, 3 pages, 4 runners, 5 log, 6 parts, then three cells a page, one a runner); r is where the full log begins -/
def pa (b p : Nat) : Nat := b + 7 + 3 * p
def ra (b j : Nat) : Nat := b + 127 + j
def pgr (b i : Nat) : Option Nat := if i < 40 then some (pa b i) else none
def rnr (b i : Nat) : Option Nat := if i < 8 then some (ra b i) else none
def stg (N : Nat → Nat) (i : Nat) : Nat := N (4 + i)
def ctr (N : Nat → Nat) (p i : Nat) : Nat := pg N p (10 + i)
def use (N : Nat → Nat) (p i : Nat) : Nat := pg N p (14 + i)
def pts (N : Nat → Nat) (r c : Nat) : Nat := ev N ((c / 4 + 10 - r) % 10) (c % 4)
def nx (N : Nat → Nat) (r : Nat) : Nat := if N 16 = 10 then r else N 16
def pob (b : Nat) (N : Nat → Nat) (p : Nat) : ACell := .inr (.inr (3, [.int (nI p), .ref (pa b p + 1), .ref (pa b p + 2), .int (nI (pg N p 0)), .int (nI (pg N p 1)), .int (nI (pg N p 7)), .int (nI (pg N p 4)), .int (nI (pg N p 5)), .int (nI (pg N p 2)), .int (nI (pg N p 3)), .int (nI (pg N p 9)), .int (nI (pg N p 8)), .int (nI (pg N p 6))]))
def mob (b : Nat) (N : Nat → Nat) : ACell := .inr (.inr (2, [.ref (b + 1), .ref (b + 2), .ref (b + 3), .ref (b + 4), .ref (b + 5), .int (nI (N 8)), .int (nI (N 9)), .int (nI (N 7)), .int (nI (N 13)), .int (nI (N 14)), .int (nI (N 15))]))
def lob (b : Nat) (N : Nat → Nat) (r : Nat) : ACell := .inr (.inr (1, [.ref (b + 6), .int (nI (N 16)), .int (nI (nx N r))]))
def pcl (b : Nat) (N : Nat → Nat) (p k : Nat) : ACell := match k with
  | 0 => pob b N p
  | 1 => .inl (0, 4, ja 4 (ctr N p))
  | _ => .inl (0, 4, ja 4 (use N p))
def rcl (N : Nat → Nat) (j : Nat) : ACell := .inr (.inr (4, [.int (nI (th N j 0)), .int (nI (th N j 1)), .int (nI (th N j 2)), .int (nI (th N j 3)), .int (nI (th N j 4))]))
def mcl (b : Nat) (N : Nat → Nat) (r k : Nat) : ACell := match k with
  | 0 => mob b N
  | 1 => .inl (0, 4, ja 4 N)
  | 2 => .inl (0, 3, ja 3 (stg N))
  | 3 => .inr (.inl (3, 40, pgr b))
  | 4 => .inr (.inl (4, 8, rnr b))
  | 5 => lob b N r
  | _ => .inl (0, 40, ja 40 (pts N r))
def cel (b : Nat) (N : Nat → Nat) (r o : Nat) : ACell := if o < 7 then mcl b N r o else if o < 127 then pcl b N ((o - 7) / 3) ((o - 7) % 3) else rcl N (o - 127)
def put (h : AHp) (b : Nat) (N : Nat → Nat) (r : Nat) : AHp := (h.1, fun q => if b ≤ q ∧ q < b + 135 then cel b N r (q - b) else h.2 q)
section PU
variable {h : AHp} {b r r' p t : Nat} {N N' : Nat → Nat} {c : ACell}
theorem put_at {o : Nat} (ho : o < 135) : (put h b N r).2 (b + o) = cel b N r o := by
  show (if b ≤ b + o ∧ b + o < b + 135 then cel b N r (b + o - b) else h.2 (b + o)) = _
  rw [if_pos (by omega), show b + o - b = o by omega]
theorem put_out {q : Nat} (hq : q < b ∨ b + 135 ≤ q) : (put h b N r).2 q = h.2 q := by
  show (if b ≤ q ∧ q < b + 135 then cel b N r (q - b) else h.2 q) = _
  rw [if_neg (by omega)]
theorem put_0 : (put h b N r).2 b = .inr (.inr (2, [.ref (b + 1), .ref (b + 2), .ref (b + 3), .ref (b + 4), .ref (b + 5), .int (nI (N 8)), .int (nI (N 9)), .int (nI (N 7)), .int (nI (N 13)), .int (nI (N 14)), .int (nI (N 15))])) := put_at (o := 0) (by omega)
theorem put_1 : (put h b N r).2 (b + 1) = .inl (0, 4, ja 4 N) := put_at (o := 1) (by omega)
theorem put_2 : (put h b N r).2 (b + 2) = .inl (0, 3, ja 3 (stg N)) := put_at (o := 2) (by omega)
theorem put_3 : (put h b N r).2 (b + 3) = .inr (.inl (3, 40, pgr b)) := put_at (o := 3) (by omega)
theorem put_4 : (put h b N r).2 (b + 4) = .inr (.inl (4, 8, rnr b)) := put_at (o := 4) (by omega)
theorem put_5 : (put h b N r).2 (b + 5) = .inr (.inr (1, [.ref (b + 6), .int (nI (N 16)), .int (nI (nx N r))])) := put_at (o := 5) (by omega)
theorem put_6 : (put h b N r).2 (b + 6) = .inl (0, 40, ja 40 (pts N r)) := put_at (o := 6) (by omega)
theorem cel_p {k : Nat} (hp : p < 40) (hk : k < 3) : cel b N r (7 + 3 * p + k) = pcl b N p k := by
  unfold cel
  rw [if_neg (by omega), if_pos (by omega), show (7 + 3 * p + k - 7) / 3 = p by omega, show (7 + 3 * p + k - 7) % 3 = k by omega]
theorem cel_r (ht : t < 8) : cel b N r (127 + t) = rcl N t := by
  unfold cel
  rw [if_neg (by omega), if_neg (by omega), show 127 + t - 127 = t by omega]
theorem put_p0 (hp : p < 40) : (put h b N r).2 (pa b p) = .inr (.inr (3, [.int (nI p), .ref (pa b p + 1), .ref (pa b p + 2), .int (nI (pg N p 0)), .int (nI (pg N p 1)), .int (nI (pg N p 7)), .int (nI (pg N p 4)), .int (nI (pg N p 5)), .int (nI (pg N p 2)), .int (nI (pg N p 3)), .int (nI (pg N p 9)), .int (nI (pg N p 8)), .int (nI (pg N p 6))])) := by
  show (put h b N r).2 (pa b p) = pob b N p
  rw [show pa b p = b + (7 + 3 * p + 0) by unfold pa; omega, put_at (by omega), cel_p hp (by omega)]
  rfl
theorem put_p1 (hp : p < 40) : (put h b N r).2 (pa b p + 1) = .inl (0, 4, ja 4 (ctr N p)) := by
  unfold pa
  rw [show b + 7 + 3 * p + 1 = b + (7 + 3 * p + 1) by omega, put_at (by omega), cel_p hp (by omega)]
  rfl
theorem put_p2 (hp : p < 40) : (put h b N r).2 (pa b p + 2) = .inl (0, 4, ja 4 (use N p)) := by
  unfold pa
  rw [show b + 7 + 3 * p + 2 = b + (7 + 3 * p + 2) by omega, put_at (by omega), cel_p hp (by omega)]
  rfl
theorem put_r (ht : t < 8) : (put h b N r).2 (ra b t) = .inr (.inr (4, [.int (nI (th N t 0)), .int (nI (th N t 1)), .int (nI (th N t 2)), .int (nI (th N t 3)), .int (nI (th N t 4))])) := by
  unfold ra
  rw [show b + 127 + t = b + (127 + t) by omega, put_at (by omega), cel_r ht]
  rfl
theorem pgr_at (hp : p < 40) : pgr b p = some (pa b p) := by unfold pgr; rw [if_pos hp]
theorem rnr_at (ht : t < 8) : rnr b t = some (ra b t) := by unfold rnr; rw [if_pos ht]
theorem ctr_at {i : Nat} : ctr N p i = pg N p (10 + i) := rfl
theorem use_at {i : Nat} : use N p i = pg N p (14 + i) := rfl
theorem stg_0 : stg N 0 = N 4 := rfl
theorem stg_1 : stg N 1 = N 5 := rfl
theorem stg_2 : stg N 2 = N 6 := rfl
theorem ja_ext {n : Nat} {f g : Nat → Nat} (e : ∀ i, i < n → f i = g i) : ja n f = ja n g := by
  funext i
  unfold ja
  split
  · rename_i hi; rw [e i hi]
  · rfl
/-- two rows that the class's memory doesn't tell apart -/
def SAM (N N' : Nat → Nat) : Prop := (∀ c, c < 17 → c ≠ 10 → c ≠ 11 → c ≠ 12 → N c = N' c) ∧ (∀ p w, p < 40 → w < 18 → pg N p w = pg N' p w) ∧ (∀ t w, t < 8 → w < 5 → th N t w = th N' t w) ∧ ∀ j w, j < 10 → w < 4 → ev N j w = ev N' j w
theorem cel_ext (e : SAM N N') {o : Nat} (ho : o < 135) : cel b N r o = cel b N' r o := by
  obtain ⟨e1, e2, e3, e4⟩ := e
  unfold cel
  split
  · rename_i h7
    match o, h7 with
    | 0, _ => show mob b N = mob b N'; unfold mob; rw [e1 8 (by omega) (by omega) (by omega) (by omega), e1 9 (by omega) (by omega) (by omega) (by omega), e1 7 (by omega) (by omega) (by omega) (by omega), e1 13 (by omega) (by omega) (by omega) (by omega), e1 14 (by omega) (by omega) (by omega) (by omega), e1 15 (by omega) (by omega) (by omega) (by omega)]
    | 1, _ => exact congrArg (fun f => (Sum.inl (0, 4, f) : ACell)) (ja_ext fun i hi => e1 i (by omega) (by omega) (by omega) (by omega))
    | 2, _ => exact congrArg (fun f => (Sum.inl (0, 3, f) : ACell)) (ja_ext fun i hi => e1 (4 + i) (by omega) (by omega) (by omega) (by omega))
    | 3, _ => rfl
    | 4, _ => rfl
    | 5, _ => show lob b N r = lob b N' r; unfold lob nx; rw [e1 16 (by omega) (by omega) (by omega) (by omega)]
    | 6, _ => exact congrArg (fun f => (Sum.inl (0, 40, f) : ACell)) (ja_ext fun i hi => e4 _ _ (by omega) (by omega))
  · split
    · have hp : (o - 7) / 3 < 40 := by omega
      have hk : (o - 7) % 3 < 3 := by omega
      generalize (o - 7) / 3 = p at hp
      generalize (o - 7) % 3 = k at hk
      match k, hk with
      | 0, _ => show pob b N p = pob b N' p; unfold pob; rw [e2 p 0 hp (by omega), e2 p 1 hp (by omega), e2 p 7 hp (by omega), e2 p 4 hp (by omega), e2 p 5 hp (by omega), e2 p 2 hp (by omega), e2 p 3 hp (by omega), e2 p 9 hp (by omega), e2 p 8 hp (by omega), e2 p 6 hp (by omega)]
      | 1, _ => exact congrArg (fun f => (Sum.inl (0, 4, f) : ACell)) (ja_ext fun i hi => e2 p (10 + i) hp (by omega))
      | 2, _ => exact congrArg (fun f => (Sum.inl (0, 4, f) : ACell)) (ja_ext fun i hi => e2 p (14 + i) hp (by omega))
    · have ht : o - 127 < 8 := by omega
      generalize o - 127 = t at ht
      unfold rcl
      rw [e3 t 0 ht (by omega), e3 t 1 ht (by omega), e3 t 2 ht (by omega), e3 t 3 ht (by omega), e3 t 4 ht (by omega)]
theorem put_ext (e : SAM N N') : put h b N r = put h b N' r := by
  refine Prod.ext rfl (funext (fun q => ?_))
  show (if b ≤ q ∧ q < b + 135 then cel b N r (q - b) else h.2 q) = (if b ≤ q ∧ q < b + 135 then cel b N' r (q - b) else h.2 q)
  split
  · exact cel_ext e (by omega)
  · rfl
theorem put_set {o : Nat} (ho : o < 135) (hc : cel b N' r' o = c) (hr : ∀ j, j < 135 → j ≠ o → cel b N' r' j = cel b N r j) : hset (put h b N r) (b + o) c = put h b N' r' := by
  refine Prod.ext rfl (funext (fun q => ?_))
  show (if q = b + o then c else if b ≤ q ∧ q < b + 135 then cel b N r (q - b) else h.2 q) = (if b ≤ q ∧ q < b + 135 then cel b N' r' (q - b) else h.2 q)
  by_cases e : q = b + o
  · rw [if_pos e, if_pos (by omega), show q - b = o by omega, hc]
  · rw [if_neg e]
    split
    · exact (hr _ (by omega) (by omega)).symm
    · rfl
/-- what all cells but one say of a row is what they said -/
def AGR (N N' : Nat → Nat) (o : Nat) : Prop :=
  (o ≠ 0 → N 8 = N' 8 ∧ N 9 = N' 9 ∧ N 7 = N' 7 ∧ N 13 = N' 13 ∧ N 14 = N' 14 ∧ N 15 = N' 15) ∧ (o ≠ 1 → ∀ i, i < 4 → N i = N' i) ∧ (o ≠ 2 → ∀ i, i < 3 → N (4 + i) = N' (4 + i)) ∧ N 16 = N' 16 ∧ (∀ j w, j < 10 → w < 4 → ev N j w = ev N' j w) ∧
  (∀ p, p < 40 → (o ≠ 7 + 3 * p → ∀ w, w < 10 → pg N p w = pg N' p w) ∧ (o ≠ 7 + 3 * p + 1 → ∀ i, i < 4 → pg N p (10 + i) = pg N' p (10 + i)) ∧ (o ≠ 7 + 3 * p + 2 → ∀ i, i < 4 → pg N p (14 + i) = pg N' p (14 + i))) ∧
  ∀ t, t < 8 → o ≠ 127 + t → ∀ w, w < 5 → th N t w = th N' t w
theorem cel_agr {o j : Nat} (e : AGR N N' o) (hj : j < 135) (hn : j ≠ o) : cel b N r j = cel b N' r j := by
  obtain ⟨e0, e1, e2, e5, e6, ep, et⟩ := e
  unfold cel
  split
  · rename_i h7
    match j, h7 with
    | 0, _ =>
      obtain ⟨a1, a2, a3, a4, a5, a6⟩ := e0 (by omega)
      show mob b N = mob b N'; unfold mob; rw [a1, a2, a3, a4, a5, a6]
    | 1, _ => exact congrArg (fun f => (Sum.inl (0, 4, f) : ACell)) (ja_ext fun i hi => e1 (by omega) i hi)
    | 2, _ => exact congrArg (fun f => (Sum.inl (0, 3, f) : ACell)) (ja_ext fun i hi => e2 (by omega) i hi)
    | 3, _ => rfl
    | 4, _ => rfl
    | 5, _ => show lob b N r = lob b N' r; unfold lob nx; rw [e5]
    | 6, _ => exact congrArg (fun f => (Sum.inl (0, 40, f) : ACell)) (ja_ext fun i hi => e6 _ _ (by omega) (by omega))
  · split
    · have hp : (j - 7) / 3 < 40 := by omega
      have hk : (j - 7) % 3 < 3 := by omega
      have hjj : j = 7 + 3 * ((j - 7) / 3) + (j - 7) % 3 := by omega
      generalize (j - 7) / 3 = p at hp hjj
      generalize (j - 7) % 3 = k at hk hjj
      obtain ⟨b0, b1, b2⟩ := ep p hp
      match k, hk with
      | 0, _ =>
        have b0 := b0 (by omega)
        show pob b N p = pob b N' p; unfold pob; rw [b0 0 (by omega), b0 1 (by omega), b0 7 (by omega), b0 4 (by omega), b0 5 (by omega), b0 2 (by omega), b0 3 (by omega), b0 9 (by omega), b0 8 (by omega), b0 6 (by omega)]
      | 1, _ => exact congrArg (fun f => (Sum.inl (0, 4, f) : ACell)) (ja_ext fun i hi => b1 (by omega) i hi)
      | 2, _ => exact congrArg (fun f => (Sum.inl (0, 4, f) : ACell)) (ja_ext fun i hi => b2 (by omega) i hi)
    · have ht : j - 127 < 8 := by omega
      have hjj : j = 127 + (j - 127) := by omega
      generalize j - 127 = t at ht hjj
      have e3 := et t ht (by omega)
      unfold rcl
      rw [e3 0 (by omega), e3 1 (by omega), e3 2 (by omega), e3 3 (by omega), e3 4 (by omega)]
theorem agr_ps {w v o : Nat} (hp : p < 40) (hw : w < 18) (ho : o = if w < 10 then 7 + 3 * p else if w < 14 then 7 + 3 * p + 1 else 7 + 3 * p + 2) : AGR (ps N p w v) N o := by
  refine ⟨fun _ => ⟨ps_c (by omega), ps_c (by omega), ps_c (by omega), ps_c (by omega), ps_c (by omega), ps_c (by omega)⟩, fun _ i hi => ps_c (by omega), fun _ i hi => ps_c (by omega), ps_c (by omega), fun j w' hj hw' => ev_ps hp hw, fun q hq => ⟨fun hn w' hw' => pg_ps_n ?_ hw (by omega), fun hn i hi => pg_ps_n ?_ hw (by omega), fun hn i hi => pg_ps_n ?_ hw (by omega)⟩, fun s hs _ w' hw' => th_ps hp hw⟩
  · subst ho
    by_cases e : q = p
    · subst e
      right
      intro e2
      subst e2
      rw [if_pos hw'] at hn
      exact hn rfl
    · exact Or.inl e
  · subst ho
    by_cases e : q = p
    · subst e
      right
      intro e2
      rw [if_neg (by omega), if_pos (by omega)] at hn
      exact hn rfl
    · exact Or.inl e
  · subst ho
    by_cases e : q = p
    · subst e
      right
      intro e2
      rw [if_neg (by omega), if_neg (by omega)] at hn
      exact hn rfl
    · exact Or.inl e
theorem agr_ts {w v : Nat} (ht : t < 8) (hw : w < 5) : AGR (ts N t w v) N (127 + t) := by
  refine ⟨fun _ => ⟨ts_c (by omega), ts_c (by omega), ts_c (by omega), ts_c (by omega), ts_c (by omega), ts_c (by omega)⟩, fun _ i hi => ts_c (by omega), fun _ i hi => ts_c (by omega), ts_c (by omega), fun j w' hj hw' => ev_ts ht hw, fun q hq => ⟨fun hn w' hw' => pg_ts hq (by omega), fun hn i hi => pg_ts hq (by omega), fun hn i hi => pg_ts hq (by omega)⟩, fun s hs hn w' hw' => th_ts_n (by omega) hw hw'⟩
theorem agr_up {k v o : Nat} (hk : k < 16) (ho : o = if k < 4 then 1 else if k < 7 then 2 else 0) : AGR (up N k v) N o := by
  refine ⟨fun hn => ?_, fun hn i hi => up_ne ?_, fun hn i hi => up_ne ?_, up_ne (by omega), fun j w' hj hw' => ev_up (by omega), fun q hq => ⟨fun hn w' hw' => pg_up (by omega), fun hn i hi => pg_up (by omega), fun hn i hi => pg_up (by omega)⟩, fun s hs hn w' hw' => th_up (by omega)⟩
  · subst ho
    have hk7 : k < 7 := Nat.lt_of_not_le (fun e => hn (by rw [if_neg (by omega), if_neg (by omega)]))
    exact ⟨up_ne (by omega), up_ne (by omega), up_ne (by omega), up_ne (by omega), up_ne (by omega), up_ne (by omega)⟩
  · intro e
    subst ho
    exact hn (by rw [if_pos (by omega)])
  · intro e
    subst ho
    exact hn (by rw [if_neg (by omega), if_pos (by omega)])
end PU
