/-! a state as a row of numbers (as the model lays it): 0..3 frames, 4 policy, 5 toll, 6 threshold, 7 time, 8 pages, 9 threads, 10 paid, 11 hops, 12 movings, 13 made, 14 given way, 15 denials, 16 events; pages, threads, events behind -/
def pg (N : Nat → Nat) (p w : Nat) : Nat := N (17 + 18 * p + w)
def ps (N : Nat → Nat) (p w v : Nat) : Nat → Nat := up N (17 + 18 * p + w) v
def th (N : Nat → Nat) (t w : Nat) : Nat := N (737 + 5 * t + w)
def ts (N : Nat → Nat) (t w v : Nat) : Nat → Nat := up N (737 + 5 * t + w) v
def ev (N : Nat → Nat) (j w : Nat) : Nat := N (777 + 4 * j + w)
section RW
variable {N : Nat → Nat} {p p' t t' w w' v c j : Nat}
theorem pg_up (h : c < 17) : pg (up N c v) p w = pg N p w := up_ne (by omega)
theorem th_up (h : c < 737) : th (up N c v) t w = th N t w := up_ne (by omega)
theorem ev_up (h : c < 777) : ev (up N c v) j w = ev N j w := up_ne (by omega)
theorem ps_c (h : c < 17) : ps N p w v c = N c := up_ne (by omega)
theorem ts_c (h : c < 737) : ts N t w v c = N c := up_ne (by omega)
theorem pg_ps_s : pg (ps N p w v) p w = v := up_at
theorem pg_ps_n (h : p' ≠ p ∨ w' ≠ w) (h1 : w < 18) (h2 : w' < 18) : pg (ps N p w v) p' w' = pg N p' w' := up_ne (by omega)
theorem th_ps (h : p < 40) (h1 : w < 18) : th (ps N p w v) t w' = th N t w' := up_ne (by omega)
theorem ev_ps (h : p < 40) (h1 : w < 18) : ev (ps N p w v) j w' = ev N j w' := up_ne (by omega)
theorem pg_ts (h : p < 40) (h1 : w' < 18) : pg (ts N t w v) p w' = pg N p w' := up_ne (by omega)
theorem ev_ts (h : t < 8) (h1 : w < 5) : ev (ts N t w v) j w' = ev N j w' := up_ne (by omega)
theorem th_ts_s : th (ts N t w v) t w = v := up_at
theorem th_ts_n (h : t' ≠ t ∨ w' ≠ w) (h1 : w < 5) (h2 : w' < 5) : th (ts N t w v) t' w' = th N t' w' := up_ne (by omega)
end RW
def bit (c h : Nat) : Nat := c / 2 ^ h % 2
def clr (c h : Nat) : Nat := c - bit c h * 2 ^ h
def stb (c h : Nat) : Nat := clr c h + 2 ^ h
theorem bit_lt {c h : Nat} : bit c h < 2 := Nat.mod_lt _ (by omega)

theorem bits_1 {c h : Nat} (hc : c < 16) (hh : h < 4) : (nI c >>> (nI h &&& 31)) &&& nI 1 = nI (bit c h) := by
  have H : (List.range 16).all (fun c => (List.range 4).all (fun h => decide ((nI c >>> (nI h &&& 31)) &&& nI 1 = nI (bit c h)))) = true := by decide +kernel
  have := List.all_eq_true.mp (List.all_eq_true.mp H c (List.mem_range.mpr hc)) h (List.mem_range.mpr hh)
  exact of_decide_eq_true this
theorem bits_2 {c h : Nat} (hc : c < 16) (hh : h < 4) : nI c &&& ((nI 1 <<< (nI h &&& 31)) ^^^ (-nI 1)) = nI (clr c h) := by
  have H : (List.range 16).all (fun c => (List.range 4).all (fun h => decide (nI c &&& ((nI 1 <<< (nI h &&& 31)) ^^^ (-nI 1)) = nI (clr c h)))) = true := by decide +kernel
  have := List.all_eq_true.mp (List.all_eq_true.mp H c (List.mem_range.mpr hc)) h (List.mem_range.mpr hh)
  exact of_decide_eq_true this
theorem bits_3 {c h : Nat} (hc : c < 16) (hh : h < 4) : nI c ||| (nI 1 <<< (nI h &&& 31)) = nI (stb c h) := by
  have H : (List.range 16).all (fun c => (List.range 4).all (fun h => decide (nI c ||| (nI 1 <<< (nI h &&& 31)) = nI (stb c h)))) = true := by decide +kernel
  have := List.all_eq_true.mp (List.all_eq_true.mp H c (List.mem_range.mpr hc)) h (List.mem_range.mpr hh)
  exact of_decide_eq_true this
theorem bits_4 {c h : Nat} (hc : c < 16) (hh : h < 4) : (nI c &&& (nI 1 <<< (nI h &&& 31)) = 0) = (bit c h = 0) := by
  have H : (List.range 16).all (fun c => (List.range 4).all (fun h => decide ((nI c &&& (nI 1 <<< (nI h &&& 31)) = 0) ↔ (bit c h = 0)))) = true := by decide +kernel
  have := List.all_eq_true.mp (List.all_eq_true.mp H c (List.mem_range.mpr hc)) h (List.mem_range.mpr hh)
  exact propext (of_decide_eq_true this)
theorem bits_5 {c h : Nat} (hc : c < 16) (hh : h < 4) : clr c h < 16 ∧ stb c h < 16 ∧ ∀ g, g < 4 → bit (clr c h) g = (if g = h then 0 else bit c g) ∧ bit (stb c h) g = (if g = h then 1 else bit c g) := by
  have H : (List.range 16).all (fun c => (List.range 4).all (fun h => decide (clr c h < 16 ∧ stb c h < 16) && (List.range 4).all (fun g => decide (bit (clr c h) g = (if g = h then 0 else bit c g) ∧ bit (stb c h) g = (if g = h then 1 else bit c g))))) = true := by decide +kernel
  have := List.all_eq_true.mp (List.all_eq_true.mp H c (List.mem_range.mpr hc)) h (List.mem_range.mpr hh)
  simp only [Bool.and_eq_true, decide_eq_true_eq, List.all_eq_true, List.mem_range] at this
  exact ⟨this.1.1, this.1.2, this.2⟩
def apt (a b : Nat) : Nat := if (if b < a then a - b else b - a) = 3 then 1 else (if b < a then a - b else b - a)
theorem apt_lt {a b : Nat} (ha : a < 4) (hb : b < 4) : apt a b < 3 := by
  unfold apt
  split <;> split at * <;> omega
theorem apt_comm (a b : Nat) : apt a b = apt b a := by
  unfold apt
  have : (if b < a then a - b else b - a) = (if a < b then b - a else a - b) := by split <;> split <;> omega
  rw [this]
theorem apt_self (a : Nat) : apt a a = 0 := by unfold apt; simp
/-- how many of the first n -/
def cnt (P : Nat → Bool) : Nat → Nat
  | 0 => 0
  | n + 1 => cnt P n + (if P n = true then 1 else 0)
theorem cnt_le (P : Nat → Bool) : ∀ n, cnt P n ≤ n
  | 0 => Nat.le_refl _
  | n + 1 => by
    have := cnt_le P n
    unfold cnt
    split <;> omega
def lyg (N : Nat → Nat) (h : Nat) : Nat := cnt (fun p => decide (pg N p 0 = h)) (N 8)
def cps (N : Nat → Nat) (h : Nat) : Nat := cnt (fun p => decide (bit (pg N p 1) h = 1)) (N 8)
/-- what bounds all that is compared -/
def WF (N : Nat → Nat) : Prop := N 8 ≤ 40 ∧ N 9 ≤ 8 ∧ N 16 ≤ 10 ∧ (∀ i, i < 4 → N i ≤ 20) ∧ N 4 ≤ 3 ∧ N 5 ≤ 99 ∧ N 6 ≤ 99 ∧ N 7 ≤ 100000 ∧ (∀ p, p < 40 → pg N p 0 < 4 ∧ pg N p 1 < 16) ∧ (∀ p w, p < 40 → w < 18 → w ≠ 7 → pg N p w ≤ 200000) ∧ ∀ t, t < 8 → th N t 0 < 4
/-- an event is told -/
def shf (N : Nat → Nat) : Nat → Nat := fun i => if 777 ≤ i ∧ i < 813 then N (i + 4) else N i
def tel0 (N : Nat → Nat) : Nat → Nat := if N 16 = 10 then up (shf N) 16 9 else N
def tel (N : Nat → Nat) (k p h : Nat) : Nat → Nat := up (up (up (up (up (tel0 N) (777 + 4 * tel0 N 16) k) (777 + 4 * tel0 N 16 + 1) p) (777 + 4 * tel0 N 16 + 2) h) (777 + 4 * tel0 N 16 + 3) (N 7)) 16 (tel0 N 16 + 1)
def pay (N : Nat → Nat) (t p c hp : Nat) : Nat → Nat :=
  up (up (ps (ts (ts N t 1 (th N t 1 + (c + hp * N 5))) t 2 (th N t 2 + hp)) p 7 (pg N p 7 + hp)) 10 (N 10 + (c + hp * N 5))) 11 (N 11 + hp)
def drp (N : Nat → Nat) (k p h : Nat) : Nat → Nat := tel (up (ps N p 1 (clr (pg N p 1) h)) 14 (N 14 + (if k = 2 then 1 else 0))) k p h
/-- the nearest of the homes below n (lowest of several); none before there is one -/
def src (N : Nat → Nat) (p h : Nat) : Nat → Option Nat
  | 0 => none
  | n + 1 => if pg N p 0 = n ∨ bit (pg N p 1) n = 1 then (match src N p h n with
    | none => some n
    | some b => if apt h n < apt h b then some n else some b) else src N p h n
/-- the page of the copy in h that gives way first, of the first n -/
def fst (N : Nat → Nat) (h : Nat) : Nat → Option Nat
  | 0 => none
  | n + 1 => if bit (pg N n 1) h = 1 then (match fst N h n with
    | none => some n
    | some b => if pg N n (14 + h) < pg N b (14 + h) then some n else some b) else fst N h n
def oI (o : Option Nat) : Int32 := match o with
  | some a => nI a
  | none => - nI 5
def full (N : Nat → Nat) (h : Nat) : Prop := N h ≤ lyg N h + cps N h



theorem nI_ltx {n : Nat} {x : Int32} (hn : n < 1000000) (h : nI (n + 1) ≤ x) : nI n < x := by
  rw [Int32.le_iff_toInt_le, nI_toInt (by omega)] at h
  rw [Int32.lt_iff_toInt_lt, nI_toInt (by omega)]
  omega
theorem nI_subx {n : Nat} {x : Int32} (hn : n < 1000000) (h : x < 0 ∨ nI n ≤ x) : x < nI 0 ∨ nI n - nI 1 < x := by
  rcases h with h | h
  · exact Or.inl h
  · right
    rw [Int32.le_iff_toInt_le, nI_toInt (by omega)] at h
    rw [Int32.lt_iff_toInt_lt, pk_sub_toInt (by omega) (by omega)]
    omega
def shx (N : Nat → Nat) (x : Nat) : Nat → Nat := fun i => if 777 ≤ i ∧ i < 777 + x then N (i + 4) else N i
theorem shx_s {N : Nat → Nat} {x : Nat} : up (shx N x) (777 + x) (shx N x (777 + x + 4)) = shx N (x + 1) := by
  funext i
  unfold up shx
  by_cases hi : i = 777 + x
  · subst hi
    rw [if_pos rfl, if_neg (by omega), if_pos (by omega)]
  · rw [if_neg hi]
    by_cases h2 : 777 ≤ i ∧ i < 777 + x
    · rw [if_pos h2, if_pos (by omega)]
    · rw [if_neg h2, if_neg (by omega)]
theorem shx_0 {N : Nat → Nat} : shx N 0 = N := by
  funext i
  unfold shx
  rw [if_neg (by omega)]
theorem shx_36 {N : Nat → Nat} : shx N 36 = shf N := rfl
theorem shf_c {N : Nat → Nat} {c : Nat} (h : c < 777) : shf N c = N c := by
  unfold shf
  rw [if_neg (by omega)]
theorem tel0_16 {N : Nat → Nat} (h : N 16 ≤ 10) : tel0 N 16 ≤ 9 := by
  unfold tel0
  split
  · rw [up_at]; omega
  · omega
theorem tel0_c {N : Nat → Nat} {c : Nat} (h : c < 777) (h2 : c ≠ 16) : tel0 N c = N c := by
  unfold tel0
  split
  · rw [up_ne h2, shf_c h]
  · rfl
theorem tel_c {N : Nat → Nat} {k p h c : Nat} (hc : c < 777) (h2 : c ≠ 16) (h16 : N 16 ≤ 10) : tel N k p h c = N c := by
  have := tel0_16 h16
  unfold tel
  rw [up_ne h2, up_ne (by omega), up_ne (by omega), up_ne (by omega), up_ne (by omega), tel0_c hc h2]
