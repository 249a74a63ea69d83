theorem wf_8 {N : Nat → Nat} {v : Nat} (o : WF N) (h : v ≤ 40) : WF (up N 8 v) := by
  obtain ⟨a1, a2, a3, a4, a5, a6, a7, a8, a9, a10, a11⟩ := o
  exact ⟨by rw [up_at]; exact h, by rw [up_ne (by omega)]; exact a2, by rw [up_ne (by omega)]; exact a3, fun i hi => by rw [up_ne (by omega)]; exact a4 i hi, by rw [up_ne (by omega)]; exact a5, by rw [up_ne (by omega)]; exact a6, by rw [up_ne (by omega)]; exact a7, by rw [up_ne (by omega)]; exact a8, fun q hq => by rw [pg_up (by omega), pg_up (by omega)]; exact a9 q hq, fun q w hq hw h7 => by rw [pg_up (by omega)]; exact a10 q w hq hw h7, fun t ht => by rw [th_up (by omega)]; exact a11 t ht⟩
theorem wf_9 {N : Nat → Nat} {v : Nat} (o : WF N) (h : v ≤ 8) : WF (up N 9 v) := by
  obtain ⟨a1, a2, a3, a4, a5, a6, a7, a8, a9, a10, a11⟩ := o
  exact ⟨by rw [up_ne (by omega)]; exact a1, by rw [up_at]; exact h, by rw [up_ne (by omega)]; exact a3, fun i hi => by rw [up_ne (by omega)]; exact a4 i hi, by rw [up_ne (by omega)]; exact a5, by rw [up_ne (by omega)]; exact a6, by rw [up_ne (by omega)]; exact a7, by rw [up_ne (by omega)]; exact a8, fun q hq => by rw [pg_up (by omega), pg_up (by omega)]; exact a9 q hq, fun q w hq hw h7 => by rw [pg_up (by omega)]; exact a10 q w hq hw h7, fun t ht => by rw [th_up (by omega)]; exact a11 t ht⟩
theorem PI.new {T hm : Nat} {f : Nat → Nat} (h0 : f 0 = hm) (h : ∀ w, 0 < w → w < 18 → f w = 0) : PI T 0 0 f := by
  have b : ∀ w, w ≠ 0 → w < 18 → f w = 0 := fun w a c => h w (by omega) c
  refine ⟨by rw [b 2 (by omega) (by omega)]; omega, by rw [b 3 (by omega) (by omega)]; omega, by rw [b 8 (by omega) (by omega)]; omega, by rw [b 9 (by omega) (by omega)]; omega, by rw [b 4 (by omega) (by omega)]; omega, by rw [b 5 (by omega) (by omega)]; omega, fun x hx => by rw [b (10 + x) (by omega) (by omega)]; omega, ?_, ?_, ?_, ?_⟩
  · rw [b 1 (by omega) (by omega)]
    unfold bit
    rw [Nat.zero_div]
  · rw [b 4 (by omega) (by omega), b 3 (by omega) (by omega)]
  · rw [b 8 (by omega) (by omega), b 5 (by omega) (by omega)]
    omega
  · rw [b 9 (by omega) (by omega), b 5 (by omega) (by omega)]
    omega
theorem sif0 {p q : Nat} : sif p 0 q = 0 := by unfold sif; split <;> rfl
theorem iw_add {N : Nat → Nat} {hm : Nat} (o : IW N 0 0 0) (hp : N 8 < 40) (hh : hm < 4) : IW (up (ps N (N 8) 0 hm) 8 (N 8 + 1)) 0 0 0 := by
  have h9 := o.1.2.1
  have e : ∀ q w, q < 40 → w < 18 → pg (up (ps N (N 8) 0 hm) 8 (N 8 + 1)) q w = if q = N 8 ∧ w = 0 then hm else pg N q w := fun q w hq hw => by
    rw [pg_up (by omega)]
    by_cases c : q = N 8 ∧ w = 0
    · rw [if_pos c, c.1, c.2, pg_ps_s]
    · rw [if_neg c, pg_ps_n (by omega) (by omega) hw]
  have t : ∀ s w, s < 8 → w < 5 → th (up (ps N (N 8) 0 hm) 8 (N 8 + 1)) s w = th N s w := fun s w hs hw => by
    rw [th_up (by omega), th_ps (by omega) (by omega)]
  have c : ∀ c, c < 17 → c ≠ 8 → up (ps N (N 8) 0 hm) 8 (N 8 + 1) c = N c := fun c hc h8 => by
    rw [up_ne h8, ps_c hc]
  refine ⟨wf_8 (WF_ps o.1 hp (by omega) (fun _ => hh) (by omega) (fun _ => by omega)) (by omega), fun q hq => ?_, ⟨fun q w h1 h2 h3 => ?_, fun s w h1 h2 h3 => ?_⟩, ?_, ?_, ?_⟩
  · rw [c 7 (by omega) (by omega), sif0]
    by_cases eq : q = N 8
    · refine PI.new (hm := hm) (by rw [e q 0 hq (by omega), if_pos ⟨eq, rfl⟩]) (fun w w0 hw => ?_)
      rw [e q w hq hw, if_neg (by omega)]
      exact o.2.2.1.1 q w (by omega) hq hw
    · have := o.2.1 q hq
      rw [sif0] at this
      exact this.congr (fun w h1 h2 h3 => by rw [e q w hq (by omega), if_neg (by omega)])
  · rw [up_at] at h1
    rw [e q w h2 h3, if_neg (by omega)]
    exact o.2.2.1.1 q w (by omega) h2 h3
  · rw [c 9 (by omega) (by omega)] at h1
    rw [t s w h2 h3]
    exact o.2.2.1.2 s w h1 h2 h3
  · rw [c 10 (by omega) (by omega), c 9 (by omega) (by omega), o.2.2.2.1]
    exact sm4_congr (fun i hi => (t i 1 (by omega) (by omega)).symm)
  · rw [c 11 (by omega) (by omega), c 9 (by omega) (by omega), o.2.2.2.2.1]
    exact sm4_congr (fun i hi => (t i 2 (by omega) (by omega)).symm)
  · rw [c 12 (by omega) (by omega), up_at, o.2.2.2.2.2]
    show _ = sm4 _ (N 8) + _
    dsimp only
    rw [e (N 8) 5 hp (by omega), if_neg (by omega), o.2.2.1.1 (N 8) 5 (by omega) hp (by omega)]
    exact sm4_congr (fun i hi => by rw [e i 5 (by omega) (by omega), if_neg (by omega)])
theorem iw_addT {N : Nat → Nat} {hm : Nat} (o : IW N 0 0 0) (hp : N 9 < 8) (hh : hm < 4) : IW (up (ts N (N 9) 0 hm) 9 (N 9 + 1)) 0 0 0 := by
  have h8 := o.1.1
  have e : ∀ s w, s < 8 → w < 5 → th (up (ts N (N 9) 0 hm) 9 (N 9 + 1)) s w = if s = N 9 ∧ w = 0 then hm else th N s w := fun q w hq hw => by
    rw [th_up (by omega)]
    by_cases c : q = N 9 ∧ w = 0
    · rw [if_pos c, c.1, c.2, th_ts_s]
    · rw [if_neg c, th_ts_n (by omega) (by omega) hw]
  have t : ∀ s w, s < 40 → w < 18 → pg (up (ts N (N 9) 0 hm) 9 (N 9 + 1)) s w = pg N s w := fun s w hs hw => by
    rw [pg_up (by omega), pg_ts hs hw]
  have c : ∀ c, c < 17 → c ≠ 9 → up (ts N (N 9) 0 hm) 9 (N 9 + 1) c = N c := fun c hc h8 => by
    rw [up_ne h8, ts_c (by omega)]
  refine ⟨wf_9 (WF_ts o.1 hp (by omega) (fun _ => hh)) (by omega), fun q hq => ?_, ⟨fun q w h1 h2 h3 => ?_, fun s w h1 h2 h3 => ?_⟩, ?_, ?_, ?_⟩
  · rw [c 7 (by omega) (by omega)]
    exact (o.2.1 q hq).congr (fun w h1 h2 h3 => t q w hq (by omega))
  · rw [c 8 (by omega) (by omega)] at h1
    rw [t q w h2 h3]
    exact o.2.2.1.1 q w h1 h2 h3
  · rw [up_at] at h1
    rw [e s w h2 h3, if_neg (by omega)]
    exact o.2.2.1.2 s w (by omega) h2 h3
  · rw [c 10 (by omega) (by omega), up_at, o.2.2.2.1]
    show _ = sm4 _ (N 9) + _
    dsimp only
    rw [e (N 9) 1 hp (by omega), if_neg (by omega), o.2.2.1.2 (N 9) 1 (by omega) hp (by omega)]
    exact sm4_congr (fun i hi => by rw [e i 1 (by omega) (by omega), if_neg (by omega)])
  · rw [c 11 (by omega) (by omega), up_at, o.2.2.2.2.1]
    show _ = sm4 _ (N 9) + _
    dsimp only
    rw [e (N 9) 2 hp (by omega), if_neg (by omega), o.2.2.1.2 (N 9) 2 (by omega) hp (by omega)]
    exact sm4_congr (fun i hi => by rw [e i 2 (by omega) (by omega), if_neg (by omega)])
  · rw [c 12 (by omega) (by omega), c 8 (by omega) (by omega), o.2.2.2.2.2]
    exact sm4_congr (fun i hi => (t i 5 (by omega) (by omega)).symm)
theorem iw_hal {N : Nat → Nat} (o : IW N 0 0 0) : IW (hal N (N 8)) 0 0 0 := by
  have h8 := o.1.1
  have h9 := o.1.2.1
  obtain ⟨a1, a2, a3, a4⟩ := hal_keep o.1 (N 8) h8
  have e : ∀ q w, q < 40 → w < 18 → w < 10 ∨ 14 ≤ w → pg (hal N (N 8)) q w = pg N q w := fun q w hq hw hn => by rw [a3 q w hq hw, if_neg (by omega)]
  refine ⟨a1, fun q hq => ?_, ⟨fun q w h1 h2 h3 => ?_, fun s w h1 h2 h3 => ?_⟩, ?_, ?_, ?_⟩
  · rw [a2 7 (by omega)]
    obtain ⟨b1, b2, b3, b4, b5, b6, b7, b8, b9, b10, b11⟩ := o.2.1 q hq
    refine ⟨?_, ?_, ?_, ?_, ?_, ?_, fun x hx => ?_, ?_, ?_, ?_, ?_⟩
    · rw [e q 2 hq (by omega) (by omega)]; exact b1
    · rw [e q 3 hq (by omega) (by omega), e q 2 hq (by omega) (by omega)]; exact b2
    · rw [e q 8 hq (by omega) (by omega), e q 2 hq (by omega) (by omega)]; exact b3
    · rw [e q 9 hq (by omega) (by omega), e q 2 hq (by omega) (by omega)]; exact b4
    · rw [e q 4 hq (by omega) (by omega), e q 2 hq (by omega) (by omega)]; exact b5
    · rw [e q 5 hq (by omega) (by omega), e q 2 hq (by omega) (by omega)]; exact b6
    · have := b7 x hx
      rw [a3 q (10 + x) hq (by omega)]
      split <;> omega
    · rw [e q 1 hq (by omega) (by omega), e q 0 hq (by omega) (by omega)]; exact b8
    · rw [e q 4 hq (by omega) (by omega), e q 3 hq (by omega) (by omega)]; exact b9
    · rw [e q 8 hq (by omega) (by omega), e q 5 hq (by omega) (by omega)]; exact b10
    · rw [e q 9 hq (by omega) (by omega), e q 5 hq (by omega) (by omega)]; exact b11
  · rw [a2 8 (by omega)] at h1
    rw [a3 q w h2 h3, if_neg (by omega)]
    exact o.2.2.1.1 q w h1 h2 h3
  · rw [a2 9 (by omega)] at h1
    rw [a4 s w h2 h3]
    exact o.2.2.1.2 s w h1 h2 h3
  · rw [a2 10 (by omega), a2 9 (by omega), o.2.2.2.1]
    exact sm4_congr (fun i hi => (a4 i 1 (by omega) (by omega)).symm)
  · rw [a2 11 (by omega), a2 9 (by omega), o.2.2.2.2.1]
    exact sm4_congr (fun i hi => (a4 i 2 (by omega) (by omega)).symm)
  · rw [a2 12 (by omega), a2 8 (by omega), o.2.2.2.2.2]
    exact sm4_congr (fun i hi => (e i 5 (by omega) (by omega) (by omega)).symm)
theorem N0_z {c : Nat} (h : 7 ≤ c) : N0 c = 0 := by
  unfold N0
  rw [up_ne (by omega), up_ne (by omega)]
  exact N4_z (by omega)
theorem iw_N0 : IW N0 0 0 0 := by
  have p : ∀ q w, pg N0 q w = 0 := fun q w => N0_z (by omega)
  have t : ∀ q w, th N0 q w = 0 := fun q w => N0_z (by omega)
  have z : ∀ c, 7 ≤ c → N0 c = 0 := fun c h => N0_z h
  refine ⟨⟨by rw [z 8 (by omega)]; omega, by rw [z 9 (by omega)]; omega, by rw [z 16 (by omega)]; omega, fun i hi => ?_, ?_, ?_, ?_, by rw [z 7 (by omega)]; omega, fun q hq => by rw [p, p]; omega, fun q w _ _ _ => by rw [p]; omega, fun s hs => by rw [t]; omega⟩, fun q hq => ?_, ⟨fun q w _ _ _ => p q w, fun s w _ _ _ => t s w⟩, ?_, ?_, ?_⟩
  · rcases (show i = 0 ∨ i = 1 ∨ i = 2 ∨ i = 3 by omega) with rfl | rfl | rfl | rfl <;> decide
  · decide
  · decide
  · decide
  · rw [sif0]
    exact PI.new (p q 0) (fun w _ _ => p q w)
  · rw [z 10 (by omega), z 9 (by omega)]; rfl
  · rw [z 11 (by omega), z 9 (by omega)]; rfl
  · rw [z 12 (by omega), z 8 (by omega)]; rfl
/-- a state that stands after n calls -/
def GD (n : Nat) (N : Nat → Nat) (r : Nat) : Prop := IW N 0 0 0 ∧ RO N r ∧ N 7 ≤ 15 * n
theorem GD.mono {n m : Nat} {N : Nat → Nat} {r : Nat} (g : GD n N r) (h : n ≤ m) : GD m N r := ⟨g.1, g.2.1, by have := g.2.2; omega⟩
/-- the two worlds beside each other after n calls -/
def WO (n : Nat) (NN : Nat → Nat → Nat) (RR : Nat → Nat) (hs sz : Nat) (pi Tx : Nat → Nat) (L : Nat) (N : Nat → Nat) (r : Nat) (Hi Sl : Nat → Nat) : Prop :=
  GD n N r ∧ L ≤ 60 ∧ (∀ i, i < 60 → Tx i < 65536) ∧ sz ≤ 4 ∧ hs ≤ 1 ∧ (∀ i, i < 4 → pi i < 4) ∧ (∀ i j, i < 4 → j < 4 → pi i = pi j → i = j) ∧ (∀ i, i < sz → GD n (NN (3 + pi i)) (RR (3 + pi i)) ∧ ∀ c, c < 817 → Hi (817 * i + c) = NN (3 + pi i) c) ∧ (hs = 1 → GD n (NN 2) (RR 2) ∧ ∀ c, c < 817 → Sl c = NN 2 c)
section WO
variable {n hs sz L r r' : Nat} {NN : Nat → Nat → Nat} {RR pi Tx N N' Hi Sl : Nat → Nat}
theorem WO.now (w : WO n NN RR hs sz pi Tx L N r Hi Sl) {m : Nat} (h : n ≤ m) (g : GD m N' r') : WO m NN RR hs sz pi Tx L N' r' Hi Sl := by
  obtain ⟨w1, w2, w3, w4, w5, w6, w7, w8, w9⟩ := w
  exact ⟨g, w2, w3, w4, w5, w6, w7, fun i hi => ⟨(w8 i hi).1.mono h, (w8 i hi).2⟩, fun e => ⟨(w9 e).1.mono h, (w9 e).2⟩⟩
theorem WO.step (w : WO n NN RR hs sz pi Tx L N r Hi Sl) : WO (n + 1) NN RR hs sz pi Tx L N r Hi Sl := w.now (by omega) (w.1.mono (by omega))
theorem WO.try {NN' : Nat → Nat → Nat} {RR' : Nat → Nat} (w : WO n NN RR hs sz pi Tx L N r Hi Sl) (e1 : ∀ j, j ≠ 1 → NN' j = NN j) (e2 : ∀ j, j ≠ 1 → RR' j = RR j) : WO (n + 1) NN' RR' hs sz pi Tx L N r Hi Sl := by
  obtain ⟨w1, w2, w3, w4, w5, w6, w7, w8, w9⟩ := w.step
  refine ⟨w1, w2, w3, w4, w5, w6, w7, fun i hi => ?_, fun e => ?_⟩
  · rw [e1 _ (by omega), e2 _ (by omega)]
    exact w8 i hi
  · rw [e1 _ (by omega), e2 _ (by omega)]
    exact w9 e
theorem rpi_inj (h6 : ∀ i, i < 4 → pi i < 4) (h7 : ∀ i j, i < 4 → j < 4 → pi i = pi j → i = j) : ∀ i j, i < 4 → j < 4 → rpi sz pi i = rpi sz pi j → i = j := by
  unfold rpi
  split
  · have e : ∀ i, i < 4 → rotp pi i = pi ((i + 1) % 4) := fun i hi => by
      rcases (show i = 0 ∨ i = 1 ∨ i = 2 ∨ i = 3 by omega) with rfl | rfl | rfl | rfl <;> rfl
    intro i j hi hj h
    rw [e i hi, e j hj] at h
    have := h7 _ _ (by omega) (by omega) h
    omega
  · exact h7
theorem WO.rec (w : WO n NN RR hs sz pi Tx L N r Hi Sl) (g : GD (n + 1) N' r') : WO (n + 1) (uN NN (3 + rpi sz pi (rk sz)) N) (up RR (3 + rpi sz pi (rk sz)) r) hs (rk sz + 1) (rpi sz pi) Tx L N' r' (recH Hi sz N) Sl := by
  obtain ⟨w1, w2, w3, w4, w5, w6, w7, w8, w9⟩ := w.step
  have hrk : rk sz < 4 := by unfold rk; split <;> omega
  refine ⟨g, w2, w3, by omega, w5, rpi_lt w6, rpi_inj w6 w7, fun i hi => ?_, fun e => ?_⟩
  · by_cases e : i = rk sz
    · subst e
      rw [uN_at, up_at]
      refine ⟨w1, fun c hc => ?_⟩
      unfold recH stH
      rw [if_pos (by omega), show 817 * rk sz + c - 817 * rk sz = c by omega]
    · have hne : 3 + rpi sz pi i ≠ 3 + rpi sz pi (rk sz) := fun z => e (rpi_inj (sz := sz) w6 w7 i (rk sz) (by omega) hrk (by omega))
      rw [uN_ne hne, up_ne hne]
      have hin : i < rk sz := by omega
      by_cases c4 : sz = 4
      · have hr : rk sz = 3 := by unfold rk; rw [if_pos c4]
        have hp : rpi sz pi i = pi (i + 1) := by
          unfold rpi
          rw [if_pos c4]
          rcases (show i = 0 ∨ i = 1 ∨ i = 2 by omega) with rfl | rfl | rfl <;> rfl
        rw [hp]
        have := w8 (i + 1) (by omega)
        refine ⟨this.1, fun c hc => ?_⟩
        rw [← this.2 c hc]
        unfold recH stH shH
        rw [hr, if_neg (by omega), if_pos c4, if_pos (by omega), show 817 * i + c + 817 = 817 * (i + 1) + c by omega]
      · have hr : rk sz = sz := by unfold rk; rw [if_neg c4]
        have hp : rpi sz pi i = pi i := by
          unfold rpi
          rw [if_neg c4]
        rw [hp]
        have := w8 i (by omega)
        refine ⟨this.1, fun c hc => ?_⟩
        rw [← this.2 c hc]
        unfold recH stH
        rw [hr, if_neg (by omega), if_neg c4]
  · have hne : (2 : Nat) ≠ 3 + rpi sz pi (rk sz) := by omega
    rw [uN_ne hne, up_ne hne]
    exact w9 e
theorem WO.undo (w : WO n NN RR hs sz pi Tx L N r Hi Sl) (h : sz ≠ 0) : WO (n + 1) NN RR hs (sz - 1) pi Tx L (NN (3 + pi (sz - 1))) (RR (3 + pi (sz - 1))) Hi Sl := by
  obtain ⟨w1, w2, w3, w4, w5, w6, w7, w8, w9⟩ := w.step
  exact ⟨(w8 (sz - 1) (by omega)).1, w2, w3, by omega, w5, w6, w7, fun i hi => w8 i (by omega), w9⟩
theorem WO.keep (w : WO n NN RR hs sz pi Tx L N r Hi Sl) : WO (n + 1) (uN NN 2 N) (up RR 2 r) 1 sz pi Tx L N r Hi (cpN Sl N 817) := by
  obtain ⟨w1, w2, w3, w4, w5, w6, w7, w8, w9⟩ := w.step
  refine ⟨w1, w2, w3, w4, by omega, w6, w7, fun i hi => ?_, fun _ => ?_⟩
  · have hne : 3 + pi i ≠ 2 := by omega
    rw [uN_ne hne, up_ne hne]
    exact w8 i hi
  · rw [uN_at, up_at]
    exact ⟨w1, fun c hc => cpN_at hc⟩
theorem WO.text {Tx' : Nat → Nat} {L' : Nat} (w : WO n NN RR hs sz pi Tx L N r Hi Sl) (h60 : L' ≤ 60) (hT : ∀ i, i < 60 → Tx' i < 65536) : WO (n + 1) NN RR hs sz pi Tx' L' N r Hi Sl := by
  obtain ⟨w1, w2, w3, w4, w5, w6, w7, w8, w9⟩ := w.step
  exact ⟨w1, h60, hT, w4, w5, w6, w7, w8, w9⟩
end WO
theorem wo_0 : WO 0 (fun _ => N0) (fun _ => 0) 0 0 (fun i => i) Z0 0 N0 0 Z0 Z0 :=
  ⟨⟨iw_N0, ⟨by rw [N0_z (by omega)]; omega, by omega, fun _ => rfl⟩, by rw [N0_z (by omega)]; omega⟩, by omega, fun i _ => by show 0 < 65536; omega, by omega, by omega, fun i hi => hi, fun i j _ _ h => h, fun i hi => absurd hi (by omega), fun h => absurd h (by omega)⟩
/-- the heap after n calls -/
def INV (n : Nat) (H : AHp) : Prop := ∃ (g : AHp) (NN : Nat → Nat → Nat) (RR : Nat → Nat) (hs sz : Nat) (pi Tx : Nat → Nat) (L : Nat) (K R T : Nat → Nat) (S : Nat) (N : Nat → Nat) (r : Nat) (Hi Sl Sp : Nat → Nat) (a kk tt nn : Nat), H = CW (pm g N Hi Sl Sp Tx (zf sz hs L a kk tt nn)) NN RR hs sz pi Tx L K R T S N r ∧ WO n NN RR hs sz pi Tx L N r Hi Sl
def PR (sc : SC) (c m : Nat) (as : List Value) (n : Nat) (H : AHp) : Prop := RUN sc c (.ref 0 :: as) H (fun r1 H1 => ∃ z, r1 = some (.int z) ∧ (∃ fs, H1.2 953 = .inr (.inr (7, fs))) ∧ RUN sc m (.ref 953 :: as) H1 (fun r2 H2 => r2 = some (.int z) ∧ INV (n + 1) H2))
section PX
variable {sc : SC} {n m hs sz L L' S r : Nat} {z : Int32} {as : List Value} {NN : Nat → Nat → Nat} {RR pi Tx Tx' K R T N M Hi Sl Sp Z : Nat → Nat} {g : AHp}
theorem pr_mk (k : RUN sc m (.ref 953 :: as) (pm (CW g NN RR hs sz pi Tx L K R T S N r) M Hi Sl Sp Tx' Z) (fun r2 H2 => r2 = some (.int z) ∧ INV (n + 1) H2)) : ∃ z', some (Value.int z) = some (.int z') ∧ (∃ fs, (CW (pm g M Hi Sl Sp Tx' Z) NN RR hs sz pi Tx L K R T S N r).2 953 = .inr (.inr (7, fs))) ∧ RUN sc m (.ref 953 :: as) (CW (pm g M Hi Sl Sp Tx' Z) NN RR hs sz pi Tx L K R T S N r) (fun r2 H2 => r2 = some (.int z') ∧ INV (n + 1) H2) :=
  ⟨z, rfl, by rw [cw_pm]; exact ⟨_, pm_0⟩, by rw [cw_pm]; exact k⟩
theorem inv_mk (h2 : Z 2 = sz) (h4 : Z 4 = hs) (h6 : Z 6 = L) (w : WO (n + 1) NN RR hs sz pi Tx L N r Hi Sl) : some (Value.int z) = some (.int z) ∧ INV (n + 1) (pm (CW g NN RR hs sz pi Tx L K R T S N r) N Hi Sl Sp Tx Z) := by
  refine ⟨rfl, g, NN, RR, hs, sz, pi, Tx, L, K, R, T, S, N, r, Hi, Sl, Sp, Z 8, Z 9, Z 10, Z 11, ?_, w⟩
  rw [pm_zf, h2, h4, h6, cw_pm]
end PX
