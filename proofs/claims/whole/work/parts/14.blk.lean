/-! entering a method, entering a block (printed) -/
section EB
variable {sc : SC} {h : AHp} {Q : PT} {u v : Nat} {ls st : List Value}
theorem r0 {a0 : Value} (H : B sc 541 3960 none (fun b' u' v' ls' st' h' => E sc 0 b' u' v' ls' st' h' Q) (RUN sc) Q 1 k0_0 0 0 [a0, .long 0] [] h) : RUN sc 0 [a0] h Q := E_blk k0_0 1 rfl rfl rfl rfl H
theorem e0_0 (H : B sc 541 3960 none (fun b' u' v' ls' st' h' => E sc 0 b' u' v' ls' st' h' Q) (RUN sc) Q 1 k0_0 u v ls st h) : E sc 0 0 u v ls st h Q := E_blk k0_0 1 rfl rfl rfl rfl H
theorem e0_1 (H : B sc 541 3960 none (fun b' u' v' ls' st' h' => E sc 0 b' u' v' ls' st' h' Q) (RUN sc) Q 0 k0_1 u v ls st h) : E sc 0 1 u v ls st h Q := E_blk k0_1 0 rfl rfl rfl rfl H
theorem e0_2 (H : B sc 541 3960 none (fun b' u' v' ls' st' h' => E sc 0 b' u' v' ls' st' h' Q) (RUN sc) Q 0 k0_2 u v ls st h) : E sc 0 2 u v ls st h Q := E_blk k0_2 0 rfl rfl rfl rfl H
theorem r1 {a0 a1 : Value} (H : B sc 0 0 none (fun b' u' v' ls' st' h' => E sc 1 b' u' v' ls' st' h' Q) (RUN sc) Q 1 k1_0 0 0 [a0, a1] [] h) : RUN sc 1 [a0, a1] h Q := E_blk k1_0 1 rfl rfl rfl rfl H
theorem e1_0 (H : B sc 0 0 none (fun b' u' v' ls' st' h' => E sc 1 b' u' v' ls' st' h' Q) (RUN sc) Q 1 k1_0 u v ls st h) : E sc 1 0 u v ls st h Q := E_blk k1_0 1 rfl rfl rfl rfl H
theorem e1_1 (H : B sc 0 0 none (fun b' u' v' ls' st' h' => E sc 1 b' u' v' ls' st' h' Q) (RUN sc) Q 0 k1_1 u v ls st h) : E sc 1 1 u v ls st h Q := E_blk k1_1 0 rfl rfl rfl rfl H
theorem r2 {a0 : Value} (H : B sc 0 0 none (fun b' u' v' ls' st' h' => E sc 2 b' u' v' ls' st' h' Q) (RUN sc) Q 1 k2_0 0 0 [a0, .long 0, .long 0] [] h) : RUN sc 2 [a0] h Q := E_blk k2_0 1 rfl rfl rfl rfl H
theorem e2_0 (H : B sc 0 0 none (fun b' u' v' ls' st' h' => E sc 2 b' u' v' ls' st' h' Q) (RUN sc) Q 1 k2_0 u v ls st h) : E sc 2 0 u v ls st h Q := E_blk k2_0 1 rfl rfl rfl rfl H
theorem e2_1 (H : B sc 0 0 none (fun b' u' v' ls' st' h' => E sc 2 b' u' v' ls' st' h' Q) (RUN sc) Q 0 k2_1 u v ls st h) : E sc 2 1 u v ls st h Q := E_blk k2_1 0 rfl rfl rfl rfl H
theorem e2_2 (H : B sc 0 0 none (fun b' u' v' ls' st' h' => E sc 2 b' u' v' ls' st' h' Q) (RUN sc) Q 0 k2_2 u v ls st h) : E sc 2 2 u v ls st h Q := E_blk k2_2 0 rfl rfl rfl rfl H
theorem r3 {a0 a1 : Value} (H : B sc 0 0 none (fun b' u' v' ls' st' h' => E sc 3 b' u' v' ls' st' h' Q) (RUN sc) Q 1 k3_0 0 0 [a0, a1] [] h) : RUN sc 3 [a0, a1] h Q := E_blk k3_0 1 rfl rfl rfl rfl H
theorem e3_0 (H : B sc 0 0 none (fun b' u' v' ls' st' h' => E sc 3 b' u' v' ls' st' h' Q) (RUN sc) Q 1 k3_0 u v ls st h) : E sc 3 0 u v ls st h Q := E_blk k3_0 1 rfl rfl rfl rfl H
theorem e3_1 (H : B sc 0 0 none (fun b' u' v' ls' st' h' => E sc 3 b' u' v' ls' st' h' Q) (RUN sc) Q 0 k3_1 u v ls st h) : E sc 3 1 u v ls st h Q := E_blk k3_1 0 rfl rfl rfl rfl H
theorem r4 {a0 : Value} (H : B sc 1 40 none (fun b' u' v' ls' st' h' => E sc 4 b' u' v' ls' st' h' Q) (RUN sc) Q 0 k4_0 0 0 [a0] [] h) : RUN sc 4 [a0] h Q := E_blk k4_0 0 rfl rfl rfl rfl H
theorem e4_0 (H : B sc 1 40 none (fun b' u' v' ls' st' h' => E sc 4 b' u' v' ls' st' h' Q) (RUN sc) Q 0 k4_0 u v ls st h) : E sc 4 0 u v ls st h Q := E_blk k4_0 0 rfl rfl rfl rfl H
theorem r5 {a0 a1 : Value} (H : B sc 0 0 none (fun b' u' v' ls' st' h' => E sc 5 b' u' v' ls' st' h' Q) (RUN sc) Q 0 k5_0 0 0 [a0, a1] [] h) : RUN sc 5 [a0, a1] h Q := E_blk k5_0 0 rfl rfl rfl rfl H
theorem e5_0 (H : B sc 0 0 none (fun b' u' v' ls' st' h' => E sc 5 b' u' v' ls' st' h' Q) (RUN sc) Q 0 k5_0 u v ls st h) : E sc 5 0 u v ls st h Q := E_blk k5_0 0 rfl rfl rfl rfl H
theorem r6 {a0 a1 a2 a3 a4 : Value} (H : B sc 0 0 none (fun b' u' v' ls' st' h' => E sc 6 b' u' v' ls' st' h' Q) (RUN sc) Q 1 k6_0 0 0 [a0, a1, a2, a3, a4, .long 0] [] h) : RUN sc 6 [a0, a1, a2, a3, a4] h Q := E_blk k6_0 1 rfl rfl rfl rfl H
theorem e6_0 (H : B sc 0 0 none (fun b' u' v' ls' st' h' => E sc 6 b' u' v' ls' st' h' Q) (RUN sc) Q 1 k6_0 u v ls st h) : E sc 6 0 u v ls st h Q := E_blk k6_0 1 rfl rfl rfl rfl H
theorem e6_1 (H : B sc 0 0 none (fun b' u' v' ls' st' h' => E sc 6 b' u' v' ls' st' h' Q) (RUN sc) Q 0 k6_1 u v ls st h) : E sc 6 1 u v ls st h Q := E_blk k6_1 0 rfl rfl rfl rfl H
theorem r7 {a0 a1 a2 : Value} (H : B sc 0 0 (some .int) (fun b' u' v' ls' st' h' => E sc 7 b' u' v' ls' st' h' Q) (RUN sc) Q 0 k7_0 0 0 [a0, a1, a2, .long 0] [] h) : RUN sc 7 [a0, a1, a2] h Q := E_blk k7_0 0 rfl rfl rfl rfl H
theorem e7_0 (H : B sc 0 0 (some .int) (fun b' u' v' ls' st' h' => E sc 7 b' u' v' ls' st' h' Q) (RUN sc) Q 0 k7_0 u v ls st h) : E sc 7 0 u v ls st h Q := E_blk k7_0 0 rfl rfl rfl rfl H
theorem r8 {a0 : Value} (H : B sc 134 978 none (fun b' u' v' ls' st' h' => E sc 8 b' u' v' ls' st' h' Q) (RUN sc) Q 1 k8_0 0 0 [a0, .long 0] [] h) : RUN sc 8 [a0] h Q := E_blk k8_0 1 rfl rfl rfl rfl H
theorem e8_0 (H : B sc 134 978 none (fun b' u' v' ls' st' h' => E sc 8 b' u' v' ls' st' h' Q) (RUN sc) Q 1 k8_0 u v ls st h) : E sc 8 0 u v ls st h Q := E_blk k8_0 1 rfl rfl rfl rfl H
theorem e8_1 (H : B sc 134 978 none (fun b' u' v' ls' st' h' => E sc 8 b' u' v' ls' st' h' Q) (RUN sc) Q 0 k8_1 u v ls st h) : E sc 8 1 u v ls st h Q := E_blk k8_1 0 rfl rfl rfl rfl H
theorem e8_2 (H : B sc 134 978 none (fun b' u' v' ls' st' h' => E sc 8 b' u' v' ls' st' h' Q) (RUN sc) Q 3 k8_2 u v ls st h) : E sc 8 2 u v ls st h Q := E_blk k8_2 3 rfl rfl rfl rfl H
theorem e8_3 (H : B sc 134 978 none (fun b' u' v' ls' st' h' => E sc 8 b' u' v' ls' st' h' Q) (RUN sc) Q 0 k8_3 u v ls st h) : E sc 8 3 u v ls st h Q := E_blk k8_3 0 rfl rfl rfl rfl H
theorem e8_4 (H : B sc 134 978 none (fun b' u' v' ls' st' h' => E sc 8 b' u' v' ls' st' h' Q) (RUN sc) Q 5 k8_4 u v ls st h) : E sc 8 4 u v ls st h Q := E_blk k8_4 5 rfl rfl rfl rfl H
theorem e8_5 (H : B sc 134 978 none (fun b' u' v' ls' st' h' => E sc 8 b' u' v' ls' st' h' Q) (RUN sc) Q 0 k8_5 u v ls st h) : E sc 8 5 u v ls st h Q := E_blk k8_5 0 rfl rfl rfl rfl H
theorem e8_6 (H : B sc 134 978 none (fun b' u' v' ls' st' h' => E sc 8 b' u' v' ls' st' h' Q) (RUN sc) Q 0 k8_6 u v ls st h) : E sc 8 6 u v ls st h Q := E_blk k8_6 0 rfl rfl rfl rfl H
theorem r9 {a0 a1 : Value} (H : B sc 0 0 none (fun b' u' v' ls' st' h' => E sc 9 b' u' v' ls' st' h' Q) (RUN sc) Q 1 k9_0 0 0 [a0, a1, .long 0] [] h) : RUN sc 9 [a0, a1] h Q := E_blk k9_0 1 rfl rfl rfl rfl H
theorem e9_0 (H : B sc 0 0 none (fun b' u' v' ls' st' h' => E sc 9 b' u' v' ls' st' h' Q) (RUN sc) Q 1 k9_0 u v ls st h) : E sc 9 0 u v ls st h Q := E_blk k9_0 1 rfl rfl rfl rfl H
theorem e9_1 (H : B sc 0 0 none (fun b' u' v' ls' st' h' => E sc 9 b' u' v' ls' st' h' Q) (RUN sc) Q 0 k9_1 u v ls st h) : E sc 9 1 u v ls st h Q := E_blk k9_1 0 rfl rfl rfl rfl H
theorem e9_2 (H : B sc 0 0 none (fun b' u' v' ls' st' h' => E sc 9 b' u' v' ls' st' h' Q) (RUN sc) Q 3 k9_2 u v ls st h) : E sc 9 2 u v ls st h Q := E_blk k9_2 3 rfl rfl rfl rfl H
theorem e9_3 (H : B sc 0 0 none (fun b' u' v' ls' st' h' => E sc 9 b' u' v' ls' st' h' Q) (RUN sc) Q 0 k9_3 u v ls st h) : E sc 9 3 u v ls st h Q := E_blk k9_3 0 rfl rfl rfl rfl H
theorem e9_4 (H : B sc 0 0 none (fun b' u' v' ls' st' h' => E sc 9 b' u' v' ls' st' h' Q) (RUN sc) Q 0 k9_4 u v ls st h) : E sc 9 4 u v ls st h Q := E_blk k9_4 0 rfl rfl rfl rfl H
theorem r10 {a0 a1 : Value} (H : B sc 0 0 (some (.object "HopHomes$Page")) (fun b' u' v' ls' st' h' => E sc 10 b' u' v' ls' st' h' Q) (RUN sc) Q 0 k10_0 0 0 [a0, a1] [] h) : RUN sc 10 [a0, a1] h Q := E_blk k10_0 0 rfl rfl rfl rfl H
theorem e10_0 (H : B sc 0 0 (some (.object "HopHomes$Page")) (fun b' u' v' ls' st' h' => E sc 10 b' u' v' ls' st' h' Q) (RUN sc) Q 0 k10_0 u v ls st h) : E sc 10 0 u v ls st h Q := E_blk k10_0 0 rfl rfl rfl rfl H
theorem e10_1 (H : B sc 0 0 (some (.object "HopHomes$Page")) (fun b' u' v' ls' st' h' => E sc 10 b' u' v' ls' st' h' Q) (RUN sc) Q 2 k10_1 u v ls st h) : E sc 10 1 u v ls st h Q := E_blk k10_1 2 rfl rfl rfl rfl H
theorem e10_2 (H : B sc 0 0 (some (.object "HopHomes$Page")) (fun b' u' v' ls' st' h' => E sc 10 b' u' v' ls' st' h' Q) (RUN sc) Q 0 k10_2 u v ls st h) : E sc 10 2 u v ls st h Q := E_blk k10_2 0 rfl rfl rfl rfl H
theorem r11 {a0 a1 : Value} (H : B sc 0 0 (some (.object "HopHomes$Runner")) (fun b' u' v' ls' st' h' => E sc 11 b' u' v' ls' st' h' Q) (RUN sc) Q 0 k11_0 0 0 [a0, a1] [] h) : RUN sc 11 [a0, a1] h Q := E_blk k11_0 0 rfl rfl rfl rfl H
theorem e11_0 (H : B sc 0 0 (some (.object "HopHomes$Runner")) (fun b' u' v' ls' st' h' => E sc 11 b' u' v' ls' st' h' Q) (RUN sc) Q 0 k11_0 u v ls st h) : E sc 11 0 u v ls st h Q := E_blk k11_0 0 rfl rfl rfl rfl H
theorem e11_1 (H : B sc 0 0 (some (.object "HopHomes$Runner")) (fun b' u' v' ls' st' h' => E sc 11 b' u' v' ls' st' h' Q) (RUN sc) Q 2 k11_1 u v ls st h) : E sc 11 1 u v ls st h Q := E_blk k11_1 2 rfl rfl rfl rfl H
theorem e11_2 (H : B sc 0 0 (some (.object "HopHomes$Runner")) (fun b' u' v' ls' st' h' => E sc 11 b' u' v' ls' st' h' Q) (RUN sc) Q 0 k11_2 u v ls st h) : E sc 11 2 u v ls st h Q := E_blk k11_2 0 rfl rfl rfl rfl H
theorem r12 {a0 a1 a2 : Value} (H : B sc 0 0 (some .int) (fun b' u' v' ls' st' h' => E sc 12 b' u' v' ls' st' h' Q) (RUN sc) Q 1 k12_0 0 0 [a0, a1, a2, .long 0, .long 0, .long 0] [] h) : RUN sc 12 [a0, a1, a2] h Q := E_blk k12_0 1 rfl rfl rfl rfl H
theorem e12_0 (H : B sc 0 0 (some .int) (fun b' u' v' ls' st' h' => E sc 12 b' u' v' ls' st' h' Q) (RUN sc) Q 1 k12_0 u v ls st h) : E sc 12 0 u v ls st h Q := E_blk k12_0 1 rfl rfl rfl rfl H
theorem e12_1 (H : B sc 0 0 (some .int) (fun b' u' v' ls' st' h' => E sc 12 b' u' v' ls' st' h' Q) (RUN sc) Q 0 k12_1 u v ls st h) : E sc 12 1 u v ls st h Q := E_blk k12_1 0 rfl rfl rfl rfl H
theorem r13 {a0 a1 a2 : Value} (H : B sc 0 0 (some .int) (fun b' u' v' ls' st' h' => E sc 13 b' u' v' ls' st' h' Q) (RUN sc) Q 1 k13_0 0 0 [a0, a1, a2, .long 0, .long 0, .long 0] [] h) : RUN sc 13 [a0, a1, a2] h Q := E_blk k13_0 1 rfl rfl rfl rfl H
theorem e13_0 (H : B sc 0 0 (some .int) (fun b' u' v' ls' st' h' => E sc 13 b' u' v' ls' st' h' Q) (RUN sc) Q 1 k13_0 u v ls st h) : E sc 13 0 u v ls st h Q := E_blk k13_0 1 rfl rfl rfl rfl H
theorem e13_1 (H : B sc 0 0 (some .int) (fun b' u' v' ls' st' h' => E sc 13 b' u' v' ls' st' h' Q) (RUN sc) Q 2 k13_1 u v ls st h) : E sc 13 1 u v ls st h Q := E_blk k13_1 2 rfl rfl rfl rfl H
theorem e13_2 (H : B sc 0 0 (some .int) (fun b' u' v' ls' st' h' => E sc 13 b' u' v' ls' st' h' Q) (RUN sc) Q 0 k13_2 u v ls st h) : E sc 13 2 u v ls st h Q := E_blk k13_2 0 rfl rfl rfl rfl H
theorem e13_3 (H : B sc 0 0 (some .int) (fun b' u' v' ls' st' h' => E sc 13 b' u' v' ls' st' h' Q) (RUN sc) Q 0 k13_3 u v ls st h) : E sc 13 3 u v ls st h Q := E_blk k13_3 0 rfl rfl rfl rfl H
theorem r14 {a0 a1 a2 a3 a4 : Value} (H : B sc 0 0 (some .int) (fun b' u' v' ls' st' h' => E sc 14 b' u' v' ls' st' h' Q) (RUN sc) Q 0 k14_0 0 0 [a0, a1, a2, a3, a4, .long 0] [] h) : RUN sc 14 [a0, a1, a2, a3, a4] h Q := E_blk k14_0 0 rfl rfl rfl rfl H
theorem e14_0 (H : B sc 0 0 (some .int) (fun b' u' v' ls' st' h' => E sc 14 b' u' v' ls' st' h' Q) (RUN sc) Q 0 k14_0 u v ls st h) : E sc 14 0 u v ls st h Q := E_blk k14_0 0 rfl rfl rfl rfl H
theorem r15 {a0 a1 a2 a3 : Value} (H : B sc 0 0 (some .int) (fun b' u' v' ls' st' h' => E sc 15 b' u' v' ls' st' h' Q) (RUN sc) Q 0 k15_0 0 0 [a0, a1, a2, a3, .long 0, .long 0, .long 0, .long 0] [] h) : RUN sc 15 [a0, a1, a2, a3] h Q := E_blk k15_0 0 rfl rfl rfl rfl H
theorem e15_0 (H : B sc 0 0 (some .int) (fun b' u' v' ls' st' h' => E sc 15 b' u' v' ls' st' h' Q) (RUN sc) Q 0 k15_0 u v ls st h) : E sc 15 0 u v ls st h Q := E_blk k15_0 0 rfl rfl rfl rfl H
theorem e15_1 (H : B sc 0 0 (some .int) (fun b' u' v' ls' st' h' => E sc 15 b' u' v' ls' st' h' Q) (RUN sc) Q 2 k15_1 u v ls st h) : E sc 15 1 u v ls st h Q := E_blk k15_1 2 rfl rfl rfl rfl H
theorem e15_2 (H : B sc 0 0 (some .int) (fun b' u' v' ls' st' h' => E sc 15 b' u' v' ls' st' h' Q) (RUN sc) Q 0 k15_2 u v ls st h) : E sc 15 2 u v ls st h Q := E_blk k15_2 0 rfl rfl rfl rfl H
theorem e15_3 (H : B sc 0 0 (some .int) (fun b' u' v' ls' st' h' => E sc 15 b' u' v' ls' st' h' Q) (RUN sc) Q 4 k15_3 u v ls st h) : E sc 15 3 u v ls st h Q := E_blk k15_3 4 rfl rfl rfl rfl H
theorem e15_4 (H : B sc 0 0 (some .int) (fun b' u' v' ls' st' h' => E sc 15 b' u' v' ls' st' h' Q) (RUN sc) Q 0 k15_4 u v ls st h) : E sc 15 4 u v ls st h Q := E_blk k15_4 0 rfl rfl rfl rfl H
theorem e15_5 (H : B sc 0 0 (some .int) (fun b' u' v' ls' st' h' => E sc 15 b' u' v' ls' st' h' Q) (RUN sc) Q 6 k15_5 u v ls st h) : E sc 15 5 u v ls st h Q := E_blk k15_5 6 rfl rfl rfl rfl H
theorem e15_6 (H : B sc 0 0 (some .int) (fun b' u' v' ls' st' h' => E sc 15 b' u' v' ls' st' h' Q) (RUN sc) Q 0 k15_6 u v ls st h) : E sc 15 6 u v ls st h Q := E_blk k15_6 0 rfl rfl rfl rfl H
theorem e15_7 (H : B sc 0 0 (some .int) (fun b' u' v' ls' st' h' => E sc 15 b' u' v' ls' st' h' Q) (RUN sc) Q 8 k15_7 u v ls st h) : E sc 15 7 u v ls st h Q := E_blk k15_7 8 rfl rfl rfl rfl H
theorem e15_8 (H : B sc 0 0 (some .int) (fun b' u' v' ls' st' h' => E sc 15 b' u' v' ls' st' h' Q) (RUN sc) Q 9 k15_8 u v ls st h) : E sc 15 8 u v ls st h Q := E_blk k15_8 9 rfl rfl rfl rfl H
theorem e15_9 (H : B sc 0 0 (some .int) (fun b' u' v' ls' st' h' => E sc 15 b' u' v' ls' st' h' Q) (RUN sc) Q 0 k15_9 u v ls st h) : E sc 15 9 u v ls st h Q := E_blk k15_9 0 rfl rfl rfl rfl H
theorem e15_10 (H : B sc 0 0 (some .int) (fun b' u' v' ls' st' h' => E sc 15 b' u' v' ls' st' h' Q) (RUN sc) Q 0 k15_10 u v ls st h) : E sc 15 10 u v ls st h Q := E_blk k15_10 0 rfl rfl rfl rfl H
theorem r16 {a0 a1 a2 a3 : Value} (H : B sc 0 0 (some .int) (fun b' u' v' ls' st' h' => E sc 16 b' u' v' ls' st' h' Q) (RUN sc) Q 0 k16_0 0 0 [a0, a1, a2, a3] [] h) : RUN sc 16 [a0, a1, a2, a3] h Q := E_blk k16_0 0 rfl rfl rfl rfl H
theorem e16_0 (H : B sc 0 0 (some .int) (fun b' u' v' ls' st' h' => E sc 16 b' u' v' ls' st' h' Q) (RUN sc) Q 0 k16_0 u v ls st h) : E sc 16 0 u v ls st h Q := E_blk k16_0 0 rfl rfl rfl rfl H
theorem r17 {a0 a1 a2 : Value} (H : B sc 0 0 (some .int) (fun b' u' v' ls' st' h' => E sc 17 b' u' v' ls' st' h' Q) (RUN sc) Q 1 k17_0 0 0 [a0, a1, a2, .long 0, .long 0] [] h) : RUN sc 17 [a0, a1, a2] h Q := E_blk k17_0 1 rfl rfl rfl rfl H
theorem e17_0 (H : B sc 0 0 (some .int) (fun b' u' v' ls' st' h' => E sc 17 b' u' v' ls' st' h' Q) (RUN sc) Q 1 k17_0 u v ls st h) : E sc 17 0 u v ls st h Q := E_blk k17_0 1 rfl rfl rfl rfl H
theorem e17_1 (H : B sc 0 0 (some .int) (fun b' u' v' ls' st' h' => E sc 17 b' u' v' ls' st' h' Q) (RUN sc) Q 0 k17_1 u v ls st h) : E sc 17 1 u v ls st h Q := E_blk k17_1 0 rfl rfl rfl rfl H
theorem r18 {a0 a1 a2 : Value} (H : B sc 0 0 (some .boolean) (fun b' u' v' ls' st' h' => E sc 18 b' u' v' ls' st' h' Q) (RUN sc) Q 1 k18_0 0 0 [a0, a1, a2, .long 0, .long 0] [] h) : RUN sc 18 [a0, a1, a2] h Q := E_blk k18_0 1 rfl rfl rfl rfl H
theorem e18_0 (H : B sc 0 0 (some .boolean) (fun b' u' v' ls' st' h' => E sc 18 b' u' v' ls' st' h' Q) (RUN sc) Q 1 k18_0 u v ls st h) : E sc 18 0 u v ls st h Q := E_blk k18_0 1 rfl rfl rfl rfl H
theorem e18_1 (H : B sc 0 0 (some .boolean) (fun b' u' v' ls' st' h' => E sc 18 b' u' v' ls' st' h' Q) (RUN sc) Q 0 k18_1 u v ls st h) : E sc 18 1 u v ls st h Q := E_blk k18_1 0 rfl rfl rfl rfl H
theorem e18_2 (H : B sc 0 0 (some .boolean) (fun b' u' v' ls' st' h' => E sc 18 b' u' v' ls' st' h' Q) (RUN sc) Q 0 k18_2 u v ls st h) : E sc 18 2 u v ls st h Q := E_blk k18_2 0 rfl rfl rfl rfl H
theorem e18_3 (H : B sc 0 0 (some .boolean) (fun b' u' v' ls' st' h' => E sc 18 b' u' v' ls' st' h' Q) (RUN sc) Q 0 k18_3 u v ls st h) : E sc 18 3 u v ls st h Q := E_blk k18_3 0 rfl rfl rfl rfl H
theorem e18_4 (H : B sc 0 0 (some .boolean) (fun b' u' v' ls' st' h' => E sc 18 b' u' v' ls' st' h' Q) (RUN sc) Q 0 k18_4 u v ls st h) : E sc 18 4 u v ls st h Q := E_blk k18_4 0 rfl rfl rfl rfl H
theorem r19 {a0 a1 a2 : Value} (H : B sc 0 0 none (fun b' u' v' ls' st' h' => E sc 19 b' u' v' ls' st' h' Q) (RUN sc) Q 0 k19_0 0 0 [a0, a1, a2] [] h) : RUN sc 19 [a0, a1, a2] h Q := E_blk k19_0 0 rfl rfl rfl rfl H
theorem e19_0 (H : B sc 0 0 none (fun b' u' v' ls' st' h' => E sc 19 b' u' v' ls' st' h' Q) (RUN sc) Q 0 k19_0 u v ls st h) : E sc 19 0 u v ls st h Q := E_blk k19_0 0 rfl rfl rfl rfl H
theorem r20 {a0 a1 : Value} (H : B sc 0 0 (some (.object "HopHomes$Page")) (fun b' u' v' ls' st' h' => E sc 20 b' u' v' ls' st' h' Q) (RUN sc) Q 1 k20_0 0 0 [a0, a1, .long 0, .long 0, .long 0] [] h) : RUN sc 20 [a0, a1] h Q := E_blk k20_0 1 rfl rfl rfl rfl H
theorem e20_0 (H : B sc 0 0 (some (.object "HopHomes$Page")) (fun b' u' v' ls' st' h' => E sc 20 b' u' v' ls' st' h' Q) (RUN sc) Q 1 k20_0 u v ls st h) : E sc 20 0 u v ls st h Q := E_blk k20_0 1 rfl rfl rfl rfl H
theorem e20_1 (H : B sc 0 0 (some (.object "HopHomes$Page")) (fun b' u' v' ls' st' h' => E sc 20 b' u' v' ls' st' h' Q) (RUN sc) Q 2 k20_1 u v ls st h) : E sc 20 1 u v ls st h Q := E_blk k20_1 2 rfl rfl rfl rfl H
theorem e20_2 (H : B sc 0 0 (some (.object "HopHomes$Page")) (fun b' u' v' ls' st' h' => E sc 20 b' u' v' ls' st' h' Q) (RUN sc) Q 3 k20_2 u v ls st h) : E sc 20 2 u v ls st h Q := E_blk k20_2 3 rfl rfl rfl rfl H
theorem e20_3 (H : B sc 0 0 (some (.object "HopHomes$Page")) (fun b' u' v' ls' st' h' => E sc 20 b' u' v' ls' st' h' Q) (RUN sc) Q 0 k20_3 u v ls st h) : E sc 20 3 u v ls st h Q := E_blk k20_3 0 rfl rfl rfl rfl H
theorem e20_4 (H : B sc 0 0 (some (.object "HopHomes$Page")) (fun b' u' v' ls' st' h' => E sc 20 b' u' v' ls' st' h' Q) (RUN sc) Q 0 k20_4 u v ls st h) : E sc 20 4 u v ls st h Q := E_blk k20_4 0 rfl rfl rfl rfl H
theorem r21 {a0 a1 : Value} (H : B sc 0 0 (some .int) (fun b' u' v' ls' st' h' => E sc 21 b' u' v' ls' st' h' Q) (RUN sc) Q 1 k21_0 0 0 [a0, a1, .long 0, .long 0] [] h) : RUN sc 21 [a0, a1] h Q := E_blk k21_0 1 rfl rfl rfl rfl H
theorem e21_0 (H : B sc 0 0 (some .int) (fun b' u' v' ls' st' h' => E sc 21 b' u' v' ls' st' h' Q) (RUN sc) Q 1 k21_0 u v ls st h) : E sc 21 0 u v ls st h Q := E_blk k21_0 1 rfl rfl rfl rfl H
theorem e21_1 (H : B sc 0 0 (some .int) (fun b' u' v' ls' st' h' => E sc 21 b' u' v' ls' st' h' Q) (RUN sc) Q 2 k21_1 u v ls st h) : E sc 21 1 u v ls st h Q := E_blk k21_1 2 rfl rfl rfl rfl H
theorem e21_2 (H : B sc 0 0 (some .int) (fun b' u' v' ls' st' h' => E sc 21 b' u' v' ls' st' h' Q) (RUN sc) Q 3 k21_2 u v ls st h) : E sc 21 2 u v ls st h Q := E_blk k21_2 3 rfl rfl rfl rfl H
theorem e21_3 (H : B sc 0 0 (some .int) (fun b' u' v' ls' st' h' => E sc 21 b' u' v' ls' st' h' Q) (RUN sc) Q 0 k21_3 u v ls st h) : E sc 21 3 u v ls st h Q := E_blk k21_3 0 rfl rfl rfl rfl H
theorem e21_4 (H : B sc 0 0 (some .int) (fun b' u' v' ls' st' h' => E sc 21 b' u' v' ls' st' h' Q) (RUN sc) Q 0 k21_4 u v ls st h) : E sc 21 4 u v ls st h Q := E_blk k21_4 0 rfl rfl rfl rfl H
theorem r22 {a0 a1 : Value} (H : B sc 0 0 (some .int) (fun b' u' v' ls' st' h' => E sc 22 b' u' v' ls' st' h' Q) (RUN sc) Q 1 k22_0 0 0 [a0, a1, .long 0, .long 0] [] h) : RUN sc 22 [a0, a1] h Q := E_blk k22_0 1 rfl rfl rfl rfl H
theorem e22_0 (H : B sc 0 0 (some .int) (fun b' u' v' ls' st' h' => E sc 22 b' u' v' ls' st' h' Q) (RUN sc) Q 1 k22_0 u v ls st h) : E sc 22 0 u v ls st h Q := E_blk k22_0 1 rfl rfl rfl rfl H
theorem e22_1 (H : B sc 0 0 (some .int) (fun b' u' v' ls' st' h' => E sc 22 b' u' v' ls' st' h' Q) (RUN sc) Q 2 k22_1 u v ls st h) : E sc 22 1 u v ls st h Q := E_blk k22_1 2 rfl rfl rfl rfl H
theorem e22_2 (H : B sc 0 0 (some .int) (fun b' u' v' ls' st' h' => E sc 22 b' u' v' ls' st' h' Q) (RUN sc) Q 0 k22_2 u v ls st h) : E sc 22 2 u v ls st h Q := E_blk k22_2 0 rfl rfl rfl rfl H
theorem e22_3 (H : B sc 0 0 (some .int) (fun b' u' v' ls' st' h' => E sc 22 b' u' v' ls' st' h' Q) (RUN sc) Q 0 k22_3 u v ls st h) : E sc 22 3 u v ls st h Q := E_blk k22_3 0 rfl rfl rfl rfl H
theorem r23 {a0 a1 : Value} (H : B sc 0 0 (some .int) (fun b' u' v' ls' st' h' => E sc 23 b' u' v' ls' st' h' Q) (RUN sc) Q 1 k23_0 0 0 [a0, a1, .long 0, .long 0] [] h) : RUN sc 23 [a0, a1] h Q := E_blk k23_0 1 rfl rfl rfl rfl H
theorem e23_0 (H : B sc 0 0 (some .int) (fun b' u' v' ls' st' h' => E sc 23 b' u' v' ls' st' h' Q) (RUN sc) Q 1 k23_0 u v ls st h) : E sc 23 0 u v ls st h Q := E_blk k23_0 1 rfl rfl rfl rfl H
theorem e23_1 (H : B sc 0 0 (some .int) (fun b' u' v' ls' st' h' => E sc 23 b' u' v' ls' st' h' Q) (RUN sc) Q 2 k23_1 u v ls st h) : E sc 23 1 u v ls st h Q := E_blk k23_1 2 rfl rfl rfl rfl H
theorem e23_2 (H : B sc 0 0 (some .int) (fun b' u' v' ls' st' h' => E sc 23 b' u' v' ls' st' h' Q) (RUN sc) Q 0 k23_2 u v ls st h) : E sc 23 2 u v ls st h Q := E_blk k23_2 0 rfl rfl rfl rfl H
theorem e23_3 (H : B sc 0 0 (some .int) (fun b' u' v' ls' st' h' => E sc 23 b' u' v' ls' st' h' Q) (RUN sc) Q 0 k23_3 u v ls st h) : E sc 23 3 u v ls st h Q := E_blk k23_3 0 rfl rfl rfl rfl H
theorem r24 {a0 : Value} (H : B sc 0 0 (some .int) (fun b' u' v' ls' st' h' => E sc 24 b' u' v' ls' st' h' Q) (RUN sc) Q 1 k24_0 0 0 [a0, .long 0, .long 0] [] h) : RUN sc 24 [a0] h Q := E_blk k24_0 1 rfl rfl rfl rfl H
theorem e24_0 (H : B sc 0 0 (some .int) (fun b' u' v' ls' st' h' => E sc 24 b' u' v' ls' st' h' Q) (RUN sc) Q 1 k24_0 u v ls st h) : E sc 24 0 u v ls st h Q := E_blk k24_0 1 rfl rfl rfl rfl H
theorem e24_1 (H : B sc 0 0 (some .int) (fun b' u' v' ls' st' h' => E sc 24 b' u' v' ls' st' h' Q) (RUN sc) Q 0 k24_1 u v ls st h) : E sc 24 1 u v ls st h Q := E_blk k24_1 0 rfl rfl rfl rfl H
theorem e24_2 (H : B sc 0 0 (some .int) (fun b' u' v' ls' st' h' => E sc 24 b' u' v' ls' st' h' Q) (RUN sc) Q 0 k24_2 u v ls st h) : E sc 24 2 u v ls st h Q := E_blk k24_2 0 rfl rfl rfl rfl H
theorem r25 {a0 a1 : Value} (H : B sc 0 0 (some .int) (fun b' u' v' ls' st' h' => E sc 25 b' u' v' ls' st' h' Q) (RUN sc) Q 1 k25_0 0 0 [a0, a1, .long 0, .long 0] [] h) : RUN sc 25 [a0, a1] h Q := E_blk k25_0 1 rfl rfl rfl rfl H
theorem e25_0 (H : B sc 0 0 (some .int) (fun b' u' v' ls' st' h' => E sc 25 b' u' v' ls' st' h' Q) (RUN sc) Q 1 k25_0 u v ls st h) : E sc 25 0 u v ls st h Q := E_blk k25_0 1 rfl rfl rfl rfl H
theorem e25_1 (H : B sc 0 0 (some .int) (fun b' u' v' ls' st' h' => E sc 25 b' u' v' ls' st' h' Q) (RUN sc) Q 2 k25_1 u v ls st h) : E sc 25 1 u v ls st h Q := E_blk k25_1 2 rfl rfl rfl rfl H
theorem e25_2 (H : B sc 0 0 (some .int) (fun b' u' v' ls' st' h' => E sc 25 b' u' v' ls' st' h' Q) (RUN sc) Q 0 k25_2 u v ls st h) : E sc 25 2 u v ls st h Q := E_blk k25_2 0 rfl rfl rfl rfl H
theorem e25_3 (H : B sc 0 0 (some .int) (fun b' u' v' ls' st' h' => E sc 25 b' u' v' ls' st' h' Q) (RUN sc) Q 0 k25_3 u v ls st h) : E sc 25 3 u v ls st h Q := E_blk k25_3 0 rfl rfl rfl rfl H
theorem r26 {a0 : Value} (H : B sc 0 0 (some .int) (fun b' u' v' ls' st' h' => E sc 26 b' u' v' ls' st' h' Q) (RUN sc) Q 1 k26_0 0 0 [a0, .long 0, .long 0] [] h) : RUN sc 26 [a0] h Q := E_blk k26_0 1 rfl rfl rfl rfl H
theorem e26_0 (H : B sc 0 0 (some .int) (fun b' u' v' ls' st' h' => E sc 26 b' u' v' ls' st' h' Q) (RUN sc) Q 1 k26_0 u v ls st h) : E sc 26 0 u v ls st h Q := E_blk k26_0 1 rfl rfl rfl rfl H
theorem e26_1 (H : B sc 0 0 (some .int) (fun b' u' v' ls' st' h' => E sc 26 b' u' v' ls' st' h' Q) (RUN sc) Q 0 k26_1 u v ls st h) : E sc 26 1 u v ls st h Q := E_blk k26_1 0 rfl rfl rfl rfl H
theorem e26_2 (H : B sc 0 0 (some .int) (fun b' u' v' ls' st' h' => E sc 26 b' u' v' ls' st' h' Q) (RUN sc) Q 0 k26_2 u v ls st h) : E sc 26 2 u v ls st h Q := E_blk k26_2 0 rfl rfl rfl rfl H
theorem r27 {a0 : Value} (H : B sc 0 0 (some .int) (fun b' u' v' ls' st' h' => E sc 27 b' u' v' ls' st' h' Q) (RUN sc) Q 1 k27_0 0 0 [a0, .long 0, .long 0] [] h) : RUN sc 27 [a0] h Q := E_blk k27_0 1 rfl rfl rfl rfl H
theorem e27_0 (H : B sc 0 0 (some .int) (fun b' u' v' ls' st' h' => E sc 27 b' u' v' ls' st' h' Q) (RUN sc) Q 1 k27_0 u v ls st h) : E sc 27 0 u v ls st h Q := E_blk k27_0 1 rfl rfl rfl rfl H
theorem e27_1 (H : B sc 0 0 (some .int) (fun b' u' v' ls' st' h' => E sc 27 b' u' v' ls' st' h' Q) (RUN sc) Q 0 k27_1 u v ls st h) : E sc 27 1 u v ls st h Q := E_blk k27_1 0 rfl rfl rfl rfl H
theorem e27_2 (H : B sc 0 0 (some .int) (fun b' u' v' ls' st' h' => E sc 27 b' u' v' ls' st' h' Q) (RUN sc) Q 0 k27_2 u v ls st h) : E sc 27 2 u v ls st h Q := E_blk k27_2 0 rfl rfl rfl rfl H
theorem r28 {a0 : Value} (H : B sc 0 0 (some .int) (fun b' u' v' ls' st' h' => E sc 28 b' u' v' ls' st' h' Q) (RUN sc) Q 1 k28_0 0 0 [a0, .long 0, .long 0] [] h) : RUN sc 28 [a0] h Q := E_blk k28_0 1 rfl rfl rfl rfl H
theorem e28_0 (H : B sc 0 0 (some .int) (fun b' u' v' ls' st' h' => E sc 28 b' u' v' ls' st' h' Q) (RUN sc) Q 1 k28_0 u v ls st h) : E sc 28 0 u v ls st h Q := E_blk k28_0 1 rfl rfl rfl rfl H
theorem e28_1 (H : B sc 0 0 (some .int) (fun b' u' v' ls' st' h' => E sc 28 b' u' v' ls' st' h' Q) (RUN sc) Q 0 k28_1 u v ls st h) : E sc 28 1 u v ls st h Q := E_blk k28_1 0 rfl rfl rfl rfl H
theorem e28_2 (H : B sc 0 0 (some .int) (fun b' u' v' ls' st' h' => E sc 28 b' u' v' ls' st' h' Q) (RUN sc) Q 0 k28_2 u v ls st h) : E sc 28 2 u v ls st h Q := E_blk k28_2 0 rfl rfl rfl rfl H
theorem r29 {a0 : Value} (H : B sc 0 0 (some .int) (fun b' u' v' ls' st' h' => E sc 29 b' u' v' ls' st' h' Q) (RUN sc) Q 1 k29_0 0 0 [a0, .long 0, .long 0] [] h) : RUN sc 29 [a0] h Q := E_blk k29_0 1 rfl rfl rfl rfl H
theorem e29_0 (H : B sc 0 0 (some .int) (fun b' u' v' ls' st' h' => E sc 29 b' u' v' ls' st' h' Q) (RUN sc) Q 1 k29_0 u v ls st h) : E sc 29 0 u v ls st h Q := E_blk k29_0 1 rfl rfl rfl rfl H
theorem e29_1 (H : B sc 0 0 (some .int) (fun b' u' v' ls' st' h' => E sc 29 b' u' v' ls' st' h' Q) (RUN sc) Q 2 k29_1 u v ls st h) : E sc 29 1 u v ls st h Q := E_blk k29_1 2 rfl rfl rfl rfl H
theorem e29_2 (H : B sc 0 0 (some .int) (fun b' u' v' ls' st' h' => E sc 29 b' u' v' ls' st' h' Q) (RUN sc) Q 0 k29_2 u v ls st h) : E sc 29 2 u v ls st h Q := E_blk k29_2 0 rfl rfl rfl rfl H
theorem e29_3 (H : B sc 0 0 (some .int) (fun b' u' v' ls' st' h' => E sc 29 b' u' v' ls' st' h' Q) (RUN sc) Q 0 k29_3 u v ls st h) : E sc 29 3 u v ls st h Q := E_blk k29_3 0 rfl rfl rfl rfl H
theorem r30 {a0 : Value} (H : B sc 0 0 (some .int) (fun b' u' v' ls' st' h' => E sc 30 b' u' v' ls' st' h' Q) (RUN sc) Q 1 k30_0 0 0 [a0, .long 0, .long 0] [] h) : RUN sc 30 [a0] h Q := E_blk k30_0 1 rfl rfl rfl rfl H
theorem e30_0 (H : B sc 0 0 (some .int) (fun b' u' v' ls' st' h' => E sc 30 b' u' v' ls' st' h' Q) (RUN sc) Q 1 k30_0 u v ls st h) : E sc 30 0 u v ls st h Q := E_blk k30_0 1 rfl rfl rfl rfl H
theorem e30_1 (H : B sc 0 0 (some .int) (fun b' u' v' ls' st' h' => E sc 30 b' u' v' ls' st' h' Q) (RUN sc) Q 0 k30_1 u v ls st h) : E sc 30 1 u v ls st h Q := E_blk k30_1 0 rfl rfl rfl rfl H
theorem e30_2 (H : B sc 0 0 (some .int) (fun b' u' v' ls' st' h' => E sc 30 b' u' v' ls' st' h' Q) (RUN sc) Q 0 k30_2 u v ls st h) : E sc 30 2 u v ls st h Q := E_blk k30_2 0 rfl rfl rfl rfl H
theorem r31 {a0 a1 : Value} (H : B sc 2 8 none (fun b' u' v' ls' st' h' => E sc 31 b' u' v' ls' st' h' Q) (RUN sc) Q 0 k31_0 0 0 [a0, a1] [] h) : RUN sc 31 [a0, a1] h Q := E_blk k31_0 0 rfl rfl rfl rfl H
theorem e31_0 (H : B sc 2 8 none (fun b' u' v' ls' st' h' => E sc 31 b' u' v' ls' st' h' Q) (RUN sc) Q 0 k31_0 u v ls st h) : E sc 31 0 u v ls st h Q := E_blk k31_0 0 rfl rfl rfl rfl H
theorem r32 {a0 a1 : Value} (H : B sc 0 0 none (fun b' u' v' ls' st' h' => E sc 32 b' u' v' ls' st' h' Q) (RUN sc) Q 0 k32_0 0 0 [a0, a1] [] h) : RUN sc 32 [a0, a1] h Q := E_blk k32_0 0 rfl rfl rfl rfl H
theorem e32_0 (H : B sc 0 0 none (fun b' u' v' ls' st' h' => E sc 32 b' u' v' ls' st' h' Q) (RUN sc) Q 0 k32_0 u v ls st h) : E sc 32 0 u v ls st h Q := E_blk k32_0 0 rfl rfl rfl rfl H
theorem r33 {a0 a1 : Value} (H : B sc 0 0 (some .boolean) (fun b' u' v' ls' st' h' => E sc 33 b' u' v' ls' st' h' Q) (RUN sc) Q 0 k33_0 0 0 [a0, a1] [] h) : RUN sc 33 [a0, a1] h Q := E_blk k33_0 0 rfl rfl rfl rfl H
theorem e33_0 (H : B sc 0 0 (some .boolean) (fun b' u' v' ls' st' h' => E sc 33 b' u' v' ls' st' h' Q) (RUN sc) Q 0 k33_0 u v ls st h) : E sc 33 0 u v ls st h Q := E_blk k33_0 0 rfl rfl rfl rfl H
theorem e33_1 (H : B sc 0 0 (some .boolean) (fun b' u' v' ls' st' h' => E sc 33 b' u' v' ls' st' h' Q) (RUN sc) Q 2 k33_1 u v ls st h) : E sc 33 1 u v ls st h Q := E_blk k33_1 2 rfl rfl rfl rfl H
theorem e33_2 (H : B sc 0 0 (some .boolean) (fun b' u' v' ls' st' h' => E sc 33 b' u' v' ls' st' h' Q) (RUN sc) Q 0 k33_2 u v ls st h) : E sc 33 2 u v ls st h Q := E_blk k33_2 0 rfl rfl rfl rfl H
theorem r34 {a0 a1 a2 : Value} (H : B sc 0 0 none (fun b' u' v' ls' st' h' => E sc 34 b' u' v' ls' st' h' Q) (RUN sc) Q 0 k34_0 0 0 [a0, a1, a2] [] h) : RUN sc 34 [a0, a1, a2] h Q := E_blk k34_0 0 rfl rfl rfl rfl H
theorem e34_0 (H : B sc 0 0 none (fun b' u' v' ls' st' h' => E sc 34 b' u' v' ls' st' h' Q) (RUN sc) Q 0 k34_0 u v ls st h) : E sc 34 0 u v ls st h Q := E_blk k34_0 0 rfl rfl rfl rfl H
theorem r35 {a0 a1 : Value} (H : B sc 0 0 none (fun b' u' v' ls' st' h' => E sc 35 b' u' v' ls' st' h' Q) (RUN sc) Q 0 k35_0 0 0 [a0, a1] [] h) : RUN sc 35 [a0, a1] h Q := E_blk k35_0 0 rfl rfl rfl rfl H
theorem e35_0 (H : B sc 0 0 none (fun b' u' v' ls' st' h' => E sc 35 b' u' v' ls' st' h' Q) (RUN sc) Q 0 k35_0 u v ls st h) : E sc 35 0 u v ls st h Q := E_blk k35_0 0 rfl rfl rfl rfl H
theorem r36 {a0 a1 : Value} (H : B sc 0 0 (some .int) (fun b' u' v' ls' st' h' => E sc 36 b' u' v' ls' st' h' Q) (RUN sc) Q 1 k36_0 0 0 [a0, a1, .long 0, .long 0, .long 0, .long 0] [] h) : RUN sc 36 [a0, a1] h Q := E_blk k36_0 1 rfl rfl rfl rfl H
theorem e36_0 (H : B sc 0 0 (some .int) (fun b' u' v' ls' st' h' => E sc 36 b' u' v' ls' st' h' Q) (RUN sc) Q 1 k36_0 u v ls st h) : E sc 36 0 u v ls st h Q := E_blk k36_0 1 rfl rfl rfl rfl H
theorem e36_1 (H : B sc 0 0 (some .int) (fun b' u' v' ls' st' h' => E sc 36 b' u' v' ls' st' h' Q) (RUN sc) Q 2 k36_1 u v ls st h) : E sc 36 1 u v ls st h Q := E_blk k36_1 2 rfl rfl rfl rfl H
theorem e36_2 (H : B sc 0 0 (some .int) (fun b' u' v' ls' st' h' => E sc 36 b' u' v' ls' st' h' Q) (RUN sc) Q 3 k36_2 u v ls st h) : E sc 36 2 u v ls st h Q := E_blk k36_2 3 rfl rfl rfl rfl H
theorem e36_3 (H : B sc 0 0 (some .int) (fun b' u' v' ls' st' h' => E sc 36 b' u' v' ls' st' h' Q) (RUN sc) Q 0 k36_3 u v ls st h) : E sc 36 3 u v ls st h Q := E_blk k36_3 0 rfl rfl rfl rfl H
theorem e36_4 (H : B sc 0 0 (some .int) (fun b' u' v' ls' st' h' => E sc 36 b' u' v' ls' st' h' Q) (RUN sc) Q 0 k36_4 u v ls st h) : E sc 36 4 u v ls st h Q := E_blk k36_4 0 rfl rfl rfl rfl H
theorem r37 {a0 : Value} (H : B sc 0 0 (some .int) (fun b' u' v' ls' st' h' => E sc 37 b' u' v' ls' st' h' Q) (RUN sc) Q 1 k37_0 0 0 [a0, .long 0, .long 0] [] h) : RUN sc 37 [a0] h Q := E_blk k37_0 1 rfl rfl rfl rfl H
theorem e37_0 (H : B sc 0 0 (some .int) (fun b' u' v' ls' st' h' => E sc 37 b' u' v' ls' st' h' Q) (RUN sc) Q 1 k37_0 u v ls st h) : E sc 37 0 u v ls st h Q := E_blk k37_0 1 rfl rfl rfl rfl H
theorem e37_1 (H : B sc 0 0 (some .int) (fun b' u' v' ls' st' h' => E sc 37 b' u' v' ls' st' h' Q) (RUN sc) Q 2 k37_1 u v ls st h) : E sc 37 1 u v ls st h Q := E_blk k37_1 2 rfl rfl rfl rfl H
theorem e37_2 (H : B sc 0 0 (some .int) (fun b' u' v' ls' st' h' => E sc 37 b' u' v' ls' st' h' Q) (RUN sc) Q 0 k37_2 u v ls st h) : E sc 37 2 u v ls st h Q := E_blk k37_2 0 rfl rfl rfl rfl H
theorem e37_3 (H : B sc 0 0 (some .int) (fun b' u' v' ls' st' h' => E sc 37 b' u' v' ls' st' h' Q) (RUN sc) Q 0 k37_3 u v ls st h) : E sc 37 3 u v ls st h Q := E_blk k37_3 0 rfl rfl rfl rfl H
theorem r38 {a0 a1 a2 : Value} (H : B sc 0 0 none (fun b' u' v' ls' st' h' => E sc 38 b' u' v' ls' st' h' Q) (RUN sc) Q 0 k38_0 0 0 [a0, a1, a2] [] h) : RUN sc 38 [a0, a1, a2] h Q := E_blk k38_0 0 rfl rfl rfl rfl H
theorem e38_0 (H : B sc 0 0 none (fun b' u' v' ls' st' h' => E sc 38 b' u' v' ls' st' h' Q) (RUN sc) Q 0 k38_0 u v ls st h) : E sc 38 0 u v ls st h Q := E_blk k38_0 0 rfl rfl rfl rfl H
theorem r39 {a0 : Value} (H : B sc 0 0 none (fun b' u' v' ls' st' h' => E sc 39 b' u' v' ls' st' h' Q) (RUN sc) Q 1 k39_0 0 0 [a0, .long 0] [] h) : RUN sc 39 [a0] h Q := E_blk k39_0 1 rfl rfl rfl rfl H
theorem e39_0 (H : B sc 0 0 none (fun b' u' v' ls' st' h' => E sc 39 b' u' v' ls' st' h' Q) (RUN sc) Q 1 k39_0 u v ls st h) : E sc 39 0 u v ls st h Q := E_blk k39_0 1 rfl rfl rfl rfl H
theorem e39_1 (H : B sc 0 0 none (fun b' u' v' ls' st' h' => E sc 39 b' u' v' ls' st' h' Q) (RUN sc) Q 0 k39_1 u v ls st h) : E sc 39 1 u v ls st h Q := E_blk k39_1 0 rfl rfl rfl rfl H
theorem e39_2 (H : B sc 0 0 none (fun b' u' v' ls' st' h' => E sc 39 b' u' v' ls' st' h' Q) (RUN sc) Q 0 k39_2 u v ls st h) : E sc 39 2 u v ls st h Q := E_blk k39_2 0 rfl rfl rfl rfl H
theorem r40 {a0 : Value} (H : B sc 0 0 (some .int) (fun b' u' v' ls' st' h' => E sc 40 b' u' v' ls' st' h' Q) (RUN sc) Q 1 k40_0 0 0 [a0, .long 0, .long 0] [] h) : RUN sc 40 [a0] h Q := E_blk k40_0 1 rfl rfl rfl rfl H
theorem e40_0 (H : B sc 0 0 (some .int) (fun b' u' v' ls' st' h' => E sc 40 b' u' v' ls' st' h' Q) (RUN sc) Q 1 k40_0 u v ls st h) : E sc 40 0 u v ls st h Q := E_blk k40_0 1 rfl rfl rfl rfl H
theorem e40_1 (H : B sc 0 0 (some .int) (fun b' u' v' ls' st' h' => E sc 40 b' u' v' ls' st' h' Q) (RUN sc) Q 0 k40_1 u v ls st h) : E sc 40 1 u v ls st h Q := E_blk k40_1 0 rfl rfl rfl rfl H
theorem e40_2 (H : B sc 0 0 (some .int) (fun b' u' v' ls' st' h' => E sc 40 b' u' v' ls' st' h' Q) (RUN sc) Q 0 k40_2 u v ls st h) : E sc 40 2 u v ls st h Q := E_blk k40_2 0 rfl rfl rfl rfl H
theorem r41 {a0 a1 : Value} (H : B sc 0 0 (some .int) (fun b' u' v' ls' st' h' => E sc 41 b' u' v' ls' st' h' Q) (RUN sc) Q 1 k41_0 0 0 [a0, a1, .long 0, .long 0] [] h) : RUN sc 41 [a0, a1] h Q := E_blk k41_0 1 rfl rfl rfl rfl H
theorem e41_0 (H : B sc 0 0 (some .int) (fun b' u' v' ls' st' h' => E sc 41 b' u' v' ls' st' h' Q) (RUN sc) Q 1 k41_0 u v ls st h) : E sc 41 0 u v ls st h Q := E_blk k41_0 1 rfl rfl rfl rfl H
theorem e41_1 (H : B sc 0 0 (some .int) (fun b' u' v' ls' st' h' => E sc 41 b' u' v' ls' st' h' Q) (RUN sc) Q 0 k41_1 u v ls st h) : E sc 41 1 u v ls st h Q := E_blk k41_1 0 rfl rfl rfl rfl H
theorem e41_2 (H : B sc 0 0 (some .int) (fun b' u' v' ls' st' h' => E sc 41 b' u' v' ls' st' h' Q) (RUN sc) Q 0 k41_2 u v ls st h) : E sc 41 2 u v ls st h Q := E_blk k41_2 0 rfl rfl rfl rfl H
theorem r42 {a0 : Value} (H : B sc 0 0 (some .boolean) (fun b' u' v' ls' st' h' => E sc 42 b' u' v' ls' st' h' Q) (RUN sc) Q 0 k42_0 0 0 [a0] [] h) : RUN sc 42 [a0] h Q := E_blk k42_0 0 rfl rfl rfl rfl H
theorem e42_0 (H : B sc 0 0 (some .boolean) (fun b' u' v' ls' st' h' => E sc 42 b' u' v' ls' st' h' Q) (RUN sc) Q 0 k42_0 u v ls st h) : E sc 42 0 u v ls st h Q := E_blk k42_0 0 rfl rfl rfl rfl H
theorem e42_1 (H : B sc 0 0 (some .boolean) (fun b' u' v' ls' st' h' => E sc 42 b' u' v' ls' st' h' Q) (RUN sc) Q 2 k42_1 u v ls st h) : E sc 42 1 u v ls st h Q := E_blk k42_1 2 rfl rfl rfl rfl H
theorem e42_2 (H : B sc 0 0 (some .boolean) (fun b' u' v' ls' st' h' => E sc 42 b' u' v' ls' st' h' Q) (RUN sc) Q 0 k42_2 u v ls st h) : E sc 42 2 u v ls st h Q := E_blk k42_2 0 rfl rfl rfl rfl H
theorem r43 {a0 : Value} (H : B sc 0 0 (some .int) (fun b' u' v' ls' st' h' => E sc 43 b' u' v' ls' st' h' Q) (RUN sc) Q 0 k43_0 0 0 [a0] [] h) : RUN sc 43 [a0] h Q := E_blk k43_0 0 rfl rfl rfl rfl H
theorem e43_0 (H : B sc 0 0 (some .int) (fun b' u' v' ls' st' h' => E sc 43 b' u' v' ls' st' h' Q) (RUN sc) Q 0 k43_0 u v ls st h) : E sc 43 0 u v ls st h Q := E_blk k43_0 0 rfl rfl rfl rfl H
theorem r44 {a0 a1 : Value} (H : B sc 0 0 (some .boolean) (fun b' u' v' ls' st' h' => E sc 44 b' u' v' ls' st' h' Q) (RUN sc) Q 0 k44_0 0 0 [a0, a1, .long 0] [] h) : RUN sc 44 [a0, a1] h Q := E_blk k44_0 0 rfl rfl rfl rfl H
theorem e44_0 (H : B sc 0 0 (some .boolean) (fun b' u' v' ls' st' h' => E sc 44 b' u' v' ls' st' h' Q) (RUN sc) Q 0 k44_0 u v ls st h) : E sc 44 0 u v ls st h Q := E_blk k44_0 0 rfl rfl rfl rfl H
theorem e44_1 (H : B sc 0 0 (some .boolean) (fun b' u' v' ls' st' h' => E sc 44 b' u' v' ls' st' h' Q) (RUN sc) Q 2 k44_1 u v ls st h) : E sc 44 1 u v ls st h Q := E_blk k44_1 2 rfl rfl rfl rfl H
theorem e44_2 (H : B sc 0 0 (some .boolean) (fun b' u' v' ls' st' h' => E sc 44 b' u' v' ls' st' h' Q) (RUN sc) Q 0 k44_2 u v ls st h) : E sc 44 2 u v ls st h Q := E_blk k44_2 0 rfl rfl rfl rfl H
theorem e44_3 (H : B sc 0 0 (some .boolean) (fun b' u' v' ls' st' h' => E sc 44 b' u' v' ls' st' h' Q) (RUN sc) Q 4 k44_3 u v ls st h) : E sc 44 3 u v ls st h Q := E_blk k44_3 4 rfl rfl rfl rfl H
theorem e44_4 (H : B sc 0 0 (some .boolean) (fun b' u' v' ls' st' h' => E sc 44 b' u' v' ls' st' h' Q) (RUN sc) Q 0 k44_4 u v ls st h) : E sc 44 4 u v ls st h Q := E_blk k44_4 0 rfl rfl rfl rfl H
theorem r45 {a0 a1 : Value} (H : B sc 0 0 (some .boolean) (fun b' u' v' ls' st' h' => E sc 45 b' u' v' ls' st' h' Q) (RUN sc) Q 0 k45_0 0 0 [a0, a1, .long 0] [] h) : RUN sc 45 [a0, a1] h Q := E_blk k45_0 0 rfl rfl rfl rfl H
theorem e45_0 (H : B sc 0 0 (some .boolean) (fun b' u' v' ls' st' h' => E sc 45 b' u' v' ls' st' h' Q) (RUN sc) Q 0 k45_0 u v ls st h) : E sc 45 0 u v ls st h Q := E_blk k45_0 0 rfl rfl rfl rfl H
theorem e45_1 (H : B sc 0 0 (some .boolean) (fun b' u' v' ls' st' h' => E sc 45 b' u' v' ls' st' h' Q) (RUN sc) Q 2 k45_1 u v ls st h) : E sc 45 1 u v ls st h Q := E_blk k45_1 2 rfl rfl rfl rfl H
theorem e45_2 (H : B sc 0 0 (some .boolean) (fun b' u' v' ls' st' h' => E sc 45 b' u' v' ls' st' h' Q) (RUN sc) Q 3 k45_2 u v ls st h) : E sc 45 2 u v ls st h Q := E_blk k45_2 3 rfl rfl rfl rfl H
theorem e45_3 (H : B sc 0 0 (some .boolean) (fun b' u' v' ls' st' h' => E sc 45 b' u' v' ls' st' h' Q) (RUN sc) Q 0 k45_3 u v ls st h) : E sc 45 3 u v ls st h Q := E_blk k45_3 0 rfl rfl rfl rfl H
theorem r46 {a0 : Value} (H : B sc 0 0 none (fun b' u' v' ls' st' h' => E sc 46 b' u' v' ls' st' h' Q) (RUN sc) Q 0 k46_0 0 0 [a0] [] h) : RUN sc 46 [a0] h Q := E_blk k46_0 0 rfl rfl rfl rfl H
theorem e46_0 (H : B sc 0 0 none (fun b' u' v' ls' st' h' => E sc 46 b' u' v' ls' st' h' Q) (RUN sc) Q 0 k46_0 u v ls st h) : E sc 46 0 u v ls st h Q := E_blk k46_0 0 rfl rfl rfl rfl H
theorem r47 {a0 a1 : Value} (H : B sc 0 0 none (fun b' u' v' ls' st' h' => E sc 47 b' u' v' ls' st' h' Q) (RUN sc) Q 0 k47_0 0 0 [a0, a1] [] h) : RUN sc 47 [a0, a1] h Q := E_blk k47_0 0 rfl rfl rfl rfl H
theorem e47_0 (H : B sc 0 0 none (fun b' u' v' ls' st' h' => E sc 47 b' u' v' ls' st' h' Q) (RUN sc) Q 0 k47_0 u v ls st h) : E sc 47 0 u v ls st h Q := E_blk k47_0 0 rfl rfl rfl rfl H
theorem r48 {a0 : Value} (H : B sc 4 240 none (fun b' u' v' ls' st' h' => E sc 48 b' u' v' ls' st' h' Q) (RUN sc) Q 0 k48_0 0 0 [a0] [] h) : RUN sc 48 [a0] h Q := E_blk k48_0 0 rfl rfl rfl rfl H
theorem e48_0 (H : B sc 4 240 none (fun b' u' v' ls' st' h' => E sc 48 b' u' v' ls' st' h' Q) (RUN sc) Q 0 k48_0 u v ls st h) : E sc 48 0 u v ls st h Q := E_blk k48_0 0 rfl rfl rfl rfl H
theorem r49 {a0 : Value} (H : B sc 0 0 (some .int) (fun b' u' v' ls' st' h' => E sc 49 b' u' v' ls' st' h' Q) (RUN sc) Q 1 k49_0 0 0 [a0, .long 0, .long 0] [] h) : RUN sc 49 [a0] h Q := E_blk k49_0 1 rfl rfl rfl rfl H
theorem e49_0 (H : B sc 0 0 (some .int) (fun b' u' v' ls' st' h' => E sc 49 b' u' v' ls' st' h' Q) (RUN sc) Q 1 k49_0 u v ls st h) : E sc 49 0 u v ls st h Q := E_blk k49_0 1 rfl rfl rfl rfl H
theorem e49_1 (H : B sc 0 0 (some .int) (fun b' u' v' ls' st' h' => E sc 49 b' u' v' ls' st' h' Q) (RUN sc) Q 0 k49_1 u v ls st h) : E sc 49 1 u v ls st h Q := E_blk k49_1 0 rfl rfl rfl rfl H
theorem e49_2 (H : B sc 0 0 (some .int) (fun b' u' v' ls' st' h' => E sc 49 b' u' v' ls' st' h' Q) (RUN sc) Q 0 k49_2 u v ls st h) : E sc 49 2 u v ls st h Q := E_blk k49_2 0 rfl rfl rfl rfl H
theorem e49_3 (H : B sc 0 0 (some .int) (fun b' u' v' ls' st' h' => E sc 49 b' u' v' ls' st' h' Q) (RUN sc) Q 4 k49_3 u v ls st h) : E sc 49 3 u v ls st h Q := E_blk k49_3 4 rfl rfl rfl rfl H
theorem e49_4 (H : B sc 0 0 (some .int) (fun b' u' v' ls' st' h' => E sc 49 b' u' v' ls' st' h' Q) (RUN sc) Q 0 k49_4 u v ls st h) : E sc 49 4 u v ls st h Q := E_blk k49_4 0 rfl rfl rfl rfl H
theorem e49_5 (H : B sc 0 0 (some .int) (fun b' u' v' ls' st' h' => E sc 49 b' u' v' ls' st' h' Q) (RUN sc) Q 6 k49_5 u v ls st h) : E sc 49 5 u v ls st h Q := E_blk k49_5 6 rfl rfl rfl rfl H
theorem e49_6 (H : B sc 0 0 (some .int) (fun b' u' v' ls' st' h' => E sc 49 b' u' v' ls' st' h' Q) (RUN sc) Q 0 k49_6 u v ls st h) : E sc 49 6 u v ls st h Q := E_blk k49_6 0 rfl rfl rfl rfl H
theorem r50 {a0 a1 a2 : Value} (H : B sc 0 0 (some .int) (fun b' u' v' ls' st' h' => E sc 50 b' u' v' ls' st' h' Q) (RUN sc) Q 0 k50_0 0 0 [a0, a1, a2] [] h) : RUN sc 50 [a0, a1, a2] h Q := E_blk k50_0 0 rfl rfl rfl rfl H
theorem e50_0 (H : B sc 0 0 (some .int) (fun b' u' v' ls' st' h' => E sc 50 b' u' v' ls' st' h' Q) (RUN sc) Q 0 k50_0 u v ls st h) : E sc 50 0 u v ls st h Q := E_blk k50_0 0 rfl rfl rfl rfl H
theorem e50_1 (H : B sc 0 0 (some .int) (fun b' u' v' ls' st' h' => E sc 50 b' u' v' ls' st' h' Q) (RUN sc) Q 0 k50_1 u v ls st h) : E sc 50 1 u v ls st h Q := E_blk k50_1 0 rfl rfl rfl rfl H
theorem e50_2 (H : B sc 0 0 (some .int) (fun b' u' v' ls' st' h' => E sc 50 b' u' v' ls' st' h' Q) (RUN sc) Q 0 k50_2 u v ls st h) : E sc 50 2 u v ls st h Q := E_blk k50_2 0 rfl rfl rfl rfl H
theorem e50_3 (H : B sc 0 0 (some .int) (fun b' u' v' ls' st' h' => E sc 50 b' u' v' ls' st' h' Q) (RUN sc) Q 0 k50_3 u v ls st h) : E sc 50 3 u v ls st h Q := E_blk k50_3 0 rfl rfl rfl rfl H
theorem e50_4 (H : B sc 0 0 (some .int) (fun b' u' v' ls' st' h' => E sc 50 b' u' v' ls' st' h' Q) (RUN sc) Q 5 k50_4 u v ls st h) : E sc 50 4 u v ls st h Q := E_blk k50_4 5 rfl rfl rfl rfl H
theorem e50_5 (H : B sc 0 0 (some .int) (fun b' u' v' ls' st' h' => E sc 50 b' u' v' ls' st' h' Q) (RUN sc) Q 0 k50_5 u v ls st h) : E sc 50 5 u v ls st h Q := E_blk k50_5 0 rfl rfl rfl rfl H
theorem e50_6 (H : B sc 0 0 (some .int) (fun b' u' v' ls' st' h' => E sc 50 b' u' v' ls' st' h' Q) (RUN sc) Q 0 k50_6 u v ls st h) : E sc 50 6 u v ls st h Q := E_blk k50_6 0 rfl rfl rfl rfl H
theorem e50_7 (H : B sc 0 0 (some .int) (fun b' u' v' ls' st' h' => E sc 50 b' u' v' ls' st' h' Q) (RUN sc) Q 0 k50_7 u v ls st h) : E sc 50 7 u v ls st h Q := E_blk k50_7 0 rfl rfl rfl rfl H
theorem e50_8 (H : B sc 0 0 (some .int) (fun b' u' v' ls' st' h' => E sc 50 b' u' v' ls' st' h' Q) (RUN sc) Q 0 k50_8 u v ls st h) : E sc 50 8 u v ls st h Q := E_blk k50_8 0 rfl rfl rfl rfl H
theorem e50_9 (H : B sc 0 0 (some .int) (fun b' u' v' ls' st' h' => E sc 50 b' u' v' ls' st' h' Q) (RUN sc) Q 10 k50_9 u v ls st h) : E sc 50 9 u v ls st h Q := E_blk k50_9 10 rfl rfl rfl rfl H
theorem e50_10 (H : B sc 0 0 (some .int) (fun b' u' v' ls' st' h' => E sc 50 b' u' v' ls' st' h' Q) (RUN sc) Q 0 k50_10 u v ls st h) : E sc 50 10 u v ls st h Q := E_blk k50_10 0 rfl rfl rfl rfl H
theorem e50_11 (H : B sc 0 0 (some .int) (fun b' u' v' ls' st' h' => E sc 50 b' u' v' ls' st' h' Q) (RUN sc) Q 0 k50_11 u v ls st h) : E sc 50 11 u v ls st h Q := E_blk k50_11 0 rfl rfl rfl rfl H
theorem r51 {a0 a1 : Value} (H : B sc 0 0 (some .int) (fun b' u' v' ls' st' h' => E sc 51 b' u' v' ls' st' h' Q) (RUN sc) Q 1 k51_0 0 0 [a0, a1, .long 0] [] h) : RUN sc 51 [a0, a1] h Q := E_blk k51_0 1 rfl rfl rfl rfl H
theorem e51_0 (H : B sc 0 0 (some .int) (fun b' u' v' ls' st' h' => E sc 51 b' u' v' ls' st' h' Q) (RUN sc) Q 1 k51_0 u v ls st h) : E sc 51 0 u v ls st h Q := E_blk k51_0 1 rfl rfl rfl rfl H
theorem e51_1 (H : B sc 0 0 (some .int) (fun b' u' v' ls' st' h' => E sc 51 b' u' v' ls' st' h' Q) (RUN sc) Q 0 k51_1 u v ls st h) : E sc 51 1 u v ls st h Q := E_blk k51_1 0 rfl rfl rfl rfl H
theorem e51_2 (H : B sc 0 0 (some .int) (fun b' u' v' ls' st' h' => E sc 51 b' u' v' ls' st' h' Q) (RUN sc) Q 3 k51_2 u v ls st h) : E sc 51 2 u v ls st h Q := E_blk k51_2 3 rfl rfl rfl rfl H
theorem e51_3 (H : B sc 0 0 (some .int) (fun b' u' v' ls' st' h' => E sc 51 b' u' v' ls' st' h' Q) (RUN sc) Q 4 k51_3 u v ls st h) : E sc 51 3 u v ls st h Q := E_blk k51_3 4 rfl rfl rfl rfl H
theorem e51_4 (H : B sc 0 0 (some .int) (fun b' u' v' ls' st' h' => E sc 51 b' u' v' ls' st' h' Q) (RUN sc) Q 0 k51_4 u v ls st h) : E sc 51 4 u v ls st h Q := E_blk k51_4 0 rfl rfl rfl rfl H
theorem e51_5 (H : B sc 0 0 (some .int) (fun b' u' v' ls' st' h' => E sc 51 b' u' v' ls' st' h' Q) (RUN sc) Q 0 k51_5 u v ls st h) : E sc 51 5 u v ls st h Q := E_blk k51_5 0 rfl rfl rfl rfl H
theorem r52 {a0 a1 : Value} (H : B sc 0 0 (some .int) (fun b' u' v' ls' st' h' => E sc 52 b' u' v' ls' st' h' Q) (RUN sc) Q 1 k52_0 0 0 [a0, a1] [] h) : RUN sc 52 [a0, a1] h Q := E_blk k52_0 1 rfl rfl rfl rfl H
theorem e52_0 (H : B sc 0 0 (some .int) (fun b' u' v' ls' st' h' => E sc 52 b' u' v' ls' st' h' Q) (RUN sc) Q 1 k52_0 u v ls st h) : E sc 52 0 u v ls st h Q := E_blk k52_0 1 rfl rfl rfl rfl H
theorem e52_1 (H : B sc 0 0 (some .int) (fun b' u' v' ls' st' h' => E sc 52 b' u' v' ls' st' h' Q) (RUN sc) Q 0 k52_1 u v ls st h) : E sc 52 1 u v ls st h Q := E_blk k52_1 0 rfl rfl rfl rfl H
theorem e52_2 (H : B sc 0 0 (some .int) (fun b' u' v' ls' st' h' => E sc 52 b' u' v' ls' st' h' Q) (RUN sc) Q 0 k52_2 u v ls st h) : E sc 52 2 u v ls st h Q := E_blk k52_2 0 rfl rfl rfl rfl H
theorem r53 {a0 a1 : Value} (H : B sc 0 0 (some .int) (fun b' u' v' ls' st' h' => E sc 53 b' u' v' ls' st' h' Q) (RUN sc) Q 1 k53_0 0 0 [a0, a1, .long 0, .long 0] [] h) : RUN sc 53 [a0, a1] h Q := E_blk k53_0 1 rfl rfl rfl rfl H
theorem e53_0 (H : B sc 0 0 (some .int) (fun b' u' v' ls' st' h' => E sc 53 b' u' v' ls' st' h' Q) (RUN sc) Q 1 k53_0 u v ls st h) : E sc 53 0 u v ls st h Q := E_blk k53_0 1 rfl rfl rfl rfl H
theorem e53_1 (H : B sc 0 0 (some .int) (fun b' u' v' ls' st' h' => E sc 53 b' u' v' ls' st' h' Q) (RUN sc) Q 0 k53_1 u v ls st h) : E sc 53 1 u v ls st h Q := E_blk k53_1 0 rfl rfl rfl rfl H
theorem e53_2 (H : B sc 0 0 (some .int) (fun b' u' v' ls' st' h' => E sc 53 b' u' v' ls' st' h' Q) (RUN sc) Q 0 k53_2 u v ls st h) : E sc 53 2 u v ls st h Q := E_blk k53_2 0 rfl rfl rfl rfl H
theorem e53_3 (H : B sc 0 0 (some .int) (fun b' u' v' ls' st' h' => E sc 53 b' u' v' ls' st' h' Q) (RUN sc) Q 4 k53_3 u v ls st h) : E sc 53 3 u v ls st h Q := E_blk k53_3 4 rfl rfl rfl rfl H
theorem e53_4 (H : B sc 0 0 (some .int) (fun b' u' v' ls' st' h' => E sc 53 b' u' v' ls' st' h' Q) (RUN sc) Q 0 k53_4 u v ls st h) : E sc 53 4 u v ls st h Q := E_blk k53_4 0 rfl rfl rfl rfl H
theorem e53_5 (H : B sc 0 0 (some .int) (fun b' u' v' ls' st' h' => E sc 53 b' u' v' ls' st' h' Q) (RUN sc) Q 6 k53_5 u v ls st h) : E sc 53 5 u v ls st h Q := E_blk k53_5 6 rfl rfl rfl rfl H
theorem e53_6 (H : B sc 0 0 (some .int) (fun b' u' v' ls' st' h' => E sc 53 b' u' v' ls' st' h' Q) (RUN sc) Q 0 k53_6 u v ls st h) : E sc 53 6 u v ls st h Q := E_blk k53_6 0 rfl rfl rfl rfl H
theorem e53_7 (H : B sc 0 0 (some .int) (fun b' u' v' ls' st' h' => E sc 53 b' u' v' ls' st' h' Q) (RUN sc) Q 8 k53_7 u v ls st h) : E sc 53 7 u v ls st h Q := E_blk k53_7 8 rfl rfl rfl rfl H
theorem e53_8 (H : B sc 0 0 (some .int) (fun b' u' v' ls' st' h' => E sc 53 b' u' v' ls' st' h' Q) (RUN sc) Q 0 k53_8 u v ls st h) : E sc 53 8 u v ls st h Q := E_blk k53_8 0 rfl rfl rfl rfl H
theorem r54 {a0 a1 : Value} (H : B sc 0 0 (some .int) (fun b' u' v' ls' st' h' => E sc 54 b' u' v' ls' st' h' Q) (RUN sc) Q 0 k54_0 0 0 [a0, a1] [] h) : RUN sc 54 [a0, a1] h Q := E_blk k54_0 0 rfl rfl rfl rfl H
theorem e54_0 (H : B sc 0 0 (some .int) (fun b' u' v' ls' st' h' => E sc 54 b' u' v' ls' st' h' Q) (RUN sc) Q 0 k54_0 u v ls st h) : E sc 54 0 u v ls st h Q := E_blk k54_0 0 rfl rfl rfl rfl H
theorem e54_1 (H : B sc 0 0 (some .int) (fun b' u' v' ls' st' h' => E sc 54 b' u' v' ls' st' h' Q) (RUN sc) Q 0 k54_1 u v ls st h) : E sc 54 1 u v ls st h Q := E_blk k54_1 0 rfl rfl rfl rfl H
theorem e54_2 (H : B sc 0 0 (some .int) (fun b' u' v' ls' st' h' => E sc 54 b' u' v' ls' st' h' Q) (RUN sc) Q 3 k54_2 u v ls st h) : E sc 54 2 u v ls st h Q := E_blk k54_2 3 rfl rfl rfl rfl H
theorem e54_3 (H : B sc 0 0 (some .int) (fun b' u' v' ls' st' h' => E sc 54 b' u' v' ls' st' h' Q) (RUN sc) Q 0 k54_3 u v ls st h) : E sc 54 3 u v ls st h Q := E_blk k54_3 0 rfl rfl rfl rfl H
theorem r55 {a0 : Value} (H : B sc 0 0 (some .boolean) (fun b' u' v' ls' st' h' => E sc 55 b' u' v' ls' st' h' Q) (RUN sc) Q 0 k55_0 0 0 [a0] [] h) : RUN sc 55 [a0] h Q := E_blk k55_0 0 rfl rfl rfl rfl H
theorem e55_0 (H : B sc 0 0 (some .boolean) (fun b' u' v' ls' st' h' => E sc 55 b' u' v' ls' st' h' Q) (RUN sc) Q 0 k55_0 u v ls st h) : E sc 55 0 u v ls st h Q := E_blk k55_0 0 rfl rfl rfl rfl H
theorem e55_1 (H : B sc 0 0 (some .boolean) (fun b' u' v' ls' st' h' => E sc 55 b' u' v' ls' st' h' Q) (RUN sc) Q 2 k55_1 u v ls st h) : E sc 55 1 u v ls st h Q := E_blk k55_1 2 rfl rfl rfl rfl H
theorem e55_2 (H : B sc 0 0 (some .boolean) (fun b' u' v' ls' st' h' => E sc 55 b' u' v' ls' st' h' Q) (RUN sc) Q 0 k55_2 u v ls st h) : E sc 55 2 u v ls st h Q := E_blk k55_2 0 rfl rfl rfl rfl H
theorem r56 {a0 a1 : Value} (H : B sc 0 0 (some .boolean) (fun b' u' v' ls' st' h' => E sc 56 b' u' v' ls' st' h' Q) (RUN sc) Q 1 k56_0 0 0 [a0, a1, .long 0, .long 0] [] h) : RUN sc 56 [a0, a1] h Q := E_blk k56_0 1 rfl rfl rfl rfl H
theorem e56_0 (H : B sc 0 0 (some .boolean) (fun b' u' v' ls' st' h' => E sc 56 b' u' v' ls' st' h' Q) (RUN sc) Q 1 k56_0 u v ls st h) : E sc 56 0 u v ls st h Q := E_blk k56_0 1 rfl rfl rfl rfl H
theorem e56_1 (H : B sc 0 0 (some .boolean) (fun b' u' v' ls' st' h' => E sc 56 b' u' v' ls' st' h' Q) (RUN sc) Q 0 k56_1 u v ls st h) : E sc 56 1 u v ls st h Q := E_blk k56_1 0 rfl rfl rfl rfl H
theorem e56_2 (H : B sc 0 0 (some .boolean) (fun b' u' v' ls' st' h' => E sc 56 b' u' v' ls' st' h' Q) (RUN sc) Q 3 k56_2 u v ls st h) : E sc 56 2 u v ls st h Q := E_blk k56_2 3 rfl rfl rfl rfl H
theorem e56_3 (H : B sc 0 0 (some .boolean) (fun b' u' v' ls' st' h' => E sc 56 b' u' v' ls' st' h' Q) (RUN sc) Q 4 k56_3 u v ls st h) : E sc 56 3 u v ls st h Q := E_blk k56_3 4 rfl rfl rfl rfl H
theorem e56_4 (H : B sc 0 0 (some .boolean) (fun b' u' v' ls' st' h' => E sc 56 b' u' v' ls' st' h' Q) (RUN sc) Q 0 k56_4 u v ls st h) : E sc 56 4 u v ls st h Q := E_blk k56_4 0 rfl rfl rfl rfl H
theorem e56_5 (H : B sc 0 0 (some .boolean) (fun b' u' v' ls' st' h' => E sc 56 b' u' v' ls' st' h' Q) (RUN sc) Q 0 k56_5 u v ls st h) : E sc 56 5 u v ls st h Q := E_blk k56_5 0 rfl rfl rfl rfl H
theorem e56_6 (H : B sc 0 0 (some .boolean) (fun b' u' v' ls' st' h' => E sc 56 b' u' v' ls' st' h' Q) (RUN sc) Q 0 k56_6 u v ls st h) : E sc 56 6 u v ls st h Q := E_blk k56_6 0 rfl rfl rfl rfl H
theorem r57 {a0 a1 : Value} (H : B sc 0 0 (some .int) (fun b' u' v' ls' st' h' => E sc 57 b' u' v' ls' st' h' Q) (RUN sc) Q 1 k57_0 0 0 [a0, a1, .long 0, .long 0, .long 0, .long 0] [] h) : RUN sc 57 [a0, a1] h Q := E_blk k57_0 1 rfl rfl rfl rfl H
theorem e57_0 (H : B sc 0 0 (some .int) (fun b' u' v' ls' st' h' => E sc 57 b' u' v' ls' st' h' Q) (RUN sc) Q 1 k57_0 u v ls st h) : E sc 57 0 u v ls st h Q := E_blk k57_0 1 rfl rfl rfl rfl H
theorem e57_1 (H : B sc 0 0 (some .int) (fun b' u' v' ls' st' h' => E sc 57 b' u' v' ls' st' h' Q) (RUN sc) Q 0 k57_1 u v ls st h) : E sc 57 1 u v ls st h Q := E_blk k57_1 0 rfl rfl rfl rfl H
theorem e57_2 (H : B sc 0 0 (some .int) (fun b' u' v' ls' st' h' => E sc 57 b' u' v' ls' st' h' Q) (RUN sc) Q 0 k57_2 u v ls st h) : E sc 57 2 u v ls st h Q := E_blk k57_2 0 rfl rfl rfl rfl H
theorem e57_3 (H : B sc 0 0 (some .int) (fun b' u' v' ls' st' h' => E sc 57 b' u' v' ls' st' h' Q) (RUN sc) Q 0 k57_3 u v ls st h) : E sc 57 3 u v ls st h Q := E_blk k57_3 0 rfl rfl rfl rfl H
theorem e57_4 (H : B sc 0 0 (some .int) (fun b' u' v' ls' st' h' => E sc 57 b' u' v' ls' st' h' Q) (RUN sc) Q 5 k57_4 u v ls st h) : E sc 57 4 u v ls st h Q := E_blk k57_4 5 rfl rfl rfl rfl H
theorem e57_5 (H : B sc 0 0 (some .int) (fun b' u' v' ls' st' h' => E sc 57 b' u' v' ls' st' h' Q) (RUN sc) Q 0 k57_5 u v ls st h) : E sc 57 5 u v ls st h Q := E_blk k57_5 0 rfl rfl rfl rfl H
theorem e57_6 (H : B sc 0 0 (some .int) (fun b' u' v' ls' st' h' => E sc 57 b' u' v' ls' st' h' Q) (RUN sc) Q 0 k57_6 u v ls st h) : E sc 57 6 u v ls st h Q := E_blk k57_6 0 rfl rfl rfl rfl H
theorem r58 {a0 : Value} (H : B sc 952 7175 none (fun b' u' v' ls' st' h' => E sc 58 b' u' v' ls' st' h' Q) (RUN sc) Q 0 k58_0 0 0 [a0] [] h) : RUN sc 58 [a0] h Q := E_blk k58_0 0 rfl rfl rfl rfl H
theorem e58_0 (H : B sc 952 7175 none (fun b' u' v' ls' st' h' => E sc 58 b' u' v' ls' st' h' Q) (RUN sc) Q 0 k58_0 u v ls st h) : E sc 58 0 u v ls st h Q := E_blk k58_0 0 rfl rfl rfl rfl H
theorem r59 {a0 a1 a2 : Value} (H : B sc 0 0 (some .int) (fun b' u' v' ls' st' h' => E sc 59 b' u' v' ls' st' h' Q) (RUN sc) Q 0 k59_0 0 0 [a0, a1, a2, .long 0] [] h) : RUN sc 59 [a0, a1, a2] h Q := E_blk k59_0 0 rfl rfl rfl rfl H
theorem e59_0 (H : B sc 0 0 (some .int) (fun b' u' v' ls' st' h' => E sc 59 b' u' v' ls' st' h' Q) (RUN sc) Q 0 k59_0 u v ls st h) : E sc 59 0 u v ls st h Q := E_blk k59_0 0 rfl rfl rfl rfl H
theorem e59_1 (H : B sc 0 0 (some .int) (fun b' u' v' ls' st' h' => E sc 59 b' u' v' ls' st' h' Q) (RUN sc) Q 2 k59_1 u v ls st h) : E sc 59 1 u v ls st h Q := E_blk k59_1 2 rfl rfl rfl rfl H
theorem e59_2 (H : B sc 0 0 (some .int) (fun b' u' v' ls' st' h' => E sc 59 b' u' v' ls' st' h' Q) (RUN sc) Q 0 k59_2 u v ls st h) : E sc 59 2 u v ls st h Q := E_blk k59_2 0 rfl rfl rfl rfl H
theorem e59_3 (H : B sc 0 0 (some .int) (fun b' u' v' ls' st' h' => E sc 59 b' u' v' ls' st' h' Q) (RUN sc) Q 0 k59_3 u v ls st h) : E sc 59 3 u v ls st h Q := E_blk k59_3 0 rfl rfl rfl rfl H
theorem e59_4 (H : B sc 0 0 (some .int) (fun b' u' v' ls' st' h' => E sc 59 b' u' v' ls' st' h' Q) (RUN sc) Q 0 k59_4 u v ls st h) : E sc 59 4 u v ls st h Q := E_blk k59_4 0 rfl rfl rfl rfl H
theorem r60 {a0 a1 : Value} (H : B sc 0 0 (some .int) (fun b' u' v' ls' st' h' => E sc 60 b' u' v' ls' st' h' Q) (RUN sc) Q 0 k60_0 0 0 [a0, a1] [] h) : RUN sc 60 [a0, a1] h Q := E_blk k60_0 0 rfl rfl rfl rfl H
theorem e60_0 (H : B sc 0 0 (some .int) (fun b' u' v' ls' st' h' => E sc 60 b' u' v' ls' st' h' Q) (RUN sc) Q 0 k60_0 u v ls st h) : E sc 60 0 u v ls st h Q := E_blk k60_0 0 rfl rfl rfl rfl H
theorem e60_1 (H : B sc 0 0 (some .int) (fun b' u' v' ls' st' h' => E sc 60 b' u' v' ls' st' h' Q) (RUN sc) Q 0 k60_1 u v ls st h) : E sc 60 1 u v ls st h Q := E_blk k60_1 0 rfl rfl rfl rfl H
theorem e60_2 (H : B sc 0 0 (some .int) (fun b' u' v' ls' st' h' => E sc 60 b' u' v' ls' st' h' Q) (RUN sc) Q 0 k60_2 u v ls st h) : E sc 60 2 u v ls st h Q := E_blk k60_2 0 rfl rfl rfl rfl H
theorem e60_3 (H : B sc 0 0 (some .int) (fun b' u' v' ls' st' h' => E sc 60 b' u' v' ls' st' h' Q) (RUN sc) Q 0 k60_3 u v ls st h) : E sc 60 3 u v ls st h Q := E_blk k60_3 0 rfl rfl rfl rfl H
theorem r61 {a0 a1 : Value} (H : B sc 0 0 (some .int) (fun b' u' v' ls' st' h' => E sc 61 b' u' v' ls' st' h' Q) (RUN sc) Q 0 k61_0 0 0 [a0, a1] [] h) : RUN sc 61 [a0, a1] h Q := E_blk k61_0 0 rfl rfl rfl rfl H
theorem e61_0 (H : B sc 0 0 (some .int) (fun b' u' v' ls' st' h' => E sc 61 b' u' v' ls' st' h' Q) (RUN sc) Q 0 k61_0 u v ls st h) : E sc 61 0 u v ls st h Q := E_blk k61_0 0 rfl rfl rfl rfl H
theorem e61_1 (H : B sc 0 0 (some .int) (fun b' u' v' ls' st' h' => E sc 61 b' u' v' ls' st' h' Q) (RUN sc) Q 0 k61_1 u v ls st h) : E sc 61 1 u v ls st h Q := E_blk k61_1 0 rfl rfl rfl rfl H
theorem e61_2 (H : B sc 0 0 (some .int) (fun b' u' v' ls' st' h' => E sc 61 b' u' v' ls' st' h' Q) (RUN sc) Q 0 k61_2 u v ls st h) : E sc 61 2 u v ls st h Q := E_blk k61_2 0 rfl rfl rfl rfl H
theorem r62 {a0 a1 a2 : Value} (H : B sc 0 0 (some .int) (fun b' u' v' ls' st' h' => E sc 62 b' u' v' ls' st' h' Q) (RUN sc) Q 1 k62_0 0 0 [a0, a1, a2, .long 0, .long 0] [] h) : RUN sc 62 [a0, a1, a2] h Q := E_blk k62_0 1 rfl rfl rfl rfl H
theorem e62_0 (H : B sc 0 0 (some .int) (fun b' u' v' ls' st' h' => E sc 62 b' u' v' ls' st' h' Q) (RUN sc) Q 1 k62_0 u v ls st h) : E sc 62 0 u v ls st h Q := E_blk k62_0 1 rfl rfl rfl rfl H
theorem e62_1 (H : B sc 0 0 (some .int) (fun b' u' v' ls' st' h' => E sc 62 b' u' v' ls' st' h' Q) (RUN sc) Q 0 k62_1 u v ls st h) : E sc 62 1 u v ls st h Q := E_blk k62_1 0 rfl rfl rfl rfl H
theorem e62_2 (H : B sc 0 0 (some .int) (fun b' u' v' ls' st' h' => E sc 62 b' u' v' ls' st' h' Q) (RUN sc) Q 0 k62_2 u v ls st h) : E sc 62 2 u v ls st h Q := E_blk k62_2 0 rfl rfl rfl rfl H
theorem e62_3 (H : B sc 0 0 (some .int) (fun b' u' v' ls' st' h' => E sc 62 b' u' v' ls' st' h' Q) (RUN sc) Q 0 k62_3 u v ls st h) : E sc 62 3 u v ls st h Q := E_blk k62_3 0 rfl rfl rfl rfl H
theorem r63 {a0 a1 a2 : Value} (H : B sc 0 0 (some .int) (fun b' u' v' ls' st' h' => E sc 63 b' u' v' ls' st' h' Q) (RUN sc) Q 0 k63_0 0 0 [a0, a1, a2, .long 0] [] h) : RUN sc 63 [a0, a1, a2] h Q := E_blk k63_0 0 rfl rfl rfl rfl H
theorem e63_0 (H : B sc 0 0 (some .int) (fun b' u' v' ls' st' h' => E sc 63 b' u' v' ls' st' h' Q) (RUN sc) Q 0 k63_0 u v ls st h) : E sc 63 0 u v ls st h Q := E_blk k63_0 0 rfl rfl rfl rfl H
theorem e63_1 (H : B sc 0 0 (some .int) (fun b' u' v' ls' st' h' => E sc 63 b' u' v' ls' st' h' Q) (RUN sc) Q 0 k63_1 u v ls st h) : E sc 63 1 u v ls st h Q := E_blk k63_1 0 rfl rfl rfl rfl H
theorem e63_2 (H : B sc 0 0 (some .int) (fun b' u' v' ls' st' h' => E sc 63 b' u' v' ls' st' h' Q) (RUN sc) Q 0 k63_2 u v ls st h) : E sc 63 2 u v ls st h Q := E_blk k63_2 0 rfl rfl rfl rfl H
theorem r64 {a0 a1 a2 : Value} (H : B sc 0 0 (some .int) (fun b' u' v' ls' st' h' => E sc 64 b' u' v' ls' st' h' Q) (RUN sc) Q 1 k64_0 0 0 [a0, a1, a2, .long 0, .long 0] [] h) : RUN sc 64 [a0, a1, a2] h Q := E_blk k64_0 1 rfl rfl rfl rfl H
theorem e64_0 (H : B sc 0 0 (some .int) (fun b' u' v' ls' st' h' => E sc 64 b' u' v' ls' st' h' Q) (RUN sc) Q 1 k64_0 u v ls st h) : E sc 64 0 u v ls st h Q := E_blk k64_0 1 rfl rfl rfl rfl H
theorem e64_1 (H : B sc 0 0 (some .int) (fun b' u' v' ls' st' h' => E sc 64 b' u' v' ls' st' h' Q) (RUN sc) Q 0 k64_1 u v ls st h) : E sc 64 1 u v ls st h Q := E_blk k64_1 0 rfl rfl rfl rfl H
theorem e64_2 (H : B sc 0 0 (some .int) (fun b' u' v' ls' st' h' => E sc 64 b' u' v' ls' st' h' Q) (RUN sc) Q 0 k64_2 u v ls st h) : E sc 64 2 u v ls st h Q := E_blk k64_2 0 rfl rfl rfl rfl H
theorem r65 {a0 a1 a2 : Value} (H : B sc 0 0 (some .int) (fun b' u' v' ls' st' h' => E sc 65 b' u' v' ls' st' h' Q) (RUN sc) Q 1 k65_0 0 0 [a0, a1, a2, .long 0, .long 0] [] h) : RUN sc 65 [a0, a1, a2] h Q := E_blk k65_0 1 rfl rfl rfl rfl H
theorem e65_0 (H : B sc 0 0 (some .int) (fun b' u' v' ls' st' h' => E sc 65 b' u' v' ls' st' h' Q) (RUN sc) Q 1 k65_0 u v ls st h) : E sc 65 0 u v ls st h Q := E_blk k65_0 1 rfl rfl rfl rfl H
theorem e65_1 (H : B sc 0 0 (some .int) (fun b' u' v' ls' st' h' => E sc 65 b' u' v' ls' st' h' Q) (RUN sc) Q 0 k65_1 u v ls st h) : E sc 65 1 u v ls st h Q := E_blk k65_1 0 rfl rfl rfl rfl H
theorem e65_2 (H : B sc 0 0 (some .int) (fun b' u' v' ls' st' h' => E sc 65 b' u' v' ls' st' h' Q) (RUN sc) Q 0 k65_2 u v ls st h) : E sc 65 2 u v ls st h Q := E_blk k65_2 0 rfl rfl rfl rfl H
theorem r66 {a0 : Value} (H : B sc 0 0 (some .int) (fun b' u' v' ls' st' h' => E sc 66 b' u' v' ls' st' h' Q) (RUN sc) Q 0 k66_0 0 0 [a0, .long 0] [] h) : RUN sc 66 [a0] h Q := E_blk k66_0 0 rfl rfl rfl rfl H
theorem e66_0 (H : B sc 0 0 (some .int) (fun b' u' v' ls' st' h' => E sc 66 b' u' v' ls' st' h' Q) (RUN sc) Q 0 k66_0 u v ls st h) : E sc 66 0 u v ls st h Q := E_blk k66_0 0 rfl rfl rfl rfl H
theorem e66_1 (H : B sc 0 0 (some .int) (fun b' u' v' ls' st' h' => E sc 66 b' u' v' ls' st' h' Q) (RUN sc) Q 2 k66_1 u v ls st h) : E sc 66 1 u v ls st h Q := E_blk k66_1 2 rfl rfl rfl rfl H
theorem e66_2 (H : B sc 0 0 (some .int) (fun b' u' v' ls' st' h' => E sc 66 b' u' v' ls' st' h' Q) (RUN sc) Q 0 k66_2 u v ls st h) : E sc 66 2 u v ls st h Q := E_blk k66_2 0 rfl rfl rfl rfl H
theorem e66_3 (H : B sc 0 0 (some .int) (fun b' u' v' ls' st' h' => E sc 66 b' u' v' ls' st' h' Q) (RUN sc) Q 0 k66_3 u v ls st h) : E sc 66 3 u v ls st h Q := E_blk k66_3 0 rfl rfl rfl rfl H
theorem r67 {a0 a1 : Value} (H : B sc 0 0 (some .int) (fun b' u' v' ls' st' h' => E sc 67 b' u' v' ls' st' h' Q) (RUN sc) Q 0 k67_0 0 0 [a0, a1] [] h) : RUN sc 67 [a0, a1] h Q := E_blk k67_0 0 rfl rfl rfl rfl H
theorem e67_0 (H : B sc 0 0 (some .int) (fun b' u' v' ls' st' h' => E sc 67 b' u' v' ls' st' h' Q) (RUN sc) Q 0 k67_0 u v ls st h) : E sc 67 0 u v ls st h Q := E_blk k67_0 0 rfl rfl rfl rfl H
theorem e67_1 (H : B sc 0 0 (some .int) (fun b' u' v' ls' st' h' => E sc 67 b' u' v' ls' st' h' Q) (RUN sc) Q 0 k67_1 u v ls st h) : E sc 67 1 u v ls st h Q := E_blk k67_1 0 rfl rfl rfl rfl H
theorem r68 {a0 : Value} (H : B sc 0 0 (some .int) (fun b' u' v' ls' st' h' => E sc 68 b' u' v' ls' st' h' Q) (RUN sc) Q 0 k68_0 0 0 [a0, .long 0] [] h) : RUN sc 68 [a0] h Q := E_blk k68_0 0 rfl rfl rfl rfl H
theorem e68_0 (H : B sc 0 0 (some .int) (fun b' u' v' ls' st' h' => E sc 68 b' u' v' ls' st' h' Q) (RUN sc) Q 0 k68_0 u v ls st h) : E sc 68 0 u v ls st h Q := E_blk k68_0 0 rfl rfl rfl rfl H
theorem r69 {a0 : Value} (H : B sc 0 0 (some .int) (fun b' u' v' ls' st' h' => E sc 69 b' u' v' ls' st' h' Q) (RUN sc) Q 0 k69_0 0 0 [a0, .long 0] [] h) : RUN sc 69 [a0] h Q := E_blk k69_0 0 rfl rfl rfl rfl H
theorem e69_0 (H : B sc 0 0 (some .int) (fun b' u' v' ls' st' h' => E sc 69 b' u' v' ls' st' h' Q) (RUN sc) Q 0 k69_0 u v ls st h) : E sc 69 0 u v ls st h Q := E_blk k69_0 0 rfl rfl rfl rfl H
theorem e69_1 (H : B sc 0 0 (some .int) (fun b' u' v' ls' st' h' => E sc 69 b' u' v' ls' st' h' Q) (RUN sc) Q 0 k69_1 u v ls st h) : E sc 69 1 u v ls st h Q := E_blk k69_1 0 rfl rfl rfl rfl H
theorem r70 {a0 : Value} (H : B sc 0 0 (some .int) (fun b' u' v' ls' st' h' => E sc 70 b' u' v' ls' st' h' Q) (RUN sc) Q 0 k70_0 0 0 [a0] [] h) : RUN sc 70 [a0] h Q := E_blk k70_0 0 rfl rfl rfl rfl H
theorem e70_0 (H : B sc 0 0 (some .int) (fun b' u' v' ls' st' h' => E sc 70 b' u' v' ls' st' h' Q) (RUN sc) Q 0 k70_0 u v ls st h) : E sc 70 0 u v ls st h Q := E_blk k70_0 0 rfl rfl rfl rfl H
theorem e70_1 (H : B sc 0 0 (some .int) (fun b' u' v' ls' st' h' => E sc 70 b' u' v' ls' st' h' Q) (RUN sc) Q 0 k70_1 u v ls st h) : E sc 70 1 u v ls st h Q := E_blk k70_1 0 rfl rfl rfl rfl H
theorem r71 {a0 : Value} (H : B sc 0 0 (some .int) (fun b' u' v' ls' st' h' => E sc 71 b' u' v' ls' st' h' Q) (RUN sc) Q 0 k71_0 0 0 [a0] [] h) : RUN sc 71 [a0] h Q := E_blk k71_0 0 rfl rfl rfl rfl H
theorem e71_0 (H : B sc 0 0 (some .int) (fun b' u' v' ls' st' h' => E sc 71 b' u' v' ls' st' h' Q) (RUN sc) Q 0 k71_0 u v ls st h) : E sc 71 0 u v ls st h Q := E_blk k71_0 0 rfl rfl rfl rfl H
theorem r72 {a0 : Value} (H : B sc 0 0 (some .int) (fun b' u' v' ls' st' h' => E sc 72 b' u' v' ls' st' h' Q) (RUN sc) Q 0 k72_0 0 0 [a0] [] h) : RUN sc 72 [a0] h Q := E_blk k72_0 0 rfl rfl rfl rfl H
theorem e72_0 (H : B sc 0 0 (some .int) (fun b' u' v' ls' st' h' => E sc 72 b' u' v' ls' st' h' Q) (RUN sc) Q 0 k72_0 u v ls st h) : E sc 72 0 u v ls st h Q := E_blk k72_0 0 rfl rfl rfl rfl H
theorem e72_1 (H : B sc 0 0 (some .int) (fun b' u' v' ls' st' h' => E sc 72 b' u' v' ls' st' h' Q) (RUN sc) Q 0 k72_1 u v ls st h) : E sc 72 1 u v ls st h Q := E_blk k72_1 0 rfl rfl rfl rfl H
theorem r73 {a0 a1 a2 : Value} (H : B sc 0 0 (some .int) (fun b' u' v' ls' st' h' => E sc 73 b' u' v' ls' st' h' Q) (RUN sc) Q 0 k73_0 0 0 [a0, a1, a2, .long 0] [] h) : RUN sc 73 [a0, a1, a2] h Q := E_blk k73_0 0 rfl rfl rfl rfl H
theorem e73_0 (H : B sc 0 0 (some .int) (fun b' u' v' ls' st' h' => E sc 73 b' u' v' ls' st' h' Q) (RUN sc) Q 0 k73_0 u v ls st h) : E sc 73 0 u v ls st h Q := E_blk k73_0 0 rfl rfl rfl rfl H
theorem e73_1 (H : B sc 0 0 (some .int) (fun b' u' v' ls' st' h' => E sc 73 b' u' v' ls' st' h' Q) (RUN sc) Q 0 k73_1 u v ls st h) : E sc 73 1 u v ls st h Q := E_blk k73_1 0 rfl rfl rfl rfl H
theorem e73_2 (H : B sc 0 0 (some .int) (fun b' u' v' ls' st' h' => E sc 73 b' u' v' ls' st' h' Q) (RUN sc) Q 0 k73_2 u v ls st h) : E sc 73 2 u v ls st h Q := E_blk k73_2 0 rfl rfl rfl rfl H
theorem e73_3 (H : B sc 0 0 (some .int) (fun b' u' v' ls' st' h' => E sc 73 b' u' v' ls' st' h' Q) (RUN sc) Q 0 k73_3 u v ls st h) : E sc 73 3 u v ls st h Q := E_blk k73_3 0 rfl rfl rfl rfl H
theorem e73_4 (H : B sc 0 0 (some .int) (fun b' u' v' ls' st' h' => E sc 73 b' u' v' ls' st' h' Q) (RUN sc) Q 0 k73_4 u v ls st h) : E sc 73 4 u v ls st h Q := E_blk k73_4 0 rfl rfl rfl rfl H
theorem e73_5 (H : B sc 0 0 (some .int) (fun b' u' v' ls' st' h' => E sc 73 b' u' v' ls' st' h' Q) (RUN sc) Q 0 k73_5 u v ls st h) : E sc 73 5 u v ls st h Q := E_blk k73_5 0 rfl rfl rfl rfl H
theorem e73_6 (H : B sc 0 0 (some .int) (fun b' u' v' ls' st' h' => E sc 73 b' u' v' ls' st' h' Q) (RUN sc) Q 0 k73_6 u v ls st h) : E sc 73 6 u v ls st h Q := E_blk k73_6 0 rfl rfl rfl rfl H
theorem e73_7 (H : B sc 0 0 (some .int) (fun b' u' v' ls' st' h' => E sc 73 b' u' v' ls' st' h' Q) (RUN sc) Q 0 k73_7 u v ls st h) : E sc 73 7 u v ls st h Q := E_blk k73_7 0 rfl rfl rfl rfl H
theorem e73_8 (H : B sc 0 0 (some .int) (fun b' u' v' ls' st' h' => E sc 73 b' u' v' ls' st' h' Q) (RUN sc) Q 9 k73_8 u v ls st h) : E sc 73 8 u v ls st h Q := E_blk k73_8 9 rfl rfl rfl rfl H
theorem e73_9 (H : B sc 0 0 (some .int) (fun b' u' v' ls' st' h' => E sc 73 b' u' v' ls' st' h' Q) (RUN sc) Q 0 k73_9 u v ls st h) : E sc 73 9 u v ls st h Q := E_blk k73_9 0 rfl rfl rfl rfl H
theorem e73_10 (H : B sc 0 0 (some .int) (fun b' u' v' ls' st' h' => E sc 73 b' u' v' ls' st' h' Q) (RUN sc) Q 0 k73_10 u v ls st h) : E sc 73 10 u v ls st h Q := E_blk k73_10 0 rfl rfl rfl rfl H
theorem r74 {a0 a1 a2 : Value} (H : B sc 0 0 (some .int) (fun b' u' v' ls' st' h' => E sc 74 b' u' v' ls' st' h' Q) (RUN sc) Q 0 k74_0 0 0 [a0, a1, a2, .long 0] [] h) : RUN sc 74 [a0, a1, a2] h Q := E_blk k74_0 0 rfl rfl rfl rfl H
theorem e74_0 (H : B sc 0 0 (some .int) (fun b' u' v' ls' st' h' => E sc 74 b' u' v' ls' st' h' Q) (RUN sc) Q 0 k74_0 u v ls st h) : E sc 74 0 u v ls st h Q := E_blk k74_0 0 rfl rfl rfl rfl H
theorem e74_1 (H : B sc 0 0 (some .int) (fun b' u' v' ls' st' h' => E sc 74 b' u' v' ls' st' h' Q) (RUN sc) Q 0 k74_1 u v ls st h) : E sc 74 1 u v ls st h Q := E_blk k74_1 0 rfl rfl rfl rfl H
theorem e74_2 (H : B sc 0 0 (some .int) (fun b' u' v' ls' st' h' => E sc 74 b' u' v' ls' st' h' Q) (RUN sc) Q 0 k74_2 u v ls st h) : E sc 74 2 u v ls st h Q := E_blk k74_2 0 rfl rfl rfl rfl H
theorem e74_3 (H : B sc 0 0 (some .int) (fun b' u' v' ls' st' h' => E sc 74 b' u' v' ls' st' h' Q) (RUN sc) Q 0 k74_3 u v ls st h) : E sc 74 3 u v ls st h Q := E_blk k74_3 0 rfl rfl rfl rfl H
theorem e74_4 (H : B sc 0 0 (some .int) (fun b' u' v' ls' st' h' => E sc 74 b' u' v' ls' st' h' Q) (RUN sc) Q 0 k74_4 u v ls st h) : E sc 74 4 u v ls st h Q := E_blk k74_4 0 rfl rfl rfl rfl H
theorem e74_5 (H : B sc 0 0 (some .int) (fun b' u' v' ls' st' h' => E sc 74 b' u' v' ls' st' h' Q) (RUN sc) Q 0 k74_5 u v ls st h) : E sc 74 5 u v ls st h Q := E_blk k74_5 0 rfl rfl rfl rfl H
theorem e74_6 (H : B sc 0 0 (some .int) (fun b' u' v' ls' st' h' => E sc 74 b' u' v' ls' st' h' Q) (RUN sc) Q 0 k74_6 u v ls st h) : E sc 74 6 u v ls st h Q := E_blk k74_6 0 rfl rfl rfl rfl H
theorem e74_7 (H : B sc 0 0 (some .int) (fun b' u' v' ls' st' h' => E sc 74 b' u' v' ls' st' h' Q) (RUN sc) Q 0 k74_7 u v ls st h) : E sc 74 7 u v ls st h Q := E_blk k74_7 0 rfl rfl rfl rfl H
theorem e74_8 (H : B sc 0 0 (some .int) (fun b' u' v' ls' st' h' => E sc 74 b' u' v' ls' st' h' Q) (RUN sc) Q 0 k74_8 u v ls st h) : E sc 74 8 u v ls st h Q := E_blk k74_8 0 rfl rfl rfl rfl H
theorem e74_9 (H : B sc 0 0 (some .int) (fun b' u' v' ls' st' h' => E sc 74 b' u' v' ls' st' h' Q) (RUN sc) Q 10 k74_9 u v ls st h) : E sc 74 9 u v ls st h Q := E_blk k74_9 10 rfl rfl rfl rfl H
theorem e74_10 (H : B sc 0 0 (some .int) (fun b' u' v' ls' st' h' => E sc 74 b' u' v' ls' st' h' Q) (RUN sc) Q 0 k74_10 u v ls st h) : E sc 74 10 u v ls st h Q := E_blk k74_10 0 rfl rfl rfl rfl H
theorem e74_11 (H : B sc 0 0 (some .int) (fun b' u' v' ls' st' h' => E sc 74 b' u' v' ls' st' h' Q) (RUN sc) Q 0 k74_11 u v ls st h) : E sc 74 11 u v ls st h Q := E_blk k74_11 0 rfl rfl rfl rfl H
theorem e74_12 (H : B sc 0 0 (some .int) (fun b' u' v' ls' st' h' => E sc 74 b' u' v' ls' st' h' Q) (RUN sc) Q 0 k74_12 u v ls st h) : E sc 74 12 u v ls st h Q := E_blk k74_12 0 rfl rfl rfl rfl H
theorem e74_13 (H : B sc 0 0 (some .int) (fun b' u' v' ls' st' h' => E sc 74 b' u' v' ls' st' h' Q) (RUN sc) Q 0 k74_13 u v ls st h) : E sc 74 13 u v ls st h Q := E_blk k74_13 0 rfl rfl rfl rfl H
theorem r75 {a0 a1 a2 : Value} (H : B sc 0 0 (some .int) (fun b' u' v' ls' st' h' => E sc 75 b' u' v' ls' st' h' Q) (RUN sc) Q 0 k75_0 0 0 [a0, a1, a2, .long 0] [] h) : RUN sc 75 [a0, a1, a2] h Q := E_blk k75_0 0 rfl rfl rfl rfl H
theorem e75_0 (H : B sc 0 0 (some .int) (fun b' u' v' ls' st' h' => E sc 75 b' u' v' ls' st' h' Q) (RUN sc) Q 0 k75_0 u v ls st h) : E sc 75 0 u v ls st h Q := E_blk k75_0 0 rfl rfl rfl rfl H
theorem e75_1 (H : B sc 0 0 (some .int) (fun b' u' v' ls' st' h' => E sc 75 b' u' v' ls' st' h' Q) (RUN sc) Q 0 k75_1 u v ls st h) : E sc 75 1 u v ls st h Q := E_blk k75_1 0 rfl rfl rfl rfl H
theorem e75_2 (H : B sc 0 0 (some .int) (fun b' u' v' ls' st' h' => E sc 75 b' u' v' ls' st' h' Q) (RUN sc) Q 0 k75_2 u v ls st h) : E sc 75 2 u v ls st h Q := E_blk k75_2 0 rfl rfl rfl rfl H
theorem e75_3 (H : B sc 0 0 (some .int) (fun b' u' v' ls' st' h' => E sc 75 b' u' v' ls' st' h' Q) (RUN sc) Q 0 k75_3 u v ls st h) : E sc 75 3 u v ls st h Q := E_blk k75_3 0 rfl rfl rfl rfl H
theorem e75_4 (H : B sc 0 0 (some .int) (fun b' u' v' ls' st' h' => E sc 75 b' u' v' ls' st' h' Q) (RUN sc) Q 0 k75_4 u v ls st h) : E sc 75 4 u v ls st h Q := E_blk k75_4 0 rfl rfl rfl rfl H
theorem e75_5 (H : B sc 0 0 (some .int) (fun b' u' v' ls' st' h' => E sc 75 b' u' v' ls' st' h' Q) (RUN sc) Q 0 k75_5 u v ls st h) : E sc 75 5 u v ls st h Q := E_blk k75_5 0 rfl rfl rfl rfl H
theorem e75_6 (H : B sc 0 0 (some .int) (fun b' u' v' ls' st' h' => E sc 75 b' u' v' ls' st' h' Q) (RUN sc) Q 0 k75_6 u v ls st h) : E sc 75 6 u v ls st h Q := E_blk k75_6 0 rfl rfl rfl rfl H
theorem e75_7 (H : B sc 0 0 (some .int) (fun b' u' v' ls' st' h' => E sc 75 b' u' v' ls' st' h' Q) (RUN sc) Q 0 k75_7 u v ls st h) : E sc 75 7 u v ls st h Q := E_blk k75_7 0 rfl rfl rfl rfl H
theorem r76 {a0 a1 a2 : Value} (H : B sc 0 0 (some .int) (fun b' u' v' ls' st' h' => E sc 76 b' u' v' ls' st' h' Q) (RUN sc) Q 1 k76_0 0 0 [a0, a1, a2] [] h) : RUN sc 76 [a0, a1, a2] h Q := E_blk k76_0 1 rfl rfl rfl rfl H
theorem e76_0 (H : B sc 0 0 (some .int) (fun b' u' v' ls' st' h' => E sc 76 b' u' v' ls' st' h' Q) (RUN sc) Q 1 k76_0 u v ls st h) : E sc 76 0 u v ls st h Q := E_blk k76_0 1 rfl rfl rfl rfl H
theorem e76_1 (H : B sc 0 0 (some .int) (fun b' u' v' ls' st' h' => E sc 76 b' u' v' ls' st' h' Q) (RUN sc) Q 0 k76_1 u v ls st h) : E sc 76 1 u v ls st h Q := E_blk k76_1 0 rfl rfl rfl rfl H
theorem e76_2 (H : B sc 0 0 (some .int) (fun b' u' v' ls' st' h' => E sc 76 b' u' v' ls' st' h' Q) (RUN sc) Q 0 k76_2 u v ls st h) : E sc 76 2 u v ls st h Q := E_blk k76_2 0 rfl rfl rfl rfl H
theorem r77 {a0 a1 a2 a3 : Value} (H : B sc 0 0 (some .int) (fun b' u' v' ls' st' h' => E sc 77 b' u' v' ls' st' h' Q) (RUN sc) Q 1 k77_0 0 0 [a0, a1, a2, a3, .long 0, .long 0, .long 0] [] h) : RUN sc 77 [a0, a1, a2, a3] h Q := E_blk k77_0 1 rfl rfl rfl rfl H
theorem e77_0 (H : B sc 0 0 (some .int) (fun b' u' v' ls' st' h' => E sc 77 b' u' v' ls' st' h' Q) (RUN sc) Q 1 k77_0 u v ls st h) : E sc 77 0 u v ls st h Q := E_blk k77_0 1 rfl rfl rfl rfl H
theorem e77_1 (H : B sc 0 0 (some .int) (fun b' u' v' ls' st' h' => E sc 77 b' u' v' ls' st' h' Q) (RUN sc) Q 0 k77_1 u v ls st h) : E sc 77 1 u v ls st h Q := E_blk k77_1 0 rfl rfl rfl rfl H
theorem e77_2 (H : B sc 0 0 (some .int) (fun b' u' v' ls' st' h' => E sc 77 b' u' v' ls' st' h' Q) (RUN sc) Q 0 k77_2 u v ls st h) : E sc 77 2 u v ls st h Q := E_blk k77_2 0 rfl rfl rfl rfl H
theorem e77_3 (H : B sc 0 0 (some .int) (fun b' u' v' ls' st' h' => E sc 77 b' u' v' ls' st' h' Q) (RUN sc) Q 4 k77_3 u v ls st h) : E sc 77 3 u v ls st h Q := E_blk k77_3 4 rfl rfl rfl rfl H
theorem e77_4 (H : B sc 0 0 (some .int) (fun b' u' v' ls' st' h' => E sc 77 b' u' v' ls' st' h' Q) (RUN sc) Q 0 k77_4 u v ls st h) : E sc 77 4 u v ls st h Q := E_blk k77_4 0 rfl rfl rfl rfl H
theorem r78 {a0 a1 : Value} (H : B sc 0 0 (some .int) (fun b' u' v' ls' st' h' => E sc 78 b' u' v' ls' st' h' Q) (RUN sc) Q 0 k78_0 0 0 [a0, a1, .long 0] [] h) : RUN sc 78 [a0, a1] h Q := E_blk k78_0 0 rfl rfl rfl rfl H
theorem e78_0 (H : B sc 0 0 (some .int) (fun b' u' v' ls' st' h' => E sc 78 b' u' v' ls' st' h' Q) (RUN sc) Q 0 k78_0 u v ls st h) : E sc 78 0 u v ls st h Q := E_blk k78_0 0 rfl rfl rfl rfl H
theorem e78_1 (H : B sc 0 0 (some .int) (fun b' u' v' ls' st' h' => E sc 78 b' u' v' ls' st' h' Q) (RUN sc) Q 0 k78_1 u v ls st h) : E sc 78 1 u v ls st h Q := E_blk k78_1 0 rfl rfl rfl rfl H
theorem e78_2 (H : B sc 0 0 (some .int) (fun b' u' v' ls' st' h' => E sc 78 b' u' v' ls' st' h' Q) (RUN sc) Q 0 k78_2 u v ls st h) : E sc 78 2 u v ls st h Q := E_blk k78_2 0 rfl rfl rfl rfl H
theorem r79 {a0 : Value} (H : B sc 0 0 (some .int) (fun b' u' v' ls' st' h' => E sc 79 b' u' v' ls' st' h' Q) (RUN sc) Q 0 k79_0 0 0 [a0, .long 0, .long 0, .long 0, .long 0, .long 0] [] h) : RUN sc 79 [a0] h Q := E_blk k79_0 0 rfl rfl rfl rfl H
theorem e79_0 (H : B sc 0 0 (some .int) (fun b' u' v' ls' st' h' => E sc 79 b' u' v' ls' st' h' Q) (RUN sc) Q 0 k79_0 u v ls st h) : E sc 79 0 u v ls st h Q := E_blk k79_0 0 rfl rfl rfl rfl H
theorem e79_1 (H : B sc 0 0 (some .int) (fun b' u' v' ls' st' h' => E sc 79 b' u' v' ls' st' h' Q) (RUN sc) Q 2 k79_1 u v ls st h) : E sc 79 1 u v ls st h Q := E_blk k79_1 2 rfl rfl rfl rfl H
theorem e79_2 (H : B sc 0 0 (some .int) (fun b' u' v' ls' st' h' => E sc 79 b' u' v' ls' st' h' Q) (RUN sc) Q 3 k79_2 u v ls st h) : E sc 79 2 u v ls st h Q := E_blk k79_2 3 rfl rfl rfl rfl H
theorem e79_3 (H : B sc 0 0 (some .int) (fun b' u' v' ls' st' h' => E sc 79 b' u' v' ls' st' h' Q) (RUN sc) Q 4 k79_3 u v ls st h) : E sc 79 3 u v ls st h Q := E_blk k79_3 4 rfl rfl rfl rfl H
theorem e79_4 (H : B sc 0 0 (some .int) (fun b' u' v' ls' st' h' => E sc 79 b' u' v' ls' st' h' Q) (RUN sc) Q 0 k79_4 u v ls st h) : E sc 79 4 u v ls st h Q := E_blk k79_4 0 rfl rfl rfl rfl H
theorem e79_5 (H : B sc 0 0 (some .int) (fun b' u' v' ls' st' h' => E sc 79 b' u' v' ls' st' h' Q) (RUN sc) Q 0 k79_5 u v ls st h) : E sc 79 5 u v ls st h Q := E_blk k79_5 0 rfl rfl rfl rfl H
theorem r80 {a0 a1 : Value} (H : B sc 0 0 (some .int) (fun b' u' v' ls' st' h' => E sc 80 b' u' v' ls' st' h' Q) (RUN sc) Q 0 k80_0 0 0 [a0, a1, .long 0, .long 0, .long 0] [] h) : RUN sc 80 [a0, a1] h Q := E_blk k80_0 0 rfl rfl rfl rfl H
theorem e80_0 (H : B sc 0 0 (some .int) (fun b' u' v' ls' st' h' => E sc 80 b' u' v' ls' st' h' Q) (RUN sc) Q 0 k80_0 u v ls st h) : E sc 80 0 u v ls st h Q := E_blk k80_0 0 rfl rfl rfl rfl H
theorem e80_1 (H : B sc 0 0 (some .int) (fun b' u' v' ls' st' h' => E sc 80 b' u' v' ls' st' h' Q) (RUN sc) Q 2 k80_1 u v ls st h) : E sc 80 1 u v ls st h Q := E_blk k80_1 2 rfl rfl rfl rfl H
theorem e80_2 (H : B sc 0 0 (some .int) (fun b' u' v' ls' st' h' => E sc 80 b' u' v' ls' st' h' Q) (RUN sc) Q 3 k80_2 u v ls st h) : E sc 80 2 u v ls st h Q := E_blk k80_2 3 rfl rfl rfl rfl H
theorem e80_3 (H : B sc 0 0 (some .int) (fun b' u' v' ls' st' h' => E sc 80 b' u' v' ls' st' h' Q) (RUN sc) Q 0 k80_3 u v ls st h) : E sc 80 3 u v ls st h Q := E_blk k80_3 0 rfl rfl rfl rfl H
theorem e80_4 (H : B sc 0 0 (some .int) (fun b' u' v' ls' st' h' => E sc 80 b' u' v' ls' st' h' Q) (RUN sc) Q 0 k80_4 u v ls st h) : E sc 80 4 u v ls st h Q := E_blk k80_4 0 rfl rfl rfl rfl H
theorem r81 {a0 a1 a2 : Value} (H : B sc 0 0 (some .int) (fun b' u' v' ls' st' h' => E sc 81 b' u' v' ls' st' h' Q) (RUN sc) Q 1 k81_0 0 0 [a0, a1, a2] [] h) : RUN sc 81 [a0, a1, a2] h Q := E_blk k81_0 1 rfl rfl rfl rfl H
theorem e81_0 (H : B sc 0 0 (some .int) (fun b' u' v' ls' st' h' => E sc 81 b' u' v' ls' st' h' Q) (RUN sc) Q 1 k81_0 u v ls st h) : E sc 81 0 u v ls st h Q := E_blk k81_0 1 rfl rfl rfl rfl H
theorem e81_1 (H : B sc 0 0 (some .int) (fun b' u' v' ls' st' h' => E sc 81 b' u' v' ls' st' h' Q) (RUN sc) Q 0 k81_1 u v ls st h) : E sc 81 1 u v ls st h Q := E_blk k81_1 0 rfl rfl rfl rfl H
theorem e81_2 (H : B sc 0 0 (some .int) (fun b' u' v' ls' st' h' => E sc 81 b' u' v' ls' st' h' Q) (RUN sc) Q 0 k81_2 u v ls st h) : E sc 81 2 u v ls st h Q := E_blk k81_2 0 rfl rfl rfl rfl H
theorem e81_3 (H : B sc 0 0 (some .int) (fun b' u' v' ls' st' h' => E sc 81 b' u' v' ls' st' h' Q) (RUN sc) Q 0 k81_3 u v ls st h) : E sc 81 3 u v ls st h Q := E_blk k81_3 0 rfl rfl rfl rfl H
theorem r82 {a0 a1 : Value} (H : B sc 0 0 (some .int) (fun b' u' v' ls' st' h' => E sc 82 b' u' v' ls' st' h' Q) (RUN sc) Q 0 k82_0 0 0 [a0, a1] [] h) : RUN sc 82 [a0, a1] h Q := E_blk k82_0 0 rfl rfl rfl rfl H
theorem e82_0 (H : B sc 0 0 (some .int) (fun b' u' v' ls' st' h' => E sc 82 b' u' v' ls' st' h' Q) (RUN sc) Q 0 k82_0 u v ls st h) : E sc 82 0 u v ls st h Q := E_blk k82_0 0 rfl rfl rfl rfl H
theorem e82_1 (H : B sc 0 0 (some .int) (fun b' u' v' ls' st' h' => E sc 82 b' u' v' ls' st' h' Q) (RUN sc) Q 0 k82_1 u v ls st h) : E sc 82 1 u v ls st h Q := E_blk k82_1 0 rfl rfl rfl rfl H
theorem e82_2 (H : B sc 0 0 (some .int) (fun b' u' v' ls' st' h' => E sc 82 b' u' v' ls' st' h' Q) (RUN sc) Q 0 k82_2 u v ls st h) : E sc 82 2 u v ls st h Q := E_blk k82_2 0 rfl rfl rfl rfl H
theorem e82_3 (H : B sc 0 0 (some .int) (fun b' u' v' ls' st' h' => E sc 82 b' u' v' ls' st' h' Q) (RUN sc) Q 0 k82_3 u v ls st h) : E sc 82 3 u v ls st h Q := E_blk k82_3 0 rfl rfl rfl rfl H
theorem e82_4 (H : B sc 0 0 (some .int) (fun b' u' v' ls' st' h' => E sc 82 b' u' v' ls' st' h' Q) (RUN sc) Q 0 k82_4 u v ls st h) : E sc 82 4 u v ls st h Q := E_blk k82_4 0 rfl rfl rfl rfl H
theorem e82_5 (H : B sc 0 0 (some .int) (fun b' u' v' ls' st' h' => E sc 82 b' u' v' ls' st' h' Q) (RUN sc) Q 0 k82_5 u v ls st h) : E sc 82 5 u v ls st h Q := E_blk k82_5 0 rfl rfl rfl rfl H
theorem e82_6 (H : B sc 0 0 (some .int) (fun b' u' v' ls' st' h' => E sc 82 b' u' v' ls' st' h' Q) (RUN sc) Q 0 k82_6 u v ls st h) : E sc 82 6 u v ls st h Q := E_blk k82_6 0 rfl rfl rfl rfl H
theorem e82_7 (H : B sc 0 0 (some .int) (fun b' u' v' ls' st' h' => E sc 82 b' u' v' ls' st' h' Q) (RUN sc) Q 0 k82_7 u v ls st h) : E sc 82 7 u v ls st h Q := E_blk k82_7 0 rfl rfl rfl rfl H
theorem e82_8 (H : B sc 0 0 (some .int) (fun b' u' v' ls' st' h' => E sc 82 b' u' v' ls' st' h' Q) (RUN sc) Q 0 k82_8 u v ls st h) : E sc 82 8 u v ls st h Q := E_blk k82_8 0 rfl rfl rfl rfl H
theorem e82_9 (H : B sc 0 0 (some .int) (fun b' u' v' ls' st' h' => E sc 82 b' u' v' ls' st' h' Q) (RUN sc) Q 0 k82_9 u v ls st h) : E sc 82 9 u v ls st h Q := E_blk k82_9 0 rfl rfl rfl rfl H
theorem e82_10 (H : B sc 0 0 (some .int) (fun b' u' v' ls' st' h' => E sc 82 b' u' v' ls' st' h' Q) (RUN sc) Q 0 k82_10 u v ls st h) : E sc 82 10 u v ls st h Q := E_blk k82_10 0 rfl rfl rfl rfl H
theorem e82_11 (H : B sc 0 0 (some .int) (fun b' u' v' ls' st' h' => E sc 82 b' u' v' ls' st' h' Q) (RUN sc) Q 0 k82_11 u v ls st h) : E sc 82 11 u v ls st h Q := E_blk k82_11 0 rfl rfl rfl rfl H
theorem e82_12 (H : B sc 0 0 (some .int) (fun b' u' v' ls' st' h' => E sc 82 b' u' v' ls' st' h' Q) (RUN sc) Q 0 k82_12 u v ls st h) : E sc 82 12 u v ls st h Q := E_blk k82_12 0 rfl rfl rfl rfl H
theorem e82_13 (H : B sc 0 0 (some .int) (fun b' u' v' ls' st' h' => E sc 82 b' u' v' ls' st' h' Q) (RUN sc) Q 0 k82_13 u v ls st h) : E sc 82 13 u v ls st h Q := E_blk k82_13 0 rfl rfl rfl rfl H
theorem e82_14 (H : B sc 0 0 (some .int) (fun b' u' v' ls' st' h' => E sc 82 b' u' v' ls' st' h' Q) (RUN sc) Q 0 k82_14 u v ls st h) : E sc 82 14 u v ls st h Q := E_blk k82_14 0 rfl rfl rfl rfl H
theorem e82_15 (H : B sc 0 0 (some .int) (fun b' u' v' ls' st' h' => E sc 82 b' u' v' ls' st' h' Q) (RUN sc) Q 0 k82_15 u v ls st h) : E sc 82 15 u v ls st h Q := E_blk k82_15 0 rfl rfl rfl rfl H
theorem r83 {a0 : Value} (H : B sc 0 0 (some .int) (fun b' u' v' ls' st' h' => E sc 83 b' u' v' ls' st' h' Q) (RUN sc) Q 0 k83_0 0 0 [a0, .long 0] [] h) : RUN sc 83 [a0] h Q := E_blk k83_0 0 rfl rfl rfl rfl H
theorem e83_0 (H : B sc 0 0 (some .int) (fun b' u' v' ls' st' h' => E sc 83 b' u' v' ls' st' h' Q) (RUN sc) Q 0 k83_0 u v ls st h) : E sc 83 0 u v ls st h Q := E_blk k83_0 0 rfl rfl rfl rfl H
theorem e83_1 (H : B sc 0 0 (some .int) (fun b' u' v' ls' st' h' => E sc 83 b' u' v' ls' st' h' Q) (RUN sc) Q 0 k83_1 u v ls st h) : E sc 83 1 u v ls st h Q := E_blk k83_1 0 rfl rfl rfl rfl H
theorem e83_2 (H : B sc 0 0 (some .int) (fun b' u' v' ls' st' h' => E sc 83 b' u' v' ls' st' h' Q) (RUN sc) Q 3 k83_2 u v ls st h) : E sc 83 2 u v ls st h Q := E_blk k83_2 3 rfl rfl rfl rfl H
theorem e83_3 (H : B sc 0 0 (some .int) (fun b' u' v' ls' st' h' => E sc 83 b' u' v' ls' st' h' Q) (RUN sc) Q 0 k83_3 u v ls st h) : E sc 83 3 u v ls st h Q := E_blk k83_3 0 rfl rfl rfl rfl H
theorem r84 {a0 a1 : Value} (H : B sc 0 0 none (fun b' u' v' ls' st' h' => E sc 84 b' u' v' ls' st' h' Q) (RUN sc) Q 0 k84_0 0 0 [a0, a1] [] h) : RUN sc 84 [a0, a1] h Q := E_blk k84_0 0 rfl rfl rfl rfl H
theorem e84_0 (H : B sc 0 0 none (fun b' u' v' ls' st' h' => E sc 84 b' u' v' ls' st' h' Q) (RUN sc) Q 0 k84_0 u v ls st h) : E sc 84 0 u v ls st h Q := E_blk k84_0 0 rfl rfl rfl rfl H
theorem r85 {a0 : Value} (H : B sc 0 0 (some .boolean) (fun b' u' v' ls' st' h' => E sc 85 b' u' v' ls' st' h' Q) (RUN sc) Q 0 k85_0 0 0 [a0] [] h) : RUN sc 85 [a0] h Q := E_blk k85_0 0 rfl rfl rfl rfl H
theorem e85_0 (H : B sc 0 0 (some .boolean) (fun b' u' v' ls' st' h' => E sc 85 b' u' v' ls' st' h' Q) (RUN sc) Q 0 k85_0 u v ls st h) : E sc 85 0 u v ls st h Q := E_blk k85_0 0 rfl rfl rfl rfl H
theorem e85_1 (H : B sc 0 0 (some .boolean) (fun b' u' v' ls' st' h' => E sc 85 b' u' v' ls' st' h' Q) (RUN sc) Q 2 k85_1 u v ls st h) : E sc 85 1 u v ls st h Q := E_blk k85_1 2 rfl rfl rfl rfl H
theorem e85_2 (H : B sc 0 0 (some .boolean) (fun b' u' v' ls' st' h' => E sc 85 b' u' v' ls' st' h' Q) (RUN sc) Q 0 k85_2 u v ls st h) : E sc 85 2 u v ls st h Q := E_blk k85_2 0 rfl rfl rfl rfl H
theorem r86 {a0 a1 : Value} (H : B sc 0 0 (some .boolean) (fun b' u' v' ls' st' h' => E sc 86 b' u' v' ls' st' h' Q) (RUN sc) Q 0 k86_0 0 0 [a0, a1] [] h) : RUN sc 86 [a0, a1] h Q := E_blk k86_0 0 rfl rfl rfl rfl H
theorem e86_0 (H : B sc 0 0 (some .boolean) (fun b' u' v' ls' st' h' => E sc 86 b' u' v' ls' st' h' Q) (RUN sc) Q 0 k86_0 u v ls st h) : E sc 86 0 u v ls st h Q := E_blk k86_0 0 rfl rfl rfl rfl H
theorem e86_1 (H : B sc 0 0 (some .boolean) (fun b' u' v' ls' st' h' => E sc 86 b' u' v' ls' st' h' Q) (RUN sc) Q 0 k86_1 u v ls st h) : E sc 86 1 u v ls st h Q := E_blk k86_1 0 rfl rfl rfl rfl H
theorem e86_2 (H : B sc 0 0 (some .boolean) (fun b' u' v' ls' st' h' => E sc 86 b' u' v' ls' st' h' Q) (RUN sc) Q 3 k86_2 u v ls st h) : E sc 86 2 u v ls st h Q := E_blk k86_2 3 rfl rfl rfl rfl H
theorem e86_3 (H : B sc 0 0 (some .boolean) (fun b' u' v' ls' st' h' => E sc 86 b' u' v' ls' st' h' Q) (RUN sc) Q 0 k86_3 u v ls st h) : E sc 86 3 u v ls st h Q := E_blk k86_3 0 rfl rfl rfl rfl H
theorem e86_4 (H : B sc 0 0 (some .boolean) (fun b' u' v' ls' st' h' => E sc 86 b' u' v' ls' st' h' Q) (RUN sc) Q 0 k86_4 u v ls st h) : E sc 86 4 u v ls st h Q := E_blk k86_4 0 rfl rfl rfl rfl H
theorem e86_5 (H : B sc 0 0 (some .boolean) (fun b' u' v' ls' st' h' => E sc 86 b' u' v' ls' st' h' Q) (RUN sc) Q 6 k86_5 u v ls st h) : E sc 86 5 u v ls st h Q := E_blk k86_5 6 rfl rfl rfl rfl H
theorem e86_6 (H : B sc 0 0 (some .boolean) (fun b' u' v' ls' st' h' => E sc 86 b' u' v' ls' st' h' Q) (RUN sc) Q 0 k86_6 u v ls st h) : E sc 86 6 u v ls st h Q := E_blk k86_6 0 rfl rfl rfl rfl H
theorem e86_7 (H : B sc 0 0 (some .boolean) (fun b' u' v' ls' st' h' => E sc 86 b' u' v' ls' st' h' Q) (RUN sc) Q 0 k86_7 u v ls st h) : E sc 86 7 u v ls st h Q := E_blk k86_7 0 rfl rfl rfl rfl H
theorem e86_8 (H : B sc 0 0 (some .boolean) (fun b' u' v' ls' st' h' => E sc 86 b' u' v' ls' st' h' Q) (RUN sc) Q 9 k86_8 u v ls st h) : E sc 86 8 u v ls st h Q := E_blk k86_8 9 rfl rfl rfl rfl H
theorem e86_9 (H : B sc 0 0 (some .boolean) (fun b' u' v' ls' st' h' => E sc 86 b' u' v' ls' st' h' Q) (RUN sc) Q 0 k86_9 u v ls st h) : E sc 86 9 u v ls st h Q := E_blk k86_9 0 rfl rfl rfl rfl H
theorem e86_10 (H : B sc 0 0 (some .boolean) (fun b' u' v' ls' st' h' => E sc 86 b' u' v' ls' st' h' Q) (RUN sc) Q 0 k86_10 u v ls st h) : E sc 86 10 u v ls st h Q := E_blk k86_10 0 rfl rfl rfl rfl H
theorem r87 {a0 a1 : Value} (H : B sc 0 0 (some .int) (fun b' u' v' ls' st' h' => E sc 87 b' u' v' ls' st' h' Q) (RUN sc) Q 0 k87_0 0 0 [a0, a1, .long 0] [] h) : RUN sc 87 [a0, a1] h Q := E_blk k87_0 0 rfl rfl rfl rfl H
theorem e87_0 (H : B sc 0 0 (some .int) (fun b' u' v' ls' st' h' => E sc 87 b' u' v' ls' st' h' Q) (RUN sc) Q 0 k87_0 u v ls st h) : E sc 87 0 u v ls st h Q := E_blk k87_0 0 rfl rfl rfl rfl H
theorem r88 {a0 : Value} (H : B sc 5 5779 none (fun b' u' v' ls' st' h' => E sc 88 b' u' v' ls' st' h' Q) (RUN sc) Q 1 k88_0 0 0 [a0, .long 0] [] h) : RUN sc 88 [a0] h Q := E_blk k88_0 1 rfl rfl rfl rfl H
theorem e88_0 (H : B sc 5 5779 none (fun b' u' v' ls' st' h' => E sc 88 b' u' v' ls' st' h' Q) (RUN sc) Q 1 k88_0 u v ls st h) : E sc 88 0 u v ls st h Q := E_blk k88_0 1 rfl rfl rfl rfl H
theorem e88_1 (H : B sc 5 5779 none (fun b' u' v' ls' st' h' => E sc 88 b' u' v' ls' st' h' Q) (RUN sc) Q 0 k88_1 u v ls st h) : E sc 88 1 u v ls st h Q := E_blk k88_1 0 rfl rfl rfl rfl H
theorem e88_2 (H : B sc 5 5779 none (fun b' u' v' ls' st' h' => E sc 88 b' u' v' ls' st' h' Q) (RUN sc) Q 0 k88_2 u v ls st h) : E sc 88 2 u v ls st h Q := E_blk k88_2 0 rfl rfl rfl rfl H
theorem r89 {a0 a1 a2 : Value} (H : B sc 0 0 (some .boolean) (fun b' u' v' ls' st' h' => E sc 89 b' u' v' ls' st' h' Q) (RUN sc) Q 0 k89_0 0 0 [a0, a1, a2] [] h) : RUN sc 89 [a0, a1, a2] h Q := E_blk k89_0 0 rfl rfl rfl rfl H
theorem e89_0 (H : B sc 0 0 (some .boolean) (fun b' u' v' ls' st' h' => E sc 89 b' u' v' ls' st' h' Q) (RUN sc) Q 0 k89_0 u v ls st h) : E sc 89 0 u v ls st h Q := E_blk k89_0 0 rfl rfl rfl rfl H
theorem e89_1 (H : B sc 0 0 (some .boolean) (fun b' u' v' ls' st' h' => E sc 89 b' u' v' ls' st' h' Q) (RUN sc) Q 2 k89_1 u v ls st h) : E sc 89 1 u v ls st h Q := E_blk k89_1 2 rfl rfl rfl rfl H
theorem e89_2 (H : B sc 0 0 (some .boolean) (fun b' u' v' ls' st' h' => E sc 89 b' u' v' ls' st' h' Q) (RUN sc) Q 0 k89_2 u v ls st h) : E sc 89 2 u v ls st h Q := E_blk k89_2 0 rfl rfl rfl rfl H
theorem r90 {a0 a1 a2 : Value} (H : B sc 0 0 (some .int) (fun b' u' v' ls' st' h' => E sc 90 b' u' v' ls' st' h' Q) (RUN sc) Q 0 k90_0 0 0 [a0, a1, a2] [] h) : RUN sc 90 [a0, a1, a2] h Q := E_blk k90_0 0 rfl rfl rfl rfl H
theorem e90_0 (H : B sc 0 0 (some .int) (fun b' u' v' ls' st' h' => E sc 90 b' u' v' ls' st' h' Q) (RUN sc) Q 0 k90_0 u v ls st h) : E sc 90 0 u v ls st h Q := E_blk k90_0 0 rfl rfl rfl rfl H
theorem r91 {a0 a1 a2 a3 : Value} (H : B sc 0 0 none (fun b' u' v' ls' st' h' => E sc 91 b' u' v' ls' st' h' Q) (RUN sc) Q 0 k91_0 0 0 [a0, a1, a2, a3] [] h) : RUN sc 91 [a0, a1, a2, a3] h Q := E_blk k91_0 0 rfl rfl rfl rfl H
theorem e91_0 (H : B sc 0 0 none (fun b' u' v' ls' st' h' => E sc 91 b' u' v' ls' st' h' Q) (RUN sc) Q 0 k91_0 u v ls st h) : E sc 91 0 u v ls st h Q := E_blk k91_0 0 rfl rfl rfl rfl H
theorem r92 {a0 a1 a2 : Value} (H : B sc 0 0 (some .int) (fun b' u' v' ls' st' h' => E sc 92 b' u' v' ls' st' h' Q) (RUN sc) Q 0 k92_0 0 0 [a0, a1, a2] [] h) : RUN sc 92 [a0, a1, a2] h Q := E_blk k92_0 0 rfl rfl rfl rfl H
theorem e92_0 (H : B sc 0 0 (some .int) (fun b' u' v' ls' st' h' => E sc 92 b' u' v' ls' st' h' Q) (RUN sc) Q 0 k92_0 u v ls st h) : E sc 92 0 u v ls st h Q := E_blk k92_0 0 rfl rfl rfl rfl H
theorem r93 {a0 a1 a2 a3 : Value} (H : B sc 0 0 none (fun b' u' v' ls' st' h' => E sc 93 b' u' v' ls' st' h' Q) (RUN sc) Q 0 k93_0 0 0 [a0, a1, a2, a3] [] h) : RUN sc 93 [a0, a1, a2, a3] h Q := E_blk k93_0 0 rfl rfl rfl rfl H
theorem e93_0 (H : B sc 0 0 none (fun b' u' v' ls' st' h' => E sc 93 b' u' v' ls' st' h' Q) (RUN sc) Q 0 k93_0 u v ls st h) : E sc 93 0 u v ls st h Q := E_blk k93_0 0 rfl rfl rfl rfl H
theorem r94 {a0 : Value} (H : B sc 0 0 (some .boolean) (fun b' u' v' ls' st' h' => E sc 94 b' u' v' ls' st' h' Q) (RUN sc) Q 0 k94_0 0 0 [a0] [] h) : RUN sc 94 [a0] h Q := E_blk k94_0 0 rfl rfl rfl rfl H
theorem e94_0 (H : B sc 0 0 (some .boolean) (fun b' u' v' ls' st' h' => E sc 94 b' u' v' ls' st' h' Q) (RUN sc) Q 0 k94_0 u v ls st h) : E sc 94 0 u v ls st h Q := E_blk k94_0 0 rfl rfl rfl rfl H
theorem e94_1 (H : B sc 0 0 (some .boolean) (fun b' u' v' ls' st' h' => E sc 94 b' u' v' ls' st' h' Q) (RUN sc) Q 2 k94_1 u v ls st h) : E sc 94 1 u v ls st h Q := E_blk k94_1 2 rfl rfl rfl rfl H
theorem e94_2 (H : B sc 0 0 (some .boolean) (fun b' u' v' ls' st' h' => E sc 94 b' u' v' ls' st' h' Q) (RUN sc) Q 0 k94_2 u v ls st h) : E sc 94 2 u v ls st h Q := E_blk k94_2 0 rfl rfl rfl rfl H
theorem r95 {a0 a1 : Value} (H : B sc 0 0 (some .boolean) (fun b' u' v' ls' st' h' => E sc 95 b' u' v' ls' st' h' Q) (RUN sc) Q 0 k95_0 0 0 [a0, a1] [] h) : RUN sc 95 [a0, a1] h Q := E_blk k95_0 0 rfl rfl rfl rfl H
theorem e95_0 (H : B sc 0 0 (some .boolean) (fun b' u' v' ls' st' h' => E sc 95 b' u' v' ls' st' h' Q) (RUN sc) Q 0 k95_0 u v ls st h) : E sc 95 0 u v ls st h Q := E_blk k95_0 0 rfl rfl rfl rfl H
theorem e95_1 (H : B sc 0 0 (some .boolean) (fun b' u' v' ls' st' h' => E sc 95 b' u' v' ls' st' h' Q) (RUN sc) Q 2 k95_1 u v ls st h) : E sc 95 1 u v ls st h Q := E_blk k95_1 2 rfl rfl rfl rfl H
theorem e95_2 (H : B sc 0 0 (some .boolean) (fun b' u' v' ls' st' h' => E sc 95 b' u' v' ls' st' h' Q) (RUN sc) Q 0 k95_2 u v ls st h) : E sc 95 2 u v ls st h Q := E_blk k95_2 0 rfl rfl rfl rfl H
theorem r96 {a0 a1 : Value} (H : B sc 0 0 (some .boolean) (fun b' u' v' ls' st' h' => E sc 96 b' u' v' ls' st' h' Q) (RUN sc) Q 0 k96_0 0 0 [a0, a1] [] h) : RUN sc 96 [a0, a1] h Q := E_blk k96_0 0 rfl rfl rfl rfl H
theorem e96_0 (H : B sc 0 0 (some .boolean) (fun b' u' v' ls' st' h' => E sc 96 b' u' v' ls' st' h' Q) (RUN sc) Q 0 k96_0 u v ls st h) : E sc 96 0 u v ls st h Q := E_blk k96_0 0 rfl rfl rfl rfl H
theorem e96_1 (H : B sc 0 0 (some .boolean) (fun b' u' v' ls' st' h' => E sc 96 b' u' v' ls' st' h' Q) (RUN sc) Q 2 k96_1 u v ls st h) : E sc 96 1 u v ls st h Q := E_blk k96_1 2 rfl rfl rfl rfl H
theorem e96_2 (H : B sc 0 0 (some .boolean) (fun b' u' v' ls' st' h' => E sc 96 b' u' v' ls' st' h' Q) (RUN sc) Q 0 k96_2 u v ls st h) : E sc 96 2 u v ls st h Q := E_blk k96_2 0 rfl rfl rfl rfl H
theorem r97 {a0 a1 : Value} (H : B sc 0 0 (some .int) (fun b' u' v' ls' st' h' => E sc 97 b' u' v' ls' st' h' Q) (RUN sc) Q 0 k97_0 0 0 [a0, a1, .long 0] [] h) : RUN sc 97 [a0, a1] h Q := E_blk k97_0 0 rfl rfl rfl rfl H
theorem e97_0 (H : B sc 0 0 (some .int) (fun b' u' v' ls' st' h' => E sc 97 b' u' v' ls' st' h' Q) (RUN sc) Q 0 k97_0 u v ls st h) : E sc 97 0 u v ls st h Q := E_blk k97_0 0 rfl rfl rfl rfl H
theorem e97_1 (H : B sc 0 0 (some .int) (fun b' u' v' ls' st' h' => E sc 97 b' u' v' ls' st' h' Q) (RUN sc) Q 2 k97_1 u v ls st h) : E sc 97 1 u v ls st h Q := E_blk k97_1 2 rfl rfl rfl rfl H
theorem e97_2 (H : B sc 0 0 (some .int) (fun b' u' v' ls' st' h' => E sc 97 b' u' v' ls' st' h' Q) (RUN sc) Q 0 k97_2 u v ls st h) : E sc 97 2 u v ls st h Q := E_blk k97_2 0 rfl rfl rfl rfl H
theorem e97_3 (H : B sc 0 0 (some .int) (fun b' u' v' ls' st' h' => E sc 97 b' u' v' ls' st' h' Q) (RUN sc) Q 4 k97_3 u v ls st h) : E sc 97 3 u v ls st h Q := E_blk k97_3 4 rfl rfl rfl rfl H
theorem e97_4 (H : B sc 0 0 (some .int) (fun b' u' v' ls' st' h' => E sc 97 b' u' v' ls' st' h' Q) (RUN sc) Q 0 k97_4 u v ls st h) : E sc 97 4 u v ls st h Q := E_blk k97_4 0 rfl rfl rfl rfl H
theorem r98 {a0 : Value} (H : B sc 0 0 none (fun b' u' v' ls' st' h' => E sc 98 b' u' v' ls' st' h' Q) (RUN sc) Q 1 k98_0 0 0 [a0, .long 0] [] h) : RUN sc 98 [a0] h Q := E_blk k98_0 1 rfl rfl rfl rfl H
theorem e98_0 (H : B sc 0 0 none (fun b' u' v' ls' st' h' => E sc 98 b' u' v' ls' st' h' Q) (RUN sc) Q 1 k98_0 u v ls st h) : E sc 98 0 u v ls st h Q := E_blk k98_0 1 rfl rfl rfl rfl H
theorem e98_1 (H : B sc 0 0 none (fun b' u' v' ls' st' h' => E sc 98 b' u' v' ls' st' h' Q) (RUN sc) Q 0 k98_1 u v ls st h) : E sc 98 1 u v ls st h Q := E_blk k98_1 0 rfl rfl rfl rfl H
theorem e98_2 (H : B sc 0 0 none (fun b' u' v' ls' st' h' => E sc 98 b' u' v' ls' st' h' Q) (RUN sc) Q 3 k98_2 u v ls st h) : E sc 98 2 u v ls st h Q := E_blk k98_2 3 rfl rfl rfl rfl H
theorem e98_3 (H : B sc 0 0 none (fun b' u' v' ls' st' h' => E sc 98 b' u' v' ls' st' h' Q) (RUN sc) Q 4 k98_3 u v ls st h) : E sc 98 3 u v ls st h Q := E_blk k98_3 4 rfl rfl rfl rfl H
theorem e98_4 (H : B sc 0 0 none (fun b' u' v' ls' st' h' => E sc 98 b' u' v' ls' st' h' Q) (RUN sc) Q 0 k98_4 u v ls st h) : E sc 98 4 u v ls st h Q := E_blk k98_4 0 rfl rfl rfl rfl H
theorem e98_5 (H : B sc 0 0 none (fun b' u' v' ls' st' h' => E sc 98 b' u' v' ls' st' h' Q) (RUN sc) Q 0 k98_5 u v ls st h) : E sc 98 5 u v ls st h Q := E_blk k98_5 0 rfl rfl rfl rfl H
theorem r99 {a0 a1 a2 a3 : Value} (H : B sc 0 0 none (fun b' u' v' ls' st' h' => E sc 99 b' u' v' ls' st' h' Q) (RUN sc) Q 1 k99_0 0 0 [a0, a1, a2, a3, .long 0] [] h) : RUN sc 99 [a0, a1, a2, a3] h Q := E_blk k99_0 1 rfl rfl rfl rfl H
theorem e99_0 (H : B sc 0 0 none (fun b' u' v' ls' st' h' => E sc 99 b' u' v' ls' st' h' Q) (RUN sc) Q 1 k99_0 u v ls st h) : E sc 99 0 u v ls st h Q := E_blk k99_0 1 rfl rfl rfl rfl H
theorem e99_1 (H : B sc 0 0 none (fun b' u' v' ls' st' h' => E sc 99 b' u' v' ls' st' h' Q) (RUN sc) Q 0 k99_1 u v ls st h) : E sc 99 1 u v ls st h Q := E_blk k99_1 0 rfl rfl rfl rfl H
theorem e99_2 (H : B sc 0 0 none (fun b' u' v' ls' st' h' => E sc 99 b' u' v' ls' st' h' Q) (RUN sc) Q 3 k99_2 u v ls st h) : E sc 99 2 u v ls st h Q := E_blk k99_2 3 rfl rfl rfl rfl H
theorem e99_3 (H : B sc 0 0 none (fun b' u' v' ls' st' h' => E sc 99 b' u' v' ls' st' h' Q) (RUN sc) Q 0 k99_3 u v ls st h) : E sc 99 3 u v ls st h Q := E_blk k99_3 0 rfl rfl rfl rfl H
theorem r100 {a0 a1 a2 : Value} (H : B sc 0 0 (some .boolean) (fun b' u' v' ls' st' h' => E sc 100 b' u' v' ls' st' h' Q) (RUN sc) Q 0 k100_0 0 0 [a0, a1, a2] [] h) : RUN sc 100 [a0, a1, a2] h Q := E_blk k100_0 0 rfl rfl rfl rfl H
theorem e100_0 (H : B sc 0 0 (some .boolean) (fun b' u' v' ls' st' h' => E sc 100 b' u' v' ls' st' h' Q) (RUN sc) Q 0 k100_0 u v ls st h) : E sc 100 0 u v ls st h Q := E_blk k100_0 0 rfl rfl rfl rfl H
theorem e100_1 (H : B sc 0 0 (some .boolean) (fun b' u' v' ls' st' h' => E sc 100 b' u' v' ls' st' h' Q) (RUN sc) Q 2 k100_1 u v ls st h) : E sc 100 1 u v ls st h Q := E_blk k100_1 2 rfl rfl rfl rfl H
theorem e100_2 (H : B sc 0 0 (some .boolean) (fun b' u' v' ls' st' h' => E sc 100 b' u' v' ls' st' h' Q) (RUN sc) Q 0 k100_2 u v ls st h) : E sc 100 2 u v ls st h Q := E_blk k100_2 0 rfl rfl rfl rfl H
theorem r101 {a0 a1 : Value} (H : B sc 0 0 (some .int) (fun b' u' v' ls' st' h' => E sc 101 b' u' v' ls' st' h' Q) (RUN sc) Q 1 k101_0 0 0 [a0, a1, .long 0, .long 0] [] h) : RUN sc 101 [a0, a1] h Q := E_blk k101_0 1 rfl rfl rfl rfl H
theorem e101_0 (H : B sc 0 0 (some .int) (fun b' u' v' ls' st' h' => E sc 101 b' u' v' ls' st' h' Q) (RUN sc) Q 1 k101_0 u v ls st h) : E sc 101 0 u v ls st h Q := E_blk k101_0 1 rfl rfl rfl rfl H
theorem e101_1 (H : B sc 0 0 (some .int) (fun b' u' v' ls' st' h' => E sc 101 b' u' v' ls' st' h' Q) (RUN sc) Q 0 k101_1 u v ls st h) : E sc 101 1 u v ls st h Q := E_blk k101_1 0 rfl rfl rfl rfl H
theorem e101_2 (H : B sc 0 0 (some .int) (fun b' u' v' ls' st' h' => E sc 101 b' u' v' ls' st' h' Q) (RUN sc) Q 3 k101_2 u v ls st h) : E sc 101 2 u v ls st h Q := E_blk k101_2 3 rfl rfl rfl rfl H
theorem e101_3 (H : B sc 0 0 (some .int) (fun b' u' v' ls' st' h' => E sc 101 b' u' v' ls' st' h' Q) (RUN sc) Q 0 k101_3 u v ls st h) : E sc 101 3 u v ls st h Q := E_blk k101_3 0 rfl rfl rfl rfl H
theorem e101_4 (H : B sc 0 0 (some .int) (fun b' u' v' ls' st' h' => E sc 101 b' u' v' ls' st' h' Q) (RUN sc) Q 0 k101_4 u v ls st h) : E sc 101 4 u v ls st h Q := E_blk k101_4 0 rfl rfl rfl rfl H
theorem r102 {a0 a1 : Value} (H : B sc 0 0 (some .int) (fun b' u' v' ls' st' h' => E sc 102 b' u' v' ls' st' h' Q) (RUN sc) Q 1 k102_0 0 0 [a0, a1, .long 0, .long 0] [] h) : RUN sc 102 [a0, a1] h Q := E_blk k102_0 1 rfl rfl rfl rfl H
theorem e102_0 (H : B sc 0 0 (some .int) (fun b' u' v' ls' st' h' => E sc 102 b' u' v' ls' st' h' Q) (RUN sc) Q 1 k102_0 u v ls st h) : E sc 102 0 u v ls st h Q := E_blk k102_0 1 rfl rfl rfl rfl H
theorem e102_1 (H : B sc 0 0 (some .int) (fun b' u' v' ls' st' h' => E sc 102 b' u' v' ls' st' h' Q) (RUN sc) Q 0 k102_1 u v ls st h) : E sc 102 1 u v ls st h Q := E_blk k102_1 0 rfl rfl rfl rfl H
theorem e102_2 (H : B sc 0 0 (some .int) (fun b' u' v' ls' st' h' => E sc 102 b' u' v' ls' st' h' Q) (RUN sc) Q 3 k102_2 u v ls st h) : E sc 102 2 u v ls st h Q := E_blk k102_2 3 rfl rfl rfl rfl H
theorem e102_3 (H : B sc 0 0 (some .int) (fun b' u' v' ls' st' h' => E sc 102 b' u' v' ls' st' h' Q) (RUN sc) Q 0 k102_3 u v ls st h) : E sc 102 3 u v ls st h Q := E_blk k102_3 0 rfl rfl rfl rfl H
theorem e102_4 (H : B sc 0 0 (some .int) (fun b' u' v' ls' st' h' => E sc 102 b' u' v' ls' st' h' Q) (RUN sc) Q 0 k102_4 u v ls st h) : E sc 102 4 u v ls st h Q := E_blk k102_4 0 rfl rfl rfl rfl H
theorem r103 {a0 a1 : Value} (H : B sc 0 0 (some .boolean) (fun b' u' v' ls' st' h' => E sc 103 b' u' v' ls' st' h' Q) (RUN sc) Q 0 k103_0 0 0 [a0, a1] [] h) : RUN sc 103 [a0, a1] h Q := E_blk k103_0 0 rfl rfl rfl rfl H
theorem e103_0 (H : B sc 0 0 (some .boolean) (fun b' u' v' ls' st' h' => E sc 103 b' u' v' ls' st' h' Q) (RUN sc) Q 0 k103_0 u v ls st h) : E sc 103 0 u v ls st h Q := E_blk k103_0 0 rfl rfl rfl rfl H
theorem e103_1 (H : B sc 0 0 (some .boolean) (fun b' u' v' ls' st' h' => E sc 103 b' u' v' ls' st' h' Q) (RUN sc) Q 2 k103_1 u v ls st h) : E sc 103 1 u v ls st h Q := E_blk k103_1 2 rfl rfl rfl rfl H
theorem e103_2 (H : B sc 0 0 (some .boolean) (fun b' u' v' ls' st' h' => E sc 103 b' u' v' ls' st' h' Q) (RUN sc) Q 0 k103_2 u v ls st h) : E sc 103 2 u v ls st h Q := E_blk k103_2 0 rfl rfl rfl rfl H
theorem r104 {a0 a1 a2 : Value} (H : B sc 0 0 (some .int) (fun b' u' v' ls' st' h' => E sc 104 b' u' v' ls' st' h' Q) (RUN sc) Q 0 k104_0 0 0 [a0, a1, a2, .long 0] [] h) : RUN sc 104 [a0, a1, a2] h Q := E_blk k104_0 0 rfl rfl rfl rfl H
theorem e104_0 (H : B sc 0 0 (some .int) (fun b' u' v' ls' st' h' => E sc 104 b' u' v' ls' st' h' Q) (RUN sc) Q 0 k104_0 u v ls st h) : E sc 104 0 u v ls st h Q := E_blk k104_0 0 rfl rfl rfl rfl H
theorem e104_1 (H : B sc 0 0 (some .int) (fun b' u' v' ls' st' h' => E sc 104 b' u' v' ls' st' h' Q) (RUN sc) Q 0 k104_1 u v ls st h) : E sc 104 1 u v ls st h Q := E_blk k104_1 0 rfl rfl rfl rfl H
theorem e104_2 (H : B sc 0 0 (some .int) (fun b' u' v' ls' st' h' => E sc 104 b' u' v' ls' st' h' Q) (RUN sc) Q 0 k104_2 u v ls st h) : E sc 104 2 u v ls st h Q := E_blk k104_2 0 rfl rfl rfl rfl H
theorem e104_3 (H : B sc 0 0 (some .int) (fun b' u' v' ls' st' h' => E sc 104 b' u' v' ls' st' h' Q) (RUN sc) Q 0 k104_3 u v ls st h) : E sc 104 3 u v ls st h Q := E_blk k104_3 0 rfl rfl rfl rfl H
theorem r105 {a0 a1 : Value} (H : B sc 0 0 (some .int) (fun b' u' v' ls' st' h' => E sc 105 b' u' v' ls' st' h' Q) (RUN sc) Q 0 k105_0 0 0 [a0, a1, .long 0, .long 0] [] h) : RUN sc 105 [a0, a1] h Q := E_blk k105_0 0 rfl rfl rfl rfl H
theorem e105_0 (H : B sc 0 0 (some .int) (fun b' u' v' ls' st' h' => E sc 105 b' u' v' ls' st' h' Q) (RUN sc) Q 0 k105_0 u v ls st h) : E sc 105 0 u v ls st h Q := E_blk k105_0 0 rfl rfl rfl rfl H
theorem e105_1 (H : B sc 0 0 (some .int) (fun b' u' v' ls' st' h' => E sc 105 b' u' v' ls' st' h' Q) (RUN sc) Q 0 k105_1 u v ls st h) : E sc 105 1 u v ls st h Q := E_blk k105_1 0 rfl rfl rfl rfl H
theorem e105_2 (H : B sc 0 0 (some .int) (fun b' u' v' ls' st' h' => E sc 105 b' u' v' ls' st' h' Q) (RUN sc) Q 0 k105_2 u v ls st h) : E sc 105 2 u v ls st h Q := E_blk k105_2 0 rfl rfl rfl rfl H
theorem e105_3 (H : B sc 0 0 (some .int) (fun b' u' v' ls' st' h' => E sc 105 b' u' v' ls' st' h' Q) (RUN sc) Q 4 k105_3 u v ls st h) : E sc 105 3 u v ls st h Q := E_blk k105_3 4 rfl rfl rfl rfl H
theorem e105_4 (H : B sc 0 0 (some .int) (fun b' u' v' ls' st' h' => E sc 105 b' u' v' ls' st' h' Q) (RUN sc) Q 0 k105_4 u v ls st h) : E sc 105 4 u v ls st h Q := E_blk k105_4 0 rfl rfl rfl rfl H
theorem e105_5 (H : B sc 0 0 (some .int) (fun b' u' v' ls' st' h' => E sc 105 b' u' v' ls' st' h' Q) (RUN sc) Q 0 k105_5 u v ls st h) : E sc 105 5 u v ls st h Q := E_blk k105_5 0 rfl rfl rfl rfl H
theorem r106 {a0 a1 : Value} (H : B sc 0 0 (some .int) (fun b' u' v' ls' st' h' => E sc 106 b' u' v' ls' st' h' Q) (RUN sc) Q 0 k106_0 0 0 [a0, a1, .long 0, .long 0] [] h) : RUN sc 106 [a0, a1] h Q := E_blk k106_0 0 rfl rfl rfl rfl H
theorem e106_0 (H : B sc 0 0 (some .int) (fun b' u' v' ls' st' h' => E sc 106 b' u' v' ls' st' h' Q) (RUN sc) Q 0 k106_0 u v ls st h) : E sc 106 0 u v ls st h Q := E_blk k106_0 0 rfl rfl rfl rfl H
theorem e106_1 (H : B sc 0 0 (some .int) (fun b' u' v' ls' st' h' => E sc 106 b' u' v' ls' st' h' Q) (RUN sc) Q 0 k106_1 u v ls st h) : E sc 106 1 u v ls st h Q := E_blk k106_1 0 rfl rfl rfl rfl H
theorem e106_2 (H : B sc 0 0 (some .int) (fun b' u' v' ls' st' h' => E sc 106 b' u' v' ls' st' h' Q) (RUN sc) Q 3 k106_2 u v ls st h) : E sc 106 2 u v ls st h Q := E_blk k106_2 3 rfl rfl rfl rfl H
theorem e106_3 (H : B sc 0 0 (some .int) (fun b' u' v' ls' st' h' => E sc 106 b' u' v' ls' st' h' Q) (RUN sc) Q 0 k106_3 u v ls st h) : E sc 106 3 u v ls st h Q := E_blk k106_3 0 rfl rfl rfl rfl H
theorem e106_4 (H : B sc 0 0 (some .int) (fun b' u' v' ls' st' h' => E sc 106 b' u' v' ls' st' h' Q) (RUN sc) Q 5 k106_4 u v ls st h) : E sc 106 4 u v ls st h Q := E_blk k106_4 5 rfl rfl rfl rfl H
theorem e106_5 (H : B sc 0 0 (some .int) (fun b' u' v' ls' st' h' => E sc 106 b' u' v' ls' st' h' Q) (RUN sc) Q 0 k106_5 u v ls st h) : E sc 106 5 u v ls st h Q := E_blk k106_5 0 rfl rfl rfl rfl H
theorem e106_6 (H : B sc 0 0 (some .int) (fun b' u' v' ls' st' h' => E sc 106 b' u' v' ls' st' h' Q) (RUN sc) Q 0 k106_6 u v ls st h) : E sc 106 6 u v ls st h Q := E_blk k106_6 0 rfl rfl rfl rfl H
theorem r107 {a0 a1 a2 : Value} (H : B sc 0 0 (some .int) (fun b' u' v' ls' st' h' => E sc 107 b' u' v' ls' st' h' Q) (RUN sc) Q 1 k107_0 0 0 [a0, a1, a2, .long 0] [] h) : RUN sc 107 [a0, a1, a2] h Q := E_blk k107_0 1 rfl rfl rfl rfl H
theorem e107_0 (H : B sc 0 0 (some .int) (fun b' u' v' ls' st' h' => E sc 107 b' u' v' ls' st' h' Q) (RUN sc) Q 1 k107_0 u v ls st h) : E sc 107 0 u v ls st h Q := E_blk k107_0 1 rfl rfl rfl rfl H
theorem e107_1 (H : B sc 0 0 (some .int) (fun b' u' v' ls' st' h' => E sc 107 b' u' v' ls' st' h' Q) (RUN sc) Q 0 k107_1 u v ls st h) : E sc 107 1 u v ls st h Q := E_blk k107_1 0 rfl rfl rfl rfl H
theorem e107_2 (H : B sc 0 0 (some .int) (fun b' u' v' ls' st' h' => E sc 107 b' u' v' ls' st' h' Q) (RUN sc) Q 0 k107_2 u v ls st h) : E sc 107 2 u v ls st h Q := E_blk k107_2 0 rfl rfl rfl rfl H
theorem e107_3 (H : B sc 0 0 (some .int) (fun b' u' v' ls' st' h' => E sc 107 b' u' v' ls' st' h' Q) (RUN sc) Q 0 k107_3 u v ls st h) : E sc 107 3 u v ls st h Q := E_blk k107_3 0 rfl rfl rfl rfl H
theorem r108 {a0 a1 a2 : Value} (H : B sc 0 0 (some .int) (fun b' u' v' ls' st' h' => E sc 108 b' u' v' ls' st' h' Q) (RUN sc) Q 0 k108_0 0 0 [a0, a1, a2, .long 0] [] h) : RUN sc 108 [a0, a1, a2] h Q := E_blk k108_0 0 rfl rfl rfl rfl H
theorem e108_0 (H : B sc 0 0 (some .int) (fun b' u' v' ls' st' h' => E sc 108 b' u' v' ls' st' h' Q) (RUN sc) Q 0 k108_0 u v ls st h) : E sc 108 0 u v ls st h Q := E_blk k108_0 0 rfl rfl rfl rfl H
theorem e108_1 (H : B sc 0 0 (some .int) (fun b' u' v' ls' st' h' => E sc 108 b' u' v' ls' st' h' Q) (RUN sc) Q 2 k108_1 u v ls st h) : E sc 108 1 u v ls st h Q := E_blk k108_1 2 rfl rfl rfl rfl H
theorem e108_2 (H : B sc 0 0 (some .int) (fun b' u' v' ls' st' h' => E sc 108 b' u' v' ls' st' h' Q) (RUN sc) Q 0 k108_2 u v ls st h) : E sc 108 2 u v ls st h Q := E_blk k108_2 0 rfl rfl rfl rfl H
theorem e108_3 (H : B sc 0 0 (some .int) (fun b' u' v' ls' st' h' => E sc 108 b' u' v' ls' st' h' Q) (RUN sc) Q 4 k108_3 u v ls st h) : E sc 108 3 u v ls st h Q := E_blk k108_3 4 rfl rfl rfl rfl H
theorem e108_4 (H : B sc 0 0 (some .int) (fun b' u' v' ls' st' h' => E sc 108 b' u' v' ls' st' h' Q) (RUN sc) Q 5 k108_4 u v ls st h) : E sc 108 4 u v ls st h Q := E_blk k108_4 5 rfl rfl rfl rfl H
theorem e108_5 (H : B sc 0 0 (some .int) (fun b' u' v' ls' st' h' => E sc 108 b' u' v' ls' st' h' Q) (RUN sc) Q 0 k108_5 u v ls st h) : E sc 108 5 u v ls st h Q := E_blk k108_5 0 rfl rfl rfl rfl H
theorem e108_6 (H : B sc 0 0 (some .int) (fun b' u' v' ls' st' h' => E sc 108 b' u' v' ls' st' h' Q) (RUN sc) Q 0 k108_6 u v ls st h) : E sc 108 6 u v ls st h Q := E_blk k108_6 0 rfl rfl rfl rfl H
theorem e108_7 (H : B sc 0 0 (some .int) (fun b' u' v' ls' st' h' => E sc 108 b' u' v' ls' st' h' Q) (RUN sc) Q 0 k108_7 u v ls st h) : E sc 108 7 u v ls st h Q := E_blk k108_7 0 rfl rfl rfl rfl H
theorem r109 {a0 a1 a2 a3 a4 : Value} (H : B sc 0 0 (some .int) (fun b' u' v' ls' st' h' => E sc 109 b' u' v' ls' st' h' Q) (RUN sc) Q 0 k109_0 0 0 [a0, a1, a2, a3, a4, .long 0] [] h) : RUN sc 109 [a0, a1, a2, a3, a4] h Q := E_blk k109_0 0 rfl rfl rfl rfl H
theorem e109_0 (H : B sc 0 0 (some .int) (fun b' u' v' ls' st' h' => E sc 109 b' u' v' ls' st' h' Q) (RUN sc) Q 0 k109_0 u v ls st h) : E sc 109 0 u v ls st h Q := E_blk k109_0 0 rfl rfl rfl rfl H
theorem r110 {a0 a1 a2 : Value} (H : B sc 0 0 (some .int) (fun b' u' v' ls' st' h' => E sc 110 b' u' v' ls' st' h' Q) (RUN sc) Q 1 k110_0 0 0 [a0, a1, a2, .long 0, .long 0] [] h) : RUN sc 110 [a0, a1, a2] h Q := E_blk k110_0 1 rfl rfl rfl rfl H
theorem e110_0 (H : B sc 0 0 (some .int) (fun b' u' v' ls' st' h' => E sc 110 b' u' v' ls' st' h' Q) (RUN sc) Q 1 k110_0 u v ls st h) : E sc 110 0 u v ls st h Q := E_blk k110_0 1 rfl rfl rfl rfl H
theorem e110_1 (H : B sc 0 0 (some .int) (fun b' u' v' ls' st' h' => E sc 110 b' u' v' ls' st' h' Q) (RUN sc) Q 2 k110_1 u v ls st h) : E sc 110 1 u v ls st h Q := E_blk k110_1 2 rfl rfl rfl rfl H
theorem e110_2 (H : B sc 0 0 (some .int) (fun b' u' v' ls' st' h' => E sc 110 b' u' v' ls' st' h' Q) (RUN sc) Q 3 k110_2 u v ls st h) : E sc 110 2 u v ls st h Q := E_blk k110_2 3 rfl rfl rfl rfl H
theorem e110_3 (H : B sc 0 0 (some .int) (fun b' u' v' ls' st' h' => E sc 110 b' u' v' ls' st' h' Q) (RUN sc) Q 4 k110_3 u v ls st h) : E sc 110 3 u v ls st h Q := E_blk k110_3 4 rfl rfl rfl rfl H
theorem e110_4 (H : B sc 0 0 (some .int) (fun b' u' v' ls' st' h' => E sc 110 b' u' v' ls' st' h' Q) (RUN sc) Q 0 k110_4 u v ls st h) : E sc 110 4 u v ls st h Q := E_blk k110_4 0 rfl rfl rfl rfl H
theorem e110_5 (H : B sc 0 0 (some .int) (fun b' u' v' ls' st' h' => E sc 110 b' u' v' ls' st' h' Q) (RUN sc) Q 0 k110_5 u v ls st h) : E sc 110 5 u v ls st h Q := E_blk k110_5 0 rfl rfl rfl rfl H
theorem r111 {a0 a1 a2 a3 : Value} (H : B sc 0 0 none (fun b' u' v' ls' st' h' => E sc 111 b' u' v' ls' st' h' Q) (RUN sc) Q 0 k111_0 0 0 [a0, a1, a2, a3] [] h) : RUN sc 111 [a0, a1, a2, a3] h Q := E_blk k111_0 0 rfl rfl rfl rfl H
theorem e111_0 (H : B sc 0 0 none (fun b' u' v' ls' st' h' => E sc 111 b' u' v' ls' st' h' Q) (RUN sc) Q 0 k111_0 u v ls st h) : E sc 111 0 u v ls st h Q := E_blk k111_0 0 rfl rfl rfl rfl H
theorem e111_1 (H : B sc 0 0 none (fun b' u' v' ls' st' h' => E sc 111 b' u' v' ls' st' h' Q) (RUN sc) Q 2 k111_1 u v ls st h) : E sc 111 1 u v ls st h Q := E_blk k111_1 2 rfl rfl rfl rfl H
theorem e111_2 (H : B sc 0 0 none (fun b' u' v' ls' st' h' => E sc 111 b' u' v' ls' st' h' Q) (RUN sc) Q 0 k111_2 u v ls st h) : E sc 111 2 u v ls st h Q := E_blk k111_2 0 rfl rfl rfl rfl H
theorem r112 {a0 a1 : Value} (H : B sc 0 0 (some .int) (fun b' u' v' ls' st' h' => E sc 112 b' u' v' ls' st' h' Q) (RUN sc) Q 1 k112_0 0 0 [a0, a1, .long 0, .long 0] [] h) : RUN sc 112 [a0, a1] h Q := E_blk k112_0 1 rfl rfl rfl rfl H
theorem e112_0 (H : B sc 0 0 (some .int) (fun b' u' v' ls' st' h' => E sc 112 b' u' v' ls' st' h' Q) (RUN sc) Q 1 k112_0 u v ls st h) : E sc 112 0 u v ls st h Q := E_blk k112_0 1 rfl rfl rfl rfl H
theorem e112_1 (H : B sc 0 0 (some .int) (fun b' u' v' ls' st' h' => E sc 112 b' u' v' ls' st' h' Q) (RUN sc) Q 2 k112_1 u v ls st h) : E sc 112 1 u v ls st h Q := E_blk k112_1 2 rfl rfl rfl rfl H
theorem e112_2 (H : B sc 0 0 (some .int) (fun b' u' v' ls' st' h' => E sc 112 b' u' v' ls' st' h' Q) (RUN sc) Q 3 k112_2 u v ls st h) : E sc 112 2 u v ls st h Q := E_blk k112_2 3 rfl rfl rfl rfl H
theorem e112_3 (H : B sc 0 0 (some .int) (fun b' u' v' ls' st' h' => E sc 112 b' u' v' ls' st' h' Q) (RUN sc) Q 0 k112_3 u v ls st h) : E sc 112 3 u v ls st h Q := E_blk k112_3 0 rfl rfl rfl rfl H
theorem e112_4 (H : B sc 0 0 (some .int) (fun b' u' v' ls' st' h' => E sc 112 b' u' v' ls' st' h' Q) (RUN sc) Q 0 k112_4 u v ls st h) : E sc 112 4 u v ls st h Q := E_blk k112_4 0 rfl rfl rfl rfl H
theorem r113 {a0 a1 a2 : Value} (H : B sc 0 0 (some .boolean) (fun b' u' v' ls' st' h' => E sc 113 b' u' v' ls' st' h' Q) (RUN sc) Q 0 k113_0 0 0 [a0, a1, a2, .long 0] [] h) : RUN sc 113 [a0, a1, a2] h Q := E_blk k113_0 0 rfl rfl rfl rfl H
theorem e113_0 (H : B sc 0 0 (some .boolean) (fun b' u' v' ls' st' h' => E sc 113 b' u' v' ls' st' h' Q) (RUN sc) Q 0 k113_0 u v ls st h) : E sc 113 0 u v ls st h Q := E_blk k113_0 0 rfl rfl rfl rfl H
theorem e113_1 (H : B sc 0 0 (some .boolean) (fun b' u' v' ls' st' h' => E sc 113 b' u' v' ls' st' h' Q) (RUN sc) Q 0 k113_1 u v ls st h) : E sc 113 1 u v ls st h Q := E_blk k113_1 0 rfl rfl rfl rfl H
theorem e113_2 (H : B sc 0 0 (some .boolean) (fun b' u' v' ls' st' h' => E sc 113 b' u' v' ls' st' h' Q) (RUN sc) Q 0 k113_2 u v ls st h) : E sc 113 2 u v ls st h Q := E_blk k113_2 0 rfl rfl rfl rfl H
theorem r114 {a0 a1 a2 a3 a4 : Value} (H : B sc 0 0 (some .int) (fun b' u' v' ls' st' h' => E sc 114 b' u' v' ls' st' h' Q) (RUN sc) Q 0 k114_0 0 0 [a0, a1, a2, a3, a4] [] h) : RUN sc 114 [a0, a1, a2, a3, a4] h Q := E_blk k114_0 0 rfl rfl rfl rfl H
theorem e114_0 (H : B sc 0 0 (some .int) (fun b' u' v' ls' st' h' => E sc 114 b' u' v' ls' st' h' Q) (RUN sc) Q 0 k114_0 u v ls st h) : E sc 114 0 u v ls st h Q := E_blk k114_0 0 rfl rfl rfl rfl H
theorem e114_1 (H : B sc 0 0 (some .int) (fun b' u' v' ls' st' h' => E sc 114 b' u' v' ls' st' h' Q) (RUN sc) Q 0 k114_1 u v ls st h) : E sc 114 1 u v ls st h Q := E_blk k114_1 0 rfl rfl rfl rfl H
theorem r115 {a0 a1 a2 a3 : Value} (H : B sc 0 0 (some .int) (fun b' u' v' ls' st' h' => E sc 115 b' u' v' ls' st' h' Q) (RUN sc) Q 1 k115_0 0 0 [a0, a1, a2, a3, .long 0, .long 0] [] h) : RUN sc 115 [a0, a1, a2, a3] h Q := E_blk k115_0 1 rfl rfl rfl rfl H
theorem e115_0 (H : B sc 0 0 (some .int) (fun b' u' v' ls' st' h' => E sc 115 b' u' v' ls' st' h' Q) (RUN sc) Q 1 k115_0 u v ls st h) : E sc 115 0 u v ls st h Q := E_blk k115_0 1 rfl rfl rfl rfl H
theorem e115_1 (H : B sc 0 0 (some .int) (fun b' u' v' ls' st' h' => E sc 115 b' u' v' ls' st' h' Q) (RUN sc) Q 0 k115_1 u v ls st h) : E sc 115 1 u v ls st h Q := E_blk k115_1 0 rfl rfl rfl rfl H
theorem e115_2 (H : B sc 0 0 (some .int) (fun b' u' v' ls' st' h' => E sc 115 b' u' v' ls' st' h' Q) (RUN sc) Q 3 k115_2 u v ls st h) : E sc 115 2 u v ls st h Q := E_blk k115_2 3 rfl rfl rfl rfl H
theorem e115_3 (H : B sc 0 0 (some .int) (fun b' u' v' ls' st' h' => E sc 115 b' u' v' ls' st' h' Q) (RUN sc) Q 0 k115_3 u v ls st h) : E sc 115 3 u v ls st h Q := E_blk k115_3 0 rfl rfl rfl rfl H
theorem e115_4 (H : B sc 0 0 (some .int) (fun b' u' v' ls' st' h' => E sc 115 b' u' v' ls' st' h' Q) (RUN sc) Q 5 k115_4 u v ls st h) : E sc 115 4 u v ls st h Q := E_blk k115_4 5 rfl rfl rfl rfl H
theorem e115_5 (H : B sc 0 0 (some .int) (fun b' u' v' ls' st' h' => E sc 115 b' u' v' ls' st' h' Q) (RUN sc) Q 0 k115_5 u v ls st h) : E sc 115 5 u v ls st h Q := E_blk k115_5 0 rfl rfl rfl rfl H
theorem r116 {a0 a1 a2 a3 : Value} (H : B sc 0 0 (some .int) (fun b' u' v' ls' st' h' => E sc 116 b' u' v' ls' st' h' Q) (RUN sc) Q 0 k116_0 0 0 [a0, a1, a2, a3, .long 0, .long 0, .long 0, .long 0, .long 0, .long 0] [] h) : RUN sc 116 [a0, a1, a2, a3] h Q := E_blk k116_0 0 rfl rfl rfl rfl H
theorem e116_0 (H : B sc 0 0 (some .int) (fun b' u' v' ls' st' h' => E sc 116 b' u' v' ls' st' h' Q) (RUN sc) Q 0 k116_0 u v ls st h) : E sc 116 0 u v ls st h Q := E_blk k116_0 0 rfl rfl rfl rfl H
theorem e116_1 (H : B sc 0 0 (some .int) (fun b' u' v' ls' st' h' => E sc 116 b' u' v' ls' st' h' Q) (RUN sc) Q 2 k116_1 u v ls st h) : E sc 116 1 u v ls st h Q := E_blk k116_1 2 rfl rfl rfl rfl H
theorem e116_2 (H : B sc 0 0 (some .int) (fun b' u' v' ls' st' h' => E sc 116 b' u' v' ls' st' h' Q) (RUN sc) Q 3 k116_2 u v ls st h) : E sc 116 2 u v ls st h Q := E_blk k116_2 3 rfl rfl rfl rfl H
theorem e116_3 (H : B sc 0 0 (some .int) (fun b' u' v' ls' st' h' => E sc 116 b' u' v' ls' st' h' Q) (RUN sc) Q 4 k116_3 u v ls st h) : E sc 116 3 u v ls st h Q := E_blk k116_3 4 rfl rfl rfl rfl H
theorem e116_4 (H : B sc 0 0 (some .int) (fun b' u' v' ls' st' h' => E sc 116 b' u' v' ls' st' h' Q) (RUN sc) Q 0 k116_4 u v ls st h) : E sc 116 4 u v ls st h Q := E_blk k116_4 0 rfl rfl rfl rfl H
theorem e116_5 (H : B sc 0 0 (some .int) (fun b' u' v' ls' st' h' => E sc 116 b' u' v' ls' st' h' Q) (RUN sc) Q 0 k116_5 u v ls st h) : E sc 116 5 u v ls st h Q := E_blk k116_5 0 rfl rfl rfl rfl H
theorem e116_6 (H : B sc 0 0 (some .int) (fun b' u' v' ls' st' h' => E sc 116 b' u' v' ls' st' h' Q) (RUN sc) Q 7 k116_6 u v ls st h) : E sc 116 6 u v ls st h Q := E_blk k116_6 7 rfl rfl rfl rfl H
theorem e116_7 (H : B sc 0 0 (some .int) (fun b' u' v' ls' st' h' => E sc 116 b' u' v' ls' st' h' Q) (RUN sc) Q 0 k116_7 u v ls st h) : E sc 116 7 u v ls st h Q := E_blk k116_7 0 rfl rfl rfl rfl H
theorem e116_8 (H : B sc 0 0 (some .int) (fun b' u' v' ls' st' h' => E sc 116 b' u' v' ls' st' h' Q) (RUN sc) Q 9 k116_8 u v ls st h) : E sc 116 8 u v ls st h Q := E_blk k116_8 9 rfl rfl rfl rfl H
theorem e116_9 (H : B sc 0 0 (some .int) (fun b' u' v' ls' st' h' => E sc 116 b' u' v' ls' st' h' Q) (RUN sc) Q 0 k116_9 u v ls st h) : E sc 116 9 u v ls st h Q := E_blk k116_9 0 rfl rfl rfl rfl H
theorem e116_10 (H : B sc 0 0 (some .int) (fun b' u' v' ls' st' h' => E sc 116 b' u' v' ls' st' h' Q) (RUN sc) Q 11 k116_10 u v ls st h) : E sc 116 10 u v ls st h Q := E_blk k116_10 11 rfl rfl rfl rfl H
theorem e116_11 (H : B sc 0 0 (some .int) (fun b' u' v' ls' st' h' => E sc 116 b' u' v' ls' st' h' Q) (RUN sc) Q 0 k116_11 u v ls st h) : E sc 116 11 u v ls st h Q := E_blk k116_11 0 rfl rfl rfl rfl H
theorem e116_12 (H : B sc 0 0 (some .int) (fun b' u' v' ls' st' h' => E sc 116 b' u' v' ls' st' h' Q) (RUN sc) Q 13 k116_12 u v ls st h) : E sc 116 12 u v ls st h Q := E_blk k116_12 13 rfl rfl rfl rfl H
theorem e116_13 (H : B sc 0 0 (some .int) (fun b' u' v' ls' st' h' => E sc 116 b' u' v' ls' st' h' Q) (RUN sc) Q 0 k116_13 u v ls st h) : E sc 116 13 u v ls st h Q := E_blk k116_13 0 rfl rfl rfl rfl H
theorem e116_14 (H : B sc 0 0 (some .int) (fun b' u' v' ls' st' h' => E sc 116 b' u' v' ls' st' h' Q) (RUN sc) Q 15 k116_14 u v ls st h) : E sc 116 14 u v ls st h Q := E_blk k116_14 15 rfl rfl rfl rfl H
theorem e116_15 (H : B sc 0 0 (some .int) (fun b' u' v' ls' st' h' => E sc 116 b' u' v' ls' st' h' Q) (RUN sc) Q 0 k116_15 u v ls st h) : E sc 116 15 u v ls st h Q := E_blk k116_15 0 rfl rfl rfl rfl H
theorem r117 {a0 a1 a2 a3 a4 a5 a6 : Value} (H : B sc 0 0 (some .int) (fun b' u' v' ls' st' h' => E sc 117 b' u' v' ls' st' h' Q) (RUN sc) Q 1 k117_0 0 0 [a0, a1, a2, a3, a4, a5, a6, .long 0, .long 0, .long 0, .long 0] [] h) : RUN sc 117 [a0, a1, a2, a3, a4, a5, a6] h Q := E_blk k117_0 1 rfl rfl rfl rfl H
theorem e117_0 (H : B sc 0 0 (some .int) (fun b' u' v' ls' st' h' => E sc 117 b' u' v' ls' st' h' Q) (RUN sc) Q 1 k117_0 u v ls st h) : E sc 117 0 u v ls st h Q := E_blk k117_0 1 rfl rfl rfl rfl H
theorem e117_1 (H : B sc 0 0 (some .int) (fun b' u' v' ls' st' h' => E sc 117 b' u' v' ls' st' h' Q) (RUN sc) Q 0 k117_1 u v ls st h) : E sc 117 1 u v ls st h Q := E_blk k117_1 0 rfl rfl rfl rfl H
theorem e117_2 (H : B sc 0 0 (some .int) (fun b' u' v' ls' st' h' => E sc 117 b' u' v' ls' st' h' Q) (RUN sc) Q 3 k117_2 u v ls st h) : E sc 117 2 u v ls st h Q := E_blk k117_2 3 rfl rfl rfl rfl H
theorem e117_3 (H : B sc 0 0 (some .int) (fun b' u' v' ls' st' h' => E sc 117 b' u' v' ls' st' h' Q) (RUN sc) Q 0 k117_3 u v ls st h) : E sc 117 3 u v ls st h Q := E_blk k117_3 0 rfl rfl rfl rfl H
theorem e117_4 (H : B sc 0 0 (some .int) (fun b' u' v' ls' st' h' => E sc 117 b' u' v' ls' st' h' Q) (RUN sc) Q 0 k117_4 u v ls st h) : E sc 117 4 u v ls st h Q := E_blk k117_4 0 rfl rfl rfl rfl H
theorem e117_5 (H : B sc 0 0 (some .int) (fun b' u' v' ls' st' h' => E sc 117 b' u' v' ls' st' h' Q) (RUN sc) Q 6 k117_5 u v ls st h) : E sc 117 5 u v ls st h Q := E_blk k117_5 6 rfl rfl rfl rfl H
theorem e117_6 (H : B sc 0 0 (some .int) (fun b' u' v' ls' st' h' => E sc 117 b' u' v' ls' st' h' Q) (RUN sc) Q 7 k117_6 u v ls st h) : E sc 117 6 u v ls st h Q := E_blk k117_6 7 rfl rfl rfl rfl H
theorem e117_7 (H : B sc 0 0 (some .int) (fun b' u' v' ls' st' h' => E sc 117 b' u' v' ls' st' h' Q) (RUN sc) Q 0 k117_7 u v ls st h) : E sc 117 7 u v ls st h Q := E_blk k117_7 0 rfl rfl rfl rfl H
theorem e117_8 (H : B sc 0 0 (some .int) (fun b' u' v' ls' st' h' => E sc 117 b' u' v' ls' st' h' Q) (RUN sc) Q 9 k117_8 u v ls st h) : E sc 117 8 u v ls st h Q := E_blk k117_8 9 rfl rfl rfl rfl H
theorem e117_9 (H : B sc 0 0 (some .int) (fun b' u' v' ls' st' h' => E sc 117 b' u' v' ls' st' h' Q) (RUN sc) Q 0 k117_9 u v ls st h) : E sc 117 9 u v ls st h Q := E_blk k117_9 0 rfl rfl rfl rfl H
theorem r118 {a0 a1 a2 : Value} (H : B sc 0 0 (some .int) (fun b' u' v' ls' st' h' => E sc 118 b' u' v' ls' st' h' Q) (RUN sc) Q 1 k118_0 0 0 [a0, a1, a2] [] h) : RUN sc 118 [a0, a1, a2] h Q := E_blk k118_0 1 rfl rfl rfl rfl H
theorem e118_0 (H : B sc 0 0 (some .int) (fun b' u' v' ls' st' h' => E sc 118 b' u' v' ls' st' h' Q) (RUN sc) Q 1 k118_0 u v ls st h) : E sc 118 0 u v ls st h Q := E_blk k118_0 1 rfl rfl rfl rfl H
theorem e118_1 (H : B sc 0 0 (some .int) (fun b' u' v' ls' st' h' => E sc 118 b' u' v' ls' st' h' Q) (RUN sc) Q 0 k118_1 u v ls st h) : E sc 118 1 u v ls st h Q := E_blk k118_1 0 rfl rfl rfl rfl H
theorem e118_2 (H : B sc 0 0 (some .int) (fun b' u' v' ls' st' h' => E sc 118 b' u' v' ls' st' h' Q) (RUN sc) Q 0 k118_2 u v ls st h) : E sc 118 2 u v ls st h Q := E_blk k118_2 0 rfl rfl rfl rfl H
theorem r119 {a0 a1 a2 : Value} (H : B sc 0 0 (some .int) (fun b' u' v' ls' st' h' => E sc 119 b' u' v' ls' st' h' Q) (RUN sc) Q 1 k119_0 0 0 [a0, a1, a2] [] h) : RUN sc 119 [a0, a1, a2] h Q := E_blk k119_0 1 rfl rfl rfl rfl H
theorem e119_0 (H : B sc 0 0 (some .int) (fun b' u' v' ls' st' h' => E sc 119 b' u' v' ls' st' h' Q) (RUN sc) Q 1 k119_0 u v ls st h) : E sc 119 0 u v ls st h Q := E_blk k119_0 1 rfl rfl rfl rfl H
theorem e119_1 (H : B sc 0 0 (some .int) (fun b' u' v' ls' st' h' => E sc 119 b' u' v' ls' st' h' Q) (RUN sc) Q 0 k119_1 u v ls st h) : E sc 119 1 u v ls st h Q := E_blk k119_1 0 rfl rfl rfl rfl H
theorem e119_2 (H : B sc 0 0 (some .int) (fun b' u' v' ls' st' h' => E sc 119 b' u' v' ls' st' h' Q) (RUN sc) Q 0 k119_2 u v ls st h) : E sc 119 2 u v ls st h Q := E_blk k119_2 0 rfl rfl rfl rfl H
theorem r120 {a0 : Value} (H : B sc 0 0 (some .int) (fun b' u' v' ls' st' h' => E sc 120 b' u' v' ls' st' h' Q) (RUN sc) Q 1 k120_0 0 0 [a0, .long 0, .long 0, .long 0] [] h) : RUN sc 120 [a0] h Q := E_blk k120_0 1 rfl rfl rfl rfl H
theorem e120_0 (H : B sc 0 0 (some .int) (fun b' u' v' ls' st' h' => E sc 120 b' u' v' ls' st' h' Q) (RUN sc) Q 1 k120_0 u v ls st h) : E sc 120 0 u v ls st h Q := E_blk k120_0 1 rfl rfl rfl rfl H
theorem e120_1 (H : B sc 0 0 (some .int) (fun b' u' v' ls' st' h' => E sc 120 b' u' v' ls' st' h' Q) (RUN sc) Q 2 k120_1 u v ls st h) : E sc 120 1 u v ls st h Q := E_blk k120_1 2 rfl rfl rfl rfl H
theorem e120_2 (H : B sc 0 0 (some .int) (fun b' u' v' ls' st' h' => E sc 120 b' u' v' ls' st' h' Q) (RUN sc) Q 0 k120_2 u v ls st h) : E sc 120 2 u v ls st h Q := E_blk k120_2 0 rfl rfl rfl rfl H
theorem e120_3 (H : B sc 0 0 (some .int) (fun b' u' v' ls' st' h' => E sc 120 b' u' v' ls' st' h' Q) (RUN sc) Q 0 k120_3 u v ls st h) : E sc 120 3 u v ls st h Q := E_blk k120_3 0 rfl rfl rfl rfl H
theorem e120_4 (H : B sc 0 0 (some .int) (fun b' u' v' ls' st' h' => E sc 120 b' u' v' ls' st' h' Q) (RUN sc) Q 0 k120_4 u v ls st h) : E sc 120 4 u v ls st h Q := E_blk k120_4 0 rfl rfl rfl rfl H
theorem r121 {a0 : Value} (H : B sc 0 0 (some .int) (fun b' u' v' ls' st' h' => E sc 121 b' u' v' ls' st' h' Q) (RUN sc) Q 0 k121_0 0 0 [a0, .long 0, .long 0] [] h) : RUN sc 121 [a0] h Q := E_blk k121_0 0 rfl rfl rfl rfl H
theorem e121_0 (H : B sc 0 0 (some .int) (fun b' u' v' ls' st' h' => E sc 121 b' u' v' ls' st' h' Q) (RUN sc) Q 0 k121_0 u v ls st h) : E sc 121 0 u v ls st h Q := E_blk k121_0 0 rfl rfl rfl rfl H
theorem e121_1 (H : B sc 0 0 (some .int) (fun b' u' v' ls' st' h' => E sc 121 b' u' v' ls' st' h' Q) (RUN sc) Q 2 k121_1 u v ls st h) : E sc 121 1 u v ls st h Q := E_blk k121_1 2 rfl rfl rfl rfl H
theorem e121_2 (H : B sc 0 0 (some .int) (fun b' u' v' ls' st' h' => E sc 121 b' u' v' ls' st' h' Q) (RUN sc) Q 3 k121_2 u v ls st h) : E sc 121 2 u v ls st h Q := E_blk k121_2 3 rfl rfl rfl rfl H
theorem e121_3 (H : B sc 0 0 (some .int) (fun b' u' v' ls' st' h' => E sc 121 b' u' v' ls' st' h' Q) (RUN sc) Q 0 k121_3 u v ls st h) : E sc 121 3 u v ls st h Q := E_blk k121_3 0 rfl rfl rfl rfl H
theorem e121_4 (H : B sc 0 0 (some .int) (fun b' u' v' ls' st' h' => E sc 121 b' u' v' ls' st' h' Q) (RUN sc) Q 0 k121_4 u v ls st h) : E sc 121 4 u v ls st h Q := E_blk k121_4 0 rfl rfl rfl rfl H
theorem e121_5 (H : B sc 0 0 (some .int) (fun b' u' v' ls' st' h' => E sc 121 b' u' v' ls' st' h' Q) (RUN sc) Q 0 k121_5 u v ls st h) : E sc 121 5 u v ls st h Q := E_blk k121_5 0 rfl rfl rfl rfl H
theorem r122 {a0 a1 : Value} (H : B sc 0 0 (some .int) (fun b' u' v' ls' st' h' => E sc 122 b' u' v' ls' st' h' Q) (RUN sc) Q 0 k122_0 0 0 [a0, a1] [] h) : RUN sc 122 [a0, a1] h Q := E_blk k122_0 0 rfl rfl rfl rfl H
theorem e122_0 (H : B sc 0 0 (some .int) (fun b' u' v' ls' st' h' => E sc 122 b' u' v' ls' st' h' Q) (RUN sc) Q 0 k122_0 u v ls st h) : E sc 122 0 u v ls st h Q := E_blk k122_0 0 rfl rfl rfl rfl H
theorem e122_1 (H : B sc 0 0 (some .int) (fun b' u' v' ls' st' h' => E sc 122 b' u' v' ls' st' h' Q) (RUN sc) Q 0 k122_1 u v ls st h) : E sc 122 1 u v ls st h Q := E_blk k122_1 0 rfl rfl rfl rfl H
theorem r123 {a0 : Value} (H : B sc 0 0 (some .int) (fun b' u' v' ls' st' h' => E sc 123 b' u' v' ls' st' h' Q) (RUN sc) Q 0 k123_0 0 0 [a0, .long 0] [] h) : RUN sc 123 [a0] h Q := E_blk k123_0 0 rfl rfl rfl rfl H
theorem e123_0 (H : B sc 0 0 (some .int) (fun b' u' v' ls' st' h' => E sc 123 b' u' v' ls' st' h' Q) (RUN sc) Q 0 k123_0 u v ls st h) : E sc 123 0 u v ls st h Q := E_blk k123_0 0 rfl rfl rfl rfl H
theorem r124 {a0 : Value} (H : B sc 0 0 (some .boolean) (fun b' u' v' ls' st' h' => E sc 124 b' u' v' ls' st' h' Q) (RUN sc) Q 0 k124_0 0 0 [a0] [] h) : RUN sc 124 [a0] h Q := E_blk k124_0 0 rfl rfl rfl rfl H
theorem e124_0 (H : B sc 0 0 (some .boolean) (fun b' u' v' ls' st' h' => E sc 124 b' u' v' ls' st' h' Q) (RUN sc) Q 0 k124_0 u v ls st h) : E sc 124 0 u v ls st h Q := E_blk k124_0 0 rfl rfl rfl rfl H
theorem e124_1 (H : B sc 0 0 (some .boolean) (fun b' u' v' ls' st' h' => E sc 124 b' u' v' ls' st' h' Q) (RUN sc) Q 2 k124_1 u v ls st h) : E sc 124 1 u v ls st h Q := E_blk k124_1 2 rfl rfl rfl rfl H
theorem e124_2 (H : B sc 0 0 (some .boolean) (fun b' u' v' ls' st' h' => E sc 124 b' u' v' ls' st' h' Q) (RUN sc) Q 0 k124_2 u v ls st h) : E sc 124 2 u v ls st h Q := E_blk k124_2 0 rfl rfl rfl rfl H
theorem r125 {a0 : Value} (H : B sc 0 0 (some .boolean) (fun b' u' v' ls' st' h' => E sc 125 b' u' v' ls' st' h' Q) (RUN sc) Q 1 k125_0 0 0 [a0] [] h) : RUN sc 125 [a0] h Q := E_blk k125_0 1 rfl rfl rfl rfl H
theorem e125_0 (H : B sc 0 0 (some .boolean) (fun b' u' v' ls' st' h' => E sc 125 b' u' v' ls' st' h' Q) (RUN sc) Q 1 k125_0 u v ls st h) : E sc 125 0 u v ls st h Q := E_blk k125_0 1 rfl rfl rfl rfl H
theorem e125_1 (H : B sc 0 0 (some .boolean) (fun b' u' v' ls' st' h' => E sc 125 b' u' v' ls' st' h' Q) (RUN sc) Q 0 k125_1 u v ls st h) : E sc 125 1 u v ls st h Q := E_blk k125_1 0 rfl rfl rfl rfl H
theorem e125_2 (H : B sc 0 0 (some .boolean) (fun b' u' v' ls' st' h' => E sc 125 b' u' v' ls' st' h' Q) (RUN sc) Q 0 k125_2 u v ls st h) : E sc 125 2 u v ls st h Q := E_blk k125_2 0 rfl rfl rfl rfl H
theorem e125_3 (H : B sc 0 0 (some .boolean) (fun b' u' v' ls' st' h' => E sc 125 b' u' v' ls' st' h' Q) (RUN sc) Q 4 k125_3 u v ls st h) : E sc 125 3 u v ls st h Q := E_blk k125_3 4 rfl rfl rfl rfl H
theorem e125_4 (H : B sc 0 0 (some .boolean) (fun b' u' v' ls' st' h' => E sc 125 b' u' v' ls' st' h' Q) (RUN sc) Q 0 k125_4 u v ls st h) : E sc 125 4 u v ls st h Q := E_blk k125_4 0 rfl rfl rfl rfl H
theorem e125_5 (H : B sc 0 0 (some .boolean) (fun b' u' v' ls' st' h' => E sc 125 b' u' v' ls' st' h' Q) (RUN sc) Q 6 k125_5 u v ls st h) : E sc 125 5 u v ls st h Q := E_blk k125_5 6 rfl rfl rfl rfl H
theorem e125_6 (H : B sc 0 0 (some .boolean) (fun b' u' v' ls' st' h' => E sc 125 b' u' v' ls' st' h' Q) (RUN sc) Q 0 k125_6 u v ls st h) : E sc 125 6 u v ls st h Q := E_blk k125_6 0 rfl rfl rfl rfl H
theorem e125_7 (H : B sc 0 0 (some .boolean) (fun b' u' v' ls' st' h' => E sc 125 b' u' v' ls' st' h' Q) (RUN sc) Q 8 k125_7 u v ls st h) : E sc 125 7 u v ls st h Q := E_blk k125_7 8 rfl rfl rfl rfl H
theorem e125_8 (H : B sc 0 0 (some .boolean) (fun b' u' v' ls' st' h' => E sc 125 b' u' v' ls' st' h' Q) (RUN sc) Q 0 k125_8 u v ls st h) : E sc 125 8 u v ls st h Q := E_blk k125_8 0 rfl rfl rfl rfl H
theorem r126 {a0 : Value} (H : B sc 0 0 (some .int) (fun b' u' v' ls' st' h' => E sc 126 b' u' v' ls' st' h' Q) (RUN sc) Q 1 k126_0 0 0 [a0, .long 0, .long 0] [] h) : RUN sc 126 [a0] h Q := E_blk k126_0 1 rfl rfl rfl rfl H
theorem e126_0 (H : B sc 0 0 (some .int) (fun b' u' v' ls' st' h' => E sc 126 b' u' v' ls' st' h' Q) (RUN sc) Q 1 k126_0 u v ls st h) : E sc 126 0 u v ls st h Q := E_blk k126_0 1 rfl rfl rfl rfl H
theorem e126_1 (H : B sc 0 0 (some .int) (fun b' u' v' ls' st' h' => E sc 126 b' u' v' ls' st' h' Q) (RUN sc) Q 0 k126_1 u v ls st h) : E sc 126 1 u v ls st h Q := E_blk k126_1 0 rfl rfl rfl rfl H
theorem e126_2 (H : B sc 0 0 (some .int) (fun b' u' v' ls' st' h' => E sc 126 b' u' v' ls' st' h' Q) (RUN sc) Q 0 k126_2 u v ls st h) : E sc 126 2 u v ls st h Q := E_blk k126_2 0 rfl rfl rfl rfl H
theorem e126_3 (H : B sc 0 0 (some .int) (fun b' u' v' ls' st' h' => E sc 126 b' u' v' ls' st' h' Q) (RUN sc) Q 4 k126_3 u v ls st h) : E sc 126 3 u v ls st h Q := E_blk k126_3 4 rfl rfl rfl rfl H
theorem e126_4 (H : B sc 0 0 (some .int) (fun b' u' v' ls' st' h' => E sc 126 b' u' v' ls' st' h' Q) (RUN sc) Q 0 k126_4 u v ls st h) : E sc 126 4 u v ls st h Q := E_blk k126_4 0 rfl rfl rfl rfl H
theorem e126_5 (H : B sc 0 0 (some .int) (fun b' u' v' ls' st' h' => E sc 126 b' u' v' ls' st' h' Q) (RUN sc) Q 0 k126_5 u v ls st h) : E sc 126 5 u v ls st h Q := E_blk k126_5 0 rfl rfl rfl rfl H
theorem e126_6 (H : B sc 0 0 (some .int) (fun b' u' v' ls' st' h' => E sc 126 b' u' v' ls' st' h' Q) (RUN sc) Q 7 k126_6 u v ls st h) : E sc 126 6 u v ls st h Q := E_blk k126_6 7 rfl rfl rfl rfl H
theorem e126_7 (H : B sc 0 0 (some .int) (fun b' u' v' ls' st' h' => E sc 126 b' u' v' ls' st' h' Q) (RUN sc) Q 0 k126_7 u v ls st h) : E sc 126 7 u v ls st h Q := E_blk k126_7 0 rfl rfl rfl rfl H
theorem e126_8 (H : B sc 0 0 (some .int) (fun b' u' v' ls' st' h' => E sc 126 b' u' v' ls' st' h' Q) (RUN sc) Q 0 k126_8 u v ls st h) : E sc 126 8 u v ls st h Q := E_blk k126_8 0 rfl rfl rfl rfl H
theorem r127 {a0 : Value} (H : B sc 0 0 (some .int) (fun b' u' v' ls' st' h' => E sc 127 b' u' v' ls' st' h' Q) (RUN sc) Q 0 k127_0 0 0 [a0, .long 0, .long 0] [] h) : RUN sc 127 [a0] h Q := E_blk k127_0 0 rfl rfl rfl rfl H
theorem e127_0 (H : B sc 0 0 (some .int) (fun b' u' v' ls' st' h' => E sc 127 b' u' v' ls' st' h' Q) (RUN sc) Q 0 k127_0 u v ls st h) : E sc 127 0 u v ls st h Q := E_blk k127_0 0 rfl rfl rfl rfl H
theorem e127_1 (H : B sc 0 0 (some .int) (fun b' u' v' ls' st' h' => E sc 127 b' u' v' ls' st' h' Q) (RUN sc) Q 2 k127_1 u v ls st h) : E sc 127 1 u v ls st h Q := E_blk k127_1 2 rfl rfl rfl rfl H
theorem e127_2 (H : B sc 0 0 (some .int) (fun b' u' v' ls' st' h' => E sc 127 b' u' v' ls' st' h' Q) (RUN sc) Q 3 k127_2 u v ls st h) : E sc 127 2 u v ls st h Q := E_blk k127_2 3 rfl rfl rfl rfl H
theorem e127_3 (H : B sc 0 0 (some .int) (fun b' u' v' ls' st' h' => E sc 127 b' u' v' ls' st' h' Q) (RUN sc) Q 0 k127_3 u v ls st h) : E sc 127 3 u v ls st h Q := E_blk k127_3 0 rfl rfl rfl rfl H
theorem e127_4 (H : B sc 0 0 (some .int) (fun b' u' v' ls' st' h' => E sc 127 b' u' v' ls' st' h' Q) (RUN sc) Q 0 k127_4 u v ls st h) : E sc 127 4 u v ls st h Q := E_blk k127_4 0 rfl rfl rfl rfl H
theorem e127_5 (H : B sc 0 0 (some .int) (fun b' u' v' ls' st' h' => E sc 127 b' u' v' ls' st' h' Q) (RUN sc) Q 0 k127_5 u v ls st h) : E sc 127 5 u v ls st h Q := E_blk k127_5 0 rfl rfl rfl rfl H
theorem r128 {a0 : Value} (H : B sc 0 0 (some .int) (fun b' u' v' ls' st' h' => E sc 128 b' u' v' ls' st' h' Q) (RUN sc) Q 1 k128_0 0 0 [a0, .long 0] [] h) : RUN sc 128 [a0] h Q := E_blk k128_0 1 rfl rfl rfl rfl H
theorem e128_0 (H : B sc 0 0 (some .int) (fun b' u' v' ls' st' h' => E sc 128 b' u' v' ls' st' h' Q) (RUN sc) Q 1 k128_0 u v ls st h) : E sc 128 0 u v ls st h Q := E_blk k128_0 1 rfl rfl rfl rfl H
theorem e128_1 (H : B sc 0 0 (some .int) (fun b' u' v' ls' st' h' => E sc 128 b' u' v' ls' st' h' Q) (RUN sc) Q 0 k128_1 u v ls st h) : E sc 128 1 u v ls st h Q := E_blk k128_1 0 rfl rfl rfl rfl H
theorem e128_2 (H : B sc 0 0 (some .int) (fun b' u' v' ls' st' h' => E sc 128 b' u' v' ls' st' h' Q) (RUN sc) Q 0 k128_2 u v ls st h) : E sc 128 2 u v ls st h Q := E_blk k128_2 0 rfl rfl rfl rfl H
theorem e128_3 (H : B sc 0 0 (some .int) (fun b' u' v' ls' st' h' => E sc 128 b' u' v' ls' st' h' Q) (RUN sc) Q 4 k128_3 u v ls st h) : E sc 128 3 u v ls st h Q := E_blk k128_3 4 rfl rfl rfl rfl H
theorem e128_4 (H : B sc 0 0 (some .int) (fun b' u' v' ls' st' h' => E sc 128 b' u' v' ls' st' h' Q) (RUN sc) Q 0 k128_4 u v ls st h) : E sc 128 4 u v ls st h Q := E_blk k128_4 0 rfl rfl rfl rfl H
theorem e128_5 (H : B sc 0 0 (some .int) (fun b' u' v' ls' st' h' => E sc 128 b' u' v' ls' st' h' Q) (RUN sc) Q 0 k128_5 u v ls st h) : E sc 128 5 u v ls st h Q := E_blk k128_5 0 rfl rfl rfl rfl H
theorem r129 {a0 : Value} (H : B sc 0 0 (some .int) (fun b' u' v' ls' st' h' => E sc 129 b' u' v' ls' st' h' Q) (RUN sc) Q 0 k129_0 0 0 [a0, .long 0] [] h) : RUN sc 129 [a0] h Q := E_blk k129_0 0 rfl rfl rfl rfl H
theorem e129_0 (H : B sc 0 0 (some .int) (fun b' u' v' ls' st' h' => E sc 129 b' u' v' ls' st' h' Q) (RUN sc) Q 0 k129_0 u v ls st h) : E sc 129 0 u v ls st h Q := E_blk k129_0 0 rfl rfl rfl rfl H
theorem e129_1 (H : B sc 0 0 (some .int) (fun b' u' v' ls' st' h' => E sc 129 b' u' v' ls' st' h' Q) (RUN sc) Q 0 k129_1 u v ls st h) : E sc 129 1 u v ls st h Q := E_blk k129_1 0 rfl rfl rfl rfl H
theorem r130 {a0 a1 : Value} (H : B sc 0 0 (some .int) (fun b' u' v' ls' st' h' => E sc 130 b' u' v' ls' st' h' Q) (RUN sc) Q 1 k130_0 0 0 [a0, a1, .long 0, .long 0] [] h) : RUN sc 130 [a0, a1] h Q := E_blk k130_0 1 rfl rfl rfl rfl H
theorem e130_0 (H : B sc 0 0 (some .int) (fun b' u' v' ls' st' h' => E sc 130 b' u' v' ls' st' h' Q) (RUN sc) Q 1 k130_0 u v ls st h) : E sc 130 0 u v ls st h Q := E_blk k130_0 1 rfl rfl rfl rfl H
theorem e130_1 (H : B sc 0 0 (some .int) (fun b' u' v' ls' st' h' => E sc 130 b' u' v' ls' st' h' Q) (RUN sc) Q 0 k130_1 u v ls st h) : E sc 130 1 u v ls st h Q := E_blk k130_1 0 rfl rfl rfl rfl H
theorem e130_2 (H : B sc 0 0 (some .int) (fun b' u' v' ls' st' h' => E sc 130 b' u' v' ls' st' h' Q) (RUN sc) Q 3 k130_2 u v ls st h) : E sc 130 2 u v ls st h Q := E_blk k130_2 3 rfl rfl rfl rfl H
theorem e130_3 (H : B sc 0 0 (some .int) (fun b' u' v' ls' st' h' => E sc 130 b' u' v' ls' st' h' Q) (RUN sc) Q 0 k130_3 u v ls st h) : E sc 130 3 u v ls st h Q := E_blk k130_3 0 rfl rfl rfl rfl H
theorem e130_4 (H : B sc 0 0 (some .int) (fun b' u' v' ls' st' h' => E sc 130 b' u' v' ls' st' h' Q) (RUN sc) Q 0 k130_4 u v ls st h) : E sc 130 4 u v ls st h Q := E_blk k130_4 0 rfl rfl rfl rfl H
theorem r131 {a0 a1 : Value} (H : B sc 0 0 (some .int) (fun b' u' v' ls' st' h' => E sc 131 b' u' v' ls' st' h' Q) (RUN sc) Q 0 k131_0 0 0 [a0, a1, .long 0] [] h) : RUN sc 131 [a0, a1] h Q := E_blk k131_0 0 rfl rfl rfl rfl H
theorem e131_0 (H : B sc 0 0 (some .int) (fun b' u' v' ls' st' h' => E sc 131 b' u' v' ls' st' h' Q) (RUN sc) Q 0 k131_0 u v ls st h) : E sc 131 0 u v ls st h Q := E_blk k131_0 0 rfl rfl rfl rfl H
theorem e131_1 (H : B sc 0 0 (some .int) (fun b' u' v' ls' st' h' => E sc 131 b' u' v' ls' st' h' Q) (RUN sc) Q 0 k131_1 u v ls st h) : E sc 131 1 u v ls st h Q := E_blk k131_1 0 rfl rfl rfl rfl H
theorem e131_2 (H : B sc 0 0 (some .int) (fun b' u' v' ls' st' h' => E sc 131 b' u' v' ls' st' h' Q) (RUN sc) Q 3 k131_2 u v ls st h) : E sc 131 2 u v ls st h Q := E_blk k131_2 3 rfl rfl rfl rfl H
theorem e131_3 (H : B sc 0 0 (some .int) (fun b' u' v' ls' st' h' => E sc 131 b' u' v' ls' st' h' Q) (RUN sc) Q 0 k131_3 u v ls st h) : E sc 131 3 u v ls st h Q := E_blk k131_3 0 rfl rfl rfl rfl H
theorem r132 {a0 : Value} (H : B sc 0 0 (some .int) (fun b' u' v' ls' st' h' => E sc 132 b' u' v' ls' st' h' Q) (RUN sc) Q 0 k132_0 0 0 [a0, .long 0, .long 0, .long 0, .long 0, .long 0] [] h) : RUN sc 132 [a0] h Q := E_blk k132_0 0 rfl rfl rfl rfl H
theorem e132_0 (H : B sc 0 0 (some .int) (fun b' u' v' ls' st' h' => E sc 132 b' u' v' ls' st' h' Q) (RUN sc) Q 0 k132_0 u v ls st h) : E sc 132 0 u v ls st h Q := E_blk k132_0 0 rfl rfl rfl rfl H
theorem e132_1 (H : B sc 0 0 (some .int) (fun b' u' v' ls' st' h' => E sc 132 b' u' v' ls' st' h' Q) (RUN sc) Q 2 k132_1 u v ls st h) : E sc 132 1 u v ls st h Q := E_blk k132_1 2 rfl rfl rfl rfl H
theorem e132_2 (H : B sc 0 0 (some .int) (fun b' u' v' ls' st' h' => E sc 132 b' u' v' ls' st' h' Q) (RUN sc) Q 3 k132_2 u v ls st h) : E sc 132 2 u v ls st h Q := E_blk k132_2 3 rfl rfl rfl rfl H
theorem e132_3 (H : B sc 0 0 (some .int) (fun b' u' v' ls' st' h' => E sc 132 b' u' v' ls' st' h' Q) (RUN sc) Q 0 k132_3 u v ls st h) : E sc 132 3 u v ls st h Q := E_blk k132_3 0 rfl rfl rfl rfl H
theorem e132_4 (H : B sc 0 0 (some .int) (fun b' u' v' ls' st' h' => E sc 132 b' u' v' ls' st' h' Q) (RUN sc) Q 0 k132_4 u v ls st h) : E sc 132 4 u v ls st h Q := E_blk k132_4 0 rfl rfl rfl rfl H
theorem r133 {a0 : Value} (H : B sc 0 0 (some .int) (fun b' u' v' ls' st' h' => E sc 133 b' u' v' ls' st' h' Q) (RUN sc) Q 0 k133_0 0 0 [a0, .long 0] [] h) : RUN sc 133 [a0] h Q := E_blk k133_0 0 rfl rfl rfl rfl H
theorem e133_0 (H : B sc 0 0 (some .int) (fun b' u' v' ls' st' h' => E sc 133 b' u' v' ls' st' h' Q) (RUN sc) Q 0 k133_0 u v ls st h) : E sc 133 0 u v ls st h Q := E_blk k133_0 0 rfl rfl rfl rfl H
theorem e133_1 (H : B sc 0 0 (some .int) (fun b' u' v' ls' st' h' => E sc 133 b' u' v' ls' st' h' Q) (RUN sc) Q 2 k133_1 u v ls st h) : E sc 133 1 u v ls st h Q := E_blk k133_1 2 rfl rfl rfl rfl H
theorem e133_2 (H : B sc 0 0 (some .int) (fun b' u' v' ls' st' h' => E sc 133 b' u' v' ls' st' h' Q) (RUN sc) Q 0 k133_2 u v ls st h) : E sc 133 2 u v ls st h Q := E_blk k133_2 0 rfl rfl rfl rfl H
theorem e133_3 (H : B sc 0 0 (some .int) (fun b' u' v' ls' st' h' => E sc 133 b' u' v' ls' st' h' Q) (RUN sc) Q 0 k133_3 u v ls st h) : E sc 133 3 u v ls st h Q := E_blk k133_3 0 rfl rfl rfl rfl H
theorem r134 {a0 : Value} (H : B sc 0 0 (some .int) (fun b' u' v' ls' st' h' => E sc 134 b' u' v' ls' st' h' Q) (RUN sc) Q 1 k134_0 0 0 [a0, .long 0] [] h) : RUN sc 134 [a0] h Q := E_blk k134_0 1 rfl rfl rfl rfl H
theorem e134_0 (H : B sc 0 0 (some .int) (fun b' u' v' ls' st' h' => E sc 134 b' u' v' ls' st' h' Q) (RUN sc) Q 1 k134_0 u v ls st h) : E sc 134 0 u v ls st h Q := E_blk k134_0 1 rfl rfl rfl rfl H
theorem e134_1 (H : B sc 0 0 (some .int) (fun b' u' v' ls' st' h' => E sc 134 b' u' v' ls' st' h' Q) (RUN sc) Q 0 k134_1 u v ls st h) : E sc 134 1 u v ls st h Q := E_blk k134_1 0 rfl rfl rfl rfl H
theorem e134_2 (H : B sc 0 0 (some .int) (fun b' u' v' ls' st' h' => E sc 134 b' u' v' ls' st' h' Q) (RUN sc) Q 0 k134_2 u v ls st h) : E sc 134 2 u v ls st h Q := E_blk k134_2 0 rfl rfl rfl rfl H
theorem r135 {a0 : Value} (H : B sc 0 0 (some .int) (fun b' u' v' ls' st' h' => E sc 135 b' u' v' ls' st' h' Q) (RUN sc) Q 0 k135_0 0 0 [a0, .long 0] [] h) : RUN sc 135 [a0] h Q := E_blk k135_0 0 rfl rfl rfl rfl H
theorem e135_0 (H : B sc 0 0 (some .int) (fun b' u' v' ls' st' h' => E sc 135 b' u' v' ls' st' h' Q) (RUN sc) Q 0 k135_0 u v ls st h) : E sc 135 0 u v ls st h Q := E_blk k135_0 0 rfl rfl rfl rfl H
theorem e135_1 (H : B sc 0 0 (some .int) (fun b' u' v' ls' st' h' => E sc 135 b' u' v' ls' st' h' Q) (RUN sc) Q 2 k135_1 u v ls st h) : E sc 135 1 u v ls st h Q := E_blk k135_1 2 rfl rfl rfl rfl H
theorem e135_2 (H : B sc 0 0 (some .int) (fun b' u' v' ls' st' h' => E sc 135 b' u' v' ls' st' h' Q) (RUN sc) Q 0 k135_2 u v ls st h) : E sc 135 2 u v ls st h Q := E_blk k135_2 0 rfl rfl rfl rfl H
theorem e135_3 (H : B sc 0 0 (some .int) (fun b' u' v' ls' st' h' => E sc 135 b' u' v' ls' st' h' Q) (RUN sc) Q 0 k135_3 u v ls st h) : E sc 135 3 u v ls st h Q := E_blk k135_3 0 rfl rfl rfl rfl H
theorem r136 {a0 a1 : Value} (H : B sc 0 0 (some .int) (fun b' u' v' ls' st' h' => E sc 136 b' u' v' ls' st' h' Q) (RUN sc) Q 1 k136_0 0 0 [a0, a1, .long 0, .long 0] [] h) : RUN sc 136 [a0, a1] h Q := E_blk k136_0 1 rfl rfl rfl rfl H
theorem e136_0 (H : B sc 0 0 (some .int) (fun b' u' v' ls' st' h' => E sc 136 b' u' v' ls' st' h' Q) (RUN sc) Q 1 k136_0 u v ls st h) : E sc 136 0 u v ls st h Q := E_blk k136_0 1 rfl rfl rfl rfl H
theorem e136_1 (H : B sc 0 0 (some .int) (fun b' u' v' ls' st' h' => E sc 136 b' u' v' ls' st' h' Q) (RUN sc) Q 0 k136_1 u v ls st h) : E sc 136 1 u v ls st h Q := E_blk k136_1 0 rfl rfl rfl rfl H
theorem e136_2 (H : B sc 0 0 (some .int) (fun b' u' v' ls' st' h' => E sc 136 b' u' v' ls' st' h' Q) (RUN sc) Q 3 k136_2 u v ls st h) : E sc 136 2 u v ls st h Q := E_blk k136_2 3 rfl rfl rfl rfl H
theorem e136_3 (H : B sc 0 0 (some .int) (fun b' u' v' ls' st' h' => E sc 136 b' u' v' ls' st' h' Q) (RUN sc) Q 0 k136_3 u v ls st h) : E sc 136 3 u v ls st h Q := E_blk k136_3 0 rfl rfl rfl rfl H
theorem e136_4 (H : B sc 0 0 (some .int) (fun b' u' v' ls' st' h' => E sc 136 b' u' v' ls' st' h' Q) (RUN sc) Q 0 k136_4 u v ls st h) : E sc 136 4 u v ls st h Q := E_blk k136_4 0 rfl rfl rfl rfl H
theorem r137 {a0 a1 a2 : Value} (H : B sc 0 0 (some .int) (fun b' u' v' ls' st' h' => E sc 137 b' u' v' ls' st' h' Q) (RUN sc) Q 0 k137_0 0 0 [a0, a1, a2, .long 0] [] h) : RUN sc 137 [a0, a1, a2] h Q := E_blk k137_0 0 rfl rfl rfl rfl H
theorem e137_0 (H : B sc 0 0 (some .int) (fun b' u' v' ls' st' h' => E sc 137 b' u' v' ls' st' h' Q) (RUN sc) Q 0 k137_0 u v ls st h) : E sc 137 0 u v ls st h Q := E_blk k137_0 0 rfl rfl rfl rfl H
theorem e137_1 (H : B sc 0 0 (some .int) (fun b' u' v' ls' st' h' => E sc 137 b' u' v' ls' st' h' Q) (RUN sc) Q 0 k137_1 u v ls st h) : E sc 137 1 u v ls st h Q := E_blk k137_1 0 rfl rfl rfl rfl H
theorem e137_2 (H : B sc 0 0 (some .int) (fun b' u' v' ls' st' h' => E sc 137 b' u' v' ls' st' h' Q) (RUN sc) Q 0 k137_2 u v ls st h) : E sc 137 2 u v ls st h Q := E_blk k137_2 0 rfl rfl rfl rfl H
theorem e137_3 (H : B sc 0 0 (some .int) (fun b' u' v' ls' st' h' => E sc 137 b' u' v' ls' st' h' Q) (RUN sc) Q 0 k137_3 u v ls st h) : E sc 137 3 u v ls st h Q := E_blk k137_3 0 rfl rfl rfl rfl H
theorem e137_4 (H : B sc 0 0 (some .int) (fun b' u' v' ls' st' h' => E sc 137 b' u' v' ls' st' h' Q) (RUN sc) Q 0 k137_4 u v ls st h) : E sc 137 4 u v ls st h Q := E_blk k137_4 0 rfl rfl rfl rfl H
theorem e137_5 (H : B sc 0 0 (some .int) (fun b' u' v' ls' st' h' => E sc 137 b' u' v' ls' st' h' Q) (RUN sc) Q 0 k137_5 u v ls st h) : E sc 137 5 u v ls st h Q := E_blk k137_5 0 rfl rfl rfl rfl H
theorem e137_6 (H : B sc 0 0 (some .int) (fun b' u' v' ls' st' h' => E sc 137 b' u' v' ls' st' h' Q) (RUN sc) Q 7 k137_6 u v ls st h) : E sc 137 6 u v ls st h Q := E_blk k137_6 7 rfl rfl rfl rfl H
theorem e137_7 (H : B sc 0 0 (some .int) (fun b' u' v' ls' st' h' => E sc 137 b' u' v' ls' st' h' Q) (RUN sc) Q 0 k137_7 u v ls st h) : E sc 137 7 u v ls st h Q := E_blk k137_7 0 rfl rfl rfl rfl H
theorem e137_8 (H : B sc 0 0 (some .int) (fun b' u' v' ls' st' h' => E sc 137 b' u' v' ls' st' h' Q) (RUN sc) Q 0 k137_8 u v ls st h) : E sc 137 8 u v ls st h Q := E_blk k137_8 0 rfl rfl rfl rfl H
theorem e137_9 (H : B sc 0 0 (some .int) (fun b' u' v' ls' st' h' => E sc 137 b' u' v' ls' st' h' Q) (RUN sc) Q 0 k137_9 u v ls st h) : E sc 137 9 u v ls st h Q := E_blk k137_9 0 rfl rfl rfl rfl H
theorem e137_10 (H : B sc 0 0 (some .int) (fun b' u' v' ls' st' h' => E sc 137 b' u' v' ls' st' h' Q) (RUN sc) Q 0 k137_10 u v ls st h) : E sc 137 10 u v ls st h Q := E_blk k137_10 0 rfl rfl rfl rfl H
theorem r138 {a0 a1 : Value} (H : B sc 0 0 (some .int) (fun b' u' v' ls' st' h' => E sc 138 b' u' v' ls' st' h' Q) (RUN sc) Q 0 k138_0 0 0 [a0, a1, .long 0] [] h) : RUN sc 138 [a0, a1] h Q := E_blk k138_0 0 rfl rfl rfl rfl H
theorem e138_0 (H : B sc 0 0 (some .int) (fun b' u' v' ls' st' h' => E sc 138 b' u' v' ls' st' h' Q) (RUN sc) Q 0 k138_0 u v ls st h) : E sc 138 0 u v ls st h Q := E_blk k138_0 0 rfl rfl rfl rfl H
theorem e138_1 (H : B sc 0 0 (some .int) (fun b' u' v' ls' st' h' => E sc 138 b' u' v' ls' st' h' Q) (RUN sc) Q 2 k138_1 u v ls st h) : E sc 138 1 u v ls st h Q := E_blk k138_1 2 rfl rfl rfl rfl H
theorem e138_2 (H : B sc 0 0 (some .int) (fun b' u' v' ls' st' h' => E sc 138 b' u' v' ls' st' h' Q) (RUN sc) Q 0 k138_2 u v ls st h) : E sc 138 2 u v ls st h Q := E_blk k138_2 0 rfl rfl rfl rfl H
theorem r139 {a0 a1 a2 : Value} (H : B sc 0 0 (some .int) (fun b' u' v' ls' st' h' => E sc 139 b' u' v' ls' st' h' Q) (RUN sc) Q 0 k139_0 0 0 [a0, a1, a2] [] h) : RUN sc 139 [a0, a1, a2] h Q := E_blk k139_0 0 rfl rfl rfl rfl H
theorem e139_0 (H : B sc 0 0 (some .int) (fun b' u' v' ls' st' h' => E sc 139 b' u' v' ls' st' h' Q) (RUN sc) Q 0 k139_0 u v ls st h) : E sc 139 0 u v ls st h Q := E_blk k139_0 0 rfl rfl rfl rfl H
theorem e139_1 (H : B sc 0 0 (some .int) (fun b' u' v' ls' st' h' => E sc 139 b' u' v' ls' st' h' Q) (RUN sc) Q 0 k139_1 u v ls st h) : E sc 139 1 u v ls st h Q := E_blk k139_1 0 rfl rfl rfl rfl H
theorem e139_2 (H : B sc 0 0 (some .int) (fun b' u' v' ls' st' h' => E sc 139 b' u' v' ls' st' h' Q) (RUN sc) Q 0 k139_2 u v ls st h) : E sc 139 2 u v ls st h Q := E_blk k139_2 0 rfl rfl rfl rfl H
theorem e139_3 (H : B sc 0 0 (some .int) (fun b' u' v' ls' st' h' => E sc 139 b' u' v' ls' st' h' Q) (RUN sc) Q 0 k139_3 u v ls st h) : E sc 139 3 u v ls st h Q := E_blk k139_3 0 rfl rfl rfl rfl H
theorem e139_4 (H : B sc 0 0 (some .int) (fun b' u' v' ls' st' h' => E sc 139 b' u' v' ls' st' h' Q) (RUN sc) Q 0 k139_4 u v ls st h) : E sc 139 4 u v ls st h Q := E_blk k139_4 0 rfl rfl rfl rfl H
theorem e139_5 (H : B sc 0 0 (some .int) (fun b' u' v' ls' st' h' => E sc 139 b' u' v' ls' st' h' Q) (RUN sc) Q 0 k139_5 u v ls st h) : E sc 139 5 u v ls st h Q := E_blk k139_5 0 rfl rfl rfl rfl H
theorem e139_6 (H : B sc 0 0 (some .int) (fun b' u' v' ls' st' h' => E sc 139 b' u' v' ls' st' h' Q) (RUN sc) Q 0 k139_6 u v ls st h) : E sc 139 6 u v ls st h Q := E_blk k139_6 0 rfl rfl rfl rfl H
theorem e139_7 (H : B sc 0 0 (some .int) (fun b' u' v' ls' st' h' => E sc 139 b' u' v' ls' st' h' Q) (RUN sc) Q 0 k139_7 u v ls st h) : E sc 139 7 u v ls st h Q := E_blk k139_7 0 rfl rfl rfl rfl H
theorem e139_8 (H : B sc 0 0 (some .int) (fun b' u' v' ls' st' h' => E sc 139 b' u' v' ls' st' h' Q) (RUN sc) Q 0 k139_8 u v ls st h) : E sc 139 8 u v ls st h Q := E_blk k139_8 0 rfl rfl rfl rfl H
theorem e139_9 (H : B sc 0 0 (some .int) (fun b' u' v' ls' st' h' => E sc 139 b' u' v' ls' st' h' Q) (RUN sc) Q 10 k139_9 u v ls st h) : E sc 139 9 u v ls st h Q := E_blk k139_9 10 rfl rfl rfl rfl H
theorem e139_10 (H : B sc 0 0 (some .int) (fun b' u' v' ls' st' h' => E sc 139 b' u' v' ls' st' h' Q) (RUN sc) Q 0 k139_10 u v ls st h) : E sc 139 10 u v ls st h Q := E_blk k139_10 0 rfl rfl rfl rfl H
theorem e139_11 (H : B sc 0 0 (some .int) (fun b' u' v' ls' st' h' => E sc 139 b' u' v' ls' st' h' Q) (RUN sc) Q 0 k139_11 u v ls st h) : E sc 139 11 u v ls st h Q := E_blk k139_11 0 rfl rfl rfl rfl H
theorem e139_12 (H : B sc 0 0 (some .int) (fun b' u' v' ls' st' h' => E sc 139 b' u' v' ls' st' h' Q) (RUN sc) Q 0 k139_12 u v ls st h) : E sc 139 12 u v ls st h Q := E_blk k139_12 0 rfl rfl rfl rfl H
theorem e139_13 (H : B sc 0 0 (some .int) (fun b' u' v' ls' st' h' => E sc 139 b' u' v' ls' st' h' Q) (RUN sc) Q 0 k139_13 u v ls st h) : E sc 139 13 u v ls st h Q := E_blk k139_13 0 rfl rfl rfl rfl H
theorem r140 {a0 a1 a2 : Value} (H : B sc 0 0 (some .int) (fun b' u' v' ls' st' h' => E sc 140 b' u' v' ls' st' h' Q) (RUN sc) Q 0 k140_0 0 0 [a0, a1, a2] [] h) : RUN sc 140 [a0, a1, a2] h Q := E_blk k140_0 0 rfl rfl rfl rfl H
theorem e140_0 (H : B sc 0 0 (some .int) (fun b' u' v' ls' st' h' => E sc 140 b' u' v' ls' st' h' Q) (RUN sc) Q 0 k140_0 u v ls st h) : E sc 140 0 u v ls st h Q := E_blk k140_0 0 rfl rfl rfl rfl H
theorem e140_1 (H : B sc 0 0 (some .int) (fun b' u' v' ls' st' h' => E sc 140 b' u' v' ls' st' h' Q) (RUN sc) Q 0 k140_1 u v ls st h) : E sc 140 1 u v ls st h Q := E_blk k140_1 0 rfl rfl rfl rfl H
theorem e140_2 (H : B sc 0 0 (some .int) (fun b' u' v' ls' st' h' => E sc 140 b' u' v' ls' st' h' Q) (RUN sc) Q 3 k140_2 u v ls st h) : E sc 140 2 u v ls st h Q := E_blk k140_2 3 rfl rfl rfl rfl H
theorem e140_3 (H : B sc 0 0 (some .int) (fun b' u' v' ls' st' h' => E sc 140 b' u' v' ls' st' h' Q) (RUN sc) Q 0 k140_3 u v ls st h) : E sc 140 3 u v ls st h Q := E_blk k140_3 0 rfl rfl rfl rfl H
theorem r141 {a0 a1 a2 : Value} (H : B sc 0 0 (some .int) (fun b' u' v' ls' st' h' => E sc 141 b' u' v' ls' st' h' Q) (RUN sc) Q 1 k141_0 0 0 [a0, a1, a2] [] h) : RUN sc 141 [a0, a1, a2] h Q := E_blk k141_0 1 rfl rfl rfl rfl H
theorem e141_0 (H : B sc 0 0 (some .int) (fun b' u' v' ls' st' h' => E sc 141 b' u' v' ls' st' h' Q) (RUN sc) Q 1 k141_0 u v ls st h) : E sc 141 0 u v ls st h Q := E_blk k141_0 1 rfl rfl rfl rfl H
theorem e141_1 (H : B sc 0 0 (some .int) (fun b' u' v' ls' st' h' => E sc 141 b' u' v' ls' st' h' Q) (RUN sc) Q 0 k141_1 u v ls st h) : E sc 141 1 u v ls st h Q := E_blk k141_1 0 rfl rfl rfl rfl H
theorem e141_2 (H : B sc 0 0 (some .int) (fun b' u' v' ls' st' h' => E sc 141 b' u' v' ls' st' h' Q) (RUN sc) Q 3 k141_2 u v ls st h) : E sc 141 2 u v ls st h Q := E_blk k141_2 3 rfl rfl rfl rfl H
theorem e141_3 (H : B sc 0 0 (some .int) (fun b' u' v' ls' st' h' => E sc 141 b' u' v' ls' st' h' Q) (RUN sc) Q 0 k141_3 u v ls st h) : E sc 141 3 u v ls st h Q := E_blk k141_3 0 rfl rfl rfl rfl H
theorem r142 {a0 a1 a2 a3 : Value} (H : B sc 0 0 (some .int) (fun b' u' v' ls' st' h' => E sc 142 b' u' v' ls' st' h' Q) (RUN sc) Q 1 k142_0 0 0 [a0, a1, a2, a3, .long 0, .long 0, .long 0, .long 0] [] h) : RUN sc 142 [a0, a1, a2, a3] h Q := E_blk k142_0 1 rfl rfl rfl rfl H
theorem e142_0 (H : B sc 0 0 (some .int) (fun b' u' v' ls' st' h' => E sc 142 b' u' v' ls' st' h' Q) (RUN sc) Q 1 k142_0 u v ls st h) : E sc 142 0 u v ls st h Q := E_blk k142_0 1 rfl rfl rfl rfl H
theorem e142_1 (H : B sc 0 0 (some .int) (fun b' u' v' ls' st' h' => E sc 142 b' u' v' ls' st' h' Q) (RUN sc) Q 0 k142_1 u v ls st h) : E sc 142 1 u v ls st h Q := E_blk k142_1 0 rfl rfl rfl rfl H
theorem e142_2 (H : B sc 0 0 (some .int) (fun b' u' v' ls' st' h' => E sc 142 b' u' v' ls' st' h' Q) (RUN sc) Q 0 k142_2 u v ls st h) : E sc 142 2 u v ls st h Q := E_blk k142_2 0 rfl rfl rfl rfl H
theorem e142_3 (H : B sc 0 0 (some .int) (fun b' u' v' ls' st' h' => E sc 142 b' u' v' ls' st' h' Q) (RUN sc) Q 4 k142_3 u v ls st h) : E sc 142 3 u v ls st h Q := E_blk k142_3 4 rfl rfl rfl rfl H
theorem e142_4 (H : B sc 0 0 (some .int) (fun b' u' v' ls' st' h' => E sc 142 b' u' v' ls' st' h' Q) (RUN sc) Q 5 k142_4 u v ls st h) : E sc 142 4 u v ls st h Q := E_blk k142_4 5 rfl rfl rfl rfl H
theorem e142_5 (H : B sc 0 0 (some .int) (fun b' u' v' ls' st' h' => E sc 142 b' u' v' ls' st' h' Q) (RUN sc) Q 0 k142_5 u v ls st h) : E sc 142 5 u v ls st h Q := E_blk k142_5 0 rfl rfl rfl rfl H
theorem e142_6 (H : B sc 0 0 (some .int) (fun b' u' v' ls' st' h' => E sc 142 b' u' v' ls' st' h' Q) (RUN sc) Q 7 k142_6 u v ls st h) : E sc 142 6 u v ls st h Q := E_blk k142_6 7 rfl rfl rfl rfl H
theorem e142_7 (H : B sc 0 0 (some .int) (fun b' u' v' ls' st' h' => E sc 142 b' u' v' ls' st' h' Q) (RUN sc) Q 0 k142_7 u v ls st h) : E sc 142 7 u v ls st h Q := E_blk k142_7 0 rfl rfl rfl rfl H
theorem e142_8 (H : B sc 0 0 (some .int) (fun b' u' v' ls' st' h' => E sc 142 b' u' v' ls' st' h' Q) (RUN sc) Q 0 k142_8 u v ls st h) : E sc 142 8 u v ls st h Q := E_blk k142_8 0 rfl rfl rfl rfl H
theorem r143 {a0 a1 a2 : Value} (H : B sc 0 0 (some .int) (fun b' u' v' ls' st' h' => E sc 143 b' u' v' ls' st' h' Q) (RUN sc) Q 1 k143_0 0 0 [a0, a1, a2, .long 0, .long 0] [] h) : RUN sc 143 [a0, a1, a2] h Q := E_blk k143_0 1 rfl rfl rfl rfl H
theorem e143_0 (H : B sc 0 0 (some .int) (fun b' u' v' ls' st' h' => E sc 143 b' u' v' ls' st' h' Q) (RUN sc) Q 1 k143_0 u v ls st h) : E sc 143 0 u v ls st h Q := E_blk k143_0 1 rfl rfl rfl rfl H
theorem e143_1 (H : B sc 0 0 (some .int) (fun b' u' v' ls' st' h' => E sc 143 b' u' v' ls' st' h' Q) (RUN sc) Q 0 k143_1 u v ls st h) : E sc 143 1 u v ls st h Q := E_blk k143_1 0 rfl rfl rfl rfl H
theorem e143_2 (H : B sc 0 0 (some .int) (fun b' u' v' ls' st' h' => E sc 143 b' u' v' ls' st' h' Q) (RUN sc) Q 0 k143_2 u v ls st h) : E sc 143 2 u v ls st h Q := E_blk k143_2 0 rfl rfl rfl rfl H
theorem r144 {a0 a1 : Value} (H : B sc 0 0 (some .int) (fun b' u' v' ls' st' h' => E sc 144 b' u' v' ls' st' h' Q) (RUN sc) Q 0 k144_0 0 0 [a0, a1, .long 0, .long 0] [] h) : RUN sc 144 [a0, a1] h Q := E_blk k144_0 0 rfl rfl rfl rfl H
theorem e144_0 (H : B sc 0 0 (some .int) (fun b' u' v' ls' st' h' => E sc 144 b' u' v' ls' st' h' Q) (RUN sc) Q 0 k144_0 u v ls st h) : E sc 144 0 u v ls st h Q := E_blk k144_0 0 rfl rfl rfl rfl H
theorem e144_1 (H : B sc 0 0 (some .int) (fun b' u' v' ls' st' h' => E sc 144 b' u' v' ls' st' h' Q) (RUN sc) Q 2 k144_1 u v ls st h) : E sc 144 1 u v ls st h Q := E_blk k144_1 2 rfl rfl rfl rfl H
theorem e144_2 (H : B sc 0 0 (some .int) (fun b' u' v' ls' st' h' => E sc 144 b' u' v' ls' st' h' Q) (RUN sc) Q 0 k144_2 u v ls st h) : E sc 144 2 u v ls st h Q := E_blk k144_2 0 rfl rfl rfl rfl H
theorem e144_3 (H : B sc 0 0 (some .int) (fun b' u' v' ls' st' h' => E sc 144 b' u' v' ls' st' h' Q) (RUN sc) Q 4 k144_3 u v ls st h) : E sc 144 3 u v ls st h Q := E_blk k144_3 4 rfl rfl rfl rfl H
theorem e144_4 (H : B sc 0 0 (some .int) (fun b' u' v' ls' st' h' => E sc 144 b' u' v' ls' st' h' Q) (RUN sc) Q 0 k144_4 u v ls st h) : E sc 144 4 u v ls st h Q := E_blk k144_4 0 rfl rfl rfl rfl H
theorem e144_5 (H : B sc 0 0 (some .int) (fun b' u' v' ls' st' h' => E sc 144 b' u' v' ls' st' h' Q) (RUN sc) Q 0 k144_5 u v ls st h) : E sc 144 5 u v ls st h Q := E_blk k144_5 0 rfl rfl rfl rfl H
theorem r145 {a0 a1 a2 : Value} (H : B sc 0 0 (some .int) (fun b' u' v' ls' st' h' => E sc 145 b' u' v' ls' st' h' Q) (RUN sc) Q 1 k145_0 0 0 [a0, a1, a2] [] h) : RUN sc 145 [a0, a1, a2] h Q := E_blk k145_0 1 rfl rfl rfl rfl H
theorem e145_0 (H : B sc 0 0 (some .int) (fun b' u' v' ls' st' h' => E sc 145 b' u' v' ls' st' h' Q) (RUN sc) Q 1 k145_0 u v ls st h) : E sc 145 0 u v ls st h Q := E_blk k145_0 1 rfl rfl rfl rfl H
theorem e145_1 (H : B sc 0 0 (some .int) (fun b' u' v' ls' st' h' => E sc 145 b' u' v' ls' st' h' Q) (RUN sc) Q 0 k145_1 u v ls st h) : E sc 145 1 u v ls st h Q := E_blk k145_1 0 rfl rfl rfl rfl H
theorem e145_2 (H : B sc 0 0 (some .int) (fun b' u' v' ls' st' h' => E sc 145 b' u' v' ls' st' h' Q) (RUN sc) Q 0 k145_2 u v ls st h) : E sc 145 2 u v ls st h Q := E_blk k145_2 0 rfl rfl rfl rfl H
theorem e145_3 (H : B sc 0 0 (some .int) (fun b' u' v' ls' st' h' => E sc 145 b' u' v' ls' st' h' Q) (RUN sc) Q 4 k145_3 u v ls st h) : E sc 145 3 u v ls st h Q := E_blk k145_3 4 rfl rfl rfl rfl H
theorem e145_4 (H : B sc 0 0 (some .int) (fun b' u' v' ls' st' h' => E sc 145 b' u' v' ls' st' h' Q) (RUN sc) Q 0 k145_4 u v ls st h) : E sc 145 4 u v ls st h Q := E_blk k145_4 0 rfl rfl rfl rfl H
theorem r146 {a0 : Value} (H : B sc 0 0 (some .int) (fun b' u' v' ls' st' h' => E sc 146 b' u' v' ls' st' h' Q) (RUN sc) Q 1 k146_0 0 0 [a0, .long 0, .long 0] [] h) : RUN sc 146 [a0] h Q := E_blk k146_0 1 rfl rfl rfl rfl H
theorem e146_0 (H : B sc 0 0 (some .int) (fun b' u' v' ls' st' h' => E sc 146 b' u' v' ls' st' h' Q) (RUN sc) Q 1 k146_0 u v ls st h) : E sc 146 0 u v ls st h Q := E_blk k146_0 1 rfl rfl rfl rfl H
theorem e146_1 (H : B sc 0 0 (some .int) (fun b' u' v' ls' st' h' => E sc 146 b' u' v' ls' st' h' Q) (RUN sc) Q 0 k146_1 u v ls st h) : E sc 146 1 u v ls st h Q := E_blk k146_1 0 rfl rfl rfl rfl H
theorem e146_2 (H : B sc 0 0 (some .int) (fun b' u' v' ls' st' h' => E sc 146 b' u' v' ls' st' h' Q) (RUN sc) Q 3 k146_2 u v ls st h) : E sc 146 2 u v ls st h Q := E_blk k146_2 3 rfl rfl rfl rfl H
theorem e146_3 (H : B sc 0 0 (some .int) (fun b' u' v' ls' st' h' => E sc 146 b' u' v' ls' st' h' Q) (RUN sc) Q 0 k146_3 u v ls st h) : E sc 146 3 u v ls st h Q := E_blk k146_3 0 rfl rfl rfl rfl H
theorem e146_4 (H : B sc 0 0 (some .int) (fun b' u' v' ls' st' h' => E sc 146 b' u' v' ls' st' h' Q) (RUN sc) Q 0 k146_4 u v ls st h) : E sc 146 4 u v ls st h Q := E_blk k146_4 0 rfl rfl rfl rfl H
theorem r147 {a0 : Value} (H : B sc 0 0 (some .int) (fun b' u' v' ls' st' h' => E sc 147 b' u' v' ls' st' h' Q) (RUN sc) Q 1 k147_0 0 0 [a0, .long 0, .long 0] [] h) : RUN sc 147 [a0] h Q := E_blk k147_0 1 rfl rfl rfl rfl H
theorem e147_0 (H : B sc 0 0 (some .int) (fun b' u' v' ls' st' h' => E sc 147 b' u' v' ls' st' h' Q) (RUN sc) Q 1 k147_0 u v ls st h) : E sc 147 0 u v ls st h Q := E_blk k147_0 1 rfl rfl rfl rfl H
theorem e147_1 (H : B sc 0 0 (some .int) (fun b' u' v' ls' st' h' => E sc 147 b' u' v' ls' st' h' Q) (RUN sc) Q 0 k147_1 u v ls st h) : E sc 147 1 u v ls st h Q := E_blk k147_1 0 rfl rfl rfl rfl H
theorem e147_2 (H : B sc 0 0 (some .int) (fun b' u' v' ls' st' h' => E sc 147 b' u' v' ls' st' h' Q) (RUN sc) Q 0 k147_2 u v ls st h) : E sc 147 2 u v ls st h Q := E_blk k147_2 0 rfl rfl rfl rfl H
theorem r148 {a0 a1 : Value} (H : B sc 0 0 (some .int) (fun b' u' v' ls' st' h' => E sc 148 b' u' v' ls' st' h' Q) (RUN sc) Q 0 k148_0 0 0 [a0, a1] [] h) : RUN sc 148 [a0, a1] h Q := E_blk k148_0 0 rfl rfl rfl rfl H
theorem e148_0 (H : B sc 0 0 (some .int) (fun b' u' v' ls' st' h' => E sc 148 b' u' v' ls' st' h' Q) (RUN sc) Q 0 k148_0 u v ls st h) : E sc 148 0 u v ls st h Q := E_blk k148_0 0 rfl rfl rfl rfl H
theorem e148_1 (H : B sc 0 0 (some .int) (fun b' u' v' ls' st' h' => E sc 148 b' u' v' ls' st' h' Q) (RUN sc) Q 0 k148_1 u v ls st h) : E sc 148 1 u v ls st h Q := E_blk k148_1 0 rfl rfl rfl rfl H
theorem e148_2 (H : B sc 0 0 (some .int) (fun b' u' v' ls' st' h' => E sc 148 b' u' v' ls' st' h' Q) (RUN sc) Q 0 k148_2 u v ls st h) : E sc 148 2 u v ls st h Q := E_blk k148_2 0 rfl rfl rfl rfl H
theorem e148_3 (H : B sc 0 0 (some .int) (fun b' u' v' ls' st' h' => E sc 148 b' u' v' ls' st' h' Q) (RUN sc) Q 0 k148_3 u v ls st h) : E sc 148 3 u v ls st h Q := E_blk k148_3 0 rfl rfl rfl rfl H
theorem e148_4 (H : B sc 0 0 (some .int) (fun b' u' v' ls' st' h' => E sc 148 b' u' v' ls' st' h' Q) (RUN sc) Q 0 k148_4 u v ls st h) : E sc 148 4 u v ls st h Q := E_blk k148_4 0 rfl rfl rfl rfl H
theorem e148_5 (H : B sc 0 0 (some .int) (fun b' u' v' ls' st' h' => E sc 148 b' u' v' ls' st' h' Q) (RUN sc) Q 0 k148_5 u v ls st h) : E sc 148 5 u v ls st h Q := E_blk k148_5 0 rfl rfl rfl rfl H
theorem e148_6 (H : B sc 0 0 (some .int) (fun b' u' v' ls' st' h' => E sc 148 b' u' v' ls' st' h' Q) (RUN sc) Q 0 k148_6 u v ls st h) : E sc 148 6 u v ls st h Q := E_blk k148_6 0 rfl rfl rfl rfl H
theorem e148_7 (H : B sc 0 0 (some .int) (fun b' u' v' ls' st' h' => E sc 148 b' u' v' ls' st' h' Q) (RUN sc) Q 0 k148_7 u v ls st h) : E sc 148 7 u v ls st h Q := E_blk k148_7 0 rfl rfl rfl rfl H
theorem e148_8 (H : B sc 0 0 (some .int) (fun b' u' v' ls' st' h' => E sc 148 b' u' v' ls' st' h' Q) (RUN sc) Q 0 k148_8 u v ls st h) : E sc 148 8 u v ls st h Q := E_blk k148_8 0 rfl rfl rfl rfl H
theorem e148_9 (H : B sc 0 0 (some .int) (fun b' u' v' ls' st' h' => E sc 148 b' u' v' ls' st' h' Q) (RUN sc) Q 0 k148_9 u v ls st h) : E sc 148 9 u v ls st h Q := E_blk k148_9 0 rfl rfl rfl rfl H
theorem e148_10 (H : B sc 0 0 (some .int) (fun b' u' v' ls' st' h' => E sc 148 b' u' v' ls' st' h' Q) (RUN sc) Q 0 k148_10 u v ls st h) : E sc 148 10 u v ls st h Q := E_blk k148_10 0 rfl rfl rfl rfl H
theorem e148_11 (H : B sc 0 0 (some .int) (fun b' u' v' ls' st' h' => E sc 148 b' u' v' ls' st' h' Q) (RUN sc) Q 0 k148_11 u v ls st h) : E sc 148 11 u v ls st h Q := E_blk k148_11 0 rfl rfl rfl rfl H
theorem e148_12 (H : B sc 0 0 (some .int) (fun b' u' v' ls' st' h' => E sc 148 b' u' v' ls' st' h' Q) (RUN sc) Q 0 k148_12 u v ls st h) : E sc 148 12 u v ls st h Q := E_blk k148_12 0 rfl rfl rfl rfl H
theorem e148_13 (H : B sc 0 0 (some .int) (fun b' u' v' ls' st' h' => E sc 148 b' u' v' ls' st' h' Q) (RUN sc) Q 0 k148_13 u v ls st h) : E sc 148 13 u v ls st h Q := E_blk k148_13 0 rfl rfl rfl rfl H
theorem e148_14 (H : B sc 0 0 (some .int) (fun b' u' v' ls' st' h' => E sc 148 b' u' v' ls' st' h' Q) (RUN sc) Q 0 k148_14 u v ls st h) : E sc 148 14 u v ls st h Q := E_blk k148_14 0 rfl rfl rfl rfl H
theorem e148_15 (H : B sc 0 0 (some .int) (fun b' u' v' ls' st' h' => E sc 148 b' u' v' ls' st' h' Q) (RUN sc) Q 0 k148_15 u v ls st h) : E sc 148 15 u v ls st h Q := E_blk k148_15 0 rfl rfl rfl rfl H
theorem r149 {a0 a1 : Value} (H : B sc 0 0 (some .int) (fun b' u' v' ls' st' h' => E sc 149 b' u' v' ls' st' h' Q) (RUN sc) Q 0 k149_0 0 0 [a0, a1, .long 0] [] h) : RUN sc 149 [a0, a1] h Q := E_blk k149_0 0 rfl rfl rfl rfl H
theorem e149_0 (H : B sc 0 0 (some .int) (fun b' u' v' ls' st' h' => E sc 149 b' u' v' ls' st' h' Q) (RUN sc) Q 0 k149_0 u v ls st h) : E sc 149 0 u v ls st h Q := E_blk k149_0 0 rfl rfl rfl rfl H
theorem e149_1 (H : B sc 0 0 (some .int) (fun b' u' v' ls' st' h' => E sc 149 b' u' v' ls' st' h' Q) (RUN sc) Q 0 k149_1 u v ls st h) : E sc 149 1 u v ls st h Q := E_blk k149_1 0 rfl rfl rfl rfl H
theorem r150 {a0 : Value} (H : B sc 0 0 (some .int) (fun b' u' v' ls' st' h' => E sc 150 b' u' v' ls' st' h' Q) (RUN sc) Q 0 k150_0 0 0 [a0] [] h) : RUN sc 150 [a0] h Q := E_blk k150_0 0 rfl rfl rfl rfl H
theorem e150_0 (H : B sc 0 0 (some .int) (fun b' u' v' ls' st' h' => E sc 150 b' u' v' ls' st' h' Q) (RUN sc) Q 0 k150_0 u v ls st h) : E sc 150 0 u v ls st h Q := E_blk k150_0 0 rfl rfl rfl rfl H
theorem e150_1 (H : B sc 0 0 (some .int) (fun b' u' v' ls' st' h' => E sc 150 b' u' v' ls' st' h' Q) (RUN sc) Q 2 k150_1 u v ls st h) : E sc 150 1 u v ls st h Q := E_blk k150_1 2 rfl rfl rfl rfl H
theorem e150_2 (H : B sc 0 0 (some .int) (fun b' u' v' ls' st' h' => E sc 150 b' u' v' ls' st' h' Q) (RUN sc) Q 0 k150_2 u v ls st h) : E sc 150 2 u v ls st h Q := E_blk k150_2 0 rfl rfl rfl rfl H
theorem r151 {a0 a1 : Value} (H : B sc 0 0 (some .int) (fun b' u' v' ls' st' h' => E sc 151 b' u' v' ls' st' h' Q) (RUN sc) Q 0 k151_0 0 0 [a0, a1] [] h) : RUN sc 151 [a0, a1] h Q := E_blk k151_0 0 rfl rfl rfl rfl H
theorem e151_0 (H : B sc 0 0 (some .int) (fun b' u' v' ls' st' h' => E sc 151 b' u' v' ls' st' h' Q) (RUN sc) Q 0 k151_0 u v ls st h) : E sc 151 0 u v ls st h Q := E_blk k151_0 0 rfl rfl rfl rfl H
theorem e151_1 (H : B sc 0 0 (some .int) (fun b' u' v' ls' st' h' => E sc 151 b' u' v' ls' st' h' Q) (RUN sc) Q 2 k151_1 u v ls st h) : E sc 151 1 u v ls st h Q := E_blk k151_1 2 rfl rfl rfl rfl H
theorem e151_2 (H : B sc 0 0 (some .int) (fun b' u' v' ls' st' h' => E sc 151 b' u' v' ls' st' h' Q) (RUN sc) Q 0 k151_2 u v ls st h) : E sc 151 2 u v ls st h Q := E_blk k151_2 0 rfl rfl rfl rfl H
theorem r152 {a0 a1 : Value} (H : B sc 0 0 (some .int) (fun b' u' v' ls' st' h' => E sc 152 b' u' v' ls' st' h' Q) (RUN sc) Q 0 k152_0 0 0 [a0, a1] [] h) : RUN sc 152 [a0, a1] h Q := E_blk k152_0 0 rfl rfl rfl rfl H
theorem e152_0 (H : B sc 0 0 (some .int) (fun b' u' v' ls' st' h' => E sc 152 b' u' v' ls' st' h' Q) (RUN sc) Q 0 k152_0 u v ls st h) : E sc 152 0 u v ls st h Q := E_blk k152_0 0 rfl rfl rfl rfl H
theorem e152_1 (H : B sc 0 0 (some .int) (fun b' u' v' ls' st' h' => E sc 152 b' u' v' ls' st' h' Q) (RUN sc) Q 2 k152_1 u v ls st h) : E sc 152 1 u v ls st h Q := E_blk k152_1 2 rfl rfl rfl rfl H
theorem e152_2 (H : B sc 0 0 (some .int) (fun b' u' v' ls' st' h' => E sc 152 b' u' v' ls' st' h' Q) (RUN sc) Q 0 k152_2 u v ls st h) : E sc 152 2 u v ls st h Q := E_blk k152_2 0 rfl rfl rfl rfl H
theorem r153 {a0 : Value} (H : B sc 600000 7302250 (some .boolean) (fun b' u' v' ls' st' h' => E sc 153 b' u' v' ls' st' h' Q) (RUN sc) Q 1 k153_0 0 0 [a0, .long 0, .long 0, .long 0] [] h) : RUN sc 153 [a0] h Q := E_blk k153_0 1 rfl rfl rfl rfl H
theorem e153_0 (H : B sc 600000 7302250 (some .boolean) (fun b' u' v' ls' st' h' => E sc 153 b' u' v' ls' st' h' Q) (RUN sc) Q 1 k153_0 u v ls st h) : E sc 153 0 u v ls st h Q := E_blk k153_0 1 rfl rfl rfl rfl H
theorem e153_1 (H : B sc 600000 7302250 (some .boolean) (fun b' u' v' ls' st' h' => E sc 153 b' u' v' ls' st' h' Q) (RUN sc) Q 0 k153_1 u v ls st h) : E sc 153 1 u v ls st h Q := E_blk k153_1 0 rfl rfl rfl rfl H
theorem e153_2 (H : B sc 600000 7302250 (some .boolean) (fun b' u' v' ls' st' h' => E sc 153 b' u' v' ls' st' h' Q) (RUN sc) Q 0 k153_2 u v ls st h) : E sc 153 2 u v ls st h Q := E_blk k153_2 0 rfl rfl rfl rfl H
theorem e153_3 (H : B sc 600000 7302250 (some .boolean) (fun b' u' v' ls' st' h' => E sc 153 b' u' v' ls' st' h' Q) (RUN sc) Q 0 k153_3 u v ls st h) : E sc 153 3 u v ls st h Q := E_blk k153_3 0 rfl rfl rfl rfl H
theorem e153_4 (H : B sc 600000 7302250 (some .boolean) (fun b' u' v' ls' st' h' => E sc 153 b' u' v' ls' st' h' Q) (RUN sc) Q 0 k153_4 u v ls st h) : E sc 153 4 u v ls st h Q := E_blk k153_4 0 rfl rfl rfl rfl H
theorem e153_5 (H : B sc 600000 7302250 (some .boolean) (fun b' u' v' ls' st' h' => E sc 153 b' u' v' ls' st' h' Q) (RUN sc) Q 0 k153_5 u v ls st h) : E sc 153 5 u v ls st h Q := E_blk k153_5 0 rfl rfl rfl rfl H
theorem e153_6 (H : B sc 600000 7302250 (some .boolean) (fun b' u' v' ls' st' h' => E sc 153 b' u' v' ls' st' h' Q) (RUN sc) Q 0 k153_6 u v ls st h) : E sc 153 6 u v ls st h Q := E_blk k153_6 0 rfl rfl rfl rfl H
theorem e153_7 (H : B sc 600000 7302250 (some .boolean) (fun b' u' v' ls' st' h' => E sc 153 b' u' v' ls' st' h' Q) (RUN sc) Q 0 k153_7 u v ls st h) : E sc 153 7 u v ls st h Q := E_blk k153_7 0 rfl rfl rfl rfl H
theorem e153_8 (H : B sc 600000 7302250 (some .boolean) (fun b' u' v' ls' st' h' => E sc 153 b' u' v' ls' st' h' Q) (RUN sc) Q 0 k153_8 u v ls st h) : E sc 153 8 u v ls st h Q := E_blk k153_8 0 rfl rfl rfl rfl H
theorem e153_9 (H : B sc 600000 7302250 (some .boolean) (fun b' u' v' ls' st' h' => E sc 153 b' u' v' ls' st' h' Q) (RUN sc) Q 0 k153_9 u v ls st h) : E sc 153 9 u v ls st h Q := E_blk k153_9 0 rfl rfl rfl rfl H
theorem e153_10 (H : B sc 600000 7302250 (some .boolean) (fun b' u' v' ls' st' h' => E sc 153 b' u' v' ls' st' h' Q) (RUN sc) Q 0 k153_10 u v ls st h) : E sc 153 10 u v ls st h Q := E_blk k153_10 0 rfl rfl rfl rfl H
theorem e153_11 (H : B sc 600000 7302250 (some .boolean) (fun b' u' v' ls' st' h' => E sc 153 b' u' v' ls' st' h' Q) (RUN sc) Q 0 k153_11 u v ls st h) : E sc 153 11 u v ls st h Q := E_blk k153_11 0 rfl rfl rfl rfl H
theorem e153_12 (H : B sc 600000 7302250 (some .boolean) (fun b' u' v' ls' st' h' => E sc 153 b' u' v' ls' st' h' Q) (RUN sc) Q 0 k153_12 u v ls st h) : E sc 153 12 u v ls st h Q := E_blk k153_12 0 rfl rfl rfl rfl H
theorem e153_13 (H : B sc 600000 7302250 (some .boolean) (fun b' u' v' ls' st' h' => E sc 153 b' u' v' ls' st' h' Q) (RUN sc) Q 0 k153_13 u v ls st h) : E sc 153 13 u v ls st h Q := E_blk k153_13 0 rfl rfl rfl rfl H
theorem e153_14 (H : B sc 600000 7302250 (some .boolean) (fun b' u' v' ls' st' h' => E sc 153 b' u' v' ls' st' h' Q) (RUN sc) Q 0 k153_14 u v ls st h) : E sc 153 14 u v ls st h Q := E_blk k153_14 0 rfl rfl rfl rfl H
theorem e153_15 (H : B sc 600000 7302250 (some .boolean) (fun b' u' v' ls' st' h' => E sc 153 b' u' v' ls' st' h' Q) (RUN sc) Q 0 k153_15 u v ls st h) : E sc 153 15 u v ls st h Q := E_blk k153_15 0 rfl rfl rfl rfl H
theorem e153_16 (H : B sc 600000 7302250 (some .boolean) (fun b' u' v' ls' st' h' => E sc 153 b' u' v' ls' st' h' Q) (RUN sc) Q 0 k153_16 u v ls st h) : E sc 153 16 u v ls st h Q := E_blk k153_16 0 rfl rfl rfl rfl H
theorem e153_17 (H : B sc 600000 7302250 (some .boolean) (fun b' u' v' ls' st' h' => E sc 153 b' u' v' ls' st' h' Q) (RUN sc) Q 0 k153_17 u v ls st h) : E sc 153 17 u v ls st h Q := E_blk k153_17 0 rfl rfl rfl rfl H
theorem e153_18 (H : B sc 600000 7302250 (some .boolean) (fun b' u' v' ls' st' h' => E sc 153 b' u' v' ls' st' h' Q) (RUN sc) Q 0 k153_18 u v ls st h) : E sc 153 18 u v ls st h Q := E_blk k153_18 0 rfl rfl rfl rfl H
theorem e153_19 (H : B sc 600000 7302250 (some .boolean) (fun b' u' v' ls' st' h' => E sc 153 b' u' v' ls' st' h' Q) (RUN sc) Q 0 k153_19 u v ls st h) : E sc 153 19 u v ls st h Q := E_blk k153_19 0 rfl rfl rfl rfl H
theorem e153_20 (H : B sc 600000 7302250 (some .boolean) (fun b' u' v' ls' st' h' => E sc 153 b' u' v' ls' st' h' Q) (RUN sc) Q 0 k153_20 u v ls st h) : E sc 153 20 u v ls st h Q := E_blk k153_20 0 rfl rfl rfl rfl H
theorem e153_21 (H : B sc 600000 7302250 (some .boolean) (fun b' u' v' ls' st' h' => E sc 153 b' u' v' ls' st' h' Q) (RUN sc) Q 22 k153_21 u v ls st h) : E sc 153 21 u v ls st h Q := E_blk k153_21 22 rfl rfl rfl rfl H
theorem e153_22 (H : B sc 600000 7302250 (some .boolean) (fun b' u' v' ls' st' h' => E sc 153 b' u' v' ls' st' h' Q) (RUN sc) Q 0 k153_22 u v ls st h) : E sc 153 22 u v ls st h Q := E_blk k153_22 0 rfl rfl rfl rfl H
theorem e153_23 (H : B sc 600000 7302250 (some .boolean) (fun b' u' v' ls' st' h' => E sc 153 b' u' v' ls' st' h' Q) (RUN sc) Q 24 k153_23 u v ls st h) : E sc 153 23 u v ls st h Q := E_blk k153_23 24 rfl rfl rfl rfl H
theorem e153_24 (H : B sc 600000 7302250 (some .boolean) (fun b' u' v' ls' st' h' => E sc 153 b' u' v' ls' st' h' Q) (RUN sc) Q 0 k153_24 u v ls st h) : E sc 153 24 u v ls st h Q := E_blk k153_24 0 rfl rfl rfl rfl H
theorem e153_25 (H : B sc 600000 7302250 (some .boolean) (fun b' u' v' ls' st' h' => E sc 153 b' u' v' ls' st' h' Q) (RUN sc) Q 0 k153_25 u v ls st h) : E sc 153 25 u v ls st h Q := E_blk k153_25 0 rfl rfl rfl rfl H
theorem e153_26 (H : B sc 600000 7302250 (some .boolean) (fun b' u' v' ls' st' h' => E sc 153 b' u' v' ls' st' h' Q) (RUN sc) Q 0 k153_26 u v ls st h) : E sc 153 26 u v ls st h Q := E_blk k153_26 0 rfl rfl rfl rfl H
theorem e153_27 (H : B sc 600000 7302250 (some .boolean) (fun b' u' v' ls' st' h' => E sc 153 b' u' v' ls' st' h' Q) (RUN sc) Q 0 k153_27 u v ls st h) : E sc 153 27 u v ls st h Q := E_blk k153_27 0 rfl rfl rfl rfl H
theorem e153_28 (H : B sc 600000 7302250 (some .boolean) (fun b' u' v' ls' st' h' => E sc 153 b' u' v' ls' st' h' Q) (RUN sc) Q 0 k153_28 u v ls st h) : E sc 153 28 u v ls st h Q := E_blk k153_28 0 rfl rfl rfl rfl H
theorem e153_29 (H : B sc 600000 7302250 (some .boolean) (fun b' u' v' ls' st' h' => E sc 153 b' u' v' ls' st' h' Q) (RUN sc) Q 0 k153_29 u v ls st h) : E sc 153 29 u v ls st h Q := E_blk k153_29 0 rfl rfl rfl rfl H
theorem e153_30 (H : B sc 600000 7302250 (some .boolean) (fun b' u' v' ls' st' h' => E sc 153 b' u' v' ls' st' h' Q) (RUN sc) Q 0 k153_30 u v ls st h) : E sc 153 30 u v ls st h Q := E_blk k153_30 0 rfl rfl rfl rfl H
theorem e153_31 (H : B sc 600000 7302250 (some .boolean) (fun b' u' v' ls' st' h' => E sc 153 b' u' v' ls' st' h' Q) (RUN sc) Q 0 k153_31 u v ls st h) : E sc 153 31 u v ls st h Q := E_blk k153_31 0 rfl rfl rfl rfl H
end EB
