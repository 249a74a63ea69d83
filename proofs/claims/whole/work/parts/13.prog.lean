/-! the program is what the tables say: each row decodes, links, jumps as it is written (decided) -/
theorem ok_0 : okM 0 = true := by decide +kernel
theorem ok_1 : okM 1 = true := by decide +kernel
theorem ok_2 : okM 2 = true := by decide +kernel
theorem ok_3 : okM 3 = true := by decide +kernel
theorem ok_4 : okM 4 = true := by decide +kernel
theorem ok_5 : okM 5 = true := by decide +kernel
theorem ok_6 : okM 6 = true := by decide +kernel
theorem ok_7 : okM 7 = true := by decide +kernel
theorem ok_8 : okM 8 = true := by decide +kernel
theorem ok_9 : okM 9 = true := by decide +kernel
theorem ok_10 : okM 10 = true := by decide +kernel
theorem ok_11 : okM 11 = true := by decide +kernel
theorem ok_12 : okM 12 = true := by decide +kernel
theorem ok_13 : okM 13 = true := by decide +kernel
theorem ok_14 : okM 14 = true := by decide +kernel
theorem ok_15 : okM 15 = true := by decide +kernel
theorem ok_16 : okM 16 = true := by decide +kernel
theorem ok_17 : okM 17 = true := by decide +kernel
theorem ok_18 : okM 18 = true := by decide +kernel
theorem ok_19 : okM 19 = true := by decide +kernel
theorem ok_20 : okM 20 = true := by decide +kernel
theorem ok_21 : okM 21 = true := by decide +kernel
theorem ok_22 : okM 22 = true := by decide +kernel
theorem ok_23 : okM 23 = true := by decide +kernel
theorem ok_24 : okM 24 = true := by decide +kernel
theorem ok_25 : okM 25 = true := by decide +kernel
theorem ok_26 : okM 26 = true := by decide +kernel
theorem ok_27 : okM 27 = true := by decide +kernel
theorem ok_28 : okM 28 = true := by decide +kernel
theorem ok_29 : okM 29 = true := by decide +kernel
theorem ok_30 : okM 30 = true := by decide +kernel
theorem ok_31 : okM 31 = true := by decide +kernel
theorem ok_32 : okM 32 = true := by decide +kernel
theorem ok_33 : okM 33 = true := by decide +kernel
theorem ok_34 : okM 34 = true := by decide +kernel
theorem ok_35 : okM 35 = true := by decide +kernel
theorem ok_36 : okM 36 = true := by decide +kernel
theorem ok_37 : okM 37 = true := by decide +kernel
theorem ok_38 : okM 38 = true := by decide +kernel
theorem ok_39 : okM 39 = true := by decide +kernel
theorem ok_40 : okM 40 = true := by decide +kernel
theorem ok_41 : okM 41 = true := by decide +kernel
theorem ok_42 : okM 42 = true := by decide +kernel
theorem ok_43 : okM 43 = true := by decide +kernel
theorem ok_44 : okM 44 = true := by decide +kernel
theorem ok_45 : okM 45 = true := by decide +kernel
theorem ok_46 : okM 46 = true := by decide +kernel
theorem ok_47 : okM 47 = true := by decide +kernel
theorem ok_48 : okM 48 = true := by decide +kernel
theorem ok_49 : okM 49 = true := by decide +kernel
theorem ok_50 : okM 50 = true := by decide +kernel
theorem ok_51 : okM 51 = true := by decide +kernel
theorem ok_52 : okM 52 = true := by decide +kernel
theorem ok_53 : okM 53 = true := by decide +kernel
theorem ok_54 : okM 54 = true := by decide +kernel
theorem ok_55 : okM 55 = true := by decide +kernel
theorem ok_56 : okM 56 = true := by decide +kernel
theorem ok_57 : okM 57 = true := by decide +kernel
theorem ok_58 : okM 58 = true := by decide +kernel
theorem ok_59 : okM 59 = true := by decide +kernel
theorem ok_60 : okM 60 = true := by decide +kernel
theorem ok_61 : okM 61 = true := by decide +kernel
theorem ok_62 : okM 62 = true := by decide +kernel
theorem ok_63 : okM 63 = true := by decide +kernel
theorem ok_64 : okM 64 = true := by decide +kernel
theorem ok_65 : okM 65 = true := by decide +kernel
theorem ok_66 : okM 66 = true := by decide +kernel
theorem ok_67 : okM 67 = true := by decide +kernel
theorem ok_68 : okM 68 = true := by decide +kernel
theorem ok_69 : okM 69 = true := by decide +kernel
theorem ok_70 : okM 70 = true := by decide +kernel
theorem ok_71 : okM 71 = true := by decide +kernel
theorem ok_72 : okM 72 = true := by decide +kernel
theorem ok_73 : okM 73 = true := by decide +kernel
theorem ok_74 : okM 74 = true := by decide +kernel
theorem ok_75 : okM 75 = true := by decide +kernel
theorem ok_76 : okM 76 = true := by decide +kernel
theorem ok_77 : okM 77 = true := by decide +kernel
theorem ok_78 : okM 78 = true := by decide +kernel
theorem ok_79 : okM 79 = true := by decide +kernel
theorem ok_80 : okM 80 = true := by decide +kernel
theorem ok_81 : okM 81 = true := by decide +kernel
theorem ok_82 : okM 82 = true := by decide +kernel
theorem ok_83 : okM 83 = true := by decide +kernel
theorem ok_84 : okM 84 = true := by decide +kernel
theorem ok_85 : okM 85 = true := by decide +kernel
theorem ok_86 : okM 86 = true := by decide +kernel
theorem ok_87 : okM 87 = true := by decide +kernel
theorem ok_88 : okM 88 = true := by decide +kernel
theorem ok_89 : okM 89 = true := by decide +kernel
theorem ok_90 : okM 90 = true := by decide +kernel
theorem ok_91 : okM 91 = true := by decide +kernel
theorem ok_92 : okM 92 = true := by decide +kernel
theorem ok_93 : okM 93 = true := by decide +kernel
theorem ok_94 : okM 94 = true := by decide +kernel
theorem ok_95 : okM 95 = true := by decide +kernel
theorem ok_96 : okM 96 = true := by decide +kernel
theorem ok_97 : okM 97 = true := by decide +kernel
theorem ok_98 : okM 98 = true := by decide +kernel
theorem ok_99 : okM 99 = true := by decide +kernel
theorem ok_100 : okM 100 = true := by decide +kernel
theorem ok_101 : okM 101 = true := by decide +kernel
theorem ok_102 : okM 102 = true := by decide +kernel
theorem ok_103 : okM 103 = true := by decide +kernel
theorem ok_104 : okM 104 = true := by decide +kernel
theorem ok_105 : okM 105 = true := by decide +kernel
theorem ok_106 : okM 106 = true := by decide +kernel
theorem ok_107 : okM 107 = true := by decide +kernel
theorem ok_108 : okM 108 = true := by decide +kernel
theorem ok_109 : okM 109 = true := by decide +kernel
theorem ok_110 : okM 110 = true := by decide +kernel
theorem ok_111 : okM 111 = true := by decide +kernel
theorem ok_112 : okM 112 = true := by decide +kernel
theorem ok_113 : okM 113 = true := by decide +kernel
theorem ok_114 : okM 114 = true := by decide +kernel
theorem ok_115 : okM 115 = true := by decide +kernel
theorem ok_116 : okM 116 = true := by decide +kernel
theorem ok_117 : okM 117 = true := by decide +kernel
theorem ok_118 : okM 118 = true := by decide +kernel
theorem ok_119 : okM 119 = true := by decide +kernel
theorem ok_120 : okM 120 = true := by decide +kernel
theorem ok_121 : okM 121 = true := by decide +kernel
theorem ok_122 : okM 122 = true := by decide +kernel
theorem ok_123 : okM 123 = true := by decide +kernel
theorem ok_124 : okM 124 = true := by decide +kernel
theorem ok_125 : okM 125 = true := by decide +kernel
theorem ok_126 : okM 126 = true := by decide +kernel
theorem ok_127 : okM 127 = true := by decide +kernel
theorem ok_128 : okM 128 = true := by decide +kernel
theorem ok_129 : okM 129 = true := by decide +kernel
theorem ok_130 : okM 130 = true := by decide +kernel
theorem ok_131 : okM 131 = true := by decide +kernel
theorem ok_132 : okM 132 = true := by decide +kernel
theorem ok_133 : okM 133 = true := by decide +kernel
theorem ok_134 : okM 134 = true := by decide +kernel
theorem ok_135 : okM 135 = true := by decide +kernel
theorem ok_136 : okM 136 = true := by decide +kernel
theorem ok_137 : okM 137 = true := by decide +kernel
theorem ok_138 : okM 138 = true := by decide +kernel
theorem ok_139 : okM 139 = true := by decide +kernel
theorem ok_140 : okM 140 = true := by decide +kernel
theorem ok_141 : okM 141 = true := by decide +kernel
theorem ok_142 : okM 142 = true := by decide +kernel
theorem ok_143 : okM 143 = true := by decide +kernel
theorem ok_144 : okM 144 = true := by decide +kernel
theorem ok_145 : okM 145 = true := by decide +kernel
theorem ok_146 : okM 146 = true := by decide +kernel
theorem ok_147 : okM 147 = true := by decide +kernel
theorem ok_148 : okM 148 = true := by decide +kernel
theorem ok_149 : okM 149 = true := by decide +kernel
theorem ok_150 : okM 150 = true := by decide +kernel
theorem ok_151 : okM 151 = true := by decide +kernel
theorem ok_152 : okM 152 = true := by decide +kernel
theorem ok_153 : okM 153 = true := by decide +kernel
theorem ok_all : ∀ m, m < 154 → okM m = true := by
  intro m hm
  match m, hm with
  | 0, _ => exact ok_0
  | 1, _ => exact ok_1
  | 2, _ => exact ok_2
  | 3, _ => exact ok_3
  | 4, _ => exact ok_4
  | 5, _ => exact ok_5
  | 6, _ => exact ok_6
  | 7, _ => exact ok_7
  | 8, _ => exact ok_8
  | 9, _ => exact ok_9
  | 10, _ => exact ok_10
  | 11, _ => exact ok_11
  | 12, _ => exact ok_12
  | 13, _ => exact ok_13
  | 14, _ => exact ok_14
  | 15, _ => exact ok_15
  | 16, _ => exact ok_16
  | 17, _ => exact ok_17
  | 18, _ => exact ok_18
  | 19, _ => exact ok_19
  | 20, _ => exact ok_20
  | 21, _ => exact ok_21
  | 22, _ => exact ok_22
  | 23, _ => exact ok_23
  | 24, _ => exact ok_24
  | 25, _ => exact ok_25
  | 26, _ => exact ok_26
  | 27, _ => exact ok_27
  | 28, _ => exact ok_28
  | 29, _ => exact ok_29
  | 30, _ => exact ok_30
  | 31, _ => exact ok_31
  | 32, _ => exact ok_32
  | 33, _ => exact ok_33
  | 34, _ => exact ok_34
  | 35, _ => exact ok_35
  | 36, _ => exact ok_36
  | 37, _ => exact ok_37
  | 38, _ => exact ok_38
  | 39, _ => exact ok_39
  | 40, _ => exact ok_40
  | 41, _ => exact ok_41
  | 42, _ => exact ok_42
  | 43, _ => exact ok_43
  | 44, _ => exact ok_44
  | 45, _ => exact ok_45
  | 46, _ => exact ok_46
  | 47, _ => exact ok_47
  | 48, _ => exact ok_48
  | 49, _ => exact ok_49
  | 50, _ => exact ok_50
  | 51, _ => exact ok_51
  | 52, _ => exact ok_52
  | 53, _ => exact ok_53
  | 54, _ => exact ok_54
  | 55, _ => exact ok_55
  | 56, _ => exact ok_56
  | 57, _ => exact ok_57
  | 58, _ => exact ok_58
  | 59, _ => exact ok_59
  | 60, _ => exact ok_60
  | 61, _ => exact ok_61
  | 62, _ => exact ok_62
  | 63, _ => exact ok_63
  | 64, _ => exact ok_64
  | 65, _ => exact ok_65
  | 66, _ => exact ok_66
  | 67, _ => exact ok_67
  | 68, _ => exact ok_68
  | 69, _ => exact ok_69
  | 70, _ => exact ok_70
  | 71, _ => exact ok_71
  | 72, _ => exact ok_72
  | 73, _ => exact ok_73
  | 74, _ => exact ok_74
  | 75, _ => exact ok_75
  | 76, _ => exact ok_76
  | 77, _ => exact ok_77
  | 78, _ => exact ok_78
  | 79, _ => exact ok_79
  | 80, _ => exact ok_80
  | 81, _ => exact ok_81
  | 82, _ => exact ok_82
  | 83, _ => exact ok_83
  | 84, _ => exact ok_84
  | 85, _ => exact ok_85
  | 86, _ => exact ok_86
  | 87, _ => exact ok_87
  | 88, _ => exact ok_88
  | 89, _ => exact ok_89
  | 90, _ => exact ok_90
  | 91, _ => exact ok_91
  | 92, _ => exact ok_92
  | 93, _ => exact ok_93
  | 94, _ => exact ok_94
  | 95, _ => exact ok_95
  | 96, _ => exact ok_96
  | 97, _ => exact ok_97
  | 98, _ => exact ok_98
  | 99, _ => exact ok_99
  | 100, _ => exact ok_100
  | 101, _ => exact ok_101
  | 102, _ => exact ok_102
  | 103, _ => exact ok_103
  | 104, _ => exact ok_104
  | 105, _ => exact ok_105
  | 106, _ => exact ok_106
  | 107, _ => exact ok_107
  | 108, _ => exact ok_108
  | 109, _ => exact ok_109
  | 110, _ => exact ok_110
  | 111, _ => exact ok_111
  | 112, _ => exact ok_112
  | 113, _ => exact ok_113
  | 114, _ => exact ok_114
  | 115, _ => exact ok_115
  | 116, _ => exact ok_116
  | 117, _ => exact ok_117
  | 118, _ => exact ok_118
  | 119, _ => exact ok_119
  | 120, _ => exact ok_120
  | 121, _ => exact ok_121
  | 122, _ => exact ok_122
  | 123, _ => exact ok_123
  | 124, _ => exact ok_124
  | 125, _ => exact ok_125
  | 126, _ => exact ok_126
  | 127, _ => exact ok_127
  | 128, _ => exact ok_128
  | 129, _ => exact ok_129
  | 130, _ => exact ok_130
  | 131, _ => exact ok_131
  | 132, _ => exact ok_132
  | 133, _ => exact ok_133
  | 134, _ => exact ok_134
  | 135, _ => exact ok_135
  | 136, _ => exact ok_136
  | 137, _ => exact ok_137
  | 138, _ => exact ok_138
  | 139, _ => exact ok_139
  | 140, _ => exact ok_140
  | 141, _ => exact ok_141
  | 142, _ => exact ok_142
  | 143, _ => exact ok_143
  | 144, _ => exact ok_144
  | 145, _ => exact ok_145
  | 146, _ => exact ok_146
  | 147, _ => exact ok_147
  | 148, _ => exact ok_148
  | 149, _ => exact ok_149
  | 150, _ => exact ok_150
  | 151, _ => exact ok_151
  | 152, _ => exact ok_152
  | 153, _ => exact ok_153
  | n + 154, h => omega
theorem blk_out {m b : Nat} (h : 154 ≤ m) : blk m b = (0, [], 0) := by
  have hl : blkL.length = 154 := by decide +kernel
  have : blkL.getD m [] = [] := by rw [List.getD_eq_getElem?_getD, List.getElem?_eq_none (by omega)]; rfl
  unfold blk
  rw [this]
  rfl
theorem blk_0 : ∀ m, (blk m 0).1 = 0 := by
  intro m
  rcases Nat.lt_or_ge m 154 with h | h
  · have := ok_all m h
    simp only [okM, Bool.and_eq_true, decide_eq_true_eq] at this
    exact this.2
  · rw [blk_out h]
theorem blk_ok : ∀ m b, okL m (blk m b).1 (blk m b).2.1 (blk m b).2.2 = true := by
  intro m b
  have hz : okL m 0 [] 0 = true := by
    unfold okL
    exact decide_eq_true (blk_0 m)
  rcases Nat.lt_or_ge m 154 with h | h
  · have := ok_all m h
    simp only [okM, Bool.and_eq_true, decide_eq_true_eq] at this
    unfold blk
    rcases Nat.lt_or_ge b (blkL.getD m []).length with hb | hb
    · rw [List.getD_eq_getElem?_getD, List.getElem?_eq_getElem hb]
      exact List.all_eq_true.mp this.1 _ (List.getElem_mem hb)
    · rw [List.getD_eq_getElem?_getD (l := blkL.getD m []), List.getElem?_eq_none hb]
      exact hz
  · rw [blk_out h]
    exact hz
theorem B_sound {l : Launch} {sc : SC} {m : Nat} {p : Program} {e : Env} {R : Room} {s : State} {mid : MethodId} {args : Array Value} {below : List Frame} {meth : Method} {cd : Code} {lo bb : Nat} {D : va_G} {cA : Nat → ClassId} {Z : State → Prop} (C : CX m p R s mid args meth cd) (KK : KX sc lo bb D cA s) {J : JT} {Q : PT} (hF : FIN l p e R s mid args below meth cd lo bb D cA Z m Q)
    (hJ : ∀ t u v ls st h, J t u v ls st h → WA l p e R s mid args below meth cd lo bb D cA Z m (blk m t).1 u v ls st h) (nxt : Nat) : ∀ (L : List MI) (pc u v : Nat) (ls st : List Value) (h : AHp), okL m pc L nxt = true → B sc (mAl m) (mAs m) (mRet m) J (fun m' as h' post => PW l sc m' 0 0 0 (ini m' as) [] h' post) Q nxt L u v ls st h → WA l p e R s mid args below meth cd lo bb D cA Z m pc u v ls st h
  | [], pc, u, v, ls, st, h, ok, H => by
    have hpc : (blk m nxt).1 = pc := of_decide_eq_true ok
    rw [← hpc]
    exact hJ _ _ _ _ _ _ H
  | x :: r, pc, u, v, ls, st, h, ok, H => by
    simp only [okL, Bool.and_eq_true, Bool.or_eq_true] at ok
    refine st_all blk_0 C KK hF hJ ok.1 (fun ht u v ls st h hh => ?_) H
    rcases ok.2 with h2 | h2
    · rw [ht] at h2; cases h2
    · exact B_sound C KK hF hJ nxt r _ u v ls st h h2 hh
theorem PW_closed (l : Launch) (sc : SC) : Cl sc (PW l sc) := by
  refine ⟨fun m b u v ls st h Q Q' hQ hP p e R s mid args below meth cd lo bb D cA Z C KK hF => hP p e R s mid args below meth cd lo bb D cA Z C KK (fun r h' H locs lsA u' v' pc X hu hv hq => hF r h' H locs lsA u' v' pc X hu hv (hQ r h' hq)), fun m b u v ls st h Q hB p e R s mid args below meth cd lo bb D cA Z C KK hF => ?_⟩
  exact B_sound C KK hF (fun t u v ls st h hh => hh p e R s mid args below meth cd lo bb D cA Z C KK hF) _ _ _ u v ls st h (blk_ok m b) hB
/-- SOUNDNESS: what the machine's judgement says holds of the JVM -/
theorem E_sound (l : Launch) (sc : SC) {m b u v : Nat} {ls st : List Value} {h : AHp} {Q : PT} (H : E sc m b u v ls st h Q) : PW l sc m b u v ls st h Q := H (PW l sc) (PW_closed l sc)
