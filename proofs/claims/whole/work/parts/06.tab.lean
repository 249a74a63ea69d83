/-! the tables hold: by places in lw_tbl -/
def mpL : List (Nat × Nat × Nat × Nat × Nat) := [(238, 237, 0, 53, 2), (308, 306, 307, 53, 0), (312, 311, 0, 53, 0), (545, 543, 544, 53, 0), (80, 79, 0, 50, 2), (332, 330, 331, 50, 0), (432, 430, 431, 50, 0), (623, 621, 622, 50, 0), (70, 69, 0, 49, 2), (316, 314, 315, 49, 0), (375, 373, 374, 49, 0), (360, 358, 359, 49, 0), (379, 377, 378, 49, 0), (464, 462, 463, 49, 0), (398, 397, 1, 49, 0), (407, 406, 2, 49, 0), (436, 435, 5, 49, 0), (448, 447, 6, 49, 0), (415, 414, 3, 49, 0), (424, 423, 4, 49, 0), (420, 418, 419, 49, 0), (341, 339, 340, 49, 0), (562, 560, 561, 49, 0), (566, 564, 565, 49, 0), (634, 632, 633, 49, 0), (570, 568, 569, 49, 0), (639, 637, 638, 49, 0), (643, 641, 642, 49, 0), (647, 645, 646, 49, 0), (651, 649, 650, 49, 0), (476, 474, 475, 49, 0), (97, 96, 0, 51, 2), (323, 321, 322, 51, 0), (345, 343, 344, 51, 0), (440, 438, 439, 51, 0), (428, 426, 427, 51, 0), (383, 381, 382, 51, 0), (468, 466, 467, 51, 0), (402, 400, 401, 51, 0), (456, 454, 455, 51, 0), (480, 478, 479, 51, 0), (615, 613, 614, 51, 0), (411, 409, 410, 51, 0), (579, 577, 578, 51, 0), (444, 442, 443, 51, 0), (452, 450, 451, 51, 0), (160, 159, 0, 52, 2), (328, 326, 327, 52, 0), (255, 254, 0, 54, 2), (501, 499, 500, 54, 0), (505, 504, 8, 54, 0), (509, 508, 9, 54, 0), (513, 512, 10, 54, 0), (520, 519, 11, 54, 0), (525, 524, 12, 54, 0), (516, 515, 0, 54, 1), (529, 527, 528, 54, 0), (535, 533, 534, 54, 0), (62, 61, 0, 48, 2), (301, 299, 300, 48, 0), (337, 335, 336, 48, 0), (352, 350, 351, 48, 0), (356, 354, 355, 48, 0), (364, 362, 363, 48, 0), (371, 369, 370, 48, 0), (460, 458, 459, 48, 0), (472, 470, 471, 48, 0), (485, 483, 484, 48, 0), (489, 487, 488, 48, 0), (493, 491, 492, 48, 0), (541, 539, 540, 48, 0), (549, 547, 548, 48, 0), (554, 552, 553, 48, 0), (558, 556, 557, 48, 0), (575, 573, 574, 48, 0), (584, 582, 583, 48, 0), (588, 586, 587, 48, 0), (593, 591, 592, 48, 0), (599, 597, 598, 48, 0), (607, 605, 606, 48, 0), (611, 609, 610, 48, 0), (619, 617, 618, 48, 0), (630, 628, 629, 48, 0), (497, 496, 7, 48, 0), (603, 602, 13, 48, 0), (304, 303, 0, 48, 1), (367, 366, 0, 48, 1), (386, 385, 0, 48, 1), (657, 656, 0, 55, 2), (705, 704, 0, 55, 1), (725, 724, 17, 55, 0), (737, 736, 20, 55, 0), (753, 752, 22, 55, 0), (784, 783, 27, 55, 0), (702, 701, 0, 55, 1), (765, 764, 23, 55, 0), (749, 748, 21, 55, 0), (776, 775, 0, 55, 1), (709, 708, 14, 55, 0), (792, 791, 29, 55, 0), (733, 732, 19, 55, 0), (721, 720, 16, 55, 0), (729, 728, 18, 55, 0), (717, 716, 15, 55, 0), (699, 697, 698, 55, 0), (713, 711, 712, 55, 0), (741, 739, 740, 55, 0), (745, 743, 744, 55, 0), (757, 755, 756, 55, 0), (780, 779, 26, 55, 0), (773, 772, 25, 55, 0), (788, 787, 28, 55, 0), (808, 807, 33, 55, 0), (804, 803, 32, 55, 0), (800, 799, 31, 55, 0), (812, 811, 34, 55, 0), (769, 768, 24, 55, 0), (796, 795, 30, 55, 0), (761, 759, 760, 55, 0), (816, 814, 815, 55, 0), (824, 823, 35, 55, 0), (820, 818, 819, 55, 0), (828, 826, 827, 55, 0), (832, 830, 831, 55, 0), (852, 851, 39, 55, 0), (848, 847, 38, 55, 0), (844, 843, 37, 55, 0), (840, 839, 36, 55, 0), (856, 855, 40, 55, 0), (836, 834, 835, 55, 0), (864, 863, 41, 55, 0), (860, 858, 859, 55, 0), (868, 866, 867, 55, 0), (872, 870, 871, 55, 0), (876, 874, 875, 55, 0), (880, 878, 879, 55, 0), (888, 887, 42, 55, 0), (884, 882, 883, 55, 0), (896, 895, 43, 55, 0), (892, 890, 891, 55, 0), (900, 898, 899, 55, 0), (904, 902, 903, 55, 0), (908, 906, 907, 55, 0), (916, 915, 44, 55, 0), (912, 910, 911, 55, 0), (920, 918, 919, 55, 0), (932, 931, 46, 55, 0), (928, 927, 45, 55, 0), (924, 922, 923, 55, 0), (626, 625, 0, 57, 1), (389, 388, 0, 57, 1), (348, 347, 0, 57, 1), (392, 391, 0, 57, 1), (0, 0, 0, 0, 9)]
def layL : List (List Nat) := [[246, 248], [86, 88, 90], [211, 213, 215, 217, 219, 221, 223, 225, 227, 229, 231], [130, 132, 134, 136, 138, 140, 142, 144, 146, 148, 150, 152, 154], [178, 180, 182, 184, 186], [265, 267, 269, 271, 273, 275], [285, 287, 289, 291, 293, 295], [671, 673, 675, 677, 679, 681, 683, 685, 687, 689, 691, 693]]
def insL : List (Nat × Nat) := [(235, 53), (77, 50), (67, 49), (94, 51), (157, 52), (252, 54), (59, 48), (654, 55)]
def lwAt (i : Nat) (w : Jvm.Cond) : Bool := decide (lw_tbl[i]? = some w) && goodWord w
theorem lwAt_in {i : Nat} {w : Jvm.Cond} (h : lwAt i w = true) : w ∈ TB := by
  simp only [lwAt, Bool.and_eq_true, decide_eq_true_eq] at h
  exact mem_TB i h.1 h.2
/-- what the tables say of a method: its code, its kind (0 an object's, 1 static, 2 a constructor) -/
def mchk (m : Nat) : Bool := match mpL[m]? with
  | some (p0, p1, p2, p3, k) => lwAt p3 (.initialized (mY m).cls) && (match k with
    | 0 => lwAt p1 (.instanceMethod (mY m)) && lwAt p2 (.selects (mY m).cls (mY m) (mY m))
    | 1 => lwAt p1 (.static (mY m))
    | _ => lwAt p1 (.instanceMethod (mY m)) && decide ((mY m).name = "<init>") && decide (mRet m = none)) && plainFor (mY m) && decide ((parseMethodDescriptor (mY m).desc).map (fun d => d.parameters.length) = some (mNp m)) && decide ((mY m).cls = ow (mOw m)) && decide (mIn m = true → (mY m).name = "<init>")
  | none => false
def mkd (m : Nat) : Nat := match mpL[m]? with
  | some (_, _, _, _, k) => k
  | none => 9
def fchk (q : Nat × Nat × Nat × Nat × Nat) : Bool := match classes[q.2.2.1]? with
  | some (_, T, N) => decide (q.2.2.2.1 < N) && lwAt q.2.2.2.2 (.fieldLink (ow q.1) q.2.1 (T q.2.2.2.1).1 (T q.2.2.2.1).2.1 (T q.2.2.2.1).2.2.1)
  | none => false
def vchk (q : Nat × Nat × Nat × Nat) : Bool := lwAt q.2.2.2 (.methodLink (ow q.1) q.2.1 (if q.2.2.1 = 9004 then arraycopyName else if q.2.2.1 = 9999 then objectInit else mY q.2.2.1))
def nchk (q : Nat × Nat × Nat × Nat) : Bool := decide (lw_tbl[q.2.2.2]? = some (.methodLinkNest (ow q.1) q.2.1 (mY q.2.2.1) RX6))
def cchk (q : Nat × Nat × Nat × Nat) : Bool := match classes[q.2.2.1]? with
  | some (C, _, _) => lwAt q.2.2.2 (.classLink (ow q.1) q.2.1 C)
  | none => false
def kchk (q : Nat × Nat × Nat × Nat) : Bool := lwAt q.2.2.2 (.constant (ow q.1) q.2.1 (nI q.2.2.1))
def clchk (ci : Nat) : Bool := match classes[ci]?, layL[ci]?, insL[ci]? with
  | some (C, T, N), some ps, some (p1, p2) => decide (ps.length = N) && (List.range N).all (fun k => lwAt (ps.getD k 0) (u_lay C T k)) && lwAt p1 (.instantiable C N) && lwAt p2 (.initialized C) && decide ((dfl ci).length = N) && (List.range N).all (fun k => decide (parseFieldDescriptor (T k).2.2.1 = some (cTy ci k)) && decide (defaultValue (cTy ci k) = (dfl ci).getD k .null) && (List.range N).all (fun j => decide (k = j) || decide ((T k).2.1 ≠ (T j).2.1))) && decide (C = ow ci)
  | _, _, _ => false
theorem fres_all : fresL.all fchk = true := by decide +kernel
theorem vres_all : vresL.all vchk = true := by decide +kernel
theorem sres_all : sresL.all vchk = true := by decide +kernel
theorem ires_all : iresL.all vchk = true := by decide +kernel
theorem nres_all : (snresL ++ inresL).all nchk = true := by decide +kernel
theorem cres_all : (cresL ++ aresL).all cchk = true := by decide +kernel
theorem kres_all : kresL.all kchk = true := by decide +kernel
theorem cl_all : (List.range 8).all clchk = true := by decide +kernel
theorem m_all : (List.range 153).all mchk = true := by decide +kernel
theorem x_obj1 : lwAt 64 (.instanceMethod objectInit) = true := by decide +kernel
theorem x_int : lwAt 93 (.arrayClass .int) = true := by decide +kernel
theorem x_char : lwAt 278 (.arrayClass .char) = true := by decide +kernel
theorem x_cp1 : lwAt 319 (.native arraycopyName) = true := by decide +kernel
theorem x_cp2 : lwAt 318 (.static arraycopyName) = true := by decide +kernel
theorem x_cp3 : lwAt 56 (.initialized "java/lang/System") = true := by decide +kernel
theorem x_obj2 : Jvm.Cond.code objectInit ⟨#[0xb1]⟩ 1 none ∈ TB := mem_TB 65 rfl rfl
theorem x_ao2 : Jvm.Cond.arrayOver (.object "HopHomes$Memory") ∈ lw_tbl := List.mem_of_getElem? (i := 241) rfl
theorem x_ao3 : Jvm.Cond.arrayOver (.object "HopHomes$Page") ∈ lw_tbl := List.mem_of_getElem? (i := 73) rfl
theorem x_ao4 : Jvm.Cond.arrayOver (.object "HopHomes$Runner") ∈ lw_tbl := List.mem_of_getElem? (i := 75) rfl

set_option maxRecDepth 20000 in
theorem mc_0 : Jvm.Cond.code (mY 0) (mCode 0) (mMax 0) (mRet 0) ∈ TB := mem_TB 238 rfl rfl
set_option maxRecDepth 20000 in
theorem mc_1 : Jvm.Cond.code (mY 1) (mCode 1) (mMax 1) (mRet 1) ∈ TB := mem_TB 308 rfl rfl
set_option maxRecDepth 20000 in
theorem mc_2 : Jvm.Cond.code (mY 2) (mCode 2) (mMax 2) (mRet 2) ∈ TB := mem_TB 312 rfl rfl
set_option maxRecDepth 20000 in
theorem mc_3 : Jvm.Cond.code (mY 3) (mCode 3) (mMax 3) (mRet 3) ∈ TB := mem_TB 545 rfl rfl
set_option maxRecDepth 20000 in
theorem mc_4 : Jvm.Cond.code (mY 4) (mCode 4) (mMax 4) (mRet 4) ∈ TB := mem_TB 80 rfl rfl
set_option maxRecDepth 20000 in
theorem mc_5 : Jvm.Cond.code (mY 5) (mCode 5) (mMax 5) (mRet 5) ∈ TB := mem_TB 332 rfl rfl
set_option maxRecDepth 20000 in
theorem mc_6 : Jvm.Cond.code (mY 6) (mCode 6) (mMax 6) (mRet 6) ∈ TB := mem_TB 432 rfl rfl
set_option maxRecDepth 20000 in
theorem mc_7 : Jvm.Cond.code (mY 7) (mCode 7) (mMax 7) (mRet 7) ∈ TB := mem_TB 623 rfl rfl
set_option maxRecDepth 20000 in
theorem mc_8 : Jvm.Cond.code (mY 8) (mCode 8) (mMax 8) (mRet 8) ∈ TB := mem_TB 70 rfl rfl
set_option maxRecDepth 20000 in
theorem mc_9 : Jvm.Cond.code (mY 9) (mCode 9) (mMax 9) (mRet 9) ∈ TB := mem_TB 316 rfl rfl
set_option maxRecDepth 20000 in
theorem mc_10 : Jvm.Cond.code (mY 10) (mCode 10) (mMax 10) (mRet 10) ∈ TB := mem_TB 375 rfl rfl
set_option maxRecDepth 20000 in
theorem mc_11 : Jvm.Cond.code (mY 11) (mCode 11) (mMax 11) (mRet 11) ∈ TB := mem_TB 360 rfl rfl
set_option maxRecDepth 20000 in
theorem mc_12 : Jvm.Cond.code (mY 12) (mCode 12) (mMax 12) (mRet 12) ∈ TB := mem_TB 379 rfl rfl
set_option maxRecDepth 20000 in
theorem mc_13 : Jvm.Cond.code (mY 13) (mCode 13) (mMax 13) (mRet 13) ∈ TB := mem_TB 464 rfl rfl
set_option maxRecDepth 20000 in
theorem mc_14 : Jvm.Cond.code (mY 14) (mCode 14) (mMax 14) (mRet 14) ∈ TB := mem_TB 398 rfl rfl
set_option maxRecDepth 20000 in
theorem mc_15 : Jvm.Cond.code (mY 15) (mCode 15) (mMax 15) (mRet 15) ∈ TB := mem_TB 407 rfl rfl
set_option maxRecDepth 20000 in
theorem mc_16 : Jvm.Cond.code (mY 16) (mCode 16) (mMax 16) (mRet 16) ∈ TB := mem_TB 436 rfl rfl
set_option maxRecDepth 20000 in
theorem mc_17 : Jvm.Cond.code (mY 17) (mCode 17) (mMax 17) (mRet 17) ∈ TB := mem_TB 448 rfl rfl
set_option maxRecDepth 20000 in
theorem mc_18 : Jvm.Cond.code (mY 18) (mCode 18) (mMax 18) (mRet 18) ∈ TB := mem_TB 415 rfl rfl
set_option maxRecDepth 20000 in
theorem mc_19 : Jvm.Cond.code (mY 19) (mCode 19) (mMax 19) (mRet 19) ∈ TB := mem_TB 424 rfl rfl
set_option maxRecDepth 20000 in
theorem mc_20 : Jvm.Cond.code (mY 20) (mCode 20) (mMax 20) (mRet 20) ∈ TB := mem_TB 420 rfl rfl
set_option maxRecDepth 20000 in
theorem mc_21 : Jvm.Cond.code (mY 21) (mCode 21) (mMax 21) (mRet 21) ∈ TB := mem_TB 341 rfl rfl
set_option maxRecDepth 20000 in
theorem mc_22 : Jvm.Cond.code (mY 22) (mCode 22) (mMax 22) (mRet 22) ∈ TB := mem_TB 562 rfl rfl
set_option maxRecDepth 20000 in
theorem mc_23 : Jvm.Cond.code (mY 23) (mCode 23) (mMax 23) (mRet 23) ∈ TB := mem_TB 566 rfl rfl
set_option maxRecDepth 20000 in
theorem mc_24 : Jvm.Cond.code (mY 24) (mCode 24) (mMax 24) (mRet 24) ∈ TB := mem_TB 634 rfl rfl
set_option maxRecDepth 20000 in
theorem mc_25 : Jvm.Cond.code (mY 25) (mCode 25) (mMax 25) (mRet 25) ∈ TB := mem_TB 570 rfl rfl
set_option maxRecDepth 20000 in
theorem mc_26 : Jvm.Cond.code (mY 26) (mCode 26) (mMax 26) (mRet 26) ∈ TB := mem_TB 639 rfl rfl
set_option maxRecDepth 20000 in
theorem mc_27 : Jvm.Cond.code (mY 27) (mCode 27) (mMax 27) (mRet 27) ∈ TB := mem_TB 643 rfl rfl
set_option maxRecDepth 20000 in
theorem mc_28 : Jvm.Cond.code (mY 28) (mCode 28) (mMax 28) (mRet 28) ∈ TB := mem_TB 647 rfl rfl
set_option maxRecDepth 20000 in
theorem mc_29 : Jvm.Cond.code (mY 29) (mCode 29) (mMax 29) (mRet 29) ∈ TB := mem_TB 651 rfl rfl
set_option maxRecDepth 20000 in
theorem mc_30 : Jvm.Cond.code (mY 30) (mCode 30) (mMax 30) (mRet 30) ∈ TB := mem_TB 476 rfl rfl
set_option maxRecDepth 20000 in
theorem mc_31 : Jvm.Cond.code (mY 31) (mCode 31) (mMax 31) (mRet 31) ∈ TB := mem_TB 97 rfl rfl
set_option maxRecDepth 20000 in
theorem mc_32 : Jvm.Cond.code (mY 32) (mCode 32) (mMax 32) (mRet 32) ∈ TB := mem_TB 323 rfl rfl
set_option maxRecDepth 20000 in
theorem mc_33 : Jvm.Cond.code (mY 33) (mCode 33) (mMax 33) (mRet 33) ∈ TB := mem_TB 345 rfl rfl
set_option maxRecDepth 20000 in
theorem mc_34 : Jvm.Cond.code (mY 34) (mCode 34) (mMax 34) (mRet 34) ∈ TB := mem_TB 440 rfl rfl
set_option maxRecDepth 20000 in
theorem mc_35 : Jvm.Cond.code (mY 35) (mCode 35) (mMax 35) (mRet 35) ∈ TB := mem_TB 428 rfl rfl
set_option maxRecDepth 20000 in
theorem mc_36 : Jvm.Cond.code (mY 36) (mCode 36) (mMax 36) (mRet 36) ∈ TB := mem_TB 383 rfl rfl
set_option maxRecDepth 20000 in
theorem mc_37 : Jvm.Cond.code (mY 37) (mCode 37) (mMax 37) (mRet 37) ∈ TB := mem_TB 468 rfl rfl
set_option maxRecDepth 20000 in
theorem mc_38 : Jvm.Cond.code (mY 38) (mCode 38) (mMax 38) (mRet 38) ∈ TB := mem_TB 402 rfl rfl
set_option maxRecDepth 20000 in
theorem mc_39 : Jvm.Cond.code (mY 39) (mCode 39) (mMax 39) (mRet 39) ∈ TB := mem_TB 456 rfl rfl
set_option maxRecDepth 20000 in
theorem mc_40 : Jvm.Cond.code (mY 40) (mCode 40) (mMax 40) (mRet 40) ∈ TB := mem_TB 480 rfl rfl
set_option maxRecDepth 20000 in
theorem mc_41 : Jvm.Cond.code (mY 41) (mCode 41) (mMax 41) (mRet 41) ∈ TB := mem_TB 615 rfl rfl
set_option maxRecDepth 20000 in
theorem mc_42 : Jvm.Cond.code (mY 42) (mCode 42) (mMax 42) (mRet 42) ∈ TB := mem_TB 411 rfl rfl
set_option maxRecDepth 20000 in
theorem mc_43 : Jvm.Cond.code (mY 43) (mCode 43) (mMax 43) (mRet 43) ∈ TB := mem_TB 579 rfl rfl
set_option maxRecDepth 20000 in
theorem mc_44 : Jvm.Cond.code (mY 44) (mCode 44) (mMax 44) (mRet 44) ∈ TB := mem_TB 444 rfl rfl
set_option maxRecDepth 20000 in
theorem mc_45 : Jvm.Cond.code (mY 45) (mCode 45) (mMax 45) (mRet 45) ∈ TB := mem_TB 452 rfl rfl
set_option maxRecDepth 20000 in
theorem mc_46 : Jvm.Cond.code (mY 46) (mCode 46) (mMax 46) (mRet 46) ∈ TB := mem_TB 160 rfl rfl
set_option maxRecDepth 20000 in
theorem mc_47 : Jvm.Cond.code (mY 47) (mCode 47) (mMax 47) (mRet 47) ∈ TB := mem_TB 328 rfl rfl
set_option maxRecDepth 20000 in
theorem mc_48 : Jvm.Cond.code (mY 48) (mCode 48) (mMax 48) (mRet 48) ∈ TB := mem_TB 255 rfl rfl
set_option maxRecDepth 20000 in
theorem mc_49 : Jvm.Cond.code (mY 49) (mCode 49) (mMax 49) (mRet 49) ∈ TB := mem_TB 501 rfl rfl
set_option maxRecDepth 20000 in
theorem mc_50 : Jvm.Cond.code (mY 50) (mCode 50) (mMax 50) (mRet 50) ∈ TB := mem_TB 505 rfl rfl
set_option maxRecDepth 20000 in
theorem mc_51 : Jvm.Cond.code (mY 51) (mCode 51) (mMax 51) (mRet 51) ∈ TB := mem_TB 509 rfl rfl
set_option maxRecDepth 20000 in
theorem mc_52 : Jvm.Cond.code (mY 52) (mCode 52) (mMax 52) (mRet 52) ∈ TB := mem_TB 513 rfl rfl
set_option maxRecDepth 20000 in
theorem mc_53 : Jvm.Cond.code (mY 53) (mCode 53) (mMax 53) (mRet 53) ∈ TB := mem_TB 520 rfl rfl
set_option maxRecDepth 20000 in
theorem mc_54 : Jvm.Cond.code (mY 54) (mCode 54) (mMax 54) (mRet 54) ∈ TB := mem_TB 525 rfl rfl
set_option maxRecDepth 20000 in
theorem mc_55 : Jvm.Cond.code (mY 55) (mCode 55) (mMax 55) (mRet 55) ∈ TB := mem_TB 516 rfl rfl
set_option maxRecDepth 20000 in
theorem mc_56 : Jvm.Cond.code (mY 56) (mCode 56) (mMax 56) (mRet 56) ∈ TB := mem_TB 529 rfl rfl
set_option maxRecDepth 20000 in
theorem mc_57 : Jvm.Cond.code (mY 57) (mCode 57) (mMax 57) (mRet 57) ∈ TB := mem_TB 535 rfl rfl
set_option maxRecDepth 20000 in
theorem mc_58 : Jvm.Cond.code (mY 58) (mCode 58) (mMax 58) (mRet 58) ∈ TB := mem_TB 62 rfl rfl
set_option maxRecDepth 20000 in
theorem mc_59 : Jvm.Cond.code (mY 59) (mCode 59) (mMax 59) (mRet 59) ∈ TB := mem_TB 301 rfl rfl
set_option maxRecDepth 20000 in
theorem mc_60 : Jvm.Cond.code (mY 60) (mCode 60) (mMax 60) (mRet 60) ∈ TB := mem_TB 337 rfl rfl
set_option maxRecDepth 20000 in
theorem mc_61 : Jvm.Cond.code (mY 61) (mCode 61) (mMax 61) (mRet 61) ∈ TB := mem_TB 352 rfl rfl
set_option maxRecDepth 20000 in
theorem mc_62 : Jvm.Cond.code (mY 62) (mCode 62) (mMax 62) (mRet 62) ∈ TB := mem_TB 356 rfl rfl
set_option maxRecDepth 20000 in
theorem mc_63 : Jvm.Cond.code (mY 63) (mCode 63) (mMax 63) (mRet 63) ∈ TB := mem_TB 364 rfl rfl
set_option maxRecDepth 20000 in
theorem mc_64 : Jvm.Cond.code (mY 64) (mCode 64) (mMax 64) (mRet 64) ∈ TB := mem_TB 371 rfl rfl
set_option maxRecDepth 20000 in
theorem mc_65 : Jvm.Cond.code (mY 65) (mCode 65) (mMax 65) (mRet 65) ∈ TB := mem_TB 460 rfl rfl
set_option maxRecDepth 20000 in
theorem mc_66 : Jvm.Cond.code (mY 66) (mCode 66) (mMax 66) (mRet 66) ∈ TB := mem_TB 472 rfl rfl
set_option maxRecDepth 20000 in
theorem mc_67 : Jvm.Cond.code (mY 67) (mCode 67) (mMax 67) (mRet 67) ∈ TB := mem_TB 485 rfl rfl
set_option maxRecDepth 20000 in
theorem mc_68 : Jvm.Cond.code (mY 68) (mCode 68) (mMax 68) (mRet 68) ∈ TB := mem_TB 489 rfl rfl
set_option maxRecDepth 20000 in
theorem mc_69 : Jvm.Cond.code (mY 69) (mCode 69) (mMax 69) (mRet 69) ∈ TB := mem_TB 493 rfl rfl
set_option maxRecDepth 20000 in
theorem mc_70 : Jvm.Cond.code (mY 70) (mCode 70) (mMax 70) (mRet 70) ∈ TB := mem_TB 541 rfl rfl
set_option maxRecDepth 20000 in
theorem mc_71 : Jvm.Cond.code (mY 71) (mCode 71) (mMax 71) (mRet 71) ∈ TB := mem_TB 549 rfl rfl
set_option maxRecDepth 20000 in
theorem mc_72 : Jvm.Cond.code (mY 72) (mCode 72) (mMax 72) (mRet 72) ∈ TB := mem_TB 554 rfl rfl
set_option maxRecDepth 20000 in
theorem mc_73 : Jvm.Cond.code (mY 73) (mCode 73) (mMax 73) (mRet 73) ∈ TB := mem_TB 558 rfl rfl
set_option maxRecDepth 20000 in
theorem mc_74 : Jvm.Cond.code (mY 74) (mCode 74) (mMax 74) (mRet 74) ∈ TB := mem_TB 575 rfl rfl
set_option maxRecDepth 20000 in
theorem mc_75 : Jvm.Cond.code (mY 75) (mCode 75) (mMax 75) (mRet 75) ∈ TB := mem_TB 584 rfl rfl
set_option maxRecDepth 20000 in
theorem mc_76 : Jvm.Cond.code (mY 76) (mCode 76) (mMax 76) (mRet 76) ∈ TB := mem_TB 588 rfl rfl
set_option maxRecDepth 20000 in
theorem mc_77 : Jvm.Cond.code (mY 77) (mCode 77) (mMax 77) (mRet 77) ∈ TB := mem_TB 593 rfl rfl
set_option maxRecDepth 20000 in
theorem mc_78 : Jvm.Cond.code (mY 78) (mCode 78) (mMax 78) (mRet 78) ∈ TB := mem_TB 599 rfl rfl
set_option maxRecDepth 20000 in
theorem mc_79 : Jvm.Cond.code (mY 79) (mCode 79) (mMax 79) (mRet 79) ∈ TB := mem_TB 607 rfl rfl
set_option maxRecDepth 20000 in
theorem mc_80 : Jvm.Cond.code (mY 80) (mCode 80) (mMax 80) (mRet 80) ∈ TB := mem_TB 611 rfl rfl
set_option maxRecDepth 20000 in
theorem mc_81 : Jvm.Cond.code (mY 81) (mCode 81) (mMax 81) (mRet 81) ∈ TB := mem_TB 619 rfl rfl
set_option maxRecDepth 20000 in
theorem mc_82 : Jvm.Cond.code (mY 82) (mCode 82) (mMax 82) (mRet 82) ∈ TB := mem_TB 630 rfl rfl
set_option maxRecDepth 20000 in
theorem mc_83 : Jvm.Cond.code (mY 83) (mCode 83) (mMax 83) (mRet 83) ∈ TB := mem_TB 497 rfl rfl
set_option maxRecDepth 20000 in
theorem mc_84 : Jvm.Cond.code (mY 84) (mCode 84) (mMax 84) (mRet 84) ∈ TB := mem_TB 603 rfl rfl
set_option maxRecDepth 20000 in
theorem mc_85 : Jvm.Cond.code (mY 85) (mCode 85) (mMax 85) (mRet 85) ∈ TB := mem_TB 304 rfl rfl
set_option maxRecDepth 20000 in
theorem mc_86 : Jvm.Cond.code (mY 86) (mCode 86) (mMax 86) (mRet 86) ∈ TB := mem_TB 367 rfl rfl
set_option maxRecDepth 20000 in
theorem mc_87 : Jvm.Cond.code (mY 87) (mCode 87) (mMax 87) (mRet 87) ∈ TB := mem_TB 386 rfl rfl
set_option maxRecDepth 20000 in
theorem mc_88 : Jvm.Cond.code (mY 88) (mCode 88) (mMax 88) (mRet 88) ∈ TB := mem_TB 657 rfl rfl
set_option maxRecDepth 20000 in
theorem mc_89 : Jvm.Cond.code (mY 89) (mCode 89) (mMax 89) (mRet 89) ∈ TB := mem_TB 705 rfl rfl
set_option maxRecDepth 20000 in
theorem mc_90 : Jvm.Cond.code (mY 90) (mCode 90) (mMax 90) (mRet 90) ∈ TB := mem_TB 725 rfl rfl
set_option maxRecDepth 20000 in
theorem mc_91 : Jvm.Cond.code (mY 91) (mCode 91) (mMax 91) (mRet 91) ∈ TB := mem_TB 737 rfl rfl
set_option maxRecDepth 20000 in
theorem mc_92 : Jvm.Cond.code (mY 92) (mCode 92) (mMax 92) (mRet 92) ∈ TB := mem_TB 753 rfl rfl
set_option maxRecDepth 20000 in
theorem mc_93 : Jvm.Cond.code (mY 93) (mCode 93) (mMax 93) (mRet 93) ∈ TB := mem_TB 784 rfl rfl
set_option maxRecDepth 20000 in
theorem mc_94 : Jvm.Cond.code (mY 94) (mCode 94) (mMax 94) (mRet 94) ∈ TB := mem_TB 702 rfl rfl
set_option maxRecDepth 20000 in
theorem mc_95 : Jvm.Cond.code (mY 95) (mCode 95) (mMax 95) (mRet 95) ∈ TB := mem_TB 765 rfl rfl
set_option maxRecDepth 20000 in
theorem mc_96 : Jvm.Cond.code (mY 96) (mCode 96) (mMax 96) (mRet 96) ∈ TB := mem_TB 749 rfl rfl
set_option maxRecDepth 20000 in
theorem mc_97 : Jvm.Cond.code (mY 97) (mCode 97) (mMax 97) (mRet 97) ∈ TB := mem_TB 776 rfl rfl
set_option maxRecDepth 20000 in
theorem mc_98 : Jvm.Cond.code (mY 98) (mCode 98) (mMax 98) (mRet 98) ∈ TB := mem_TB 709 rfl rfl
set_option maxRecDepth 20000 in
theorem mc_99 : Jvm.Cond.code (mY 99) (mCode 99) (mMax 99) (mRet 99) ∈ TB := mem_TB 792 rfl rfl
set_option maxRecDepth 20000 in
theorem mc_100 : Jvm.Cond.code (mY 100) (mCode 100) (mMax 100) (mRet 100) ∈ TB := mem_TB 733 rfl rfl
set_option maxRecDepth 20000 in
theorem mc_101 : Jvm.Cond.code (mY 101) (mCode 101) (mMax 101) (mRet 101) ∈ TB := mem_TB 721 rfl rfl
set_option maxRecDepth 20000 in
theorem mc_102 : Jvm.Cond.code (mY 102) (mCode 102) (mMax 102) (mRet 102) ∈ TB := mem_TB 729 rfl rfl
set_option maxRecDepth 20000 in
theorem mc_103 : Jvm.Cond.code (mY 103) (mCode 103) (mMax 103) (mRet 103) ∈ TB := mem_TB 717 rfl rfl
set_option maxRecDepth 20000 in
theorem mc_104 : Jvm.Cond.code (mY 104) (mCode 104) (mMax 104) (mRet 104) ∈ TB := mem_TB 699 rfl rfl
set_option maxRecDepth 20000 in
theorem mc_105 : Jvm.Cond.code (mY 105) (mCode 105) (mMax 105) (mRet 105) ∈ TB := mem_TB 713 rfl rfl
set_option maxRecDepth 20000 in
theorem mc_106 : Jvm.Cond.code (mY 106) (mCode 106) (mMax 106) (mRet 106) ∈ TB := mem_TB 741 rfl rfl
set_option maxRecDepth 20000 in
theorem mc_107 : Jvm.Cond.code (mY 107) (mCode 107) (mMax 107) (mRet 107) ∈ TB := mem_TB 745 rfl rfl
set_option maxRecDepth 20000 in
theorem mc_108 : Jvm.Cond.code (mY 108) (mCode 108) (mMax 108) (mRet 108) ∈ TB := mem_TB 757 rfl rfl
set_option maxRecDepth 20000 in
theorem mc_109 : Jvm.Cond.code (mY 109) (mCode 109) (mMax 109) (mRet 109) ∈ TB := mem_TB 780 rfl rfl
set_option maxRecDepth 20000 in
theorem mc_110 : Jvm.Cond.code (mY 110) (mCode 110) (mMax 110) (mRet 110) ∈ TB := mem_TB 773 rfl rfl
set_option maxRecDepth 20000 in
theorem mc_111 : Jvm.Cond.code (mY 111) (mCode 111) (mMax 111) (mRet 111) ∈ TB := mem_TB 788 rfl rfl
set_option maxRecDepth 20000 in
theorem mc_112 : Jvm.Cond.code (mY 112) (mCode 112) (mMax 112) (mRet 112) ∈ TB := mem_TB 808 rfl rfl
set_option maxRecDepth 20000 in
theorem mc_113 : Jvm.Cond.code (mY 113) (mCode 113) (mMax 113) (mRet 113) ∈ TB := mem_TB 804 rfl rfl
set_option maxRecDepth 20000 in
theorem mc_114 : Jvm.Cond.code (mY 114) (mCode 114) (mMax 114) (mRet 114) ∈ TB := mem_TB 800 rfl rfl
set_option maxRecDepth 20000 in
theorem mc_115 : Jvm.Cond.code (mY 115) (mCode 115) (mMax 115) (mRet 115) ∈ TB := mem_TB 812 rfl rfl
set_option maxRecDepth 20000 in
theorem mc_116 : Jvm.Cond.code (mY 116) (mCode 116) (mMax 116) (mRet 116) ∈ TB := mem_TB 769 rfl rfl
set_option maxRecDepth 20000 in
theorem mc_117 : Jvm.Cond.code (mY 117) (mCode 117) (mMax 117) (mRet 117) ∈ TB := mem_TB 796 rfl rfl
set_option maxRecDepth 20000 in
theorem mc_118 : Jvm.Cond.code (mY 118) (mCode 118) (mMax 118) (mRet 118) ∈ TB := mem_TB 761 rfl rfl
set_option maxRecDepth 20000 in
theorem mc_119 : Jvm.Cond.code (mY 119) (mCode 119) (mMax 119) (mRet 119) ∈ TB := mem_TB 816 rfl rfl
set_option maxRecDepth 20000 in
theorem mc_120 : Jvm.Cond.code (mY 120) (mCode 120) (mMax 120) (mRet 120) ∈ TB := mem_TB 824 rfl rfl
set_option maxRecDepth 20000 in
theorem mc_121 : Jvm.Cond.code (mY 121) (mCode 121) (mMax 121) (mRet 121) ∈ TB := mem_TB 820 rfl rfl
set_option maxRecDepth 20000 in
theorem mc_122 : Jvm.Cond.code (mY 122) (mCode 122) (mMax 122) (mRet 122) ∈ TB := mem_TB 828 rfl rfl
set_option maxRecDepth 20000 in
theorem mc_123 : Jvm.Cond.code (mY 123) (mCode 123) (mMax 123) (mRet 123) ∈ TB := mem_TB 832 rfl rfl
set_option maxRecDepth 20000 in
theorem mc_124 : Jvm.Cond.code (mY 124) (mCode 124) (mMax 124) (mRet 124) ∈ TB := mem_TB 852 rfl rfl
set_option maxRecDepth 20000 in
theorem mc_125 : Jvm.Cond.code (mY 125) (mCode 125) (mMax 125) (mRet 125) ∈ TB := mem_TB 848 rfl rfl
set_option maxRecDepth 20000 in
theorem mc_126 : Jvm.Cond.code (mY 126) (mCode 126) (mMax 126) (mRet 126) ∈ TB := mem_TB 844 rfl rfl
set_option maxRecDepth 20000 in
theorem mc_127 : Jvm.Cond.code (mY 127) (mCode 127) (mMax 127) (mRet 127) ∈ TB := mem_TB 840 rfl rfl
set_option maxRecDepth 20000 in
theorem mc_128 : Jvm.Cond.code (mY 128) (mCode 128) (mMax 128) (mRet 128) ∈ TB := mem_TB 856 rfl rfl
set_option maxRecDepth 20000 in
theorem mc_129 : Jvm.Cond.code (mY 129) (mCode 129) (mMax 129) (mRet 129) ∈ TB := mem_TB 836 rfl rfl
set_option maxRecDepth 20000 in
theorem mc_130 : Jvm.Cond.code (mY 130) (mCode 130) (mMax 130) (mRet 130) ∈ TB := mem_TB 864 rfl rfl
set_option maxRecDepth 20000 in
theorem mc_131 : Jvm.Cond.code (mY 131) (mCode 131) (mMax 131) (mRet 131) ∈ TB := mem_TB 860 rfl rfl
set_option maxRecDepth 20000 in
theorem mc_132 : Jvm.Cond.code (mY 132) (mCode 132) (mMax 132) (mRet 132) ∈ TB := mem_TB 868 rfl rfl
set_option maxRecDepth 20000 in
theorem mc_133 : Jvm.Cond.code (mY 133) (mCode 133) (mMax 133) (mRet 133) ∈ TB := mem_TB 872 rfl rfl
set_option maxRecDepth 20000 in
theorem mc_134 : Jvm.Cond.code (mY 134) (mCode 134) (mMax 134) (mRet 134) ∈ TB := mem_TB 876 rfl rfl
set_option maxRecDepth 20000 in
theorem mc_135 : Jvm.Cond.code (mY 135) (mCode 135) (mMax 135) (mRet 135) ∈ TB := mem_TB 880 rfl rfl
set_option maxRecDepth 20000 in
theorem mc_136 : Jvm.Cond.code (mY 136) (mCode 136) (mMax 136) (mRet 136) ∈ TB := mem_TB 888 rfl rfl
set_option maxRecDepth 20000 in
theorem mc_137 : Jvm.Cond.code (mY 137) (mCode 137) (mMax 137) (mRet 137) ∈ TB := mem_TB 884 rfl rfl
set_option maxRecDepth 20000 in
theorem mc_138 : Jvm.Cond.code (mY 138) (mCode 138) (mMax 138) (mRet 138) ∈ TB := mem_TB 896 rfl rfl
set_option maxRecDepth 20000 in
theorem mc_139 : Jvm.Cond.code (mY 139) (mCode 139) (mMax 139) (mRet 139) ∈ TB := mem_TB 892 rfl rfl
set_option maxRecDepth 20000 in
theorem mc_140 : Jvm.Cond.code (mY 140) (mCode 140) (mMax 140) (mRet 140) ∈ TB := mem_TB 900 rfl rfl
set_option maxRecDepth 20000 in
theorem mc_141 : Jvm.Cond.code (mY 141) (mCode 141) (mMax 141) (mRet 141) ∈ TB := mem_TB 904 rfl rfl
set_option maxRecDepth 20000 in
theorem mc_142 : Jvm.Cond.code (mY 142) (mCode 142) (mMax 142) (mRet 142) ∈ TB := mem_TB 908 rfl rfl
set_option maxRecDepth 20000 in
theorem mc_143 : Jvm.Cond.code (mY 143) (mCode 143) (mMax 143) (mRet 143) ∈ TB := mem_TB 916 rfl rfl
set_option maxRecDepth 20000 in
theorem mc_144 : Jvm.Cond.code (mY 144) (mCode 144) (mMax 144) (mRet 144) ∈ TB := mem_TB 912 rfl rfl
set_option maxRecDepth 20000 in
theorem mc_145 : Jvm.Cond.code (mY 145) (mCode 145) (mMax 145) (mRet 145) ∈ TB := mem_TB 920 rfl rfl
set_option maxRecDepth 20000 in
theorem mc_146 : Jvm.Cond.code (mY 146) (mCode 146) (mMax 146) (mRet 146) ∈ TB := mem_TB 932 rfl rfl
set_option maxRecDepth 20000 in
theorem mc_147 : Jvm.Cond.code (mY 147) (mCode 147) (mMax 147) (mRet 147) ∈ TB := mem_TB 928 rfl rfl
set_option maxRecDepth 20000 in
theorem mc_148 : Jvm.Cond.code (mY 148) (mCode 148) (mMax 148) (mRet 148) ∈ TB := mem_TB 924 rfl rfl
set_option maxRecDepth 20000 in
theorem mc_149 : Jvm.Cond.code (mY 149) (mCode 149) (mMax 149) (mRet 149) ∈ TB := mem_TB 626 rfl rfl
set_option maxRecDepth 20000 in
theorem mc_150 : Jvm.Cond.code (mY 150) (mCode 150) (mMax 150) (mRet 150) ∈ TB := mem_TB 389 rfl rfl
set_option maxRecDepth 20000 in
theorem mc_151 : Jvm.Cond.code (mY 151) (mCode 151) (mMax 151) (mRet 151) ∈ TB := mem_TB 348 rfl rfl
set_option maxRecDepth 20000 in
theorem mc_152 : Jvm.Cond.code (mY 152) (mCode 152) (mMax 152) (mRet 152) ∈ TB := mem_TB 392 rfl rfl
theorem mc_all : ∀ m, m < 153 → Jvm.Cond.code (mY m) (mCode m) (mMax m) (mRet m) ∈ TB := by
  intro m hm
  match m, hm with
  | 0, _ => exact mc_0
  | 1, _ => exact mc_1
  | 2, _ => exact mc_2
  | 3, _ => exact mc_3
  | 4, _ => exact mc_4
  | 5, _ => exact mc_5
  | 6, _ => exact mc_6
  | 7, _ => exact mc_7
  | 8, _ => exact mc_8
  | 9, _ => exact mc_9
  | 10, _ => exact mc_10
  | 11, _ => exact mc_11
  | 12, _ => exact mc_12
  | 13, _ => exact mc_13
  | 14, _ => exact mc_14
  | 15, _ => exact mc_15
  | 16, _ => exact mc_16
  | 17, _ => exact mc_17
  | 18, _ => exact mc_18
  | 19, _ => exact mc_19
  | 20, _ => exact mc_20
  | 21, _ => exact mc_21
  | 22, _ => exact mc_22
  | 23, _ => exact mc_23
  | 24, _ => exact mc_24
  | 25, _ => exact mc_25
  | 26, _ => exact mc_26
  | 27, _ => exact mc_27
  | 28, _ => exact mc_28
  | 29, _ => exact mc_29
  | 30, _ => exact mc_30
  | 31, _ => exact mc_31
  | 32, _ => exact mc_32
  | 33, _ => exact mc_33
  | 34, _ => exact mc_34
  | 35, _ => exact mc_35
  | 36, _ => exact mc_36
  | 37, _ => exact mc_37
  | 38, _ => exact mc_38
  | 39, _ => exact mc_39
  | 40, _ => exact mc_40
  | 41, _ => exact mc_41
  | 42, _ => exact mc_42
  | 43, _ => exact mc_43
  | 44, _ => exact mc_44
  | 45, _ => exact mc_45
  | 46, _ => exact mc_46
  | 47, _ => exact mc_47
  | 48, _ => exact mc_48
  | 49, _ => exact mc_49
  | 50, _ => exact mc_50
  | 51, _ => exact mc_51
  | 52, _ => exact mc_52
  | 53, _ => exact mc_53
  | 54, _ => exact mc_54
  | 55, _ => exact mc_55
  | 56, _ => exact mc_56
  | 57, _ => exact mc_57
  | 58, _ => exact mc_58
  | 59, _ => exact mc_59
  | 60, _ => exact mc_60
  | 61, _ => exact mc_61
  | 62, _ => exact mc_62
  | 63, _ => exact mc_63
  | 64, _ => exact mc_64
  | 65, _ => exact mc_65
  | 66, _ => exact mc_66
  | 67, _ => exact mc_67
  | 68, _ => exact mc_68
  | 69, _ => exact mc_69
  | 70, _ => exact mc_70
  | 71, _ => exact mc_71
  | 72, _ => exact mc_72
  | 73, _ => exact mc_73
  | 74, _ => exact mc_74
  | 75, _ => exact mc_75
  | 76, _ => exact mc_76
  | 77, _ => exact mc_77
  | 78, _ => exact mc_78
  | 79, _ => exact mc_79
  | 80, _ => exact mc_80
  | 81, _ => exact mc_81
  | 82, _ => exact mc_82
  | 83, _ => exact mc_83
  | 84, _ => exact mc_84
  | 85, _ => exact mc_85
  | 86, _ => exact mc_86
  | 87, _ => exact mc_87
  | 88, _ => exact mc_88
  | 89, _ => exact mc_89
  | 90, _ => exact mc_90
  | 91, _ => exact mc_91
  | 92, _ => exact mc_92
  | 93, _ => exact mc_93
  | 94, _ => exact mc_94
  | 95, _ => exact mc_95
  | 96, _ => exact mc_96
  | 97, _ => exact mc_97
  | 98, _ => exact mc_98
  | 99, _ => exact mc_99
  | 100, _ => exact mc_100
  | 101, _ => exact mc_101
  | 102, _ => exact mc_102
  | 103, _ => exact mc_103
  | 104, _ => exact mc_104
  | 105, _ => exact mc_105
  | 106, _ => exact mc_106
  | 107, _ => exact mc_107
  | 108, _ => exact mc_108
  | 109, _ => exact mc_109
  | 110, _ => exact mc_110
  | 111, _ => exact mc_111
  | 112, _ => exact mc_112
  | 113, _ => exact mc_113
  | 114, _ => exact mc_114
  | 115, _ => exact mc_115
  | 116, _ => exact mc_116
  | 117, _ => exact mc_117
  | 118, _ => exact mc_118
  | 119, _ => exact mc_119
  | 120, _ => exact mc_120
  | 121, _ => exact mc_121
  | 122, _ => exact mc_122
  | 123, _ => exact mc_123
  | 124, _ => exact mc_124
  | 125, _ => exact mc_125
  | 126, _ => exact mc_126
  | 127, _ => exact mc_127
  | 128, _ => exact mc_128
  | 129, _ => exact mc_129
  | 130, _ => exact mc_130
  | 131, _ => exact mc_131
  | 132, _ => exact mc_132
  | 133, _ => exact mc_133
  | 134, _ => exact mc_134
  | 135, _ => exact mc_135
  | 136, _ => exact mc_136
  | 137, _ => exact mc_137
  | 138, _ => exact mc_138
  | 139, _ => exact mc_139
  | 140, _ => exact mc_140
  | 141, _ => exact mc_141
  | 142, _ => exact mc_142
  | 143, _ => exact mc_143
  | 144, _ => exact mc_144
  | 145, _ => exact mc_145
  | 146, _ => exact mc_146
  | 147, _ => exact mc_147
  | 148, _ => exact mc_148
  | 149, _ => exact mc_149
  | 150, _ => exact mc_150
  | 151, _ => exact mc_151
  | 152, _ => exact mc_152
  | n + 153, h => omega
