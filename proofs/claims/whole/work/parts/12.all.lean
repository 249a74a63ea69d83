def isT : Instr → Bool
  | .goto _ | .tableswitch _ _ _ _ | .ireturn | .areturn | .return_ => true
  | _ => false
section AL
variable {l : Launch} {sc : SC} {m : Nat} {p : Program} {e : Env} {R : Room} {s : State} {mid : MethodId} {args : Array Value} {below : List Frame} {meth : Method} {cd : Code} {lo bb : Nat} {D : va_G} {cA : Nat → ClassId} {Z : State → Prop}
set_option maxHeartbeats 4000000 in
theorem st_all (hz0 : ∀ a, (blk a 0).1 = 0) (C : CX m p R s mid args meth cd) (KK : KX sc lo bb D cA s) {J : JT} {Q : PT} {k : KT} (hF : FIN l p e R s mid args below meth cd lo bb D cA Z m Q)
    (hJ : ∀ t u v ls st h, J t u v ls st h → WA l p e R s mid args below meth cd lo bb D cA Z m (blk m t).1 u v ls st h)
    {i : Instr} {a b c pc : Nat} (ok : okI m pc i a b c = true) (hk : isT i = false → ∀ u v ls st h, k u v ls st h → WA l p e R s mid args below meth cd lo bb D cA Z m (pc + lenI pc i) u v ls st h)
    {u v : Nat} {ls st : List Value} {h : AHp} (H : stp sc (mAl m) (mAs m) (mRet m) J (fun m' as h' post => PW l sc m' 0 0 0 (ini m' as) [] h' post) Q i a b c k u v ls st h) : WA l p e R s mid args below meth cd lo bb D cA Z m pc u v ls st h := by
  have hd := okI_dec ok
  have hx := C.1
  have hb := C.2.1
  cases i <;> simp only [stp] at H <;> try (split at H <;> first | exact H.elim | (rename_i q hq; exact st_pur C hq ok (hk rfl _ _ _ _ _ H)))
  case goto o =>
    simp only [okI, Bool.and_eq_true, decide_eq_true_eq] at ok
    intro HH locs lsA X L hu hv
    exact lv_goto hx hb hd ok.2 (hJ _ _ _ _ _ _ H HH locs lsA X L hu hv)
  case ifCond cn o =>
    simp only [okI, Bool.and_eq_true, decide_eq_true_eq] at ok
    split at H
    · intro HH locs lsA X L hu hv
      have kt := fun z => hJ _ _ _ _ _ _ (H.1 z) HH locs lsA X L hu hv
      have kf := fun z => hk rfl _ _ _ _ _ (H.2 z) HH locs lsA X L hu hv
      cases cn
      · exact lv_if_eq hx hb hd ok.2 kt kf
      · exact lv_if_ne hx hb hd ok.2 kt (fun z => kf (fun w => w z))
      · exact lv_if_lt hx hb hd ok.2 kt kf
      · exact lv_if_ge hx hb hd ok.2 kt kf
      · exact lv_if_gt hx hb hd ok.2 kt kf
      · exact lv_if_le hx hb hd ok.2 kt kf
    · exact H.elim
  case if_icmp cn o =>
    simp only [okI, Bool.and_eq_true, decide_eq_true_eq] at ok
    split at H
    · intro HH locs lsA X L hu hv
      have kt := fun z => hJ _ _ _ _ _ _ (H.1 z) HH locs lsA X L hu hv
      have kf := fun z => hk rfl _ _ _ _ _ (H.2 z) HH locs lsA X L hu hv
      cases cn
      · exact lv_icmp_eq hx hb hd ok.2 kt kf
      · exact lv_icmp_ne hx hb hd ok.2 kt (fun z => kf (fun w => w z))
      · exact lv_icmp_lt hx hb hd ok.2 kt kf
      · exact lv_icmp_ge hx hb hd ok.2 kt kf
      · exact lv_icmp_gt hx hb hd ok.2 kt kf
      · exact lv_icmp_le hx hb hd ok.2 kt kf
    · exact H.elim
  case ifnull o =>
    simp only [okI, Bool.and_eq_true, decide_eq_true_eq] at ok
    split at H
    · intro HH locs lsA X L hu hv
      exact lv_ifnullN hx hb hd ok.2 (hJ _ _ _ _ _ _ H HH locs lsA X L hu hv)
    · intro HH locs lsA X L hu hv
      exact lv_ifnull hx hb hd (hk rfl _ _ _ _ _ H HH locs lsA X L hu hv)
    · exact H.elim
  case ifnonnull o =>
    simp only [okI, Bool.and_eq_true, decide_eq_true_eq] at ok
    split at H
    · intro HH locs lsA X L hu hv
      exact lv_ifnonnullN hx hb hd (hk rfl _ _ _ _ _ H HH locs lsA X L hu hv)
    · intro HH locs lsA X L hu hv
      exact lv_ifnonnull hx hb hd ok.2 (hJ _ _ _ _ _ _ H HH locs lsA X L hu hv)
    · exact H.elim
  case tableswitch dflt lo' hi offs =>
    simp only [okI, Bool.and_eq_true, decide_eq_true_eq] at ok
    obtain ⟨-, ⟨k1, k2⟩, k3⟩ := ok
    split at H
    · rename_i x st'
      intro HH locs lsA X L hu hv
      by_cases hr : x.toInt < lo' ∨ hi < x.toInt
      · exact lv_tableOut hx hb hd hr k1 (hJ _ _ _ _ _ _ (H.1 hr) HH locs lsA X L hu hv)
      · have r1 : ¬ x.toInt < lo' := fun q => hr (Or.inl q)
        have r2 : ¬ hi < x.toInt := fun q => hr (Or.inr q)
        have hj : (x.toInt - lo').toNat < offs.size := by omega
        have e1 := congrArg (fun z => z[(x.toInt - lo').toNat]?) k3
        simp only [List.getElem?_map] at e1
        rw [show offs.toList[(x.toInt - lo').toNat]? = some offs[(x.toInt - lo').toNat] by rw [Array.getElem?_toList]; exact Array.getElem?_eq_getElem hj] at e1
        cases hs : (swt a)[(x.toInt - lo').toNat]? with
        | none => rw [hs] at e1; cases e1
        | some t =>
          rw [hs] at e1
          have e2 : (pc : Int) + offs[(x.toInt - lo').toNat] = ((blk m t).1 : Int) := by simpa using e1
          exact lv_tableIn hx hb hd r1 r2 (Array.getElem?_eq_getElem hj) e2 (hJ _ _ _ _ _ _ (H.2 _ t hs (by omega)) HH locs lsA X L hu hv)
    · exact H.elim
  case ireturn =>
    split at H
    · intro HH locs lsA X L hu hv
      exact hF (some (.int _)) h HH locs lsA u v pc X hu hv H.2 ⟨hd, H.1⟩
    · exact H.elim
  case areturn =>
    split at H
    · intro HH locs lsA X L hu hv
      exact hF (some (.ref _)) h HH locs lsA u v pc X hu hv H.2 ⟨hd, H.1⟩
    · intro HH locs lsA X L hu hv
      exact hF (some .null) h HH locs lsA u v pc X hu hv H.2 ⟨hd, H.1⟩
    · exact H.elim
  case return_ =>
    split at H
    · intro HH locs lsA X L hu hv
      exact hF none h HH locs lsA u v pc X hu hv H.2 ⟨hd, H.1⟩
    · exact H.elim
  case getfield n =>
    split at H
    · split at H
      · rename_i hxc
        obtain ⟨hc, H⟩ := H
        split at H
        · rename_i hw
          exact st_get C KK ok hxc hc hw (hk rfl _ _ _ _ _ H)
        · exact H.elim
      · exact H.elim
    · exact H.elim
  case putfield n =>
    split at H
    · split at H
      · rename_i hxc
        exact st_put C KK ok hxc H.1 H.2.1 H.2.2.1 (hk rfl _ _ _ _ _ H.2.2.2)
      · exact H.elim
    · exact H.elim
  case iaload =>
    split at H
    · split at H
      · rename_i hxc
        obtain ⟨rfl, hj, H⟩ := H
        exact st_iald C KK ok hxc hj (hk rfl _ _ _ _ _ H)
      · exact H.elim
    · exact st_sald C KK ok H.1 (hk rfl _ _ _ _ _ H.2)
    · exact H.elim
  case caload =>
    split at H
    · split at H
      · rename_i hxc
        obtain ⟨rfl, hj, H⟩ := H
        exact st_cald C KK ok hxc hj (hk rfl _ _ _ _ _ H)
      · exact H.elim
    · exact H.elim
  case iastore =>
    split at H
    · split at H
      · rename_i hxc
        obtain ⟨rfl, hj, H⟩ := H
        exact st_iast C KK ok hxc hj (hk rfl _ _ _ _ _ H)
      · exact H.elim
    · exact H.elim
  case castore =>
    split at H
    · split at H
      · rename_i hxc
        obtain ⟨rfl, hj, H⟩ := H
        exact st_cast C KK ok hxc hj (hk rfl _ _ _ _ _ H)
      · exact H.elim
    · exact H.elim
  case aaload =>
    split at H
    · split at H
      · rename_i hxc
        exact st_aald C KK ok hxc H.1 H.2.1 (hk rfl _ _ _ _ _ H.2.2)
      · exact H.elim
    · exact H.elim
  case aastore =>
    split at H
    · split at H
      · rename_i hxc hwc
        obtain ⟨hkd, rfl, hj, H⟩ := H
        exact st_aast C KK ok hxc hwc hkd hj (hk rfl _ _ _ _ _ H)
      · exact H.elim
    · exact H.elim
  case arraylength =>
    split at H
    · split at H
      · rename_i hxc
        obtain ⟨rfl, H⟩ := H
        exact st_alen C KK ok hxc (hk rfl _ _ _ _ _ H)
      · exact H.elim
    · exact st_slen C KK ok (hk rfl _ _ _ _ _ H)
    · exact H.elim
  case new n => exact st_new C KK ok H.1 H.2.1 (hk rfl _ _ _ _ _ H.2.2)
  case newarray t =>
    split at H
    · exact st_newa C KK ok H.1 H.2.1 H.2.2.1 H.2.2.2.1 (hk rfl _ _ _ _ _ H.2.2.2.2)
    · exact H.elim
  case anewarray n =>
    split at H
    · exact st_anew C KK ok H.1 H.2.1 H.2.2.1 H.2.2.2.1 (hk rfl _ _ _ _ _ H.2.2.2.2)
    · exact H.elim
  case invokevirtual n =>
    split at H
    · rename_i hst
      obtain ⟨h1, h2, h3, ⟨fs, h4⟩, H⟩ := H
      exact st_iv hz0 C KK ok hst h1 h2 h3 h4 H (fun r h' hp => hk rfl _ _ _ _ _ hp)
    · exact H.elim
  case invokespecial n =>
    split at H
    · split at H
      · exact st_obj C ok H.1 H.2.1 (hk rfl _ _ _ _ _ H.2.2)
      · exact H.elim
    · rename_i ha
      split at H
      · rename_i hst
        obtain ⟨h1, h2, h3, h4, h5, H⟩ := H
        exact st_is hz0 C KK ok ha hst h1 h2 h3 h4 h5 H (fun r h' hp => hk rfl _ _ _ _ _ hp)
      · exact H.elim
  case invokestatic n =>
    split at H
    · split at H
      · split at H
        · rename_i hxc hyc
          obtain ⟨rfl, rfl, h8, ho, h1, h2, h3, h4, h5, H⟩ := H
          exact st_copy C KK ok hxc hyc h8 ho h1 h2 h3 h4 h5 (hk rfl _ _ _ _ _ H)
        · exact H.elim
      · exact H.elim
    · rename_i ha
      exact st_ss hz0 C KK ok ha H.1 H.2.1 H.2.2.1 H.2.2.2 (fun r h' hp => hk rfl _ _ _ _ _ hp)
end AL
def okL (m : Nat) : Nat → List MI → Nat → Bool
  | pc, [], nxt => decide ((blk m nxt).1 = pc)
  | pc, x :: r, nxt => okI m pc x.1 x.2.1 x.2.2.1 x.2.2.2 && (isT x.1 || okL m (pc + lenI pc x.1) r nxt)
def okM (m : Nat) : Bool := (blkL.getD m []).all (fun q => okL m q.1 q.2.1 q.2.2) && decide ((blk m 0).1 = 0)
