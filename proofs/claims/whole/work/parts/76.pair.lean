/-! the calls in pairs -/
theorem rng {x : Int32} {a b : Nat} (ha : a < 1000000) (hb : b < 1000000) : (x < nI a ∨ nI b < x) ∨ ∃ j, a ≤ j ∧ j ≤ b ∧ x = nI j := by
  by_cases h1 : x < nI a
  · exact Or.inl (Or.inl h1)
  by_cases h2 : nI b < x
  · exact Or.inl (Or.inr h2)
  have h1 := Int32.not_lt.mp h1
  have h2 := Int32.not_lt.mp h2
  rw [Int32.le_iff_toInt_le, nI_toInt (by omega)] at h1 h2
  refine Or.inr ⟨x.toInt.toNat, by omega, by omega, ?_⟩
  apply Int32.toInt_inj.mp
  rw [nI_toInt (by omega)]
  omega
theorem rngL {x : Int32} {n : Nat} (hn : n < 1000000) : (x < 0 ∨ nI n ≤ x) ∨ ∃ j, j < n ∧ x = nI j := by
  by_cases h1 : x < 0
  · exact Or.inl (Or.inl h1)
  by_cases h2 : nI n ≤ x
  · exact Or.inl (Or.inr h2)
  obtain ⟨j, e, h⟩ := pk_ix2 (Int32.not_lt.mp h1) (Int32.not_le.mp h2) hn
  exact Or.inr ⟨j, h, e⟩
theorem rngS {x : Int32} (k : Nat) (hk : k < 1000000) : (x.toInt < 0 ∨ (k : Int) < x.toInt) ∨ ∃ j, j ≤ k ∧ x = nI j := by
  by_cases h1 : x.toInt < 0
  · exact Or.inl (Or.inl h1)
  by_cases h2 : (k : Int) < x.toInt
  · exact Or.inl (Or.inr h2)
  refine Or.inr ⟨x.toInt.toNat, by omega, ?_⟩
  apply Int32.toInt_inj.mp
  rw [nI_toInt (by omega)]
  omega
theorem cvS {x : Int32} (k : Nat) (hk : k < 1000000) (h : x.toInt < 0 ∨ (k : Int) < x.toInt) : x < nI 0 ∨ nI k < x := by
  rw [Int32.lt_iff_toInt_lt, Int32.lt_iff_toInt_lt, nI_toInt (by omega), nI_toInt (by omega)]
  omega
theorem cv4 {y : Int32} (h : y < 0 ∨ nI 4 ≤ y) : y < nI 0 ∨ nI 3 < y := by
  rcases h with h | h
  · exact Or.inl h
  · exact Or.inr (nI_ltx (by omega) h)
section PQ
variable {sc : SC} {n : Nat} {H : AHp} {x y z : Int32}
theorem p59 (I : INV n H) : PR sc 59 104 [.int x, .int y] n H := by
  obtain ⟨g, NN, RR, hs, sz, pi, Tx, L, K, R, T, S, N, r, Hi, Sl, Sp, a, kk, tt, nn, rfl, w⟩ := I
  have w' := w.step
  have wk := w
  obtain ⟨⟨o, ro, w7⟩, h60, hT, hsz, hhs, hp, hinj, hhi, hsl⟩ := wk
  rcases rngL (x := x) (n := 4) (by omega) with hx | ⟨j, hj, rfl⟩
  · exact s59a hx (pr_mk (s104a hx (inv_mk rfl rfl rfl w')))
  rcases rng (x := y) (a := 1) (b := 20) (by omega) (by omega) with hy | ⟨f, h1, h2, rfl⟩
  · exact s59b hj hy (pr_mk (s104b hj hy (inv_mk rfl rfl rfl w')))
  have hN := o.1.2.2.2.1 j hj
  refine s59c hp hsz hj h1 h2 hN (fun e => pr_mk (s104c hj h1 h2 hsz hN (fun _ => inv_mk rfl rfl rfl w') (fun c => absurd e c))) (fun e => pr_mk (s104c hj h1 h2 hsz hN (fun c => absurd c e) (fun _ => inv_mk rfl rfl rfl (w.rec ⟨iw_set o (by omega) (wf_set o.1 (by omega) ⟨fun _ => h2, fun z => absurd z (by omega), fun z => absurd z (by omega)⟩), ro.of (up_ne (by omega)), ?_⟩))))
  rw [up_ne (by omega)]
  omega
theorem p60 (I : INV n H) : PR sc 60 105 [.int x] n H := by
  obtain ⟨g, NN, RR, hs, sz, pi, Tx, L, K, R, T, S, N, r, Hi, Sl, Sp, a, kk, tt, nn, rfl, w⟩ := I
  have w' := w.step
  have wk := w
  obtain ⟨⟨o, ro, w7⟩, h60, hT, hsz, hhs, hp, hinj, hhi, hsl⟩ := wk
  rcases rngL (x := x) (n := 4) (by omega) with hx | ⟨j, hj, rfl⟩
  · exact s60a hx (pr_mk (s105a hx (inv_mk rfl rfl rfl w')))
  refine s60b hp hsz o hj (fun e => pr_mk (s105b o.1 hj hsz (fun _ => inv_mk rfl rfl rfl w') (fun c => absurd e c) (fun c => absurd e c))) (fun e e2 => pr_mk (s105b o.1 hj hsz (fun c => absurd c e) (fun _ _ => inv_mk rfl rfl rfl w') (fun _ c => absurd e2 c))) (fun e e2 => pr_mk (s105b o.1 hj hsz (fun c => absurd c e) (fun _ c => absurd c e2) (fun _ _ => inv_mk rfl rfl rfl (w.rec ?_))))
  have h8 := o.1.1
  rw [zer_id (fun w hw => o.2.2.1.1 (N 8) w (Nat.le_refl _) (by omega) hw) 18 (Nat.le_refl _)]
  refine ⟨iw_add o (by omega) hj, ro.of ?_, ?_⟩
  · rw [up_ne (by omega), ps_c (by omega)]
  · rw [up_ne (by omega), ps_c (by omega)]
    omega
theorem p61 (I : INV n H) : PR sc 61 106 [.int x] n H := by
  obtain ⟨g, NN, RR, hs, sz, pi, Tx, L, K, R, T, S, N, r, Hi, Sl, Sp, a, kk, tt, nn, rfl, w⟩ := I
  have w' := w.step
  have wk := w
  obtain ⟨⟨o, ro, w7⟩, h60, hT, hsz, hhs, hp, hinj, hhi, hsl⟩ := wk
  rcases rngL (x := x) (n := 4) (by omega) with hx | ⟨j, hj, rfl⟩
  · exact s61a hx (pr_mk (s106a hx (inv_mk rfl rfl rfl w')))
  refine s61b hp hsz o hj (fun e => pr_mk (s106b o.1 hj hsz (fun _ => inv_mk rfl rfl rfl w') (fun c => absurd e c))) (fun e => pr_mk (s106b o.1 hj hsz (fun c => absurd c e) (fun _ => inv_mk rfl rfl rfl (w.rec ?_))))
  have h9 := o.1.2.1
  rw [nth_id (fun w hw => o.2.2.1.2 (N 9) w (Nat.le_refl _) (by omega) hw) 4 (by omega)]
  refine ⟨iw_addT o (by omega) hj, ro.of ?_, ?_⟩
  · rw [up_ne (by omega), ts_c (by omega)]
  · rw [up_ne (by omega), ts_c (by omega)]
    omega
theorem p62 (I : INV n H) : PR sc 62 107 [.int x, .int y] n H := by
  obtain ⟨g, NN, RR, hs, sz, pi, Tx, L, K, R, T, S, N, r, Hi, Sl, Sp, a, kk, tt, nn, rfl, w⟩ := I
  have w' := w.step
  have wk := w
  obtain ⟨⟨o, ro, w7⟩, h60, hT, hsz, hhs, hp, hinj, hhi, hsl⟩ := wk
  have h9 := o.1.2.1
  rcases rngL (x := x) (n := N 9) (by omega) with hx | ⟨t, ht, rfl⟩
  · exact s62a hx (pr_mk (s107a o.1 hx (inv_mk rfl rfl rfl w')))
  rcases rngL (x := y) (n := 4) (by omega) with hy | ⟨j, hj, rfl⟩
  · exact s62b o.1 ht hy (pr_mk (s107b o.1 ht hy (inv_mk rfl rfl rfl w')))
  refine s62c hp hsz o.1 ht hj (fun e => pr_mk (s107c o.1 hsz ht hj (fun _ => inv_mk rfl rfl rfl w') (fun c => absurd e c))) (fun e => pr_mk (s107c o.1 hsz ht hj (fun c => absurd c e) (fun _ => inv_mk rfl rfl rfl (w.rec ⟨iw_ts0 o ht hj, ro.of (ts_c (by omega)), ?_⟩))))
  rw [ts_c (by omega)]
  omega
theorem p63 (I : INV n H) : PR sc 63 108 [.int x, .int y] n H := by
  obtain ⟨g, NN, RR, hs, sz, pi, Tx, L, K, R, T, S, N, r, Hi, Sl, Sp, a, kk, tt, nn, rfl, w⟩ := I
  have w' := w.step
  have wk := w
  obtain ⟨⟨o, ro, w7⟩, h60, hT, hsz, hhs, hp, hinj, hhi, hsl⟩ := wk
  rcases rngS (x := x) 2 (by omega) with hx | ⟨v, hv, rfl⟩
  · exact s63a hx (pr_mk (s108a (cvS 2 (by omega) hx) (inv_mk rfl rfl rfl w')))
  rcases rng (x := y) (a := if v = 2 then 1 else 0) (b := if v = 0 then 3 else 99) (by split <;> omega) (by split <;> omega) with hy | ⟨f, h1, h2, rfl⟩
  · exact s63b hv hy (pr_mk (s108b hv hy (inv_mk rfl rfl rfl w')))
  refine s63c hp hsz o.1 hv h1 h2 (fun e => pr_mk (s108c o.1 hv h1 h2 hsz (fun _ => inv_mk rfl rfl rfl w') (fun c => absurd e c))) (fun e => pr_mk (s108c o.1 hv h1 h2 hsz (fun c => absurd c e) (fun _ => inv_mk rfl rfl rfl (w.rec ⟨iw_set o (by omega) (wf_set o.1 (by omega) ⟨fun z => absurd z (by omega), fun z => ?_, fun z => ?_⟩), ro.of (up_ne (by omega)), ?_⟩))))
  · rw [if_pos (by omega)] at h2
    exact h2
  · split at h2 <;> omega
  · rw [up_ne (by omega)]
    omega
theorem p64 (hn : n ≤ 600) (I : INV n H) : PR sc 64 118 [.int x, .int y] n H := by
  obtain ⟨g, NN, RR, hs, sz, pi, Tx, L, K, R, T, S, N, r, Hi, Sl, Sp, a, kk, tt, nn, rfl, w⟩ := I
  have w' := w.step
  have wk := w
  obtain ⟨⟨o, ro, w7⟩, h60, hT, hsz, hhs, hp, hinj, hhi, hsl⟩ := wk
  have h9 := o.1.2.1
  have h8 := o.1.1
  rcases rngL (x := x) (n := N 9) (by omega) with hx | ⟨t, ht, rfl⟩
  · exact s64a o.1 hx (pr_mk (s118a o.1 hx (inv_mk rfl rfl rfl w')))
  rcases rngL (x := y) (n := N 8) (by omega) with hy | ⟨p, hpp, rfl⟩
  · exact s64b o.1 ht hy (pr_mk (s118b o.1 ht hy (inv_mk rfl rfl rfl w')))
  obtain ⟨fr, hfr⟩ := src_some (N := N) (p := p) (h := th N t 0) 4 (o.1.h (by omega))
  have op : IW N p 0 0 := iw_zero o
  have q := iw_acR op ht hpp (by omega) hfr
  refine s64c hp hsz o ro ht hpp (by omega) hfr (fun r' hr' => pr_mk (s118 o.1 hsz ht hpp (AC_of op (by omega) (by omega)) hfr (inv_mk rfl rfl rfl (w.rec ⟨iw_zero q.1, hr', ?_⟩))))
  rw [q.2.1]
  omega
theorem p65 (hn : n ≤ 600) (I : INV n H) : PR sc 65 119 [.int x, .int y] n H := by
  obtain ⟨g, NN, RR, hs, sz, pi, Tx, L, K, R, T, S, N, r, Hi, Sl, Sp, a, kk, tt, nn, rfl, w⟩ := I
  have w' := w.step
  have wk := w
  obtain ⟨⟨o, ro, w7⟩, h60, hT, hsz, hhs, hp, hinj, hhi, hsl⟩ := wk
  have h9 := o.1.2.1
  have h8 := o.1.1
  rcases rngL (x := x) (n := N 9) (by omega) with hx | ⟨t, ht, rfl⟩
  · exact s65a o.1 hx (pr_mk (s119a o.1 hx (inv_mk rfl rfl rfl w')))
  rcases rngL (x := y) (n := N 8) (by omega) with hy | ⟨p, hpp, rfl⟩
  · exact s65b o.1 ht hy (pr_mk (s119b o.1 ht hy (inv_mk rfl rfl rfl w')))
  have op : IW N p 0 0 := iw_zero o
  have q := iw_acW op ht hpp (by omega)
  refine s65c hp hsz o ro ht hpp (by omega) (fun r' hr' => pr_mk (s119 o.1 hsz ht hpp (AC_of op (by omega) (by omega)) (inv_mk rfl rfl rfl (w.rec ⟨iw_zero q.1, hr', ?_⟩))))
  rw [q.2.1]
  omega
theorem p66 (I : INV n H) : PR sc 66 121 [] n H := by
  obtain ⟨g, NN, RR, hs, sz, pi, Tx, L, K, R, T, S, N, r, Hi, Sl, Sp, a, kk, tt, nn, rfl, w⟩ := I
  have w' := w.step
  have wk := w
  obtain ⟨⟨o, ro, w7⟩, h60, hT, hsz, hhs, hp, hinj, hhi, hsl⟩ := wk
  have hk := hal_keep o.1 (N 8) o.1.1
  refine s66 hp hsz o.1 (fun e => pr_mk (s121 o.1 hsz (fun _ => inv_mk rfl rfl rfl w') (fun c => absurd e c))) (fun e => pr_mk (s121 o.1 hsz (fun c => absurd c e) (fun _ => inv_mk rfl rfl rfl (w.rec ⟨iw_hal o, ro.of (hk.2.1 16 (by omega)), ?_⟩))))
  rw [hk.2.1 7 (by omega)]
  omega
theorem p67 {c : Nat} (hc : c < 65536) (I : INV n H) : PR sc 67 122 [.int (nI c)] n H := by
  obtain ⟨g, NN, RR, hs, sz, pi, Tx, L, K, R, T, S, N, r, Hi, Sl, Sp, a, kk, tt, nn, rfl, w⟩ := I
  have w' := w.step
  have wk := w
  obtain ⟨⟨o, ro, w7⟩, h60, hT, hsz, hhs, hp, hinj, hhi, hsl⟩ := wk
  refine s67 hc h60 (fun e => pr_mk (s122 hc h60 (fun _ => inv_mk rfl rfl rfl w') (fun c => absurd e c))) (fun e => pr_mk (s122 hc h60 (fun c => absurd c e) (fun _ => inv_mk rfl rfl rfl (w.text (show L + 1 ≤ 60 by omega) (fun i hi => ?_)))))
  show up Tx L c i < 65536
  unfold up
  split
  · exact hc
  · exact hT i hi
theorem p68 (I : INV n H) : PR sc 68 123 [] n H := by
  obtain ⟨g, NN, RR, hs, sz, pi, Tx, L, K, R, T, S, N, r, Hi, Sl, Sp, a, kk, tt, nn, rfl, w⟩ := I
  have w' := w.step
  have wk := w
  obtain ⟨⟨o, ro, w7⟩, h60, hT, hsz, hhs, hp, hinj, hhi, hsl⟩ := wk
  exact s68 (pr_mk (s123 (inv_mk rfl rfl rfl (w.text (show 0 ≤ 60 by omega) hT))))
theorem p69 (hn : n ≤ 600) (I : INV n H) : PR sc 69 129 [] n H := by
  obtain ⟨g, NN, RR, hs, sz, pi, Tx, L, K, R, T, S, N, r, Hi, Sl, Sp, a, kk, tt, nn, rfl, w⟩ := I
  have w' := w.step
  have wk := w
  obtain ⟨⟨o, ro, w7⟩, h60, hT, hsz, hhs, hp, hinj, hhi, hsl⟩ := wk
  have h7 : N 7 + 15 ≤ 100000 := by omega
  refine s69 hp hsz o ro h60 hT h7 (fun e K' R' T' S' he => pr_mk (s129 o hsz h7 h60 hT (fun e2 k' t' n' he2 => ?_) (fun l2 a' k' t' n' he2 _ => ?_) (fun l2 a' k' t' n' he2 _ => ?_))) (fun l K' R' T' S' he hb => pr_mk (s129 o hsz h7 h60 hT (fun e2 k' t' n' he2 => ?_) (fun l2 a' k' t' n' he2 _ => ?_) (fun l2 a' k' t' n' he2 hok => ?_))) (fun l K' R' T' S' r' he hok hr' => pr_mk (s129 o hsz h7 h60 hT (fun e2 k' t' n' he2 => ?_) (fun l2 a' k' t' n' he2 hb => ?_) (fun l2 a' k' t' n' he2 _ => ?_)))
  · rw [he] at he2
    cases he2
    exact inv_mk rfl rfl rfl w'
  · rw [he] at he2
    cases he2
  · rw [he] at he2
    cases he2
  · rw [he] at he2
    cases he2
  · exact inv_mk rfl rfl rfl w'
  · rw [he] at he2
    cases he2
    obtain ⟨s, hs, hn⟩ := hb
    exact absurd (hok s hs) hn
  · rw [he] at he2
    cases he2
  · rw [he] at he2
    cases he2
    obtain ⟨s, hs, hn⟩ := hb
    exact absurd (hok s hs) hn
  · rw [he] at he2
    cases he2
    have hl := prs_len (by omega) he
    have ha := prs_all (by omega) he
    have q := iw_doL l o hok (fun s hs => (ha s hs).2.2.1) (by omega)
    exact inv_mk rfl rfl rfl (w.rec ⟨q.1, hr', by have := q.2.1; omega⟩)
theorem p70 (I : INV n H) : PR sc 70 133 [] n H := by
  obtain ⟨g, NN, RR, hs, sz, pi, Tx, L, K, R, T, S, N, r, Hi, Sl, Sp, a, kk, tt, nn, rfl, w⟩ := I
  have w' := w.step
  have wk := w
  obtain ⟨⟨o, ro, w7⟩, h60, hT, hsz, hhs, hp, hinj, hhi, hsl⟩ := wk
  refine s70 hp hsz (fun e => pr_mk (s133 hsz (fun _ => inv_mk rfl rfl rfl w') (fun c => absurd e c))) (fun e => pr_mk (s133 hsz (fun c => absurd c e) (fun _ => ?_)))
  rw [pm_row (N' := NN (3 + pi (sz - 1))) (fun i hi => by rw [cpN_at hi]; exact (hhi (sz - 1) (by omega)).2 i hi)]
  exact inv_mk rfl rfl rfl (w.undo e)
theorem p71 (I : INV n H) : PR sc 71 134 [] n H := by
  obtain ⟨g, NN, RR, hs, sz, pi, Tx, L, K, R, T, S, N, r, Hi, Sl, Sp, a, kk, tt, nn, rfl, w⟩ := I
  have w' := w.step
  have wk := w
  obtain ⟨⟨o, ro, w7⟩, h60, hT, hsz, hhs, hp, hinj, hhi, hsl⟩ := wk
  exact s71 (pr_mk (s134 (inv_mk rfl rfl rfl w.keep)))
theorem p72 (I : INV n H) : PR sc 72 135 [] n H := by
  obtain ⟨g, NN, RR, hs, sz, pi, Tx, L, K, R, T, S, N, r, Hi, Sl, Sp, a, kk, tt, nn, rfl, w⟩ := I
  have w' := w.step
  have wk := w
  obtain ⟨⟨o, ro, w7⟩, h60, hT, hsz, hhs, hp, hinj, hhi, hsl⟩ := wk
  refine s72 hp hsz hhs (fun e => pr_mk (s135 hsz hhs (fun _ => inv_mk rfl rfl rfl w') (fun c => absurd (c.symm.trans e) (by omega)))) (fun e => pr_mk (s135 hsz hhs (fun c => absurd (c.symm.trans e) (by omega)) (fun _ => ?_)))
  have hs2 := hsl e
  rw [hs2.2 7 (by omega), pm_row (N' := NN 2) (fun i hi => by rw [cpN_at hi]; exact hs2.2 i hi)]
  exact inv_mk rfl rfl rfl (w.rec (hs2.1.mono (by omega)))
end PQ
