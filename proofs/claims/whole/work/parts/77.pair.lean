section PZ
variable {sc : SC} {n : Nat} {H : AHp} {x y z : Int32}
theorem p73 (I : INV n H) : PR sc 73 137 [.int x, .int y] n H := by
  obtain ⟨g, NN, RR, hs, sz, pi, Tx, L, K, R, T, S, N, r, Hi, Sl, Sp, a, kk, tt, nn, rfl, w⟩ := I
  have w' := w.step
  have wk := w
  obtain ⟨⟨o, ro, w7⟩, h60, hT, hsz, hhs, hp, hinj, hhi, hsl⟩ := wk
  rcases rngL (x := x) (n := 4) (by omega) with hx | ⟨j, hj, rfl⟩
  · exact s73a hx (pr_mk (s137a hx (inv_mk rfl rfl rfl w')))
  rcases rngS (x := y) 5 (by omega) with hy | ⟨v, hv, rfl⟩
  · exact s73b hj hy (pr_mk (s137b o.1 hj hy (inv_mk rfl rfl rfl w')))
  exact s73 o hj (by omega) (pr_mk (s137 o.1 hj (by omega) (inv_mk rfl rfl rfl w')))
theorem p74 (I : INV n H) : PR sc 74 139 [.int x, .int y] n H := by
  obtain ⟨g, NN, RR, hs, sz, pi, Tx, L, K, R, T, S, N, r, Hi, Sl, Sp, a, kk, tt, nn, rfl, w⟩ := I
  have w' := w.step
  have wk := w
  obtain ⟨⟨o, ro, w7⟩, h60, hT, hsz, hhs, hp, hinj, hhi, hsl⟩ := wk
  have h8 := o.1.1
  rcases rngL (x := x) (n := N 8) (by omega) with hx | ⟨p, hpp, rfl⟩
  · exact s74a hx (pr_mk (s139a o.1 hx (inv_mk rfl rfl rfl w')))
  rcases rngS (x := y) 13 (by omega) with hy | ⟨v, hv, rfl⟩
  · exact s74b o.1 hpp hy (pr_mk (s139b o.1 hpp hy (inv_mk rfl rfl rfl w')))
  exact s74 o hpp v (by omega) (pr_mk (s139 o.1 hpp (iw_any (q := p) o (by omega)).2.1 v (by omega) (inv_mk rfl rfl rfl w')))
theorem p75 (I : INV n H) : PR sc 75 140 [.int x, .int y] n H := by
  obtain ⟨g, NN, RR, hs, sz, pi, Tx, L, K, R, T, S, N, r, Hi, Sl, Sp, a, kk, tt, nn, rfl, w⟩ := I
  have w' := w.step
  have wk := w
  obtain ⟨⟨o, ro, w7⟩, h60, hT, hsz, hhs, hp, hinj, hhi, hsl⟩ := wk
  have h9 := o.1.2.1
  rcases rngL (x := x) (n := N 9) (by omega) with hx | ⟨t, ht, rfl⟩
  · exact s75a hx (pr_mk (s140a o.1 hx (inv_mk rfl rfl rfl w')))
  rcases rngS (x := y) 4 (by omega) with hy | ⟨v, hv, rfl⟩
  · exact s75b o.1 ht hy (pr_mk (s140b o.1 ht (cvS 4 (by omega) hy) (inv_mk rfl rfl rfl w')))
  exact s75 o.1 ht hv (pr_mk (s140 o.1 ht hv (inv_mk rfl rfl rfl w')))
theorem p76 (I : INV n H) : PR sc 76 141 [.int x, .int y] n H := by
  obtain ⟨g, NN, RR, hs, sz, pi, Tx, L, K, R, T, S, N, r, Hi, Sl, Sp, a, kk, tt, nn, rfl, w⟩ := I
  have w' := w.step
  have wk := w
  obtain ⟨⟨o, ro, w7⟩, h60, hT, hsz, hhs, hp, hinj, hhi, hsl⟩ := wk
  rcases rngL (x := x) (n := 4) (by omega) with hx | ⟨j, hj, rfl⟩
  · exact s76a hx (pr_mk (s141a hx (inv_mk rfl rfl rfl w')))
  rcases rngL (x := y) (n := 4) (by omega) with hy | ⟨i, hi, rfl⟩
  · exact s76b hj hy (pr_mk (s141b hj hy (inv_mk rfl rfl rfl w')))
  exact s76 hj hi (pr_mk (s141 hj hi (inv_mk rfl rfl rfl w')))
theorem p77 {b : Nat} (hb : b < 2) (I : INV n H) : PR sc 77 142 [.int x, .int y, .int (nI b)] n H := by
  obtain ⟨g, NN, RR, hs, sz, pi, Tx, L, K, R, T, S, N, r, Hi, Sl, Sp, a, kk, tt, nn, rfl, w⟩ := I
  have w' := w.step
  have wk := w
  obtain ⟨⟨o, ro, w7⟩, h60, hT, hsz, hhs, hp, hinj, hhi, hsl⟩ := wk
  have h9 := o.1.2.1
  have h8 := o.1.1
  rcases rngL (x := x) (n := N 9) (by omega) with hx | ⟨t, ht, rfl⟩
  · exact s77a o.1 hx (pr_mk (s142a o.1 hx (inv_mk rfl rfl rfl w')))
  rcases rngL (x := y) (n := N 8) (by omega) with hy | ⟨p, hpp, rfl⟩
  · exact s77b o.1 ht hy (pr_mk (s142b o.1 ht hy (inv_mk rfl rfl rfl w')))
  obtain ⟨fr, hfr⟩ := src_some (N := N) (p := p) (h := th N t 0) 4 (o.1.h (by omega))
  rcases (show b = 0 ∨ b = 1 by omega) with rfl | rfl
  · exact s77r o.1 ht hpp hfr (pr_mk (s142r o.1 ht hpp hfr (inv_mk rfl rfl rfl w')))
  · exact s77w o.1 ht hpp (pr_mk (s142w o.1 ht hpp (inv_mk rfl rfl rfl w')))
theorem p78 (hn : n ≤ 600) (I : INV n H) : PR sc 78 131 [.int x] n H := by
  obtain ⟨g, NN, RR, hs, sz, pi, Tx, L, K, R, T, S, N, r, Hi, Sl, Sp, a, kk, tt, nn, rfl, w⟩ := I
  have w' := w.step
  have wk := w
  obtain ⟨⟨o, ro, w7⟩, h60, hT, hsz, hhs, hp, hinj, hhi, hsl⟩ := wk
  have h7 : N 7 + 15 ≤ 100000 := by omega
  rcases rng (x := x) (a := 0) (b := 3) (by omega) (by omega) with hx | ⟨P, _, hP, rfl⟩
  · exact s78a hx (pr_mk (s131a hx (inv_mk rfl rfl rfl w')))
  refine s78 hP o ro h60 hT h7 (fun e K' R' T' S' he => pr_mk (s131 hP o h7 h60 hT (fun e2 k' t' n' he2 => ?_) (fun l2 a' k' t' n' he2 _ => ?_) (fun l2 Sp' a' k' t' n' he2 _ => ?_))) (fun l K' R' T' S' he hb => pr_mk (s131 hP o h7 h60 hT (fun e2 k' t' n' he2 => ?_) (fun l2 a' k' t' n' he2 _ => ?_) (fun l2 Sp' a' k' t' n' he2 hok => ?_))) (fun l K' R' T' S' NN' RR' he hok e1 e2 => pr_mk (s131 hP o h7 h60 hT (fun e2 k' t' n' he2 => ?_) (fun l2 a' k' t' n' he2 hb => ?_) (fun l2 Sp' a' k' t' n' he2 _ => ?_)))
  · rw [he] at he2
    cases he2
    exact inv_mk rfl rfl rfl w'
  · rw [he] at he2
    cases he2
  · rw [he] at he2
    cases he2
  · rw [he] at he2
    cases he2
  · exact inv_mk rfl rfl rfl w'
  · rw [he] at he2
    cases he2
    obtain ⟨s, hs, hn⟩ := hb
    exact absurd (hok s hs) hn
  · rw [he] at he2
    cases he2
  · rw [he] at he2
    cases he2
    obtain ⟨s, hs, hn⟩ := hb
    exact absurd (hok s hs) hn
  · rw [he] at he2
    cases he2
    exact inv_mk rfl rfl rfl (w.try e1 e2)
theorem p79 (hn : n ≤ 600) (I : INV n H) : PR sc 79 132 [] n H := by
  obtain ⟨g, NN, RR, hs, sz, pi, Tx, L, K, R, T, S, N, r, Hi, Sl, Sp, a, kk, tt, nn, rfl, w⟩ := I
  have w' := w.step
  have wk := w
  obtain ⟨⟨o, ro, w7⟩, h60, hT, hsz, hhs, hp, hinj, hhi, hsl⟩ := wk
  have h7 : N 7 + 15 ≤ 100000 := by omega
  refine s79 o ro h60 hT h7 (fun e K' R' T' S' he => pr_mk (s132 o h7 h60 hT (fun e2 k' t' n' he2 => ?_) (fun l2 a' k' t' n' he2 _ => ?_) (fun l2 Sp' a' k' t' n' he2 _ => ?_))) (fun l K' R' T' S' he hb => pr_mk (s132 o h7 h60 hT (fun e2 k' t' n' he2 => ?_) (fun l2 a' k' t' n' he2 _ => ?_) (fun l2 Sp' a' k' t' n' he2 hok => ?_))) (fun l K' R' T' S' NN' RR' he hok e1 e2 => pr_mk (s132 o h7 h60 hT (fun e2 k' t' n' he2 => ?_) (fun l2 a' k' t' n' he2 hb => ?_) (fun l2 Sp' a' k' t' n' he2 _ => ?_)))
  · rw [he] at he2
    cases he2
    exact inv_mk rfl rfl rfl w'
  · rw [he] at he2
    cases he2
  · rw [he] at he2
    cases he2
  · rw [he] at he2
    cases he2
  · exact inv_mk rfl rfl rfl w'
  · rw [he] at he2
    cases he2
    obtain ⟨s, hs, hn⟩ := hb
    exact absurd (hok s hs) hn
  · rw [he] at he2
    cases he2
  · rw [he] at he2
    cases he2
    obtain ⟨s, hs, hn⟩ := hb
    exact absurd (hok s hs) hn
  · rw [he] at he2
    cases he2
    exact inv_mk rfl rfl rfl (w.try e1 e2)
theorem p80 (I : INV n H) : PR sc 80 144 [.int x] n H := by
  obtain ⟨g, NN, RR, hs, sz, pi, Tx, L, K, R, T, S, N, r, Hi, Sl, Sp, a, kk, tt, nn, rfl, w⟩ := I
  have w' := w.step
  have wk := w
  obtain ⟨⟨o, ro, w7⟩, h60, hT, hsz, hhs, hp, hinj, hhi, hsl⟩ := wk
  have h8 := o.1.1
  rcases rngL (x := x) (n := N 8) (by omega) with hx | ⟨p, hpp, rfl⟩
  · exact s80a hx (pr_mk (s144a o.1 hx (inv_mk rfl rfl rfl w')))
  exact s80 o.1 hpp (pr_mk (s144 o.1 hpp (inv_mk rfl rfl rfl w')))
theorem p81 (I : INV n H) : PR sc 81 145 [.int x, .int y] n H := by
  obtain ⟨g, NN, RR, hs, sz, pi, Tx, L, K, R, T, S, N, r, Hi, Sl, Sp, a, kk, tt, nn, rfl, w⟩ := I
  have w' := w.step
  have wk := w
  obtain ⟨⟨o, ro, w7⟩, h60, hT, hsz, hhs, hp, hinj, hhi, hsl⟩ := wk
  have h16 := o.1.e
  by_cases hx : x < 0
  · exact s81a hx (pr_mk (s145a hx (inv_mk rfl rfl rfl w')))
  rcases rngL (x := y) (n := 4) (by omega) with hy | ⟨v, hv, rfl⟩
  · exact s81b hy (pr_mk (s145b hx (cv4 hy) (inv_mk rfl rfl rfl w')))
  rcases rngL (x := x) (n := N 16) (by omega) with hb | ⟨b, hb, rfl⟩
  · have hb := hb.resolve_left hx
    exact s81c o.1 hx hv hb (pr_mk (s145c o.1 hx hv hb (inv_mk rfl rfl rfl w')))
  exact s81 ro hv hb (pr_mk (s145 o.1 hv hb (inv_mk rfl rfl rfl w')))
theorem p82 (I : INV n H) : PR sc 82 148 [.int x] n H := by
  obtain ⟨g, NN, RR, hs, sz, pi, Tx, L, K, R, T, S, N, r, Hi, Sl, Sp, a, kk, tt, nn, rfl, w⟩ := I
  have w' := w.step
  have wk := w
  obtain ⟨⟨o, ro, w7⟩, h60, hT, hsz, hhs, hp, hinj, hhi, hsl⟩ := wk
  rcases rngS (x := x) 15 (by omega) with hx | ⟨v, hv, rfl⟩
  · exact s82a hx (pr_mk (s148a hx (inv_mk rfl rfl rfl w')))
  exact s82 (Z := zf sz hs L a kk tt nn) o rfl rfl v (by omega) (pr_mk (s148 o.1 v (by omega) (inv_mk rfl rfl rfl w')))
end PZ
