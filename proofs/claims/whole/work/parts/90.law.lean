theorem law_E (L : Nat) (xs : Nat → Int32) (hL : L ≤ 2048) : E (L, xs) 153 0 0 0 (ini 153 [.retAddr 0]) [] (0, fun _ => bad) (fun r _ => r = some (.int 1)) :=
  law0 (fun u v F => lp hL 600 0 _ u v (by omega) (by omega) ⟨(959, F), fun _ => N0, fun _ => 0, 0, 0, fun i => i, Z0, 0, Z0, Z0, Z0, 0, N0, 0, Z0, Z0, Z0, 0, 0, 0, 0, rfl, wo_0⟩)
