theorem law_E (L : Nat) (xs : Nat → Int32) (hL : L ≤ 2048) : E (L, xs) 153 0 0 0 (ini 153 [.retAddr 0]) [] (0, fun _ => bad) (fun r _ => r = some (.int 1)) := sorry
