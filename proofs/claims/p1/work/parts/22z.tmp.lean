theorem p1_go {L : Nat} {xs : Nat → Int} (hL : L ≤ 6) (hx : ∀ j, iR (xs j)) : ∃ M', LwB L xs 1 0 M0 M' := sorry
