/-! PURE MATHEMATICS, 10: whole worlds copied. -/
/-- which cells the reference copies -/
def dR (k j : Nat) : Bool := (k == 0 && j == 27) || ((k == 27 && decide (j < 20)) || ((k == 0 && j == 25) || ((k == 26 && decide (j < 4)) || ((k == 25 && decide (j < 4)) || ((k == 0 && j == 22) || ((k == 0 && j == 21) || ((k == 0 && j == 20) || ((k == 0 && j == 19) || ((k == 0 && j == 18) || ((k == 24 && decide (j < 4)) || ((k == 0 && j == 16) || ((k == 0 && j == 15) || ((k == 23 && decide (j < 8)) || ((k == 22 && decide (j < 8)) || ((k == 21 && decide (j < 8)) || ((k == 20 && decide (j < 8)) || ((k == 18 && decide (j < 3)) || ((k == 17 && decide (j < 3)) || ((k == 0 && j == 10) || ((k == 0 && j == 9) || false))))))))))))))))))))
theorem dR_φ {k j : Nat} : dR k j = (φR k j).isSome := by
  unfold φR
  by_cases k0 : k = 0
  · subst k0
    rw [if_pos rfl]
    unfold dR φR0
    repeat' split
    all_goals simp_all
  · rw [if_neg k0]
    unfold dR φR1
    repeat' split
    all_goals first
      | (simp_all; done)
      | (simp_all; omega)
