/-! word -/
def acWord : AC := ([(2, 1175, 0)], 1, [((0, 0, 8), [], []), ((0, -1, -1), [], [])], [], [])
theorem hpWord (c : Nat × Nat) : SafeC TYg c mX7_word acWord := sorry
