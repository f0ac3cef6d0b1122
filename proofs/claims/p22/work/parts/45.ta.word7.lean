/-! the model: is a run of letters a word of the language; a name's letters -/
def WD : List (List Int) := [[108, 97, 110, 100], [103, 111, 111, 100], [102, 105, 114, 109], [115, 97, 108, 101], [112, 97, 105, 100], [104, 97, 110, 100], [114, 111, 111, 109], [100, 97, 121], [109, 97, 114, 107]]
def isW (t : Nat) (b : BT) (s n : Nat) : Prop := n = (WD.getD t []).length ∧ ∀ j, j < n → b (s + j) = (WD.getD t []).getD j 0
theorem isW_lg0 {b : BT} {s n : Nat} (h : isW 0 b s n) : wv b s n = 404164608 := by
  obtain ⟨h1, h2⟩ := h
  have h1 : n = 4 := h1
  subst h1
  have v0 : b (s + 0) = 108 := h2 0 (by omega)
  have v1 : b (s + 1) = 97 := h2 1 (by omega)
  have v2 : b (s + 2) = 110 := h2 2 (by omega)
  have v3 : b (s + 3) = 100 := h2 3 (by omega)
  unfold wv lt6
  rw [if_pos (show (0 : Nat) < 4 by omega), if_pos (show (1 : Nat) < 4 by omega), if_pos (show (2 : Nat) < 4 by omega), if_pos (show (3 : Nat) < 4 by omega), if_neg (show ¬ (4 : Nat) < 4 by omega), if_neg (show ¬ (5 : Nat) < 4 by omega)]
  omega
theorem lg_isW0 {b : BT} {s n : Nat} (hl : ∀ j, j < n → isL (b (s + j)) = true) (h : wv b s n = 404164608) : isW 0 b s n := by
  have h0 := lt6_in hl 0
  have h1 := lt6_in hl 1
  have h2 := lt6_in hl 2
  have h3 := lt6_in hl 3
  have h4 := lt6_in hl 4
  have h5 := lt6_in hl 5
  unfold wv at h
  have w0 : lt6 b s n 0 = 12 := by omega
  have w1 : lt6 b s n 1 = 1 := by omega
  have w2 : lt6 b s n 2 = 14 := by omega
  have w3 : lt6 b s n 3 = 4 := by omega
  have w4 : lt6 b s n 4 = 0 := by omega
  have w5 : lt6 b s n 5 = 0 := by omega
  have hn : n = 4 := by
    rcases Nat.lt_or_ge n 4 with q | q
    · have := lt6_no (b := b) (s := s) (n := n) (j := 3) (by omega)
      omega
    · rcases Nat.lt_or_ge 4 n with q2 | q2
      · have a1 : lt6 b s n 4 = b (s + 4) - 96 := by unfold lt6; rw [if_pos q2]
        have a2 := isL_i.mp (hl 4 q2)
        omega
      · omega
  subst hn
  refine ⟨rfl, fun j hj => ?_⟩
  rcases (by omega : j = 0 ∨ j = 1 ∨ j = 2 ∨ j = 3) with rfl | rfl | rfl | rfl
  · have : lt6 b s 4 0 = b (s + 0) - 96 := by unfold lt6; rw [if_pos (by omega)]
    show b (s + 0) = 108
    omega
  · have : lt6 b s 4 1 = b (s + 1) - 96 := by unfold lt6; rw [if_pos (by omega)]
    show b (s + 1) = 97
    omega
  · have : lt6 b s 4 2 = b (s + 2) - 96 := by unfold lt6; rw [if_pos (by omega)]
    show b (s + 2) = 110
    omega
  · have : lt6 b s 4 3 = b (s + 3) - 96 := by unfold lt6; rw [if_pos (by omega)]
    show b (s + 3) = 100
    omega
theorem isW_lg1 {b : BT} {s n : Nat} (h : isW 1 b s n) : wv b s n = 251105280 := by
  obtain ⟨h1, h2⟩ := h
  have h1 : n = 4 := h1
  subst h1
  have v0 : b (s + 0) = 103 := h2 0 (by omega)
  have v1 : b (s + 1) = 111 := h2 1 (by omega)
  have v2 : b (s + 2) = 111 := h2 2 (by omega)
  have v3 : b (s + 3) = 100 := h2 3 (by omega)
  unfold wv lt6
  rw [if_pos (show (0 : Nat) < 4 by omega), if_pos (show (1 : Nat) < 4 by omega), if_pos (show (2 : Nat) < 4 by omega), if_pos (show (3 : Nat) < 4 by omega), if_neg (show ¬ (4 : Nat) < 4 by omega), if_neg (show ¬ (5 : Nat) < 4 by omega)]
  omega
theorem lg_isW1 {b : BT} {s n : Nat} (hl : ∀ j, j < n → isL (b (s + j)) = true) (h : wv b s n = 251105280) : isW 1 b s n := by
  have h0 := lt6_in hl 0
  have h1 := lt6_in hl 1
  have h2 := lt6_in hl 2
  have h3 := lt6_in hl 3
  have h4 := lt6_in hl 4
  have h5 := lt6_in hl 5
  unfold wv at h
  have w0 : lt6 b s n 0 = 7 := by omega
  have w1 : lt6 b s n 1 = 15 := by omega
  have w2 : lt6 b s n 2 = 15 := by omega
  have w3 : lt6 b s n 3 = 4 := by omega
  have w4 : lt6 b s n 4 = 0 := by omega
  have w5 : lt6 b s n 5 = 0 := by omega
  have hn : n = 4 := by
    rcases Nat.lt_or_ge n 4 with q | q
    · have := lt6_no (b := b) (s := s) (n := n) (j := 3) (by omega)
      omega
    · rcases Nat.lt_or_ge 4 n with q2 | q2
      · have a1 : lt6 b s n 4 = b (s + 4) - 96 := by unfold lt6; rw [if_pos q2]
        have a2 := isL_i.mp (hl 4 q2)
        omega
      · omega
  subst hn
  refine ⟨rfl, fun j hj => ?_⟩
  rcases (by omega : j = 0 ∨ j = 1 ∨ j = 2 ∨ j = 3) with rfl | rfl | rfl | rfl
  · have : lt6 b s 4 0 = b (s + 0) - 96 := by unfold lt6; rw [if_pos (by omega)]
    show b (s + 0) = 103
    omega
  · have : lt6 b s 4 1 = b (s + 1) - 96 := by unfold lt6; rw [if_pos (by omega)]
    show b (s + 1) = 111
    omega
  · have : lt6 b s 4 2 = b (s + 2) - 96 := by unfold lt6; rw [if_pos (by omega)]
    show b (s + 2) = 111
    omega
  · have : lt6 b s 4 3 = b (s + 3) - 96 := by unfold lt6; rw [if_pos (by omega)]
    show b (s + 3) = 100
    omega
theorem isW_lg2 {b : BT} {s n : Nat} (h : isW 2 b s n) : wv b s n = 211366912 := by
  obtain ⟨h1, h2⟩ := h
  have h1 : n = 4 := h1
  subst h1
  have v0 : b (s + 0) = 102 := h2 0 (by omega)
  have v1 : b (s + 1) = 105 := h2 1 (by omega)
  have v2 : b (s + 2) = 114 := h2 2 (by omega)
  have v3 : b (s + 3) = 109 := h2 3 (by omega)
  unfold wv lt6
  rw [if_pos (show (0 : Nat) < 4 by omega), if_pos (show (1 : Nat) < 4 by omega), if_pos (show (2 : Nat) < 4 by omega), if_pos (show (3 : Nat) < 4 by omega), if_neg (show ¬ (4 : Nat) < 4 by omega), if_neg (show ¬ (5 : Nat) < 4 by omega)]
  omega
theorem lg_isW2 {b : BT} {s n : Nat} (hl : ∀ j, j < n → isL (b (s + j)) = true) (h : wv b s n = 211366912) : isW 2 b s n := by
  have h0 := lt6_in hl 0
  have h1 := lt6_in hl 1
  have h2 := lt6_in hl 2
  have h3 := lt6_in hl 3
  have h4 := lt6_in hl 4
  have h5 := lt6_in hl 5
  unfold wv at h
  have w0 : lt6 b s n 0 = 6 := by omega
  have w1 : lt6 b s n 1 = 9 := by omega
  have w2 : lt6 b s n 2 = 18 := by omega
  have w3 : lt6 b s n 3 = 13 := by omega
  have w4 : lt6 b s n 4 = 0 := by omega
  have w5 : lt6 b s n 5 = 0 := by omega
  have hn : n = 4 := by
    rcases Nat.lt_or_ge n 4 with q | q
    · have := lt6_no (b := b) (s := s) (n := n) (j := 3) (by omega)
      omega
    · rcases Nat.lt_or_ge 4 n with q2 | q2
      · have a1 : lt6 b s n 4 = b (s + 4) - 96 := by unfold lt6; rw [if_pos q2]
        have a2 := isL_i.mp (hl 4 q2)
        omega
      · omega
  subst hn
  refine ⟨rfl, fun j hj => ?_⟩
  rcases (by omega : j = 0 ∨ j = 1 ∨ j = 2 ∨ j = 3) with rfl | rfl | rfl | rfl
  · have : lt6 b s 4 0 = b (s + 0) - 96 := by unfold lt6; rw [if_pos (by omega)]
    show b (s + 0) = 102
    omega
  · have : lt6 b s 4 1 = b (s + 1) - 96 := by unfold lt6; rw [if_pos (by omega)]
    show b (s + 1) = 105
    omega
  · have : lt6 b s 4 2 = b (s + 2) - 96 := by unfold lt6; rw [if_pos (by omega)]
    show b (s + 2) = 114
    omega
  · have : lt6 b s 4 3 = b (s + 3) - 96 := by unfold lt6; rw [if_pos (by omega)]
    show b (s + 3) = 109
    omega
theorem isW_lg3 {b : BT} {s n : Nat} (h : isW 3 b s n) : wv b s n = 638981120 := by
  obtain ⟨h1, h2⟩ := h
  have h1 : n = 4 := h1
  subst h1
  have v0 : b (s + 0) = 115 := h2 0 (by omega)
  have v1 : b (s + 1) = 97 := h2 1 (by omega)
  have v2 : b (s + 2) = 108 := h2 2 (by omega)
  have v3 : b (s + 3) = 101 := h2 3 (by omega)
  unfold wv lt6
  rw [if_pos (show (0 : Nat) < 4 by omega), if_pos (show (1 : Nat) < 4 by omega), if_pos (show (2 : Nat) < 4 by omega), if_pos (show (3 : Nat) < 4 by omega), if_neg (show ¬ (4 : Nat) < 4 by omega), if_neg (show ¬ (5 : Nat) < 4 by omega)]
  omega
theorem lg_isW3 {b : BT} {s n : Nat} (hl : ∀ j, j < n → isL (b (s + j)) = true) (h : wv b s n = 638981120) : isW 3 b s n := by
  have h0 := lt6_in hl 0
  have h1 := lt6_in hl 1
  have h2 := lt6_in hl 2
  have h3 := lt6_in hl 3
  have h4 := lt6_in hl 4
  have h5 := lt6_in hl 5
  unfold wv at h
  have w0 : lt6 b s n 0 = 19 := by omega
  have w1 : lt6 b s n 1 = 1 := by omega
  have w2 : lt6 b s n 2 = 12 := by omega
  have w3 : lt6 b s n 3 = 5 := by omega
  have w4 : lt6 b s n 4 = 0 := by omega
  have w5 : lt6 b s n 5 = 0 := by omega
  have hn : n = 4 := by
    rcases Nat.lt_or_ge n 4 with q | q
    · have := lt6_no (b := b) (s := s) (n := n) (j := 3) (by omega)
      omega
    · rcases Nat.lt_or_ge 4 n with q2 | q2
      · have a1 : lt6 b s n 4 = b (s + 4) - 96 := by unfold lt6; rw [if_pos q2]
        have a2 := isL_i.mp (hl 4 q2)
        omega
      · omega
  subst hn
  refine ⟨rfl, fun j hj => ?_⟩
  rcases (by omega : j = 0 ∨ j = 1 ∨ j = 2 ∨ j = 3) with rfl | rfl | rfl | rfl
  · have : lt6 b s 4 0 = b (s + 0) - 96 := by unfold lt6; rw [if_pos (by omega)]
    show b (s + 0) = 115
    omega
  · have : lt6 b s 4 1 = b (s + 1) - 96 := by unfold lt6; rw [if_pos (by omega)]
    show b (s + 1) = 97
    omega
  · have : lt6 b s 4 2 = b (s + 2) - 96 := by unfold lt6; rw [if_pos (by omega)]
    show b (s + 2) = 108
    omega
  · have : lt6 b s 4 3 = b (s + 3) - 96 := by unfold lt6; rw [if_pos (by omega)]
    show b (s + 3) = 101
    omega
theorem isW_lg4 {b : BT} {s n : Nat} (h : isW 4 b s n) : wv b s n = 538218496 := by
  obtain ⟨h1, h2⟩ := h
  have h1 : n = 4 := h1
  subst h1
  have v0 : b (s + 0) = 112 := h2 0 (by omega)
  have v1 : b (s + 1) = 97 := h2 1 (by omega)
  have v2 : b (s + 2) = 105 := h2 2 (by omega)
  have v3 : b (s + 3) = 100 := h2 3 (by omega)
  unfold wv lt6
  rw [if_pos (show (0 : Nat) < 4 by omega), if_pos (show (1 : Nat) < 4 by omega), if_pos (show (2 : Nat) < 4 by omega), if_pos (show (3 : Nat) < 4 by omega), if_neg (show ¬ (4 : Nat) < 4 by omega), if_neg (show ¬ (5 : Nat) < 4 by omega)]
  omega
theorem lg_isW4 {b : BT} {s n : Nat} (hl : ∀ j, j < n → isL (b (s + j)) = true) (h : wv b s n = 538218496) : isW 4 b s n := by
  have h0 := lt6_in hl 0
  have h1 := lt6_in hl 1
  have h2 := lt6_in hl 2
  have h3 := lt6_in hl 3
  have h4 := lt6_in hl 4
  have h5 := lt6_in hl 5
  unfold wv at h
  have w0 : lt6 b s n 0 = 16 := by omega
  have w1 : lt6 b s n 1 = 1 := by omega
  have w2 : lt6 b s n 2 = 9 := by omega
  have w3 : lt6 b s n 3 = 4 := by omega
  have w4 : lt6 b s n 4 = 0 := by omega
  have w5 : lt6 b s n 5 = 0 := by omega
  have hn : n = 4 := by
    rcases Nat.lt_or_ge n 4 with q | q
    · have := lt6_no (b := b) (s := s) (n := n) (j := 3) (by omega)
      omega
    · rcases Nat.lt_or_ge 4 n with q2 | q2
      · have a1 : lt6 b s n 4 = b (s + 4) - 96 := by unfold lt6; rw [if_pos q2]
        have a2 := isL_i.mp (hl 4 q2)
        omega
      · omega
  subst hn
  refine ⟨rfl, fun j hj => ?_⟩
  rcases (by omega : j = 0 ∨ j = 1 ∨ j = 2 ∨ j = 3) with rfl | rfl | rfl | rfl
  · have : lt6 b s 4 0 = b (s + 0) - 96 := by unfold lt6; rw [if_pos (by omega)]
    show b (s + 0) = 112
    omega
  · have : lt6 b s 4 1 = b (s + 1) - 96 := by unfold lt6; rw [if_pos (by omega)]
    show b (s + 1) = 97
    omega
  · have : lt6 b s 4 2 = b (s + 2) - 96 := by unfold lt6; rw [if_pos (by omega)]
    show b (s + 2) = 105
    omega
  · have : lt6 b s 4 3 = b (s + 3) - 96 := by unfold lt6; rw [if_pos (by omega)]
    show b (s + 3) = 100
    omega
theorem isW_lg5 {b : BT} {s n : Nat} (h : isW 5 b s n) : wv b s n = 269946880 := by
  obtain ⟨h1, h2⟩ := h
  have h1 : n = 4 := h1
  subst h1
  have v0 : b (s + 0) = 104 := h2 0 (by omega)
  have v1 : b (s + 1) = 97 := h2 1 (by omega)
  have v2 : b (s + 2) = 110 := h2 2 (by omega)
  have v3 : b (s + 3) = 100 := h2 3 (by omega)
  unfold wv lt6
  rw [if_pos (show (0 : Nat) < 4 by omega), if_pos (show (1 : Nat) < 4 by omega), if_pos (show (2 : Nat) < 4 by omega), if_pos (show (3 : Nat) < 4 by omega), if_neg (show ¬ (4 : Nat) < 4 by omega), if_neg (show ¬ (5 : Nat) < 4 by omega)]
  omega
theorem lg_isW5 {b : BT} {s n : Nat} (hl : ∀ j, j < n → isL (b (s + j)) = true) (h : wv b s n = 269946880) : isW 5 b s n := by
  have h0 := lt6_in hl 0
  have h1 := lt6_in hl 1
  have h2 := lt6_in hl 2
  have h3 := lt6_in hl 3
  have h4 := lt6_in hl 4
  have h5 := lt6_in hl 5
  unfold wv at h
  have w0 : lt6 b s n 0 = 8 := by omega
  have w1 : lt6 b s n 1 = 1 := by omega
  have w2 : lt6 b s n 2 = 14 := by omega
  have w3 : lt6 b s n 3 = 4 := by omega
  have w4 : lt6 b s n 4 = 0 := by omega
  have w5 : lt6 b s n 5 = 0 := by omega
  have hn : n = 4 := by
    rcases Nat.lt_or_ge n 4 with q | q
    · have := lt6_no (b := b) (s := s) (n := n) (j := 3) (by omega)
      omega
    · rcases Nat.lt_or_ge 4 n with q2 | q2
      · have a1 : lt6 b s n 4 = b (s + 4) - 96 := by unfold lt6; rw [if_pos q2]
        have a2 := isL_i.mp (hl 4 q2)
        omega
      · omega
  subst hn
  refine ⟨rfl, fun j hj => ?_⟩
  rcases (by omega : j = 0 ∨ j = 1 ∨ j = 2 ∨ j = 3) with rfl | rfl | rfl | rfl
  · have : lt6 b s 4 0 = b (s + 0) - 96 := by unfold lt6; rw [if_pos (by omega)]
    show b (s + 0) = 104
    omega
  · have : lt6 b s 4 1 = b (s + 1) - 96 := by unfold lt6; rw [if_pos (by omega)]
    show b (s + 1) = 97
    omega
  · have : lt6 b s 4 2 = b (s + 2) - 96 := by unfold lt6; rw [if_pos (by omega)]
    show b (s + 2) = 110
    omega
  · have : lt6 b s 4 3 = b (s + 3) - 96 := by unfold lt6; rw [if_pos (by omega)]
    show b (s + 3) = 100
    omega
theorem isW_lg6 {b : BT} {s n : Nat} (h : isW 6 b s n) : wv b s n = 620213248 := by
  obtain ⟨h1, h2⟩ := h
  have h1 : n = 4 := h1
  subst h1
  have v0 : b (s + 0) = 114 := h2 0 (by omega)
  have v1 : b (s + 1) = 111 := h2 1 (by omega)
  have v2 : b (s + 2) = 111 := h2 2 (by omega)
  have v3 : b (s + 3) = 109 := h2 3 (by omega)
  unfold wv lt6
  rw [if_pos (show (0 : Nat) < 4 by omega), if_pos (show (1 : Nat) < 4 by omega), if_pos (show (2 : Nat) < 4 by omega), if_pos (show (3 : Nat) < 4 by omega), if_neg (show ¬ (4 : Nat) < 4 by omega), if_neg (show ¬ (5 : Nat) < 4 by omega)]
  omega
theorem lg_isW6 {b : BT} {s n : Nat} (hl : ∀ j, j < n → isL (b (s + j)) = true) (h : wv b s n = 620213248) : isW 6 b s n := by
  have h0 := lt6_in hl 0
  have h1 := lt6_in hl 1
  have h2 := lt6_in hl 2
  have h3 := lt6_in hl 3
  have h4 := lt6_in hl 4
  have h5 := lt6_in hl 5
  unfold wv at h
  have w0 : lt6 b s n 0 = 18 := by omega
  have w1 : lt6 b s n 1 = 15 := by omega
  have w2 : lt6 b s n 2 = 15 := by omega
  have w3 : lt6 b s n 3 = 13 := by omega
  have w4 : lt6 b s n 4 = 0 := by omega
  have w5 : lt6 b s n 5 = 0 := by omega
  have hn : n = 4 := by
    rcases Nat.lt_or_ge n 4 with q | q
    · have := lt6_no (b := b) (s := s) (n := n) (j := 3) (by omega)
      omega
    · rcases Nat.lt_or_ge 4 n with q2 | q2
      · have a1 : lt6 b s n 4 = b (s + 4) - 96 := by unfold lt6; rw [if_pos q2]
        have a2 := isL_i.mp (hl 4 q2)
        omega
      · omega
  subst hn
  refine ⟨rfl, fun j hj => ?_⟩
  rcases (by omega : j = 0 ∨ j = 1 ∨ j = 2 ∨ j = 3) with rfl | rfl | rfl | rfl
  · have : lt6 b s 4 0 = b (s + 0) - 96 := by unfold lt6; rw [if_pos (by omega)]
    show b (s + 0) = 114
    omega
  · have : lt6 b s 4 1 = b (s + 1) - 96 := by unfold lt6; rw [if_pos (by omega)]
    show b (s + 1) = 111
    omega
  · have : lt6 b s 4 2 = b (s + 2) - 96 := by unfold lt6; rw [if_pos (by omega)]
    show b (s + 2) = 111
    omega
  · have : lt6 b s 4 3 = b (s + 3) - 96 := by unfold lt6; rw [if_pos (by omega)]
    show b (s + 3) = 109
    omega
theorem isW_lg7 {b : BT} {s n : Nat} (h : isW 7 b s n) : wv b s n = 136085504 := by
  obtain ⟨h1, h2⟩ := h
  have h1 : n = 3 := h1
  subst h1
  have v0 : b (s + 0) = 100 := h2 0 (by omega)
  have v1 : b (s + 1) = 97 := h2 1 (by omega)
  have v2 : b (s + 2) = 121 := h2 2 (by omega)
  unfold wv lt6
  rw [if_pos (show (0 : Nat) < 3 by omega), if_pos (show (1 : Nat) < 3 by omega), if_pos (show (2 : Nat) < 3 by omega), if_neg (show ¬ (3 : Nat) < 3 by omega), if_neg (show ¬ (4 : Nat) < 3 by omega), if_neg (show ¬ (5 : Nat) < 3 by omega)]
  omega
theorem lg_isW7 {b : BT} {s n : Nat} (hl : ∀ j, j < n → isL (b (s + j)) = true) (h : wv b s n = 136085504) : isW 7 b s n := by
  have h0 := lt6_in hl 0
  have h1 := lt6_in hl 1
  have h2 := lt6_in hl 2
  have h3 := lt6_in hl 3
  have h4 := lt6_in hl 4
  have h5 := lt6_in hl 5
  unfold wv at h
  have w0 : lt6 b s n 0 = 4 := by omega
  have w1 : lt6 b s n 1 = 1 := by omega
  have w2 : lt6 b s n 2 = 25 := by omega
  have w3 : lt6 b s n 3 = 0 := by omega
  have w4 : lt6 b s n 4 = 0 := by omega
  have w5 : lt6 b s n 5 = 0 := by omega
  have hn : n = 3 := by
    rcases Nat.lt_or_ge n 3 with q | q
    · have := lt6_no (b := b) (s := s) (n := n) (j := 2) (by omega)
      omega
    · rcases Nat.lt_or_ge 3 n with q2 | q2
      · have a1 : lt6 b s n 3 = b (s + 3) - 96 := by unfold lt6; rw [if_pos q2]
        have a2 := isL_i.mp (hl 3 q2)
        omega
      · omega
  subst hn
  refine ⟨rfl, fun j hj => ?_⟩
  rcases (by omega : j = 0 ∨ j = 1 ∨ j = 2) with rfl | rfl | rfl
  · have : lt6 b s 3 0 = b (s + 0) - 96 := by unfold lt6; rw [if_pos (by omega)]
    show b (s + 0) = 100
    omega
  · have : lt6 b s 3 1 = b (s + 1) - 96 := by unfold lt6; rw [if_pos (by omega)]
    show b (s + 1) = 97
    omega
  · have : lt6 b s 3 2 = b (s + 2) - 96 := by unfold lt6; rw [if_pos (by omega)]
    show b (s + 2) = 121
    omega
theorem isW_lg8 {b : BT} {s n : Nat} (h : isW 8 b s n) : wv b s n = 437857280 := by
  obtain ⟨h1, h2⟩ := h
  have h1 : n = 4 := h1
  subst h1
  have v0 : b (s + 0) = 109 := h2 0 (by omega)
  have v1 : b (s + 1) = 97 := h2 1 (by omega)
  have v2 : b (s + 2) = 114 := h2 2 (by omega)
  have v3 : b (s + 3) = 107 := h2 3 (by omega)
  unfold wv lt6
  rw [if_pos (show (0 : Nat) < 4 by omega), if_pos (show (1 : Nat) < 4 by omega), if_pos (show (2 : Nat) < 4 by omega), if_pos (show (3 : Nat) < 4 by omega), if_neg (show ¬ (4 : Nat) < 4 by omega), if_neg (show ¬ (5 : Nat) < 4 by omega)]
  omega
theorem lg_isW8 {b : BT} {s n : Nat} (hl : ∀ j, j < n → isL (b (s + j)) = true) (h : wv b s n = 437857280) : isW 8 b s n := by
  have h0 := lt6_in hl 0
  have h1 := lt6_in hl 1
  have h2 := lt6_in hl 2
  have h3 := lt6_in hl 3
  have h4 := lt6_in hl 4
  have h5 := lt6_in hl 5
  unfold wv at h
  have w0 : lt6 b s n 0 = 13 := by omega
  have w1 : lt6 b s n 1 = 1 := by omega
  have w2 : lt6 b s n 2 = 18 := by omega
  have w3 : lt6 b s n 3 = 11 := by omega
  have w4 : lt6 b s n 4 = 0 := by omega
  have w5 : lt6 b s n 5 = 0 := by omega
  have hn : n = 4 := by
    rcases Nat.lt_or_ge n 4 with q | q
    · have := lt6_no (b := b) (s := s) (n := n) (j := 3) (by omega)
      omega
    · rcases Nat.lt_or_ge 4 n with q2 | q2
      · have a1 : lt6 b s n 4 = b (s + 4) - 96 := by unfold lt6; rw [if_pos q2]
        have a2 := isL_i.mp (hl 4 q2)
        omega
      · omega
  subst hn
  refine ⟨rfl, fun j hj => ?_⟩
  rcases (by omega : j = 0 ∨ j = 1 ∨ j = 2 ∨ j = 3) with rfl | rfl | rfl | rfl
  · have : lt6 b s 4 0 = b (s + 0) - 96 := by unfold lt6; rw [if_pos (by omega)]
    show b (s + 0) = 109
    omega
  · have : lt6 b s 4 1 = b (s + 1) - 96 := by unfold lt6; rw [if_pos (by omega)]
    show b (s + 1) = 97
    omega
  · have : lt6 b s 4 2 = b (s + 2) - 96 := by unfold lt6; rw [if_pos (by omega)]
    show b (s + 2) = 114
    omega
  · have : lt6 b s 4 3 = b (s + 3) - 96 := by unfold lt6; rw [if_pos (by omega)]
    show b (s + 3) = 107
    omega
theorem isW_t {b : BT} {s n t : Nat} (ht : t < 9) (h : isW t b s n) : lg (wv b s n) = t := by
  rcases (by omega : t = 0 ∨ t = 1 ∨ t = 2 ∨ t = 3 ∨ t = 4 ∨ t = 5 ∨ t = 6 ∨ t = 7 ∨ t = 8) with rfl | rfl | rfl | rfl | rfl | rfl | rfl | rfl | rfl
  · rw [isW_lg0 h]; decide
  · rw [isW_lg1 h]; decide
  · rw [isW_lg2 h]; decide
  · rw [isW_lg3 h]; decide
  · rw [isW_lg4 h]; decide
  · rw [isW_lg5 h]; decide
  · rw [isW_lg6 h]; decide
  · rw [isW_lg7 h]; decide
  · rw [isW_lg8 h]; decide
theorem isW_no {b : BT} {s n : Nat} (hl : ∀ j, j < n → isL (b (s + j)) = true) (h : ∀ t, t < 9 → ¬ isW t b s n) : lg (wv b s n) = -1 := by
  unfold lg
  rw [if_neg (fun q => h 0 (by omega) (lg_isW0 hl q)), if_neg (fun q => h 1 (by omega) (lg_isW1 hl q)), if_neg (fun q => h 2 (by omega) (lg_isW2 hl q)), if_neg (fun q => h 3 (by omega) (lg_isW3 hl q)), if_neg (fun q => h 4 (by omega) (lg_isW4 hl q)), if_neg (fun q => h 5 (by omega) (lg_isW5 hl q)), if_neg (fun q => h 6 (by omega) (lg_isW6 hl q)), if_neg (fun q => h 7 (by omega) (lg_isW7 hl q)), if_neg (fun q => h 8 (by omega) (lg_isW8 hl q))]
theorem isW_six {b : BT} {s n t : Nat} (ht : t < 9) (h : isW t b s n) : n ≤ 6 := by
  rcases (by omega : t = 0 ∨ t = 1 ∨ t = 2 ∨ t = 3 ∨ t = 4 ∨ t = 5 ∨ t = 6 ∨ t = 7 ∨ t = 8) with rfl | rfl | rfl | rfl | rfl | rfl | rfl | rfl | rfl
  · have : n = 4 := h.1
    omega
  · have : n = 4 := h.1
    omega
  · have : n = 4 := h.1
    omega
  · have : n = 4 := h.1
    omega
  · have : n = 4 := h.1
    omega
  · have : n = 4 := h.1
    omega
  · have : n = 4 := h.1
    omega
  · have : n = 3 := h.1
    omega
  · have : n = 4 := h.1
    omega
theorem chW_wd : ∀ t, t < 9 → (∀ j, j < 4 → j < (WD.getD t []).length → ((bytW.getD 0 []).getD (Kt t + j) 0).toInt = (WD.getD t []).getD j 0) ∧ Kt t + (WD.getD t []).length + 1 = Kt (t + 1) ∧ (WD.getD t []).length ≤ 4 := by decide +kernel
/-- the model's bytes are these, up to e -/
def mbR (m : MM) (b : BT) (e : Nat) : Prop := ∀ i : Nat, i < e → (gI m 3277992 i).toInt = b i ∧ 0 ≤ b i ∧ b i ≤ 255
theorem mbR.fr {W : List Nat} {m m' : MM} {b : BT} {e : Nat} (h : mbR m b e) (hF : Fr W m m') (hW : elm 3277992 W = false) : mbR m' b e := fun i hi => by
  rw [row1 hF rfl hW]
  exact h i hi
section Wo
variable {b : BT} {e s q : Nat} {m : MM}
/-- what word() answers -/
def WoQ (b : BT) (s q : Nat) (m : MM) : QQ := qi (fun r m' => m' = m ∧ ((∃ t, t < 9 ∧ r.toInt = (t : Nat) ∧ isW t b s (q - s)) ∨ (r = -1 ∧ ∀ t, t < 9 → ¬ isW t b s (q - s))))
set_option maxRecDepth 100000 in
set_option maxHeartbeats 4000000 in
theorem wdC {t : Nat} {n i : Int32} (ht : t < 9) (hn : n.toInt = t) (K : ∀ (n' k' : Int32) (v : Value), n'.toInt = t + 1 → k'.toInt = (Kt (t + 1) : Nat) → At (E0 1) mX7_word (WoQ b s q m) 4 [.ref 1175, .int n', .int k', v] [] m) :
    ∀ (f : Nat) (k : Int32), (Kt t : Int) ≤ k.toInt → k.toInt + 1 ≤ (Kt (t + 1) : Int) → (Kt (t + 1) - k.toInt).toNat = f → At (E0 1) mX7_word (WoQ b s q m) 97 [.ref 1175, .int n, .int k, .int i] [] m := by
  have hb : Kt (t + 1) ≤ 44 := by unfold Kt; omega
  intro f
  induction f with
  | zero => intro k h1 h2 h3; omega
  | succ f ih =>
    intro k h1 h2 h3
    have e1 : (k + 1).toInt = k.toInt + 1 := inc1 (by omega)
    have e2 : (n + 1).toInt = n.toInt + 1 := inc1 (by omega)
    refine At.ls okX7_word 60 ⟨_, _, rfl⟩ ?_
    (conv => whnf)
    refine And.intro rfl (And.intro (vp_in_iff.mpr ⟨by omega, show k.toInt < ((44 : Nat) : Int) by omega⟩) ?_)
    (conv => whnf)
    refine And.intro (fun h => ?_) (fun h => ?_)
    · have h : chW k = 32 := h
      have hk : k.toInt + 1 = (Kt (t + 1) : Int) := by
        rcases Int.lt_or_le (k.toInt + 1) (Kt (t + 1) : Int) with q | q
        · exact absurd h (chW_no ht h1 q)
        · omega
      (conv => whnf)
      exact And.intro rfl (K _ _ _ (by omega) (by omega))
    · have h : ¬ chW k = 32 := h
      have hk : ¬ k.toInt + 1 = (Kt (t + 1) : Int) := fun q => h (chW_yes ht q)
      (conv => whnf)
      exact And.intro rfl (ih _ (by omega) (by omega) (by omega))
def cdWo : List CE := stops [69] cdX7_word
theorem okWo : CodeOk mX7_word cdWo := okX7_word.st [69] (by rfl)
set_option maxRecDepth 100000 in
set_option maxHeartbeats 4000000 in
theorem wo69 {t i : Nat} {n k iI : Int32} (ht : t < 9) (hn : n.toInt = t) (hk : k.toInt = (Kt t : Nat)) (hi : iI.toInt = i) (hil : Kt t + i + 1 ≤ Kt (t + 1)) (hp : (gI m 1175 32).toInt = s) (ha : (gI m 1175 31).toInt = q) (hsq : s ≤ q) (hq : q ≤ 800) (hall : ∀ j, j < i → b (s + j) = (WD.getD t []).getD j 0) (hiq : s + i ≤ q) (hne : ¬ i = (WD.getD t []).length → ¬ isW t b s (q - s))
    (hno : ¬ isW t b s (q - s) → At (E0 1) mX7_word (WoQ b s q m) 97 [.ref 1175, .int n, .int k, .int iI] [] m) : At (E0 1) mX7_word (WoQ b s q m) 69 [.ref 1175, .int n, .int k, .int iI] [] m := by
  have hb : Kt (t + 1) ≤ 44 := by unfold Kt; omega
  have hw := chW_wd t ht
  have ek : (k + iI).toInt = k.toInt + iI.toInt := tI_add (by unfold i32lo; omega) (by unfold i32hi; omega)
  have ep : (gI m 1175 32 + iI).toInt = (gI m 1175 32).toInt + iI.toInt := tI_add (by unfold i32lo; omega) (by unfold i32hi; omega)
  have vk : vp_in (k + iI) 44 := vp_in_iff.mpr ⟨by omega, show (k + iI).toInt < ((44 : Nat) : Int) by omega⟩
  refine At.ls okWo 80 ⟨_, _, rfl⟩ ?_
  (conv => whnf)
  refine And.intro rfl (And.intro vk ?_)
  (conv => whnf)
  refine And.intro (fun h => ?_) (fun h => ?_)
  · have h : ¬ chW (k + iI) = 32 := h
    have hl : ¬ (k + iI).toInt + 1 = (Kt (t + 1) : Int) := fun z => h (chW_yes ht z)
    (conv => whnf)
    exact And.intro rfl (hno (hne (by omega)))
  · have h : chW (k + iI) = 32 := h
    have hl : (k + iI).toInt + 1 = (Kt (t + 1) : Int) := by
      rcases Int.lt_or_le ((k + iI).toInt + 1) (Kt (t + 1) : Int) with z | z
      · exact absurd h (chW_no ht (by omega) z)
      · omega
    have hlen : i = (WD.getD t []).length := by omega
    (conv => whnf)
    refine And.intro (fun h2 => ?_) (fun h2 => ?_)
    · have h2 : ¬ gI m 1175 32 + iI = gI m 1175 31 := h2
      (conv => whnf)
      exact And.intro rfl (hno (fun z => h2 (Int32.toInt_inj.mp (by rw [ep, hp, hi, ha]; have := z.1; omega))))
    · have h2 : gI m 1175 32 + iI = gI m 1175 31 := h2
      have e2 := congrArg Int32.toInt h2
      rw [ep, hp, hi, ha] at e2
      exact ⟨rfl, Or.inl ⟨t, ht, hn, by omega, fun j hj => hall j (by omega)⟩⟩
set_option maxRecDepth 100000 in
set_option maxHeartbeats 4000000 in
theorem wdB (hM : Mok TYg m) {t : Nat} {n k : Int32} (ht : t < 9) (hn : n.toInt = t) (hk : k.toInt = (Kt t : Nat)) (hp : (gI m 1175 32).toInt = s) (ha : (gI m 1175 31).toInt = q) (hsq : s ≤ q) (hq : q ≤ 800) (hb : mbR m b q) (hno : ¬ isW t b s (q - s) → ∀ iI : Int32, At (E0 1) mX7_word (WoQ b s q m) 97 [.ref 1175, .int n, .int k, .int iI] [] m) :
    ∀ (f i : Nat) (iI : Int32), iI.toInt = i → Kt t + i + 1 ≤ Kt (t + 1) → Kt (t + 1) - Kt t - i = f → (∀ j, j < i → b (s + j) = (WD.getD t []).getD j 0) → s + i ≤ q → At (E0 1) mX7_word (WoQ b s q m) 15 [.ref 1175, .int n, .int k, .int iI] [] m := by
  have hbb : Kt (t + 1) ≤ 44 := by unfold Kt; omega
  have hw := chW_wd t ht
  intro f
  induction f with
  | zero => intro i iI hi h1 h2; omega
  | succ f ih =>
    intro i iI hi h1 h2 hall hiq
    have e1 : (iI + 1).toInt = ((i + 1 : Nat) : Int) := by rw [inc1 (by omega), hi]; omega
    have ek : (k + iI).toInt = k.toInt + iI.toInt := tI_add (by unfold i32lo; omega) (by unfold i32hi; omega)
    have ep : (gI m 1175 32 + iI).toInt = ((s + i : Nat) : Int) := by
      rw [tI_add (by unfold i32lo; omega) (by unfold i32hi; omega), hp, hi]; omega
    have vk : vp_in (k + iI) 44 := vp_in_iff.mpr ⟨by omega, show (k + iI).toInt < ((44 : Nat) : Int) by omega⟩
    refine At.ls okWo 80 ⟨_, _, rfl⟩ ?_
    (conv => whnf)
    refine And.intro rfl (And.intro vk ?_)
    (conv => whnf)
    refine And.intro (fun h => ?_) (fun h => ?_)
    · have h : chW (k + iI) = 32 := h
      have hl : (k + iI).toInt + 1 = (Kt (t + 1) : Int) := by
        rcases Int.lt_or_le ((k + iI).toInt + 1) (Kt (t + 1) : Int) with z | z
        · exact absurd h (chW_no ht (by omega) z)
        · omega
      (conv => whnf)
      exact And.intro rfl (wo69 ht hn hk hi h1 hp ha hsq hq hall hiq (fun z => absurd (by omega) z) (fun z => hno z iI))
    · have h : ¬ chW (k + iI) = 32 := h
      have hl : ¬ (k + iI).toInt + 1 = (Kt (t + 1) : Int) := fun z => h (chW_yes ht z)
      have hiw : i < (WD.getD t []).length := by omega
      (conv => whnf)
      refine And.intro (fun h3 => ?_) (fun h3 => ?_)
      · have h3 : gI m 1175 31 ≤ gI m 1175 32 + iI := h3
        rw [le_i, ep, ha] at h3
        (conv => whnf)
        exact And.intro rfl (wo69 ht hn hk hi h1 hp ha hsq hq hall hiq (fun _ z => by have := z.1; omega) (fun z => hno z iI))
      · have h3 : ¬ gI m 1175 31 ≤ gI m 1175 32 + iI := h3
        rw [le_i, ep, ha] at h3
        have hx : (gI m 3277992 (gI m 1175 32 + iI).toNatClampNeg).toInt = b (s + i) := by
          rw [nat_c ep]; exact (hb (s + i) (by omega)).1
        have hc : (chW (k + iI)).toInt = (WD.getD t []).getD i 0 := by
          have e : (k + iI).toNatClampNeg = Kt t + i := by
            show (k + iI).toInt.toNat = _
            omega
          unfold chW
          rw [e]
          exact hw.1 i (by omega) hiw
        (conv => whnf)
        refine And.intro (vp_in_iff.mpr ⟨show 0 ≤ (gI m 1175 32 + iI).toInt by omega, show (gI m 1175 32 + iI).toInt < ((800 : Nat) : Int) by omega⟩) ?_
        (conv => whnf)
        refine And.intro rfl (And.intro vk ?_)
        (conv => whnf)
        refine And.intro (fun h4 => ?_) (fun h4 => ?_)
        · have h4 : ¬ gI m 3277992 (gI m 1175 32 + iI).toNatClampNeg = chW (k + iI) := h4
          (conv => whnf)
          exact And.intro rfl (wo69 ht hn hk hi h1 hp ha hsq hq hall hiq (fun _ z => h4 (Int32.toInt_inj.mp (by rw [hx, hc]; exact z.2 i (by omega)))) (fun z => hno z iI))
        · have h4 : gI m 3277992 (gI m 1175 32 + iI).toNatClampNeg = chW (k + iI) := h4
          (conv => whnf)
          refine And.intro rfl (ih (i + 1) _ e1 (by omega) (by omega) (fun j hj => ?_) (by omega))
          by_cases z : j = i
          · rw [z, ← hx, h4, hc]
          · exact hall j (by omega)
set_option maxRecDepth 100000 in
set_option maxHeartbeats 4000000 in
theorem wdA (hM : Mok TYg m) (hp : (gI m 1175 32).toInt = s) (ha : (gI m 1175 31).toInt = q) (hsq : s ≤ q) (hq : q ≤ 800) (hb : mbR m b q) : ∀ (f t : Nat), t + f = 9 → ∀ (n k : Int32) (v : Value), n.toInt = t → k.toInt = (Kt t : Nat) → (∀ t', t' < t → ¬ isW t' b s (q - s)) → At (E0 1) mX7_word (WoQ b s q m) 4 [.ref 1175, .int n, .int k, v] [] m := by
  intro f
  induction f with
  | zero =>
    intro t ht n k v hn hk hno
    obtain rfl : t = 9 := by omega
    have hk : k.toInt = 44 := hk
    have e44 : (44 : Int32).toInt = 44 := rfl
    refine At.ls okWo 60 ⟨_, _, rfl⟩ ?_
    (conv => whnf)
    refine And.intro rfl ?_
    (conv => whnf)
    refine And.intro (fun h => ?_) (fun h => ?_)
    · exact ⟨rfl, Or.inr ⟨rfl, hno⟩⟩
    · exact absurd (le_i.mpr (by omega)) h
  | succ f ih =>
    intro t ht n k v hn hk hno
    have h9 : t < 9 := by omega
    have hk1 : Kt t + 1 ≤ Kt (t + 1) := by unfold Kt; omega
    have hk4 : Kt t < 44 := by unfold Kt; omega
    have e44 : (44 : Int32).toInt = 44 := rfl
    refine At.ls okWo 60 ⟨_, _, rfl⟩ ?_
    (conv => whnf)
    refine And.intro rfl ?_
    (conv => whnf)
    refine And.intro (fun h => ?_) (fun h => ?_)
    · rw [le_i] at h
      omega
    · (conv => whnf)
      refine And.intro rfl (wdB hM h9 hn hk hp ha hsq hq hb (fun z i => wdC h9 hn (fun n' k' v' q1 q2 => ih (t + 1) (by omega) n' k' v' (by omega) q2 (fun t' ht' => ?_)) _ k (by omega) (by omega) rfl) _ 0 0 rfl (by omega) rfl (fun j hj => absurd hj (Nat.not_lt_zero j)) (by omega))
      by_cases y : t' = t
      · rw [y]; exact z
      · exact hno t' (by omega)
set_option maxRecDepth 100000 in
theorem h_word (hM : Mok TYg m) (hp : (gI m 1175 32).toInt = s) (ha : (gI m 1175 31).toInt = q) (hsq : s ≤ q) (hq : q ≤ 800) (hb : mbR m b q) : CI 1 mX7_word [.ref 1175] m (fun r m' => m' = m ∧ ((∃ t, t < 9 ∧ r.toInt = (t : Nat) ∧ isW t b s (q - s)) ∨ (r = -1 ∧ ∀ t, t < 9 → ¬ isW t b s (q - s)))) := by
  refine At.gs okWo 40 ?_
  (conv => whnf)
  exact And.intro rfl (wdA hM hp ha hsq hq hb 9 0 rfl 0 0 .null rfl rfl (fun t' ht' => absurd ht' (Nat.not_lt_zero t')))
/-- a name's letters, one by one -/
def hn (b : BT) (s n : Nat) : Nat → Int
  | 0 => 0
  | k + 1 => 32 * hn b s n k + lt6 b s n k
theorem hn_s {n k : Nat} : hn b s n (k + 1) = 32 * hn b s n k + lt6 b s n k := rfl
theorem hn_in {n : Nat} (hl : ∀ j, j < n → isL (b (s + j)) = true) : ∀ k, 0 ≤ hn b s n k ∧ hn b s n k < 32 ^ k
  | 0 => ⟨Int.le_refl _, by show (0 : Int) < 1; omega⟩
  | k + 1 => by
    have h1 := hn_in hl k
    have h2 := lt6_in hl k
    rw [hn_s, Int.pow_succ]
    omega
theorem hn_wv {n : Nat} : hn b s n 6 = wv b s n := by
  unfold wv hn hn hn hn hn hn hn
  omega
def wNm : List Nat := [150323856535]
set_option maxRecDepth 100000 in
set_option maxHeartbeats 4000000 in
theorem nm7 (hp : (gI m 1175 32).toInt = s) (ha : (gI m 1175 31).toInt = q) (hsq : s ≤ q) (hq : q ≤ 800) (hb : mbR m b q) (hl : ∀ j, j < q - s → isL (b (s + j)) = true) : ∀ (f k : Nat) (kI : Int32) (m1 : MM), k + f = 6 → kI.toInt = k → St wNm m m1 → (gI m1 1175 34).toInt = hn b s (q - s) k → At (E0 1) mX7_name (qv (fun m' => St wNm m m' ∧ (gI m' 1175 34).toInt = wv b s (q - s))) 7 [.ref 1175, .int kI] [] m1 := by
  have e6 : (6 : Int32).toInt = 6 := rfl
  have e97 : (97 : Int32).toInt = 97 := rfl
  intro f
  induction f with
  | zero =>
    intro k kI m1 hk hkI hS hv
    obtain rfl : k = 6 := by omega
    refine At.ls okX7_name 60 ⟨_, _, rfl⟩ ?_
    (conv => whnf)
    refine And.intro (fun h => ?_) (fun h => ?_)
    · exact ⟨hS, by rw [hv, hn_wv]⟩
    · exact absurd (le_i.mpr (by omega)) h
  | succ f ih =>
    intro k kI m1 hk hkI hS hv
    have p1 : (gI m1 1175 32).toInt = s := by rw [fr1 hS.2.2 (by decide : ¬ wk 1175 32 ∈ wNm)]; exact hp
    have a1 : (gI m1 1175 31).toInt = q := by rw [fr1 hS.2.2 (by decide : ¬ wk 1175 31 ∈ wNm)]; exact ha
    have b1 := hb.fr hS.2.2 (by decide)
    have e1 : (kI + 1).toInt = ((k + 1 : Nat) : Int) := by rw [inc1 (by omega), hkI]; omega
    have ep : (gI m1 1175 32 + kI).toInt = ((s + k : Nat) : Int) := by
      rw [tI_add (by unfold i32lo; omega) (by unfold i32hi; omega), p1, hkI]; omega
    have hin := hn_in (b := b) (s := s) hl k
    have h32 : (32 : Int) ^ k ≤ 33554432 := by
      rcases (by omega : k = 0 ∨ k = 1 ∨ k = 2 ∨ k = 3 ∨ k = 4 ∨ k = 5) with rfl | rfl | rfl | rfl | rfl | rfl <;> decide
    have hsh := shl_mul (x := gI m1 1175 34) (s := (5 : Int32) &&& 31) 5 (hn b s (q - s) k).toNat (by decide) (by omega) (by omega)
    refine At.ls okX7_name 60 ⟨_, _, rfl⟩ ?_
    (conv => whnf)
    refine And.intro (fun h => by rw [le_i] at h; omega) (fun h => ?_)
    (conv => whnf)
    refine And.intro (fun h => ?_) (fun h => ?_)
    · have h : gI m1 1175 31 ≤ gI m1 1175 32 + kI := h
      rw [le_i, ep, a1] at h
      have ho := orI_add (x := gI m1 1175 34 <<< ((5 : Int32) &&& 31)) (y := 0) 5 (hn b s (q - s) k).toNat 0 (by rw [hsh]; omega) rfl (by omega) (by omega)
      (conv => whnf)
      refine And.intro rfl (ih (k + 1) _ _ (by omega) e1 (hS.fld (a := 1175) (k := 34) (v := _) (by decide) (tI_lo _) (tI_hi _) (fun _ z => by omega)) ?_)
      show (gI m1 1175 34 <<< ((5 : Int32) &&& 31) ||| 0).toInt = hn b s (q - s) (k + 1)
      rw [ho, hsh, hn_s, lt6_no (by omega)]
      have : (0 : Int32).toInt = 0 := rfl
      omega
    · have h : ¬ gI m1 1175 31 ≤ gI m1 1175 32 + kI := h
      rw [le_i, ep, a1] at h
      have hx : (gI m1 3277992 (gI m1 1175 32 + kI).toNatClampNeg).toInt = b (s + k) := by
        rw [nat_c ep]; exact (b1 (s + k) (by omega)).1
      have hlk := isL_i.mp (hl k (by omega))
      have c1 : (gI m1 3277992 (gI m1 1175 32 + kI).toNatClampNeg - 97).toInt = b (s + k) - 97 := by
        rw [tI_sub (by unfold i32lo; omega) (by unfold i32hi; omega), hx, e97]
      have c2 : (gI m1 3277992 (gI m1 1175 32 + kI).toNatClampNeg - 97 + 1).toInt = b (s + k) - 96 := by
        rw [inc1 (by omega), c1]; omega
      have ho := orI_add (x := gI m1 1175 34 <<< ((5 : Int32) &&& 31)) (y := gI m1 3277992 (gI m1 1175 32 + kI).toNatClampNeg - 97 + 1) 5 (hn b s (q - s) k).toNat (b (s + k) - 96).toNat (by rw [hsh]; omega) (by omega) (by omega) (by omega)
      (conv => whnf)
      refine And.intro (vp_in_iff.mpr ⟨show 0 ≤ (gI m1 1175 32 + kI).toInt by omega, show (gI m1 1175 32 + kI).toInt < ((800 : Nat) : Int) by omega⟩) ?_
      (conv => whnf)
      refine And.intro rfl (ih (k + 1) _ _ (by omega) e1 (hS.fld (a := 1175) (k := 34) (v := _) (by decide) (tI_lo _) (tI_hi _) (fun _ z => by omega)) ?_)
      show (gI m1 1175 34 <<< ((5 : Int32) &&& 31) ||| (gI m1 3277992 (gI m1 1175 32 + kI).toNatClampNeg - 97 + 1)).toInt = hn b s (q - s) (k + 1)
      rw [ho, hsh, c2, hn_s]
      have : lt6 b s (q - s) k = b (s + k) - 96 := by unfold lt6; rw [if_pos (by omega)]
      omega
set_option maxRecDepth 100000 in
theorem h_name (hM : Mok TYg m) (hp : (gI m 1175 32).toInt = s) (ha : (gI m 1175 31).toInt = q) (hsq : s ≤ q) (hq : q ≤ 800) (hb : mbR m b q) (hl : ∀ j, j < q - s → isL (b (s + j)) = true) : CV 1 mX7_name [.ref 1175] m (fun m' => St wNm m m' ∧ (gI m' 1175 34).toInt = wv b s (q - s)) := by
  refine At.gs okX7_name 40 ?_
  (conv => whnf)
  exact And.intro rfl (nm7 hp ha hsq hq hb hl 6 0 0 _ rfl rfl ((St.rf hM).fld (a := 1175) (k := 34) (v := 0) (by decide) (by decide) (by decide) (fun _ z => by omega)) rfl)
end Wo
