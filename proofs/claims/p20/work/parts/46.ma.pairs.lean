/-! count, burden: pairs for the law -/
theorem count6 {m : MM} {a : Int32} (hL : LI m) : CI 5 mX6_count [.ref 6, .int a] m (fun r m' => (LI m' ∧ couP m' a = couP m a) ∧ r = couP m a) := by
  have hS : SB m.2.2.1 m := hL.2.2.2.2.2.2.1
  have hT : ST m := hL.2.2.2.2.2.2.2
  rcases hL.2.1 with q | q
  · rw [q] at hS
    exact CI.mono (r_count_336 hL.1 hS hT q) (fun r m' h => ⟨⟨LI_fr hL h.1.1 h.1.2.1 h.1.2.2 (by decide +kernel), couP_fr h.1.2.2 (by decide +kernel)⟩, h.2⟩)
  · rw [q] at hS
    exact CI.mono (r_count_720 hL.1 hS hT q) (fun r m' h => ⟨⟨LI_fr hL h.1.1 h.1.2.1 h.1.2.2 (by decide +kernel), couP_fr h.1.2.2 (by decide +kernel)⟩, h.2⟩)
theorem count7 {m : MM} {a : Int32} (hL : LI m) : CI 5 mX7_count [.ref 1175, .int a] m (fun r m' => LI m' ∧ r = couP m a) := CI.mono (s_count hL.1 hL.2.2.2.2.2.2.2 (hv_of hL)) (fun r m' h => ⟨by rw [h.1]; exact LI_z hL, h.2⟩)
theorem burden6 {m : MM} {a : Int32} (hL : LI m) : CI 5 mX6_burden [.ref 6, .int a] m (fun r m' => (LI m' ∧ vw m' = vw m) ∧ r = burP (vw m) a) := by
  have hS : SB m.2.2.1 m := hL.2.2.2.2.2.2.1
  have hT : ST m := hL.2.2.2.2.2.2.2
  rcases hL.2.1 with q | q
  · rw [q] at hS
    exact CI.mono (r_burden_336 hL.1 hS q) (fun r m' h => ⟨⟨LI_fr hL h.1.1 h.1.2.1 h.1.2.2 (by decide +kernel), vw_fr h.1.2.2 (by decide +kernel)⟩, h.2⟩)
  · rw [q] at hS
    exact CI.mono (r_burden_720 hL.1 hS q) (fun r m' h => ⟨⟨LI_fr hL h.1.1 h.1.2.1 h.1.2.2 (by decide +kernel), vw_fr h.1.2.2 (by decide +kernel)⟩, h.2⟩)
theorem burden7 {m : MM} {a : Int32} (hL : LI m) : CI 6 mX7_burden [.ref 1175, .int a] m (fun r m' => LI m' ∧ r = burP (vw m) a) := CI.mono (s_burden hL.1 (hv_of hL)) (fun r m' h => ⟨by rw [h.1]; exact LI_z hL, h.2⟩)
theorem lacking6 {m : MM} {a : Int32} (hL : LI m) : CI 4 mX6_lacking [.ref 6, .int a] m (fun r m' => m' = m ∧ r = lacP (vw m) a) := by
  have hS : SB m.2.2.1 m := hL.2.2.2.2.2.2.1
  rcases hL.2.1 with q | q
  · rw [q] at hS; exact r_lacking_336 hL.1 hS q
  · rw [q] at hS; exact r_lacking_720 hL.1 hS q
theorem lacking7 {m : MM} {a : Int32} (hL : LI m) : CI 1 mX7_lacking [.ref 1175, .int a] m (fun r m' => LI m' ∧ r = lacP (vw m) a) := CI.mono (s_lacking hL.1 (hv_of hL)) (fun r m' h => ⟨by rw [h.1]; exact LI_z hL, h.2⟩)
theorem judge6 {m : MM} {a b : Int32} {l : Int64} (hL : LI m) : CI 3 mX6_judge [.ref 6, .int a, .int b, .long l] m (fun r m' => m' = m ∧ JdR (vw m) (gI m 1175 39) a b l r) := by
  have hS : SB m.2.2.1 m := hL.2.2.2.2.2.2.1
  have hT : ST m := hL.2.2.2.2.2.2.2
  rcases hL.2.1 with q | q
  · rw [q] at hS; exact r_judge_336 hL.1 hS hT q
  · rw [q] at hS; exact r_judge_720 hL.1 hS hT q
theorem judge7 {m : MM} {a b : Int32} {l : Int64} (hL : LI m) : CI 4 mX7_judge [.ref 1175, .int a, .int b, .long l] m (fun r m' => LI m' ∧ JdR (vw m) (gI m 1175 39) a b l r) := CI.mono (s_judge hL.1 (hv_of hL)) (fun r m' h => ⟨LI_fr hL h.1.1 h.1.2.1 h.1.2.2 (by decide +kernel), h.2⟩)
