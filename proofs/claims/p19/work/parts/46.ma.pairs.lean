/-! count, burden: pairs for the law -/
theorem count6 {m : MM} {a : Int32} (hL : LI m) : CI 5 mX6_count [.ref 6, .int a] m (fun r m' => (LI m' ∧ couP m' a = couP m a) ∧ r = couP m a) := by
  have hS : SB m.2.2.1 m := hL.2.2.2.2.2.2.1
  have hT : ST m := hL.2.2.2.2.2.2.2.1
  rcases hL.2.1 with q | q
  · rw [q] at hS
    exact CI.mono (r_count_336 hL.1 hS hT q) (fun r m' h => ⟨⟨LI_fr hL h.1.1 h.1.2.1 h.1.2.2 (by decide +kernel), couP_fr h.1.2.2 (by decide +kernel)⟩, h.2⟩)
  · rw [q] at hS
    exact CI.mono (r_count_720 hL.1 hS hT q) (fun r m' h => ⟨⟨LI_fr hL h.1.1 h.1.2.1 h.1.2.2 (by decide +kernel), couP_fr h.1.2.2 (by decide +kernel)⟩, h.2⟩)
theorem count7 {m : MM} {a : Int32} (hL : LI m) : CI 5 mX7_count [.ref 1175, .int a] m (fun r m' => LI m' ∧ r = couP m a) := CI.mono (s_count hL.1 hL.2.2.2.2.2.2.2.1 (hv_of hL)) (fun r m' h => ⟨by rw [h.1]; exact LI_z hL, h.2⟩)
theorem burden6 {m : MM} {a : Int32} (hL : LI m) : CI 5 mX6_burden [.ref 6, .int a] m (fun r m' => (LI m' ∧ vw m' = vw m) ∧ r = burP (vw m) a) := by
  have hS : SB m.2.2.1 m := hL.2.2.2.2.2.2.1
  have hT : ST m := hL.2.2.2.2.2.2.2.1
  rcases hL.2.1 with q | q
  · rw [q] at hS
    exact CI.mono (r_burden_336 hL.1 hS q) (fun r m' h => ⟨⟨LI_fr hL h.1.1 h.1.2.1 h.1.2.2 (by decide +kernel), vw_fr h.1.2.2 (by decide +kernel)⟩, h.2⟩)
  · rw [q] at hS
    exact CI.mono (r_burden_720 hL.1 hS q) (fun r m' h => ⟨⟨LI_fr hL h.1.1 h.1.2.1 h.1.2.2 (by decide +kernel), vw_fr h.1.2.2 (by decide +kernel)⟩, h.2⟩)
theorem burden7 {m : MM} {a : Int32} (hL : LI m) : CI 6 mX7_burden [.ref 1175, .int a] m (fun r m' => LI m' ∧ r = burP (vw m) a) := CI.mono (s_burden hL.1 (hv_of hL)) (fun r m' h => ⟨by rw [h.1]; exact LI_z hL, h.2⟩)
theorem lacking6 {m : MM} {a : Int32} (hL : LI m) : CI 4 mX6_lacking [.ref 6, .int a] m (fun r m' => m' = m ∧ r = lacP (vw m) a) := by
  have hS : SB m.2.2.1 m := hL.2.2.2.2.2.2.1
  rcases hL.2.1 with q | q
  · rw [q] at hS; exact r_lacking_336 hL.1 hS q
  · rw [q] at hS; exact r_lacking_720 hL.1 hS q
theorem lacking7 {m : MM} {a : Int32} (hL : LI m) : CI 1 mX7_lacking [.ref 1175, .int a] m (fun r m' => LI m' ∧ r = lacP (vw m) a) := CI.mono (s_lacking hL.1 (hv_of hL)) (fun r m' h => ⟨by rw [h.1]; exact LI_z hL, h.2⟩)
theorem judge6 {m : MM} {a b : Int32} {l : Int64} (hL : LI m) : CI 3 mX6_judge [.ref 6, .int a, .int b, .long l] m (fun r m' => m' = m ∧ JdR (vw m) (gI m 1175 39) a b l r) := by
  have hS : SB m.2.2.1 m := hL.2.2.2.2.2.2.1
  have hT : ST m := hL.2.2.2.2.2.2.2.1
  rcases hL.2.1 with q | q
  · rw [q] at hS; exact r_judge_336 hL.1 hS hT q
  · rw [q] at hS; exact r_judge_720 hL.1 hS hT q
theorem judge7 {m : MM} {a b : Int32} {l : Int64} (hL : LI m) : CI 4 mX7_judge [.ref 1175, .int a, .int b, .long l] m (fun r m' => LI m' ∧ JdR (vw m) (gI m 1175 39) a b l r) := CI.mono (s_judge hL.1 (hv_of hL)) (fun r m' h => ⟨LI_fr hL h.1.1 h.1.2.1 h.1.2.2 (by decide +kernel), h.2⟩)
def HaR (m : MM) (r : Int32) : Prop := ∃ p : Nat → Nat, LabOn (joV (vw m)) ((vw m).1 2) p ∧ r = haP (vw m) p
theorem HaR_1 {m : MM} {r1 r2 : Int32} (h1 : HaR m r1) (h2 : HaR m r2) : r1 = r2 := by
  obtain ⟨p, a1, a2⟩ := h1
  obtain ⟨p', b1, b2⟩ := h2
  rw [a2, b2]
  exact haP_1 a1 b1
def FiR (m : MM) (f wt r : Int32) : Prop := ∃ p : Nat → Nat, LabOn (joV (vw m)) ((vw m).1 2) p ∧ r = fiA (vw m) p (gI m 1175 40) f wt
theorem FiR_1 {m : MM} {f wt r1 r2 : Int32} (h1 : FiR m f wt r1) (h2 : FiR m f wt r2) : r1 = r2 := by
  obtain ⟨p, a1, a2⟩ := h1
  obtain ⟨p', b1, b2⟩ := h2
  rw [a2, b2]
  exact fiA_1 a1 b1
theorem FiR_to {m m' : MM} {f wt r : Int32} (hv : vw m' = vw m) (hr : gI m' 1175 40 = gI m 1175 40) (h : FiR m f wt r) : FiR m' f wt r := by
  unfold FiR
  rw [hv, hr]
  exact h
theorem hands6 {m : MM} (hL : LI m) : CI 1 mX6_hands [.ref 6] m (fun r m' => m' = m ∧ HaR m r) := by
  have hS : SB m.2.2.1 m := hL.2.2.2.2.2.2.1
  have hP : PTb m.2.2.1 m := hL.2.2.2.2.2.2.2.2.1
  rcases hL.2.1 with q | q
  · rw [q] at hS hP
    obtain ⟨p, q1, q2⟩ := hP
    exact CI.mono (r_hands_336 hL.1 hS q q1.1 q2) (fun r m' h => ⟨h.1, p, q1, h.2⟩)
  · rw [q] at hS hP
    obtain ⟨p, q1, q2⟩ := hP
    exact CI.mono (r_hands_720 hL.1 hS q q1.1 q2) (fun r m' h => ⟨h.1, p, q1, h.2⟩)
theorem hands7 {m : MM} (hL : LI m) : CI 2 mX7_hands [.ref 1175] m (fun r m' => LI m' ∧ HaR m r) := by
  obtain ⟨p, q1, q2⟩ := hL.2.2.2.2.2.2.2.2.1
  exact CI.mono (s_hands hL.1 q1) (fun r m' h => ⟨LI_fr hL h.1.1 h.1.2.1 h.1.2.2 (by decide +kernel), p, q1, h.2⟩)
theorem firm6 {m : MM} {f wt : Int32} (hL : LI m) : CI 5 mX6_firm [.ref 6, .int f, .int wt] m (fun r m' => LI m' ∧ FiR m' f wt r) := by
  have hS : SB m.2.2.1 m := hL.2.2.2.2.2.2.1
  have hP : PTb m.2.2.1 m := hL.2.2.2.2.2.2.2.2.1
  rcases hL.2.1 with q | q
  · rw [q] at hS hP
    obtain ⟨p, q1, q2⟩ := hP
    exact CI.mono (r_askF_336 hL.1 hS q q2) (fun r m' h => ⟨LI_fr hL h.1.1 h.1.2.1 h.1.2.2 (by decide +kernel), FiR_to (vw_fr h.1.2.2 (by decide +kernel)) (fr1 h.1.2.2 (by decide)) ⟨p, q1, h.2⟩⟩)
  · rw [q] at hS hP
    obtain ⟨p, q1, q2⟩ := hP
    exact CI.mono (r_askF_720 hL.1 hS q q2) (fun r m' h => ⟨LI_fr hL h.1.1 h.1.2.1 h.1.2.2 (by decide +kernel), FiR_to (vw_fr h.1.2.2 (by decide +kernel)) (fr1 h.1.2.2 (by decide)) ⟨p, q1, h.2⟩⟩)
theorem firm7 {m : MM} {f wt : Int32} (hL : LI m) : CI 5 mX7_firm [.ref 1175, .int f, .int wt] m (fun r m' => LI m' ∧ FiR m f wt r) := by
  obtain ⟨p, q1, q2⟩ := hL.2.2.2.2.2.2.2.2.1
  exact CI.mono (s_askF hL.1 q1) (fun r m' h => ⟨LI_fr hL h.1.1 h.1.2.1 h.1.2.2 (by decide +kernel), p, q1, h.2⟩)
theorem rounds6 {m : MM} {a b c : Int32} (hL : LI m) : CI 11 mX6_rounds [.ref 6, .int a, .int b, .int c] m (fun r m' => LI m' ∧ AsR (vw m') (gI m' 1175 39) a b c r) := by
  have hS : SB m.2.2.1 m := hL.2.2.2.2.2.2.1
  have hF : FM (vw m) m := hL.2.2.2.2.2.2.2.2.2
  have go : ∀ r m', ((¬ AsP a b c ∧ r = -1 ∧ m' = m) ∨ (AsP a b c ∧ FnQ (vw m) (gI m 1175 39) a b.toNatClampNeg c.toInt m r m')) → LI m' ∧ AsR (vw m') (gI m' 1175 39) a b c r := fun r m' h => by
    have P := (ga_of hL.1 hF h).1
    refine ⟨LI_fm hL P, ?_⟩
    rw [vw_fr P.1.2.2 (by decide +kernel), fr1 P.1.2.2 (by decide)]
    rcases h with ⟨q1, q2, q3⟩ | ⟨q1, q2⟩
    · exact Or.inl ⟨q1, q2⟩
    · exact Or.inr ⟨q1, q2.2.2.2⟩
  rcases hL.2.1 with q | q
  · rw [q] at hS; exact CI.mono (r_rounds_336 hL.1 hS q hF) go
  · rw [q] at hS; exact CI.mono (r_rounds_720 hL.1 hS q hF) go
theorem rounds7 {m : MM} {a b c : Int32} (hL : LI m) : CI 10 mX7_rounds [.ref 1175, .int a, .int b, .int c] m (fun r m' => LI m' ∧ AsR (vw m) (gI m 1175 39) a b c r) := CI.mono (s_rounds hL.1 (hv_of hL)) (fun r m' h => ⟨LI_fr hL h.1.1 h.1.2.1 h.1.2.2 (by decide +kernel), h.2⟩)
