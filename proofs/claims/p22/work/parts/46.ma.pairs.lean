/-! count, burden: pairs for the law -/
theorem count6 {m : MM} {a : Int32} (hL : LI m) : CI 5 mX6_count [.ref 6, .int a] m (fun r m' => (LI m' ∧ couP m' a = couP m a) ∧ r = couP m a) := by
  have hS : SB m.2.2.1 m := hL.2.2.2.2.2.2.1
  have hT : ST m := hL.2.2.2.2.2.2.2.1
  rcases hL.2.1 with q | q
  · rw [q] at hS
    exact CI.mono (r_count_336 hL.1 hS hT q) (fun r m' h => ⟨⟨LI_fr hL h.1.1 h.1.2.1 h.1.2.2 (by decide +kernel), couP_fr h.1.2.2 (by decide +kernel)⟩, h.2⟩)
  · rw [q] at hS
    exact CI.mono (r_count_720 hL.1 hS hT q) (fun r m' h => ⟨⟨LI_fr hL h.1.1 h.1.2.1 h.1.2.2 (by decide +kernel), couP_fr h.1.2.2 (by decide +kernel)⟩, h.2⟩)
theorem count7 {m : MM} {a : Int32} (hL : LI m) : CI 5 mX7_count [.ref 1175, .int a] m (fun r m' => LI m' ∧ r = couP m a) := CI.mono (s_count hL.1 hL.2.2.2.2.2.2.2.1 (hv_of hL)) (fun r m' h => ⟨by rw [h.1]; exact LI_z hL, h.2⟩)
theorem burden6 {m : MM} {a : Int32} (hL : LI m) : CI 5 mX6_burden [.ref 6, .int a] m (fun r m' => (LI m' ∧ vw m' = vw m) ∧ r = burP (vw m) a) := by
  have hS : SB m.2.2.1 m := hL.2.2.2.2.2.2.1
  have hT : ST m := hL.2.2.2.2.2.2.2.1
  rcases hL.2.1 with q | q
  · rw [q] at hS
    exact CI.mono (r_burden_336 hL.1 hS q) (fun r m' h => ⟨⟨LI_fr hL h.1.1 h.1.2.1 h.1.2.2 (by decide +kernel), vw_fr h.1.2.2 (by decide +kernel)⟩, h.2⟩)
  · rw [q] at hS
    exact CI.mono (r_burden_720 hL.1 hS q) (fun r m' h => ⟨⟨LI_fr hL h.1.1 h.1.2.1 h.1.2.2 (by decide +kernel), vw_fr h.1.2.2 (by decide +kernel)⟩, h.2⟩)
theorem burden7 {m : MM} {a : Int32} (hL : LI m) : CI 6 mX7_burden [.ref 1175, .int a] m (fun r m' => LI m' ∧ r = burP (vw m) a) := CI.mono (s_burden hL.1 (hv_of hL)) (fun r m' h => ⟨by rw [h.1]; exact LI_z hL, h.2⟩)
theorem lacking6 {m : MM} {a : Int32} (hL : LI m) : CI 4 mX6_lacking [.ref 6, .int a] m (fun r m' => m' = m ∧ r = lacP (vw m) a) := by
  have hS : SB m.2.2.1 m := hL.2.2.2.2.2.2.1
  rcases hL.2.1 with q | q
  · rw [q] at hS; exact r_lacking_336 hL.1 hS q
  · rw [q] at hS; exact r_lacking_720 hL.1 hS q
theorem lacking7 {m : MM} {a : Int32} (hL : LI m) : CI 1 mX7_lacking [.ref 1175, .int a] m (fun r m' => LI m' ∧ r = lacP (vw m) a) := CI.mono (s_lacking hL.1 (hv_of hL)) (fun r m' h => ⟨by rw [h.1]; exact LI_z hL, h.2⟩)
theorem judge6 {m : MM} {a b : Int32} {l : Int64} (hL : LI m) : CI 3 mX6_judge [.ref 6, .int a, .int b, .long l] m (fun r m' => m' = m ∧ JdR (vw m) (gI m 1175 39) a b l r) := by
  have hS : SB m.2.2.1 m := hL.2.2.2.2.2.2.1
  have hT : ST m := hL.2.2.2.2.2.2.2.1
  rcases hL.2.1 with q | q
  · rw [q] at hS; exact r_judge_336 hL.1 hS hT q
  · rw [q] at hS; exact r_judge_720 hL.1 hS hT q
theorem judge7 {m : MM} {a b : Int32} {l : Int64} (hL : LI m) : CI 4 mX7_judge [.ref 1175, .int a, .int b, .long l] m (fun r m' => LI m' ∧ JdR (vw m) (gI m 1175 39) a b l r) := CI.mono (s_judge hL.1 (hv_of hL)) (fun r m' h => ⟨LI_fr hL h.1.1 h.1.2.1 h.1.2.2 (by decide +kernel), h.2⟩)
def HaR (m : MM) (r : Int32) : Prop := ∃ p : Nat → Nat, LabOn (joV (vw m)) ((vw m).1 2) p ∧ r = haP (vw m) p
theorem HaR_1 {m : MM} {r1 r2 : Int32} (h1 : HaR m r1) (h2 : HaR m r2) : r1 = r2 := by
  obtain ⟨p, a1, a2⟩ := h1
  obtain ⟨p', b1, b2⟩ := h2
  rw [a2, b2]
  exact haP_1 a1 b1
def FiR (m : MM) (f wt r : Int32) : Prop := ∃ p : Nat → Nat, LabOn (joV (vw m)) ((vw m).1 2) p ∧ r = fiA (vw m) p (gI m 1175 40) f wt
theorem FiR_1 {m : MM} {f wt r1 r2 : Int32} (h1 : FiR m f wt r1) (h2 : FiR m f wt r2) : r1 = r2 := by
  obtain ⟨p, a1, a2⟩ := h1
  obtain ⟨p', b1, b2⟩ := h2
  rw [a2, b2]
  exact fiA_1 a1 b1
theorem FiR_to {m m' : MM} {f wt r : Int32} (hv : vw m' = vw m) (hr : gI m' 1175 40 = gI m 1175 40) (h : FiR m f wt r) : FiR m' f wt r := by
  unfold FiR
  rw [hv, hr]
  exact h
theorem hands6 {m : MM} (hL : LI m) : CI 1 mX6_hands [.ref 6] m (fun r m' => m' = m ∧ HaR m r) := by
  have hS : SB m.2.2.1 m := hL.2.2.2.2.2.2.1
  have hP : PTb m.2.2.1 m := hL.2.2.2.2.2.2.2.2.1
  rcases hL.2.1 with q | q
  · rw [q] at hS hP
    obtain ⟨p, q1, q2⟩ := hP
    exact CI.mono (r_hands_336 hL.1 hS q q1.1 q2) (fun r m' h => ⟨h.1, p, q1, h.2⟩)
  · rw [q] at hS hP
    obtain ⟨p, q1, q2⟩ := hP
    exact CI.mono (r_hands_720 hL.1 hS q q1.1 q2) (fun r m' h => ⟨h.1, p, q1, h.2⟩)
theorem hands7 {m : MM} (hL : LI m) : CI 2 mX7_hands [.ref 1175] m (fun r m' => LI m' ∧ HaR m r) := by
  obtain ⟨p, q1, q2⟩ := hL.2.2.2.2.2.2.2.2.1
  exact CI.mono (s_hands hL.1 q1) (fun r m' h => ⟨LI_fr hL h.1.1 h.1.2.1 h.1.2.2 (by decide +kernel), p, q1, h.2⟩)
theorem firm6 {m : MM} {f wt : Int32} (hL : LI m) : CI 5 mX6_firm [.ref 6, .int f, .int wt] m (fun r m' => LI m' ∧ FiR m' f wt r) := by
  have hS : SB m.2.2.1 m := hL.2.2.2.2.2.2.1
  have hP : PTb m.2.2.1 m := hL.2.2.2.2.2.2.2.2.1
  rcases hL.2.1 with q | q
  · rw [q] at hS hP
    obtain ⟨p, q1, q2⟩ := hP
    exact CI.mono (r_askF_336 hL.1 hS q q2) (fun r m' h => ⟨LI_fr hL h.1.1 h.1.2.1 h.1.2.2 (by decide +kernel), FiR_to (vw_fr h.1.2.2 (by decide +kernel)) (fr1 h.1.2.2 (by decide)) ⟨p, q1, h.2⟩⟩)
  · rw [q] at hS hP
    obtain ⟨p, q1, q2⟩ := hP
    exact CI.mono (r_askF_720 hL.1 hS q q2) (fun r m' h => ⟨LI_fr hL h.1.1 h.1.2.1 h.1.2.2 (by decide +kernel), FiR_to (vw_fr h.1.2.2 (by decide +kernel)) (fr1 h.1.2.2 (by decide)) ⟨p, q1, h.2⟩⟩)
theorem firm7 {m : MM} {f wt : Int32} (hL : LI m) : CI 5 mX7_firm [.ref 1175, .int f, .int wt] m (fun r m' => LI m' ∧ FiR m f wt r) := by
  obtain ⟨p, q1, q2⟩ := hL.2.2.2.2.2.2.2.2.1
  exact CI.mono (s_askF hL.1 q1) (fun r m' h => ⟨LI_fr hL h.1.1 h.1.2.1 h.1.2.2 (by decide +kernel), p, q1, h.2⟩)
theorem rounds6 {m : MM} {a b c : Int32} (hL : LI m) : CI 11 mX6_rounds [.ref 6, .int a, .int b, .int c] m (fun r m' => LI m' ∧ AsR (vw m') (gI m' 1175 39) a b c r) := by
  have hS : SB m.2.2.1 m := hL.2.2.2.2.2.2.1
  have hF : FM (vw m) m := hL.2.2.2.2.2.2.2.2.2
  have go : ∀ r m', ((¬ AsP a b c ∧ r = -1 ∧ m' = m) ∨ (AsP a b c ∧ FnQ (vw m) (gI m 1175 39) a b.toNatClampNeg c.toInt m r m')) → LI m' ∧ AsR (vw m') (gI m' 1175 39) a b c r := fun r m' h => by
    have P := (ga_of hL.1 hF h).1
    refine ⟨LI_fm hL P, ?_⟩
    rw [vw_fr P.1.2.2 (by decide +kernel), fr1 P.1.2.2 (by decide)]
    rcases h with ⟨q1, q2, q3⟩ | ⟨q1, q2⟩
    · exact Or.inl ⟨q1, q2⟩
    · exact Or.inr ⟨q1, q2.2.2.2⟩
  rcases hL.2.1 with q | q
  · rw [q] at hS; exact CI.mono (r_rounds_336 hL.1 hS q hF) go
  · rw [q] at hS; exact CI.mono (r_rounds_720 hL.1 hS q hF) go
theorem rounds7 {m : MM} {a b c : Int32} (hL : LI m) : CI 10 mX7_rounds [.ref 1175, .int a, .int b, .int c] m (fun r m' => LI m' ∧ AsR (vw m) (gI m 1175 39) a b c r) := CI.mono (s_rounds hL.1 (hv_of hL)) (fun r m' h => ⟨LI_fr hL h.1.1 h.1.2.1 h.1.2.2 (by decide +kernel), h.2⟩)
theorem SgL_to {m m' : MM} {wy k d r : Int32} {f : Nat} (hv : vw m' = vw m) (h39 : gI m' 1175 39 = gI m 1175 39) (h40 : gI m' 1175 40 = gI m 1175 40) : SgL m' wy k d f r ↔ SgL m wy k d f r := by
  unfold SgL rnL7
  rw [hv, h39, h40]
theorem SnR_to {m m' : MM} {f wy k d r : Int32} (hv : vw m' = vw m) (h39 : gI m' 1175 39 = gI m 1175 39) (h40 : gI m' 1175 40 = gI m 1175 40) (h : SnR m f wy k d r) : SnR m' f wy k d r := by
  unfold SnR rnL7
  rw [SgL_to hv h39 h40, hv, h39]
  exact h
theorem kwC_to {m m' : MM} {sg wt wy k d : Int32} (hv : vw m' = vw m) (h39 : gI m' 1175 39 = gI m 1175 39) (h40 : gI m' 1175 40 = gI m 1175 40) : kwC m' sg wt wy k d = kwC m sg wt wy k d := by
  funext f
  unfold kwC SgL rnL7
  rw [hv, h39, h40]
theorem KwR_to {m m' : MM} {sg wy k d wt r : Int32} (hv : vw m' = vw m) (h39 : gI m' 1175 39 = gI m 1175 39) (h40 : gI m' 1175 40 = gI m 1175 40) (h : KwR m sg wy k d wt r) : KwR m' sg wy k d wt r := by
  unfold KwR rnL7
  rw [kwC_to hv h39 h40, hv, h39]
  exact h
theorem FwR_to {m m' : MM} {wy k d : Int32} {t : Int64} {r : Int32} (hv : vw m' = vw m) (h39 : gI m' 1175 39 = gI m 1175 39) (h40 : gI m' 1175 40 = gI m 1175 40) (h : FwR m wy k d t r) : FwR m' wy k d t r := by
  unfold FwR rnL7
  rw [hv, h39, h40]
  exact h
theorem SvR_to {m m' : MM} {wy k d pu wt : Int32} {r : Int64} (hv : vw m' = vw m) (h39 : gI m' 1175 39 = gI m 1175 39) (_ : gI m' 1175 40 = gI m 1175 40) (h : SvR m wy k d pu wt r) : SvR m' wy k d pu wt r := by
  unfold SvR SvV rnL7
  rw [hv, h39]
  exact h
theorem takes6 {m : MM} {a : Int32} {b : Int32} {c : Int32} (hL : LI m) : CJ 11 mX6_takes [.ref 6, .int a, .int b, .int c] m (fun r m' => LI m' ∧ TkR m' a b c r) := by
  have hS : SB m.2.2.1 m := hL.2.2.2.2.2.2.1
  have hF : FM (vw m) m := hL.2.2.2.2.2.2.2.2.2
  have go : ∀ r m', FmP m m' ∧ TkR m a b c r → LI m' ∧ TkR m' a b c r := fun r m' h => ⟨LI_fm hL h.1, TkR_to (vw_fr h.1.1.2.2 (by decide +kernel)) (fr1 h.1.1.2.2 (by decide)) (fr1 h.1.1.2.2 (by decide)) h.2⟩
  rcases hL.2.1 with q | q
  · rw [q] at hS; exact CJ.mono (r_takes_336 hL.1 hS q hF) go
  · rw [q] at hS; exact CJ.mono (r_takes_720 hL.1 hS q hF) go
theorem takes7 {m : MM} {a : Int32} {b : Int32} {c : Int32} (hL : LI m) : CJ 10 mX7_takes [.ref 1175, .int a, .int b, .int c] m (fun r m' => LI m' ∧ TkR m a b c r) := by
  exact CJ.mono (s_takes hL.1 (hv_of hL)) (fun r m' h => ⟨LI_fr hL h.1.1 h.1.2.1 h.1.2.2 (by decide +kernel), h.2⟩)
theorem signs6 {m : MM} {f : Int32} {a : Int32} {b : Int32} {c : Int32} (hL : LI m) : CI 11 mX6_signs [.ref 6, .int f, .int a, .int b, .int c] m (fun r m' => LI m' ∧ SnR m' f a b c r) := by
  have hS : SB m.2.2.1 m := hL.2.2.2.2.2.2.1
  have hF : FM (vw m) m := hL.2.2.2.2.2.2.2.2.2
  have hP : PTb m.2.2.1 m := hL.2.2.2.2.2.2.2.2.1
  have go : ∀ r m', FmP m m' ∧ SnR m f a b c r → LI m' ∧ SnR m' f a b c r := fun r m' h => ⟨LI_fm hL h.1, SnR_to (vw_fr h.1.1.2.2 (by decide +kernel)) (fr1 h.1.1.2.2 (by decide)) (fr1 h.1.1.2.2 (by decide)) h.2⟩
  rcases hL.2.1 with q | q
  · rw [q] at hS hP; exact CI.mono (r_signs_336 hL.1 hS q hF hP) go
  · rw [q] at hS hP; exact CI.mono (r_signs_720 hL.1 hS q hF hP) go
theorem signs7 {m : MM} {f : Int32} {a : Int32} {b : Int32} {c : Int32} (hL : LI m) : CI 10 mX7_signs [.ref 1175, .int f, .int a, .int b, .int c] m (fun r m' => LI m' ∧ SnR m f a b c r) := by
  obtain ⟨p, q1, q2⟩ := hL.2.2.2.2.2.2.2.2.1
  exact CI.mono (s_signs hL.1 (hv_of hL) q1) (fun r m' h => ⟨LI_fr hL h.1.1 h.1.2.1 h.1.2.2 (by decide +kernel), h.2⟩)
theorem knew6 {m : MM} {f : Int32} {a : Int32} {b : Int32} {c : Int32} {e : Int32} (hL : LI m) : CI 11 mX6_knew [.ref 6, .int f, .int a, .int b, .int c, .int e] m (fun r m' => LI m' ∧ KwR m' f a b c e r) := by
  have hS : SB m.2.2.1 m := hL.2.2.2.2.2.2.1
  have hF : FM (vw m) m := hL.2.2.2.2.2.2.2.2.2
  have hP : PTb m.2.2.1 m := hL.2.2.2.2.2.2.2.2.1
  have go : ∀ r m', FmP m m' ∧ KwR m f a b c e r → LI m' ∧ KwR m' f a b c e r := fun r m' h => ⟨LI_fm hL h.1, KwR_to (vw_fr h.1.1.2.2 (by decide +kernel)) (fr1 h.1.1.2.2 (by decide)) (fr1 h.1.1.2.2 (by decide)) h.2⟩
  rcases hL.2.1 with q | q
  · rw [q] at hS hP; exact CI.mono (r_knew_336 hL.1 hS q hF hP) go
  · rw [q] at hS hP; exact CI.mono (r_knew_720 hL.1 hS q hF hP) go
theorem knew7 {m : MM} {f : Int32} {a : Int32} {b : Int32} {c : Int32} {e : Int32} (hL : LI m) : CI 10 mX7_knew [.ref 1175, .int f, .int a, .int b, .int c, .int e] m (fun r m' => LI m' ∧ KwR m f a b c e r) := by
  obtain ⟨p, q1, q2⟩ := hL.2.2.2.2.2.2.2.2.1
  exact CI.mono (s_knew hL.1 (hv_of hL) q1) (fun r m' h => ⟨LI_fr hL h.1.1 h.1.2.1 h.1.2.2 (by decide +kernel), h.2⟩)
theorem fewest6 {m : MM} {a : Int32} {b : Int32} {c : Int32} {l : Int64} (hL : LI m) : CI 11 mX6_fewest [.ref 6, .int a, .int b, .int c, .long l] m (fun r m' => LI m' ∧ FwR m' a b c l r) := by
  have hS : SB m.2.2.1 m := hL.2.2.2.2.2.2.1
  have hF : FM (vw m) m := hL.2.2.2.2.2.2.2.2.2
  have go : ∀ r m', FmP m m' ∧ FwR m a b c l r → LI m' ∧ FwR m' a b c l r := fun r m' h => ⟨LI_fm hL h.1, FwR_to (vw_fr h.1.1.2.2 (by decide +kernel)) (fr1 h.1.1.2.2 (by decide)) (fr1 h.1.1.2.2 (by decide)) h.2⟩
  rcases hL.2.1 with q | q
  · rw [q] at hS; exact CI.mono (r_fewest_336 hL.1 hS q hF) go
  · rw [q] at hS; exact CI.mono (r_fewest_720 hL.1 hS q hF) go
theorem fewest7 {m : MM} {a : Int32} {b : Int32} {c : Int32} {l : Int64} (hL : LI m) : CI 10 mX7_fewest [.ref 1175, .int a, .int b, .int c, .long l] m (fun r m' => LI m' ∧ FwR m a b c l r) := by
  exact CI.mono (s_fewest hL.1 (hv_of hL)) (fun r m' h => ⟨LI_fr hL h.1.1 h.1.2.1 h.1.2.2 (by decide +kernel), h.2⟩)
theorem starve6 {m : MM} {a : Int32} {b : Int32} {c : Int32} {e : Int32} {f : Int32} (hL : LI m) : CJ 11 mX6_starve [.ref 6, .int a, .int b, .int c, .int e, .int f] m (fun r m' => LI m' ∧ SvR m' a b c e f r) := by
  have hS : SB m.2.2.1 m := hL.2.2.2.2.2.2.1
  have hF : FM (vw m) m := hL.2.2.2.2.2.2.2.2.2
  have go : ∀ r m', FmP m m' ∧ SvR m a b c e f r → LI m' ∧ SvR m' a b c e f r := fun r m' h => ⟨LI_fm hL h.1, SvR_to (vw_fr h.1.1.2.2 (by decide +kernel)) (fr1 h.1.1.2.2 (by decide)) (fr1 h.1.1.2.2 (by decide)) h.2⟩
  rcases hL.2.1 with q | q
  · rw [q] at hS; exact CJ.mono (r_starve_336 hL.1 hS q hF) go
  · rw [q] at hS; exact CJ.mono (r_starve_720 hL.1 hS q hF) go
theorem starve7 {m : MM} {a : Int32} {b : Int32} {c : Int32} {e : Int32} {f : Int32} (hL : LI m) : CJ 10 mX7_starve [.ref 1175, .int a, .int b, .int c, .int e, .int f] m (fun r m' => LI m' ∧ SvR m a b c e f r) := by
  exact CJ.mono (s_starve hL.1 (hv_of hL)) (fun r m' h => ⟨LI_fr hL h.1.1 h.1.2.1 h.1.2.2 (by decide +kernel), h.2⟩)
theorem luck6 {m : MM} {a : Int32} {b : Int32} {c : Int32} {e : Int32} {f : Int32} (hL : LI m) : CI 11 mX6_luck [.ref 6, .int a, .int b, .int c, .int e, .int f] m (fun r m' => LI m' ∧ LkR m' a b c e f r) := by
  have hS : SB m.2.2.1 m := hL.2.2.2.2.2.2.1
  have hF : FM (vw m) m := hL.2.2.2.2.2.2.2.2.2
  have go : ∀ r m', FmP m m' ∧ LkR m a b c e f r → LI m' ∧ LkR m' a b c e f r := fun r m' h => ⟨LI_fm hL h.1, LkR_to (vw_fr h.1.1.2.2 (by decide +kernel)) (fr1 h.1.1.2.2 (by decide)) h.2⟩
  rcases hL.2.1 with q | q
  · rw [q] at hS; exact CI.mono (r_luck_336 hL.1 hS q hF) go
  · rw [q] at hS; exact CI.mono (r_luck_720 hL.1 hS q hF) go
theorem luck7 {m : MM} {a : Int32} {b : Int32} {c : Int32} {e : Int32} {f : Int32} (hL : LI m) : CI 10 mX7_luck [.ref 1175, .int a, .int b, .int c, .int e, .int f] m (fun r m' => LI m' ∧ LkR m a b c e f r) := by
  exact CI.mono (s_luck hL.1 (hv_of hL)) (fun r m' h => ⟨LI_fr hL h.1.1 h.1.2.1 h.1.2.2 (by decide +kernel), h.2⟩)
