/-! contracts on a fresh reference: the rest of its public methods -/
set_option maxRecDepth 100000 in
set_option maxHeartbeats 4000000 in
theorem m_roundsY {f : Nat → Nat → Int32} {g : Nat → Nat → Int64} {c : Nat × Nat} (w : Int32) (k : Int32) (d : Int32) (h : ZM f) (ha : asked w k d) : CI 6 mX7_rounds [.ref 1175, .int w, .int k, .int d] (f, g, c) (fun r m' => r = 0) := by
  obtain ⟨⟨z2, z3, z4, z5, z6, z7⟩, z37, z38, z39, z40⟩ := h
  refine At.gs okX7_rounds 300 ?_
  repeat' ((conv => whnf); first | (refine And.intro rfl (At.ls okX7_rounds 300 ⟨_, _, rfl⟩ ?_)) | (refine And.intro ?_ ?_; (focus (intro h; exfalso; simp [gI, gJ, sI, sJ, vp_in] at h; done)); intro _) | (refine And.intro ?_ ?_; rotate_left; (focus (intro h; exfalso; simp [gI, gJ, sI, sJ, vp_in] at h; done)); intro _) | (refine And.intro (show vp_in _ _ from ?_) ?_; (focus (simp [gI, gJ, sI, sJ, vp_in]; done))) | (refine And.intro (show _ ∨ _ from ?_) ?_; (focus (simp [gI, gJ, sI, sJ, vp_in]; done))) | (refine And.intro (show ¬ _ from ?_) ?_; (focus (simp [gI, gJ, sI, sJ, vp_in]; done))) | (refine ⟨1, (by decide), _, m_isAskedY _ _ _ ha, ?_⟩; rintro _ _ ⟨rfl, rfl⟩) | (dsimp only [sI_c, sJ_c, sNw_c, sSp_c]))
  (refine ⟨2, (by decide), _, m_seeksNow _ _ _ ?_, ?_⟩; (focus (simp [gI, sI, z2, z3, z4, z5, z6, z7, z37, z38, z39, z40]; done)); rintro _ ⟨f1, rfl, s47, s42, hS⟩; have y3 := (hS 3 (by decide)).trans z3; have y4 := (hS 4 (by decide)).trans z4; have y5 := (hS 5 (by decide)).trans z5; have y6 := (hS 6 (by decide)).trans z6; have y40 := (hS 40 (by decide)).trans z40)
  repeat' ((conv => whnf); first | (refine And.intro rfl (At.ls okX7_rounds 300 ⟨_, _, rfl⟩ ?_)) | (refine And.intro ?_ ?_; (focus (intro h; exfalso; simp [gI, gJ, sI, sJ, vp_in, s47, s42, y3, y4, y5, y6, y40] at h; done)); intro _) | (refine And.intro ?_ ?_; rotate_left; (focus (intro h; exfalso; simp [gI, gJ, sI, sJ, vp_in, s47, s42, y3, y4, y5, y6, y40] at h; done)); intro _) | (refine And.intro (show vp_in _ _ from ?_) ?_; (focus (simp [gI, gJ, sI, sJ, vp_in, s47, s42, y3, y4, y5, y6, y40]; done))) | (refine And.intro (show _ ∨ _ from ?_) ?_; (focus (simp [gI, gJ, sI, sJ, vp_in, s47, s42, y3, y4, y5, y6, y40]; done))) | (refine And.intro (show ¬ _ from ?_) ?_; (focus (simp [gI, gJ, sI, sJ, vp_in, s47, s42, y3, y4, y5, y6, y40]; done))) | (dsimp only [sI_c, sJ_c, sNw_c, sSp_c]))
  all_goals (conv => whnf)
  all_goals (first | (with_reducible rfl) | (simp_all [gI, sI]; done) | rfl)
set_option maxRecDepth 100000 in
set_option maxHeartbeats 4000000 in
theorem m_roundsN {f : Nat → Nat → Int32} {g : Nat → Nat → Int64} {c : Nat × Nat} (w : Int32) (k : Int32) (d : Int32) (h : ZM f) (hN : ¬ ((asked w k d))) : CI 6 mX7_rounds [.ref 1175, .int w, .int k, .int d] (f, g, c) (fun r m' => r = -1) := by
  obtain ⟨⟨z2, z3, z4, z5, z6, z7⟩, z37, z38, z39, z40⟩ := h
  by_cases ha : asked w k d
  · exact absurd ha hN
  · refine At.gs okX7_rounds 300 ?_
    repeat' ((conv => whnf); first | (refine And.intro rfl (At.ls okX7_rounds 300 ⟨_, _, rfl⟩ ?_)) | (refine And.intro ?_ ?_; (focus (intro h; exfalso; simp [gI, gJ, sI, sJ, vp_in] at h; done)); intro _) | (refine And.intro ?_ ?_; rotate_left; (focus (intro h; exfalso; simp [gI, gJ, sI, sJ, vp_in] at h; done)); intro _) | (refine And.intro (show vp_in _ _ from ?_) ?_; (focus (simp [gI, gJ, sI, sJ, vp_in]; done))) | (refine And.intro (show _ ∨ _ from ?_) ?_; (focus (simp [gI, gJ, sI, sJ, vp_in]; done))) | (refine And.intro (show ¬ _ from ?_) ?_; (focus (simp [gI, gJ, sI, sJ, vp_in]; done))) | (refine ⟨1, (by decide), _, m_isAskedN _ _ _ ha, ?_⟩; rintro _ _ ⟨rfl, rfl⟩) | (dsimp only [sI_c, sJ_c, sNw_c, sSp_c]) | (refine And.intro ?_ ?_ <;> intro h))
    all_goals (conv => whnf)
    all_goals rfl
set_option maxRecDepth 100000 in
set_option maxHeartbeats 4000000 in
theorem m_takesY {f : Nat → Nat → Int32} {g : Nat → Nat → Int64} {c : Nat × Nat} (w : Int32) (k : Int32) (d : Int32) (h : ZM f) (ha : asked w k d) : CJ 6 mX7_takes [.ref 1175, .int w, .int k, .int d] (f, g, c) (fun r m' => r = 0) := by
  obtain ⟨⟨z2, z3, z4, z5, z6, z7⟩, z37, z38, z39, z40⟩ := h
  refine At.gs okX7_takes 300 ?_
  repeat' ((conv => whnf); first | (refine And.intro rfl (At.ls okX7_takes 300 ⟨_, _, rfl⟩ ?_)) | (refine And.intro ?_ ?_; (focus (intro h; exfalso; simp [gI, gJ, sI, sJ, vp_in] at h; done)); intro _) | (refine And.intro ?_ ?_; rotate_left; (focus (intro h; exfalso; simp [gI, gJ, sI, sJ, vp_in] at h; done)); intro _) | (refine And.intro (show vp_in _ _ from ?_) ?_; (focus (simp [gI, gJ, sI, sJ, vp_in]; done))) | (refine And.intro (show _ ∨ _ from ?_) ?_; (focus (simp [gI, gJ, sI, sJ, vp_in]; done))) | (refine And.intro (show ¬ _ from ?_) ?_; (focus (simp [gI, gJ, sI, sJ, vp_in]; done))) | (refine ⟨1, (by decide), _, m_isAskedY _ _ _ ha, ?_⟩; rintro _ _ ⟨rfl, rfl⟩) | (dsimp only [sI_c, sJ_c, sNw_c, sSp_c]))
  (refine ⟨2, (by decide), _, m_seeksNow _ _ _ ?_, ?_⟩; (focus (simp [gI, sI, z2, z3, z4, z5, z6, z7, z37, z38, z39, z40]; done)); rintro _ ⟨f1, rfl, s47, s42, hS⟩; have y3 := (hS 3 (by decide)).trans z3; have y4 := (hS 4 (by decide)).trans z4; have y5 := (hS 5 (by decide)).trans z5; have y6 := (hS 6 (by decide)).trans z6; have y40 := (hS 40 (by decide)).trans z40)
  repeat' ((conv => whnf); first | (refine And.intro rfl (At.ls okX7_takes 300 ⟨_, _, rfl⟩ ?_)) | (refine And.intro ?_ ?_; (focus (intro h; exfalso; simp [gI, gJ, sI, sJ, vp_in, s47, s42, y3, y4, y5, y6, y40] at h; done)); intro _) | (refine And.intro ?_ ?_; rotate_left; (focus (intro h; exfalso; simp [gI, gJ, sI, sJ, vp_in, s47, s42, y3, y4, y5, y6, y40] at h; done)); intro _) | (refine And.intro (show vp_in _ _ from ?_) ?_; (focus (simp [gI, gJ, sI, sJ, vp_in, s47, s42, y3, y4, y5, y6, y40]; done))) | (refine And.intro (show _ ∨ _ from ?_) ?_; (focus (simp [gI, gJ, sI, sJ, vp_in, s47, s42, y3, y4, y5, y6, y40]; done))) | (refine And.intro (show ¬ _ from ?_) ?_; (focus (simp [gI, gJ, sI, sJ, vp_in, s47, s42, y3, y4, y5, y6, y40]; done))) | (refine ⟨1, (by decide), _, m_allTakes _ _ _ s42, ?_⟩; rintro _ _ ⟨rfl, rfl⟩) | (dsimp only [sI_c, sJ_c, sNw_c, sSp_c]))
  all_goals (conv => whnf)
  all_goals (first | (with_reducible rfl) | (simp_all [gI, sI]; done) | rfl)
set_option maxRecDepth 100000 in
set_option maxHeartbeats 4000000 in
theorem m_takesN {f : Nat → Nat → Int32} {g : Nat → Nat → Int64} {c : Nat × Nat} (w : Int32) (k : Int32) (d : Int32) (h : ZM f) (hN : ¬ ((asked w k d))) : CJ 6 mX7_takes [.ref 1175, .int w, .int k, .int d] (f, g, c) (fun r m' => r = -1) := by
  obtain ⟨⟨z2, z3, z4, z5, z6, z7⟩, z37, z38, z39, z40⟩ := h
  by_cases ha : asked w k d
  · exact absurd ha hN
  · refine At.gs okX7_takes 300 ?_
    repeat' ((conv => whnf); first | (refine And.intro rfl (At.ls okX7_takes 300 ⟨_, _, rfl⟩ ?_)) | (refine And.intro ?_ ?_; (focus (intro h; exfalso; simp [gI, gJ, sI, sJ, vp_in] at h; done)); intro _) | (refine And.intro ?_ ?_; rotate_left; (focus (intro h; exfalso; simp [gI, gJ, sI, sJ, vp_in] at h; done)); intro _) | (refine And.intro (show vp_in _ _ from ?_) ?_; (focus (simp [gI, gJ, sI, sJ, vp_in]; done))) | (refine And.intro (show _ ∨ _ from ?_) ?_; (focus (simp [gI, gJ, sI, sJ, vp_in]; done))) | (refine And.intro (show ¬ _ from ?_) ?_; (focus (simp [gI, gJ, sI, sJ, vp_in]; done))) | (refine ⟨1, (by decide), _, m_isAskedN _ _ _ ha, ?_⟩; rintro _ _ ⟨rfl, rfl⟩) | (dsimp only [sI_c, sJ_c, sNw_c, sSp_c]) | (refine And.intro ?_ ?_ <;> intro h))
    all_goals (conv => whnf)
    all_goals rfl
set_option maxRecDepth 100000 in
set_option maxHeartbeats 4000000 in
theorem m_knewY {f : Nat → Nat → Int32} {g : Nat → Nat → Int64} {c : Nat × Nat} (sg : Int32) (w : Int32) (k : Int32) (d : Int32) (wh : Int32) (h : ZM f) (c1 : 1 ≤ sg ∧ sg ≤ 15) (c2 : 0 ≤ wh ∧ wh ≤ 1) (ha : asked w k d) : CI 6 mX7_knew [.ref 1175, .int sg, .int w, .int k, .int d, .int wh] (f, g, c) (fun r m' => r = 0) := by
  obtain ⟨⟨z2, z3, z4, z5, z6, z7⟩, z37, z38, z39, z40⟩ := h
  have c1a := c1.1
  have c1b := c1.2
  have c1c := Int32.not_lt.mpr c1.1
  have c1d := Int32.not_lt.mpr c1.2
  have c2a := c2.1
  have c2b := c2.2
  have c2c := Int32.not_lt.mpr c2.1
  have c2d := Int32.not_lt.mpr c2.2
  refine At.gs okX7_knew 300 ?_
  repeat' ((conv => whnf); first | (refine And.intro rfl (At.ls okX7_knew 300 ⟨_, _, rfl⟩ ?_)) | (refine And.intro ?_ ?_; (focus (intro h; exfalso; simp [gI, gJ, sI, sJ, vp_in, c1a, c1b, c1c, c1d, c2a, c2b, c2c, c2d] at h; done)); intro _) | (refine And.intro ?_ ?_; rotate_left; (focus (intro h; exfalso; simp [gI, gJ, sI, sJ, vp_in, c1a, c1b, c1c, c1d, c2a, c2b, c2c, c2d] at h; done)); intro _) | (refine And.intro (show vp_in _ _ from ?_) ?_; (focus (simp [gI, gJ, sI, sJ, vp_in, c1a, c1b, c1c, c1d, c2a, c2b, c2c, c2d]; done))) | (refine And.intro (show _ ∨ _ from ?_) ?_; (focus (simp [gI, gJ, sI, sJ, vp_in, c1a, c1b, c1c, c1d, c2a, c2b, c2c, c2d]; done))) | (refine And.intro (show ¬ _ from ?_) ?_; (focus (simp [gI, gJ, sI, sJ, vp_in, c1a, c1b, c1c, c1d, c2a, c2b, c2c, c2d]; done))) | (refine ⟨1, (by decide), _, m_isAskedY _ _ _ ha, ?_⟩; rintro _ _ ⟨rfl, rfl⟩) | (dsimp only [sI_c, sJ_c, sNw_c, sSp_c]))
  (refine ⟨2, (by decide), _, m_seeksNow _ _ _ ?_, ?_⟩; (focus (simp [gI, sI, z2, z3, z4, z5, z6, z7, z37, z38, z39, z40]; done)); rintro _ ⟨f1, rfl, s47, s42, hS⟩; have y3 := (hS 3 (by decide)).trans z3; have y4 := (hS 4 (by decide)).trans z4; have y5 := (hS 5 (by decide)).trans z5; have y6 := (hS 6 (by decide)).trans z6; have y40 := (hS 40 (by decide)).trans z40)
  repeat' ((conv => whnf); first | (refine And.intro rfl (At.ls okX7_knew 300 ⟨_, _, rfl⟩ ?_)) | (refine And.intro ?_ ?_; (focus (intro h; exfalso; simp [gI, gJ, sI, sJ, vp_in, c1a, c1b, c1c, c1d, c2a, c2b, c2c, c2d, s47, s42, y3, y4, y5, y6, y40] at h; done)); intro _) | (refine And.intro ?_ ?_; rotate_left; (focus (intro h; exfalso; simp [gI, gJ, sI, sJ, vp_in, c1a, c1b, c1c, c1d, c2a, c2b, c2c, c2d, s47, s42, y3, y4, y5, y6, y40] at h; done)); intro _) | (refine And.intro (show vp_in _ _ from ?_) ?_; (focus (simp [gI, gJ, sI, sJ, vp_in, c1a, c1b, c1c, c1d, c2a, c2b, c2c, c2d, s47, s42, y3, y4, y5, y6, y40]; done))) | (refine And.intro (show _ ∨ _ from ?_) ?_; (focus (simp [gI, gJ, sI, sJ, vp_in, c1a, c1b, c1c, c1d, c2a, c2b, c2c, c2d, s47, s42, y3, y4, y5, y6, y40]; done))) | (refine And.intro (show ¬ _ from ?_) ?_; (focus (simp [gI, gJ, sI, sJ, vp_in, c1a, c1b, c1c, c1d, c2a, c2b, c2c, c2d, s47, s42, y3, y4, y5, y6, y40]; done))) | (refine ⟨1, (by decide), _, m_parties y5, ?_⟩; rintro _ rfl) | (dsimp only [sI_c, sJ_c, sNw_c, sSp_c]))
  all_goals (conv => whnf)
  all_goals (first | (with_reducible rfl) | (simp_all [gI, sI]; done) | rfl)
set_option maxRecDepth 100000 in
set_option maxHeartbeats 4000000 in
theorem m_knewN {f : Nat → Nat → Int32} {g : Nat → Nat → Int64} {c : Nat × Nat} (sg : Int32) (w : Int32) (k : Int32) (d : Int32) (wh : Int32) (h : ZM f) (hN : ¬ ((1 ≤ sg ∧ sg ≤ 15) ∧ (0 ≤ wh ∧ wh ≤ 1) ∧ (asked w k d))) : CI 6 mX7_knew [.ref 1175, .int sg, .int w, .int k, .int d, .int wh] (f, g, c) (fun r m' => r = -1) := by
  obtain ⟨⟨z2, z3, z4, z5, z6, z7⟩, z37, z38, z39, z40⟩ := h
  by_cases ha : asked w k d
  · have hM : ¬ ((1 ≤ sg ∧ sg ≤ 15) ∧ (0 ≤ wh ∧ wh ≤ 1)) := fun q => hN ⟨q.1, q.2, ha⟩
    clear hN
    refine At.gs okX7_knew 300 ?_
    repeat' ((conv => whnf); first | (refine And.intro rfl (At.ls okX7_knew 300 ⟨_, _, rfl⟩ ?_)) | (refine And.intro ?_ ?_; (focus (intro h; exfalso; simp [gI, gJ, sI, sJ, vp_in] at h; done)); intro _) | (refine And.intro ?_ ?_; rotate_left; (focus (intro h; exfalso; simp [gI, gJ, sI, sJ, vp_in] at h; done)); intro _) | (refine And.intro (show vp_in _ _ from ?_) ?_; (focus (simp [gI, gJ, sI, sJ, vp_in]; done))) | (refine And.intro (show _ ∨ _ from ?_) ?_; (focus (simp [gI, gJ, sI, sJ, vp_in]; done))) | (refine And.intro (show ¬ _ from ?_) ?_; (focus (simp [gI, gJ, sI, sJ, vp_in]; done))) | (refine ⟨1, (by decide), _, m_isAskedY _ _ _ ha, ?_⟩; rintro _ _ ⟨rfl, rfl⟩) | (dsimp only [sI_c, sJ_c, sNw_c, sSp_c]) | (refine And.intro ?_ ?_ <;> intro h))
    all_goals (conv => whnf)
    all_goals (first | (with_reducible rfl) | (exfalso; apply hM; simp only [Int32.le_iff_toInt_le, Int32.lt_iff_toInt_lt] at *; omega))
  · refine At.gs okX7_knew 300 ?_
    repeat' ((conv => whnf); first | (refine And.intro rfl (At.ls okX7_knew 300 ⟨_, _, rfl⟩ ?_)) | (refine And.intro ?_ ?_; (focus (intro h; exfalso; simp [gI, gJ, sI, sJ, vp_in] at h; done)); intro _) | (refine And.intro ?_ ?_; rotate_left; (focus (intro h; exfalso; simp [gI, gJ, sI, sJ, vp_in] at h; done)); intro _) | (refine And.intro (show vp_in _ _ from ?_) ?_; (focus (simp [gI, gJ, sI, sJ, vp_in]; done))) | (refine And.intro (show _ ∨ _ from ?_) ?_; (focus (simp [gI, gJ, sI, sJ, vp_in]; done))) | (refine And.intro (show ¬ _ from ?_) ?_; (focus (simp [gI, gJ, sI, sJ, vp_in]; done))) | (refine ⟨1, (by decide), _, m_isAskedN _ _ _ ha, ?_⟩; rintro _ _ ⟨rfl, rfl⟩) | (dsimp only [sI_c, sJ_c, sNw_c, sSp_c]) | (refine And.intro ?_ ?_ <;> intro h))
    all_goals (conv => whnf)
    all_goals rfl
set_option maxRecDepth 100000 in
set_option maxHeartbeats 4000000 in
theorem m_thrown {f : Nat → Nat → Int32} {g : Nat → Nat → Int64} {c : Nat × Nat}  (h : ZM f)  : CI 6 mX7_thrown [.ref 1175] (f, g, c) (fun r m' => r = f 1175 0) := by
  obtain ⟨⟨z2, z3, z4, z5, z6, z7⟩, z37, z38, z39, z40⟩ := h
  refine At.gs okX7_thrown 300 ?_
  repeat' ((conv => whnf); first | (refine And.intro rfl (At.ls okX7_thrown 300 ⟨_, _, rfl⟩ ?_)) | (refine And.intro ?_ ?_; (focus (intro h; exfalso; simp [gI, gJ, sI, sJ, vp_in, z2, z3, z4, z5, z6, z7, z37, z38, z39, z40] at h; done)); intro _) | (refine And.intro ?_ ?_; rotate_left; (focus (intro h; exfalso; simp [gI, gJ, sI, sJ, vp_in, z2, z3, z4, z5, z6, z7, z37, z38, z39, z40] at h; done)); intro _) | (refine And.intro (show vp_in _ _ from ?_) ?_; (focus (simp [gI, gJ, sI, sJ, vp_in, z2, z3, z4, z5, z6, z7, z37, z38, z39, z40]; done))) | (refine And.intro (show _ ∨ _ from ?_) ?_; (focus (simp [gI, gJ, sI, sJ, vp_in, z2, z3, z4, z5, z6, z7, z37, z38, z39, z40]; done))) | (refine And.intro (show ¬ _ from ?_) ?_; (focus (simp [gI, gJ, sI, sJ, vp_in, z2, z3, z4, z5, z6, z7, z37, z38, z39, z40]; done))) | (dsimp only [sI_c, sJ_c, sNw_c, sSp_c]))
  all_goals (conv => whnf)
  all_goals (first | (with_reducible rfl) | (simp_all [gI, sI]; done) | rfl)
set_option maxRecDepth 100000 in
set_option maxHeartbeats 4000000 in
theorem m_book {f : Nat → Nat → Int32} {g : Nat → Nat → Int64} {c : Nat × Nat} (n : Int32) (h : ZM f) : CI 6 mX7_book [.ref 1175, .int n] (f, g, c) (fun r m' => r = (if n = 0 then 0 else -2)) := by
  obtain ⟨⟨z2, z3, z4, z5, z6, z7⟩, z37, z38, z39, z40⟩ := h
  by_cases hn : n = 0
  · subst hn
    refine At.gs okX7_book 300 ?_
    repeat' ((conv => whnf); first | (refine And.intro rfl (At.ls okX7_book 300 ⟨_, _, rfl⟩ ?_)) | (refine And.intro ?_ ?_; (focus (intro h; exfalso; simp [gI, gJ, sI, sJ, vp_in, z2, z3, z4, z5, z6, z7, z37, z38, z39, z40] at h; done)); intro _) | (refine And.intro ?_ ?_; rotate_left; (focus (intro h; exfalso; simp [gI, gJ, sI, sJ, vp_in, z2, z3, z4, z5, z6, z7, z37, z38, z39, z40] at h; done)); intro _) | (refine And.intro (show vp_in _ _ from ?_) ?_; (focus (simp [gI, gJ, sI, sJ, vp_in, z2, z3, z4, z5, z6, z7, z37, z38, z39, z40]; done))) | (refine And.intro (show _ ∨ _ from ?_) ?_; (focus (simp [gI, gJ, sI, sJ, vp_in, z2, z3, z4, z5, z6, z7, z37, z38, z39, z40]; done))) | (refine And.intro (show ¬ _ from ?_) ?_; (focus (simp [gI, gJ, sI, sJ, vp_in, z2, z3, z4, z5, z6, z7, z37, z38, z39, z40]; done))) | (dsimp only [sI_c, sJ_c, sNw_c, sSp_c]))
    (refine ⟨2, (by decide), _, m_next ?_ ?_, ?_⟩; (focus (simp [gI, sI, z2, z3, z4, z5, z6, z7, z37, z38, z39, z40]; done)); (focus (simp [gI, sI, z2, z3, z4, z5, z6, z7, z37, z38, z39, z40]; done)); rintro _ ⟨f1, rfl, s33, hS⟩; have y35 : f1 1175 35 = 0 := hS 35 (by decide) (by decide); have y29 : f1 1175 29 = 0 := hS 29 (by decide) (by decide))
    repeat' ((conv => whnf); first | (refine And.intro rfl (At.ls okX7_book 300 ⟨_, _, rfl⟩ ?_)) | (refine And.intro ?_ ?_; (focus (intro h; exfalso; simp [gI, gJ, sI, sJ, vp_in, s33, y35] at h; done)); intro _) | (refine And.intro ?_ ?_; rotate_left; (focus (intro h; exfalso; simp [gI, gJ, sI, sJ, vp_in, s33, y35] at h; done)); intro _) | (refine And.intro (show vp_in _ _ from ?_) ?_; (focus (simp [gI, gJ, sI, sJ, vp_in, s33, y35]; done))) | (refine And.intro (show _ ∨ _ from ?_) ?_; (focus (simp [gI, gJ, sI, sJ, vp_in, s33, y35]; done))) | (refine And.intro (show ¬ _ from ?_) ?_; (focus (simp [gI, gJ, sI, sJ, vp_in, s33, y35]; done))) | (refine ⟨1, (by decide), _, m_lays, ?_⟩; rintro _ hl) | (dsimp only [sI_c, sJ_c, sNw_c, sSp_c]))
    conv => whnf
    rw [hl]
    simp [sI, y29]
  · refine At.gs okX7_book 300 ?_
    repeat' ((conv => whnf); first | (refine And.intro rfl (At.ls okX7_book 300 ⟨_, _, rfl⟩ ?_)) | (refine And.intro ?_ ?_; (focus (intro h; exfalso; simp [gI, gJ, sI, sJ, vp_in, z2, z3, z4, z5, z6, z7, z37, z38, z39, z40] at h; done)); intro _) | (refine And.intro ?_ ?_; rotate_left; (focus (intro h; exfalso; simp [gI, gJ, sI, sJ, vp_in, z2, z3, z4, z5, z6, z7, z37, z38, z39, z40] at h; done)); intro _) | (refine And.intro (show vp_in _ _ from ?_) ?_; (focus (simp [gI, gJ, sI, sJ, vp_in, z2, z3, z4, z5, z6, z7, z37, z38, z39, z40]; done))) | (refine And.intro (show _ ∨ _ from ?_) ?_; (focus (simp [gI, gJ, sI, sJ, vp_in, z2, z3, z4, z5, z6, z7, z37, z38, z39, z40]; done))) | (refine And.intro (show ¬ _ from ?_) ?_; (focus (simp [gI, gJ, sI, sJ, vp_in, z2, z3, z4, z5, z6, z7, z37, z38, z39, z40]; done))) | (dsimp only [sI_c, sJ_c, sNw_c, sSp_c]))
    refine And.intro ?_ ?_
    · intro _
      conv => whnf
      rw [if_neg hn]
    · intro q
      conv => whnf
      refine And.intro ?_ ?_
      · intro q2
        exfalso
        apply hn
        have q2 : n ≤ 0 := by rw [← z2]; exact q2
        rw [Int32.lt_iff_toInt_lt] at q
        rw [Int32.le_iff_toInt_le] at q2
        apply Int32.toInt_inj.mp
        have e : (0 : Int32).toInt = 0 := rfl
        omega
      · intro _
        conv => whnf
        rw [if_neg hn]
set_option maxRecDepth 100000 in
set_option maxHeartbeats 4000000 in
theorem m_look {f : Nat → Nat → Int32} {g : Nat → Nat → Int64} {c : Nat × Nat} (s wh : Int32) (h : ZM f) : CI 6 mX7_look [.ref 1175, .int s, .int wh] (f, g, c) (fun r m' => ∃ f' g' c', m' = (f', g', c') ∧ f' 1175 0 = 1) := by
  obtain ⟨⟨z2, z3, z4, z5, z6, z7⟩, z37, z38, z39, z40⟩ := h
  refine At.gs okX7_look 300 ?_
  repeat' ((conv => whnf); first | (refine And.intro rfl (At.ls okX7_look 300 ⟨_, _, rfl⟩ ?_)) | (refine And.intro ?_ ?_; (focus (intro h; exfalso; simp [gI, gJ, sI, sJ, vp_in, z2, z3, z4, z5, z6, z7, z37, z38, z39, z40] at h; done)); intro _) | (refine And.intro ?_ ?_; rotate_left; (focus (intro h; exfalso; simp [gI, gJ, sI, sJ, vp_in, z2, z3, z4, z5, z6, z7, z37, z38, z39, z40] at h; done)); intro _) | (refine And.intro (show vp_in _ _ from ?_) ?_; (focus (simp [gI, gJ, sI, sJ, vp_in, z2, z3, z4, z5, z6, z7, z37, z38, z39, z40]; done))) | (refine And.intro (show _ ∨ _ from ?_) ?_; (focus (simp [gI, gJ, sI, sJ, vp_in, z2, z3, z4, z5, z6, z7, z37, z38, z39, z40]; done))) | (refine And.intro (show ¬ _ from ?_) ?_; (focus (simp [gI, gJ, sI, sJ, vp_in, z2, z3, z4, z5, z6, z7, z37, z38, z39, z40]; done))) | (refine ⟨1, (by decide), _, m_isSale _ ?_, ?_⟩; (focus (simp [gI, sI, z2, z3, z4, z5, z6, z7, z37, z38, z39, z40]; done)); rintro _ _ ⟨rfl, rfl⟩) | (dsimp only [sI_c, sJ_c, sNw_c, sSp_c]))
  exact ⟨_, _, _, rfl, by simp [sI]⟩
set_option maxRecDepth 100000 in
set_option maxHeartbeats 4000000 in
theorem m_stop {f : Nat → Nat → Int32} {g : Nat → Nat → Int64} {c : Nat × Nat} (b : Int32) (h : ZM f) : CI 6 mX7_stop [.ref 1175, .int b] (f, g, c) (fun r m' => r = (if b = 0 then 0 else -1)) := by
  obtain ⟨⟨z2, z3, z4, z5, z6, z7⟩, z37, z38, z39, z40⟩ := h
  have e1 : (1 : Int32) <<< ((0 : Int32) &&& 31) = 1 := by decide
  by_cases hb : b = 0
  · subst hb
    refine At.gs okX7_stop 300 ?_
    repeat' ((conv => whnf); first | (refine And.intro rfl (At.ls okX7_stop 300 ⟨_, _, rfl⟩ ?_)) | (refine And.intro ?_ ?_; (focus (intro h; exfalso; simp [gI, gJ, sI, sJ, vp_in, z2, z3, z4, z5, z6, z7, z37, z38, z39, z40, e1] at h; done)); intro _) | (refine And.intro ?_ ?_; rotate_left; (focus (intro h; exfalso; simp [gI, gJ, sI, sJ, vp_in, z2, z3, z4, z5, z6, z7, z37, z38, z39, z40, e1] at h; done)); intro _) | (refine And.intro (show vp_in _ _ from ?_) ?_; (focus (simp [gI, gJ, sI, sJ, vp_in, z2, z3, z4, z5, z6, z7, z37, z38, z39, z40, e1]; done))) | (refine And.intro (show _ ∨ _ from ?_) ?_; (focus (simp [gI, gJ, sI, sJ, vp_in, z2, z3, z4, z5, z6, z7, z37, z38, z39, z40, e1]; done))) | (refine And.intro (show ¬ _ from ?_) ?_; (focus (simp [gI, gJ, sI, sJ, vp_in, z2, z3, z4, z5, z6, z7, z37, z38, z39, z40, e1]; done))) | (refine ⟨1, (by decide), _, m_bits _ rfl, ?_⟩; rintro _ _ ⟨rfl, rfl⟩) | (dsimp only [sI_c, sJ_c, sNw_c, sSp_c]))
    rfl
  · refine At.gs okX7_stop 300 ?_
    repeat' ((conv => whnf); first | (refine And.intro rfl (At.ls okX7_stop 300 ⟨_, _, rfl⟩ ?_)) | (refine And.intro ?_ ?_; (focus (intro h; exfalso; simp [gI, gJ, sI, sJ, vp_in] at h; done)); intro _) | (refine And.intro ?_ ?_; rotate_left; (focus (intro h; exfalso; simp [gI, gJ, sI, sJ, vp_in] at h; done)); intro _) | (refine And.intro (show vp_in _ _ from ?_) ?_; (focus (simp [gI, gJ, sI, sJ, vp_in]; done))) | (refine And.intro (show _ ∨ _ from ?_) ?_; (focus (simp [gI, gJ, sI, sJ, vp_in]; done))) | (refine And.intro (show ¬ _ from ?_) ?_; (focus (simp [gI, gJ, sI, sJ, vp_in]; done))) | (dsimp only [sI_c, sJ_c, sNw_c, sSp_c]) | (refine And.intro ?_ ?_ <;> intro h))
    all_goals (conv => whnf)
    all_goals (first | (rw [if_neg hb]; done) | (exfalso; apply hb; simp [gI, sI, z3, z5, e1] at *; apply Int32.toInt_inj.mp; simp only [Int32.lt_iff_toInt_lt, Int32.le_iff_toInt_le] at *; simp at *; omega))
set_option maxRecDepth 100000 in
set_option maxHeartbeats 4000000 in
theorem m_rule {f : Nat → Nat → Int32} {g : Nat → Nat → Int64} {c : Nat × Nat} (b : Int32) (h : ZM f) : CI 6 mX7_rule [.ref 1175, .int b] (f, g, c) (fun r m' => r = (if b = 0 then 0 else -1)) := by
  obtain ⟨⟨z2, z3, z4, z5, z6, z7⟩, z37, z38, z39, z40⟩ := h
  have e1 : (1 : Int32) <<< ((0 : Int32) &&& 31) = 1 := by decide
  by_cases hb : b = 0
  · subst hb
    refine At.gs okX7_rule 300 ?_
    repeat' ((conv => whnf); first | (refine And.intro rfl (At.ls okX7_rule 300 ⟨_, _, rfl⟩ ?_)) | (refine And.intro ?_ ?_; (focus (intro h; exfalso; simp [gI, gJ, sI, sJ, vp_in, z2, z3, z4, z5, z6, z7, z37, z38, z39, z40, e1] at h; done)); intro _) | (refine And.intro ?_ ?_; rotate_left; (focus (intro h; exfalso; simp [gI, gJ, sI, sJ, vp_in, z2, z3, z4, z5, z6, z7, z37, z38, z39, z40, e1] at h; done)); intro _) | (refine And.intro (show vp_in _ _ from ?_) ?_; (focus (simp [gI, gJ, sI, sJ, vp_in, z2, z3, z4, z5, z6, z7, z37, z38, z39, z40, e1]; done))) | (refine And.intro (show _ ∨ _ from ?_) ?_; (focus (simp [gI, gJ, sI, sJ, vp_in, z2, z3, z4, z5, z6, z7, z37, z38, z39, z40, e1]; done))) | (refine And.intro (show ¬ _ from ?_) ?_; (focus (simp [gI, gJ, sI, sJ, vp_in, z2, z3, z4, z5, z6, z7, z37, z38, z39, z40, e1]; done))) | (refine ⟨1, (by decide), _, m_bits _ rfl, ?_⟩; rintro _ _ ⟨rfl, rfl⟩) | (dsimp only [sI_c, sJ_c, sNw_c, sSp_c]))
    rfl
  · refine At.gs okX7_rule 300 ?_
    repeat' ((conv => whnf); first | (refine And.intro rfl (At.ls okX7_rule 300 ⟨_, _, rfl⟩ ?_)) | (refine And.intro ?_ ?_; (focus (intro h; exfalso; simp [gI, gJ, sI, sJ, vp_in] at h; done)); intro _) | (refine And.intro ?_ ?_; rotate_left; (focus (intro h; exfalso; simp [gI, gJ, sI, sJ, vp_in] at h; done)); intro _) | (refine And.intro (show vp_in _ _ from ?_) ?_; (focus (simp [gI, gJ, sI, sJ, vp_in]; done))) | (refine And.intro (show _ ∨ _ from ?_) ?_; (focus (simp [gI, gJ, sI, sJ, vp_in]; done))) | (refine And.intro (show ¬ _ from ?_) ?_; (focus (simp [gI, gJ, sI, sJ, vp_in]; done))) | (dsimp only [sI_c, sJ_c, sNw_c, sSp_c]) | (refine And.intro ?_ ?_ <;> intro h))
    all_goals (conv => whnf)
    all_goals (first | (rw [if_neg hb]; done) | (exfalso; apply hb; simp [gI, sI, z3, z5, e1] at *; apply Int32.toInt_inj.mp; simp only [Int32.lt_iff_toInt_lt, Int32.le_iff_toInt_le] at *; simp at *; omega))
set_option maxRecDepth 100000 in
set_option maxHeartbeats 4000000 in
theorem m_count {f : Nat → Nat → Int32} {g : Nat → Nat → Int64} {c : Nat × Nat} (w : Int32) (h : ZM f) : CI 6 mX7_count [.ref 1175, .int w] (f, g, c) (fun r m' => r = (if 0 ≤ w ∧ w ≤ 7 then 0 else -1)) := by
  obtain ⟨⟨z2, z3, z4, z5, z6, z7⟩, z37, z38, z39, z40⟩ := h
  refine At.gs okX7_count 300 ?_
  repeat' ((conv => whnf); first | (refine And.intro rfl (At.ls okX7_count 300 ⟨_, _, rfl⟩ ?_)) | (refine And.intro ?_ ?_; (focus (intro h; exfalso; simp [gI, gJ, sI, sJ, vp_in, z2, z3, z4, z5, z6, z7, z37, z38, z39, z40] at h; done)); intro _) | (refine And.intro ?_ ?_; rotate_left; (focus (intro h; exfalso; simp [gI, gJ, sI, sJ, vp_in, z2, z3, z4, z5, z6, z7, z37, z38, z39, z40] at h; done)); intro _) | (refine And.intro (show vp_in _ _ from ?_) ?_; (focus (simp [gI, gJ, sI, sJ, vp_in, z2, z3, z4, z5, z6, z7, z37, z38, z39, z40]; done))) | (refine And.intro (show _ ∨ _ from ?_) ?_; (focus (simp [gI, gJ, sI, sJ, vp_in, z2, z3, z4, z5, z6, z7, z37, z38, z39, z40]; done))) | (refine And.intro (show ¬ _ from ?_) ?_; (focus (simp [gI, gJ, sI, sJ, vp_in, z2, z3, z4, z5, z6, z7, z37, z38, z39, z40]; done))) | (refine ⟨1, (by decide), _, m_bits _ ?_, ?_⟩; (focus (simp [gI, sI, z2, z3, z4, z5, z6, z7, z37, z38, z39, z40]; done)); rintro _ _ ⟨rfl, rfl⟩) | (dsimp only [sI_c, sJ_c, sNw_c, sSp_c]) | (refine And.intro ?_ ?_ <;> intro h))
  all_goals (conv => whnf)
  all_goals (first | (subst_vars; simp_all [gI, sI]; done) | (rw [if_neg]; rintro ⟨q1, q2⟩; simp only [Int32.le_iff_toInt_le, ← Int32.toInt_inj] at *; simp at *; omega))
