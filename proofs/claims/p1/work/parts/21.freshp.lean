/-! contracts on a fresh reference: the last ones -/
set_option maxRecDepth 100000 in
set_option maxHeartbeats 4000000 in
theorem m_round {f : Nat → Nat → Int32} {g : Nat → Nat → Int64} {c : Nat × Nat} (w k d i wh : Int32) (h : ZM f) : CI 6 mX7_round [.ref 1175, .int w, .int k, .int d, .int i, .int wh] (f, g, c) (fun r m' => r = -1) := by
  obtain ⟨⟨z2, z3, z4, z5, z6, z7⟩, z37, z38, z39, z40⟩ := h
  by_cases ha : asked w k d
  · by_cases c1 : 0 ≤ wh
    · refine At.gs okX7_round 300 ?_
      repeat' ((conv => whnf); first | (refine And.intro rfl (At.ls okX7_round 300 ⟨_, _, rfl⟩ ?_)) | (refine And.intro ?_ ?_; (focus (intro h; exfalso; simp [gI, gJ, sI, sJ, vp_in, c1] at h; done)); intro _) | (refine And.intro ?_ ?_; rotate_left; (focus (intro h; exfalso; simp [gI, gJ, sI, sJ, vp_in, c1] at h; done)); intro _) | (refine And.intro (show vp_in _ _ from ?_) ?_; (focus (simp [gI, gJ, sI, sJ, vp_in, c1]; done))) | (refine And.intro (show _ ∨ _ from ?_) ?_; (focus (simp [gI, gJ, sI, sJ, vp_in, c1]; done))) | (refine And.intro (show ¬ _ from ?_) ?_; (focus (simp [gI, gJ, sI, sJ, vp_in, c1]; done))) | (refine ⟨1, (by decide), _, m_isAskedY _ _ _ ha, ?_⟩; rintro _ _ ⟨rfl, rfl⟩) | (dsimp only [sI_c, sJ_c, sNw_c, sSp_c]))
      (refine ⟨2, (by decide), _, m_seeksNow _ _ _ ?_, ?_⟩; (focus (simp [gI, sI, z2, z3, z4, z5, z6, z7, z37, z38, z39, z40]; done)); rintro _ ⟨f1, rfl, s47, s42, hS⟩; have y3 := (hS 3 (by decide)).trans z3; have y4 := (hS 4 (by decide)).trans z4; have y5 := (hS 5 (by decide)).trans z5; have y6 := (hS 6 (by decide)).trans z6; have y40 := (hS 40 (by decide)).trans z40)
      repeat' ((conv => whnf); first | (refine And.intro rfl (At.ls okX7_round 300 ⟨_, _, rfl⟩ ?_)) | (refine And.intro ?_ ?_; (focus (intro h; exfalso; simp [gI, gJ, sI, sJ, vp_in, s47, s42, y3, y4, y5, y6, y40, c1] at h; done)); intro _) | (refine And.intro ?_ ?_; rotate_left; (focus (intro h; exfalso; simp [gI, gJ, sI, sJ, vp_in, s47, s42, y3, y4, y5, y6, y40, c1] at h; done)); intro _) | (refine And.intro (show vp_in _ _ from ?_) ?_; (focus (simp [gI, gJ, sI, sJ, vp_in, s47, s42, y3, y4, y5, y6, y40, c1]; done))) | (refine And.intro (show _ ∨ _ from ?_) ?_; (focus (simp [gI, gJ, sI, sJ, vp_in, s47, s42, y3, y4, y5, y6, y40, c1]; done))) | (refine And.intro (show ¬ _ from ?_) ?_; (focus (simp [gI, gJ, sI, sJ, vp_in, s47, s42, y3, y4, y5, y6, y40, c1]; done))) | (dsimp only [sI_c, sJ_c, sNw_c, sSp_c]) | (refine And.intro ?_ ?_ <;> intro h))
      all_goals (conv => whnf)
      all_goals (first | (with_reducible rfl) | (exfalso; simp_all [gI, sI, Int32.lt_iff_toInt_lt, Int32.le_iff_toInt_le]; done) | (exfalso; simp_all [gI, sI, Int32.lt_iff_toInt_lt, Int32.le_iff_toInt_le]; omega))
    · refine At.gs okX7_round 300 ?_
      repeat' ((conv => whnf); first | (refine And.intro rfl (At.ls okX7_round 300 ⟨_, _, rfl⟩ ?_)) | (refine And.intro ?_ ?_; (focus (intro h; exfalso; simp [gI, gJ, sI, sJ, vp_in, c1] at h; done)); intro _) | (refine And.intro ?_ ?_; rotate_left; (focus (intro h; exfalso; simp [gI, gJ, sI, sJ, vp_in, c1] at h; done)); intro _) | (refine And.intro (show vp_in _ _ from ?_) ?_; (focus (simp [gI, gJ, sI, sJ, vp_in, c1]; done))) | (refine And.intro (show _ ∨ _ from ?_) ?_; (focus (simp [gI, gJ, sI, sJ, vp_in, c1]; done))) | (refine And.intro (show ¬ _ from ?_) ?_; (focus (simp [gI, gJ, sI, sJ, vp_in, c1]; done))) | (refine ⟨1, (by decide), _, m_isAskedY _ _ _ ha, ?_⟩; rintro _ _ ⟨rfl, rfl⟩) | (dsimp only [sI_c, sJ_c, sNw_c, sSp_c]))
      rfl
  · refine At.gs okX7_round 300 ?_
    repeat' ((conv => whnf); first | (refine And.intro rfl (At.ls okX7_round 300 ⟨_, _, rfl⟩ ?_)) | (refine And.intro ?_ ?_; (focus (intro h; exfalso; simp [gI, gJ, sI, sJ, vp_in] at h; done)); intro _) | (refine And.intro ?_ ?_; rotate_left; (focus (intro h; exfalso; simp [gI, gJ, sI, sJ, vp_in] at h; done)); intro _) | (refine And.intro (show vp_in _ _ from ?_) ?_; (focus (simp [gI, gJ, sI, sJ, vp_in]; done))) | (refine And.intro (show _ ∨ _ from ?_) ?_; (focus (simp [gI, gJ, sI, sJ, vp_in]; done))) | (refine And.intro (show ¬ _ from ?_) ?_; (focus (simp [gI, gJ, sI, sJ, vp_in]; done))) | (refine ⟨1, (by decide), _, m_isAskedN _ _ _ ha, ?_⟩; rintro _ _ ⟨rfl, rfl⟩) | (dsimp only [sI_c, sJ_c, sNw_c, sSp_c]))
    rfl
set_option maxRecDepth 100000 in
set_option maxHeartbeats 4000000 in
theorem m_judge {f : Nat → Nat → Int32} {g : Nat → Nat → Int64} {c : Nat × Nat} (w n : Int32) (row : Int64) (h : ZM f) : CI 6 mX7_judge [.ref 1175, .int w, .int n, .long row] (f, g, c) (fun r m' => r = -1) := by
  obtain ⟨⟨z2, z3, z4, z5, z6, z7⟩, z37, z38, z39, z40⟩ := h
  by_cases hn : 2 ≤ n
  · have hn0 : ¬ n ≤ 0 := by rw [Int32.le_iff_toInt_le] at hn ⊢; have e2 : (2 : Int32).toInt = 2 := rfl; have e0 : (0 : Int32).toInt = 0 := rfl; omega
    refine At.gs okX7_judge 300 ?_
    repeat' ((conv => whnf); first | (refine And.intro rfl (At.ls okX7_judge 300 ⟨_, _, rfl⟩ ?_)) | (refine And.intro ?_ ?_; (focus (intro h; exfalso; simp [gI, gJ, sI, sJ, vp_in, hn0] at h; done)); intro _) | (refine And.intro ?_ ?_; rotate_left; (focus (intro h; exfalso; simp [gI, gJ, sI, sJ, vp_in, hn0] at h; done)); intro _) | (refine And.intro (show vp_in _ _ from ?_) ?_; (focus (simp [gI, gJ, sI, sJ, vp_in, hn0]; done))) | (refine And.intro (show _ ∨ _ from ?_) ?_; (focus (simp [gI, gJ, sI, sJ, vp_in, hn0]; done))) | (refine And.intro (show ¬ _ from ?_) ?_; (focus (simp [gI, gJ, sI, sJ, vp_in, hn0]; done))) | (refine ⟨1, (by decide), _, m_isSale _ ?_, ?_⟩; (focus (simp [gI, sI, z2, z3, z4, z5, z6, z7, z37, z38, z39, z40]; done)); rintro _ _ ⟨rfl, rfl⟩) | (dsimp only [sI_c, sJ_c, sNw_c, sSp_c]) | (refine And.intro ?_ ?_ <;> intro h))
    all_goals (conv => whnf)
    all_goals rfl
  · have hn1 : n < 2 := Int32.not_le.mp hn
    refine At.gs okX7_judge 300 ?_
    repeat' ((conv => whnf); first | (refine And.intro rfl (At.ls okX7_judge 300 ⟨_, _, rfl⟩ ?_)) | (refine And.intro ?_ ?_; (focus (intro h; exfalso; simp [gI, gJ, sI, sJ, vp_in, hn1] at h; done)); intro _) | (refine And.intro ?_ ?_; rotate_left; (focus (intro h; exfalso; simp [gI, gJ, sI, sJ, vp_in, hn1] at h; done)); intro _) | (refine And.intro (show vp_in _ _ from ?_) ?_; (focus (simp [gI, gJ, sI, sJ, vp_in, hn1]; done))) | (refine And.intro (show _ ∨ _ from ?_) ?_; (focus (simp [gI, gJ, sI, sJ, vp_in, hn1]; done))) | (refine And.intro (show ¬ _ from ?_) ?_; (focus (simp [gI, gJ, sI, sJ, vp_in, hn1]; done))) | (dsimp only [sI_c, sJ_c, sNw_c, sSp_c]) | (refine And.intro ?_ ?_ <;> intro h))
    all_goals (conv => whnf)
    all_goals rfl
set_option maxRecDepth 100000 in
set_option maxHeartbeats 4000000 in
theorem m_fewestY {f : Nat → Nat → Int32} {g : Nat → Nat → Int64} {c : Nat × Nat} (w : Int32) (k : Int32) (d : Int32) (t : Int64) (h : ZM f) (c1 : 0 ≤ lg_cmp t 0) (ha : asked w k d) : CI 6 mX7_fewest [.ref 1175, .int w, .int k, .int d, .long t] (f, g, c) (fun r m' => r = 0) := by
  obtain ⟨⟨z2, z3, z4, z5, z6, z7⟩, z37, z38, z39, z40⟩ := h
  have e1 : (1 : Int32) <<< ((0 : Int32) &&& 31) = 1 := by decide
  have e2 : ¬ 0 < lg_cmp 0 t := by
    unfold lg_cmp at c1 ⊢
    intro hq
    split at hq
    · rename_i q
      have q1 : ¬ t > 0 := by intro q1; have a := Int64.lt_iff_toInt_lt.mp q; have b := Int64.lt_iff_toInt_lt.mp q1; omega
      have q2 : ¬ t = 0 := by intro q2; subst q2; exact absurd q (by decide)
      rw [if_neg q1, if_neg q2] at c1
      exact absurd c1 (by decide)
    · split at hq <;> exact absurd hq (by decide)
  refine At.gs okX7_fewest 300 ?_
  repeat' ((conv => whnf); first | (refine And.intro rfl (At.ls okX7_fewest 300 ⟨_, _, rfl⟩ ?_)) | (refine And.intro ?_ ?_; (focus (intro h; exfalso; simp [gI, gJ, sI, sJ, vp_in, c1] at h; done)); intro _) | (refine And.intro ?_ ?_; rotate_left; (focus (intro h; exfalso; simp [gI, gJ, sI, sJ, vp_in, c1] at h; done)); intro _) | (refine And.intro (show vp_in _ _ from ?_) ?_; (focus (simp [gI, gJ, sI, sJ, vp_in, c1]; done))) | (refine And.intro (show _ ∨ _ from ?_) ?_; (focus (simp [gI, gJ, sI, sJ, vp_in, c1]; done))) | (refine And.intro (show ¬ _ from ?_) ?_; (focus (simp [gI, gJ, sI, sJ, vp_in, c1]; done))) | (refine ⟨1, (by decide), _, m_isAskedY _ _ _ ha, ?_⟩; rintro _ _ ⟨rfl, rfl⟩) | (dsimp only [sI_c, sJ_c, sNw_c, sSp_c]))
  (refine ⟨2, (by decide), _, m_seeksNow _ _ _ ?_, ?_⟩; (focus (simp [gI, sI, z2, z3, z4, z5, z6, z7, z37, z38, z39, z40]; done)); rintro _ ⟨f1, rfl, s47, s42, hS⟩; have y3 := (hS 3 (by decide)).trans z3; have y4 := (hS 4 (by decide)).trans z4; have y5 := (hS 5 (by decide)).trans z5; have y6 := (hS 6 (by decide)).trans z6; have y40 := (hS 40 (by decide)).trans z40)
  repeat' ((conv => whnf); first | (refine And.intro rfl (At.ls okX7_fewest 300 ⟨_, _, rfl⟩ ?_)) | (refine And.intro ?_ ?_; (focus (intro h; exfalso; simp [gI, gJ, sI, sJ, vp_in, c1, s47, s42, y3, y4, y5, y6, y40, e1, e2] at h; done)); intro _) | (refine And.intro ?_ ?_; rotate_left; (focus (intro h; exfalso; simp [gI, gJ, sI, sJ, vp_in, c1, s47, s42, y3, y4, y5, y6, y40, e1, e2] at h; done)); intro _) | (refine And.intro (show vp_in _ _ from ?_) ?_; (focus (simp [gI, gJ, sI, sJ, vp_in, c1, s47, s42, y3, y4, y5, y6, y40, e1, e2]; done))) | (refine And.intro (show _ ∨ _ from ?_) ?_; (focus (simp [gI, gJ, sI, sJ, vp_in, c1, s47, s42, y3, y4, y5, y6, y40, e1, e2]; done))) | (refine And.intro (show ¬ _ from ?_) ?_; (focus (simp [gI, gJ, sI, sJ, vp_in, c1, s47, s42, y3, y4, y5, y6, y40, e1, e2]; done))) | (dsimp only [sI_c, sJ_c, sNw_c, sSp_c]))
  all_goals (conv => whnf)
  all_goals (first | (with_reducible rfl) | rfl | decide)
set_option maxRecDepth 100000 in
set_option maxHeartbeats 4000000 in
theorem m_fewestN {f : Nat → Nat → Int32} {g : Nat → Nat → Int64} {c : Nat × Nat} (w : Int32) (k : Int32) (d : Int32) (t : Int64) (h : ZM f) (hN : ¬ ((0 ≤ lg_cmp t 0) ∧ (asked w k d))) : CI 6 mX7_fewest [.ref 1175, .int w, .int k, .int d, .long t] (f, g, c) (fun r m' => r = -1) := by
  obtain ⟨⟨z2, z3, z4, z5, z6, z7⟩, z37, z38, z39, z40⟩ := h
  by_cases ha : asked w k d
  · have hM : ¬ ((0 ≤ lg_cmp t 0)) := fun q => hN ⟨q, ha⟩
    clear hN
    refine At.gs okX7_fewest 300 ?_
    repeat' ((conv => whnf); first | (refine And.intro rfl (At.ls okX7_fewest 300 ⟨_, _, rfl⟩ ?_)) | (refine And.intro ?_ ?_; (focus (intro h; exfalso; simp [gI, gJ, sI, sJ, vp_in] at h; done)); intro _) | (refine And.intro ?_ ?_; rotate_left; (focus (intro h; exfalso; simp [gI, gJ, sI, sJ, vp_in] at h; done)); intro _) | (refine And.intro (show vp_in _ _ from ?_) ?_; (focus (simp [gI, gJ, sI, sJ, vp_in]; done))) | (refine And.intro (show _ ∨ _ from ?_) ?_; (focus (simp [gI, gJ, sI, sJ, vp_in]; done))) | (refine And.intro (show ¬ _ from ?_) ?_; (focus (simp [gI, gJ, sI, sJ, vp_in]; done))) | (refine ⟨1, (by decide), _, m_isAskedY _ _ _ ha, ?_⟩; rintro _ _ ⟨rfl, rfl⟩) | (dsimp only [sI_c, sJ_c, sNw_c, sSp_c]) | (refine And.intro ?_ ?_ <;> intro h))
    all_goals (conv => whnf)
    all_goals (first | (with_reducible rfl) | (exfalso; apply hM; simp only [Int32.le_iff_toInt_le, Int32.lt_iff_toInt_lt] at *; omega))
  · refine At.gs okX7_fewest 300 ?_
    repeat' ((conv => whnf); first | (refine And.intro rfl (At.ls okX7_fewest 300 ⟨_, _, rfl⟩ ?_)) | (refine And.intro ?_ ?_; (focus (intro h; exfalso; simp [gI, gJ, sI, sJ, vp_in] at h; done)); intro _) | (refine And.intro ?_ ?_; rotate_left; (focus (intro h; exfalso; simp [gI, gJ, sI, sJ, vp_in] at h; done)); intro _) | (refine And.intro (show vp_in _ _ from ?_) ?_; (focus (simp [gI, gJ, sI, sJ, vp_in]; done))) | (refine And.intro (show _ ∨ _ from ?_) ?_; (focus (simp [gI, gJ, sI, sJ, vp_in]; done))) | (refine And.intro (show ¬ _ from ?_) ?_; (focus (simp [gI, gJ, sI, sJ, vp_in]; done))) | (refine ⟨1, (by decide), _, m_isAskedN _ _ _ ha, ?_⟩; rintro _ _ ⟨rfl, rfl⟩) | (dsimp only [sI_c, sJ_c, sNw_c, sSp_c]) | (refine And.intro ?_ ?_ <;> intro h))
    all_goals (conv => whnf)
    all_goals rfl
set_option maxRecDepth 100000 in
set_option maxHeartbeats 4000000 in
theorem m_starveY {f : Nat → Nat → Int32} {g : Nat → Nat → Int64} {c : Nat × Nat} (w : Int32) (k : Int32) (d : Int32) (pu : Int32) (wh : Int32) (h : ZM f) (c1 : ¬ pu < 0) (c2 : 0 ≤ wh ∧ wh ≤ 2) (ha : asked w k d) : CJ 6 mX7_starve [.ref 1175, .int w, .int k, .int d, .int pu, .int wh] (f, g, c) (fun r m' => r = 0) := by
  obtain ⟨⟨z2, z3, z4, z5, z6, z7⟩, z37, z38, z39, z40⟩ := h
  have e1 : (1 : Int32) <<< ((0 : Int32) &&& 31) = 1 := by decide
  have c3 : (0 : Int32) ≤ pu := Int32.not_lt.mp c1
  have c2a := c2.1
  have c2b := c2.2
  have c2c := Int32.not_lt.mpr c2.1
  have c2d := Int32.not_lt.mpr c2.2
  refine At.gs okX7_starve 300 ?_
  repeat' ((conv => whnf); first | (refine And.intro rfl (At.ls okX7_starve 300 ⟨_, _, rfl⟩ ?_)) | (refine And.intro ?_ ?_; (focus (intro h; exfalso; simp [gI, gJ, sI, sJ, vp_in, c1, c2a, c2b, c2c, c2d] at h; done)); intro _) | (refine And.intro ?_ ?_; rotate_left; (focus (intro h; exfalso; simp [gI, gJ, sI, sJ, vp_in, c1, c2a, c2b, c2c, c2d] at h; done)); intro _) | (refine And.intro (show vp_in _ _ from ?_) ?_; (focus (simp [gI, gJ, sI, sJ, vp_in, c1, c2a, c2b, c2c, c2d]; done))) | (refine And.intro (show _ ∨ _ from ?_) ?_; (focus (simp [gI, gJ, sI, sJ, vp_in, c1, c2a, c2b, c2c, c2d]; done))) | (refine And.intro (show ¬ _ from ?_) ?_; (focus (simp [gI, gJ, sI, sJ, vp_in, c1, c2a, c2b, c2c, c2d]; done))) | (refine ⟨1, (by decide), _, m_isAskedY _ _ _ ha, ?_⟩; rintro _ _ ⟨rfl, rfl⟩) | (dsimp only [sI_c, sJ_c, sNw_c, sSp_c]))
  (refine ⟨2, (by decide), _, m_seeksNow _ _ _ ?_, ?_⟩; (focus (simp [gI, sI, z2, z3, z4, z5, z6, z7, z37, z38, z39, z40]; done)); rintro _ ⟨f1, rfl, s47, s42, hS⟩; have y3 := (hS 3 (by decide)).trans z3; have y4 := (hS 4 (by decide)).trans z4; have y5 := (hS 5 (by decide)).trans z5; have y6 := (hS 6 (by decide)).trans z6; have y40 := (hS 40 (by decide)).trans z40)
  repeat' ((conv => whnf); first | (refine And.intro rfl (At.ls okX7_starve 300 ⟨_, _, rfl⟩ ?_)) | (refine And.intro ?_ ?_; (focus (intro h; exfalso; simp [gI, gJ, sI, sJ, vp_in, c1, c2a, c2b, c2c, c2d, s47, s42, y3, y4, y5, y6, y40, e1, c3] at h; done)); intro _) | (refine And.intro ?_ ?_; rotate_left; (focus (intro h; exfalso; simp [gI, gJ, sI, sJ, vp_in, c1, c2a, c2b, c2c, c2d, s47, s42, y3, y4, y5, y6, y40, e1, c3] at h; done)); intro _) | (refine And.intro (show vp_in _ _ from ?_) ?_; (focus (simp [gI, gJ, sI, sJ, vp_in, c1, c2a, c2b, c2c, c2d, s47, s42, y3, y4, y5, y6, y40, e1, c3]; done))) | (refine And.intro (show _ ∨ _ from ?_) ?_; (focus (simp [gI, gJ, sI, sJ, vp_in, c1, c2a, c2b, c2c, c2d, s47, s42, y3, y4, y5, y6, y40, e1, c3]; done))) | (refine And.intro (show ¬ _ from ?_) ?_; (focus (simp [gI, gJ, sI, sJ, vp_in, c1, c2a, c2b, c2c, c2d, s47, s42, y3, y4, y5, y6, y40, e1, c3]; done))) | (refine ⟨1, (by decide), _, m_allTakes _ _ _ s42, ?_⟩; rintro _ _ ⟨rfl, rfl⟩) | (dsimp only [sI_c, sJ_c, sNw_c, sSp_c]) | (refine And.intro ?_ ?_ <;> intro h))
  all_goals (conv => whnf)
  all_goals (first | (with_reducible rfl) | rfl | decide)
set_option maxRecDepth 100000 in
set_option maxHeartbeats 4000000 in
theorem m_starveN {f : Nat → Nat → Int32} {g : Nat → Nat → Int64} {c : Nat × Nat} (w : Int32) (k : Int32) (d : Int32) (pu : Int32) (wh : Int32) (h : ZM f) (hN : ¬ ((¬ pu < 0) ∧ (0 ≤ wh ∧ wh ≤ 2) ∧ (asked w k d))) : CJ 6 mX7_starve [.ref 1175, .int w, .int k, .int d, .int pu, .int wh] (f, g, c) (fun r m' => r = -1) := by
  obtain ⟨⟨z2, z3, z4, z5, z6, z7⟩, z37, z38, z39, z40⟩ := h
  by_cases ha : asked w k d
  · have hM : ¬ ((¬ pu < 0) ∧ (0 ≤ wh ∧ wh ≤ 2)) := fun q => hN ⟨q.1, q.2, ha⟩
    clear hN
    refine At.gs okX7_starve 300 ?_
    repeat' ((conv => whnf); first | (refine And.intro rfl (At.ls okX7_starve 300 ⟨_, _, rfl⟩ ?_)) | (refine And.intro ?_ ?_; (focus (intro h; exfalso; simp [gI, gJ, sI, sJ, vp_in] at h; done)); intro _) | (refine And.intro ?_ ?_; rotate_left; (focus (intro h; exfalso; simp [gI, gJ, sI, sJ, vp_in] at h; done)); intro _) | (refine And.intro (show vp_in _ _ from ?_) ?_; (focus (simp [gI, gJ, sI, sJ, vp_in]; done))) | (refine And.intro (show _ ∨ _ from ?_) ?_; (focus (simp [gI, gJ, sI, sJ, vp_in]; done))) | (refine And.intro (show ¬ _ from ?_) ?_; (focus (simp [gI, gJ, sI, sJ, vp_in]; done))) | (refine ⟨1, (by decide), _, m_isAskedY _ _ _ ha, ?_⟩; rintro _ _ ⟨rfl, rfl⟩) | (dsimp only [sI_c, sJ_c, sNw_c, sSp_c]) | (refine And.intro ?_ ?_ <;> intro h))
    all_goals (conv => whnf)
    all_goals (first | (with_reducible rfl) | (exfalso; apply hM; simp only [Int32.le_iff_toInt_le, Int32.lt_iff_toInt_lt] at *; omega))
  · refine At.gs okX7_starve 300 ?_
    repeat' ((conv => whnf); first | (refine And.intro rfl (At.ls okX7_starve 300 ⟨_, _, rfl⟩ ?_)) | (refine And.intro ?_ ?_; (focus (intro h; exfalso; simp [gI, gJ, sI, sJ, vp_in] at h; done)); intro _) | (refine And.intro ?_ ?_; rotate_left; (focus (intro h; exfalso; simp [gI, gJ, sI, sJ, vp_in] at h; done)); intro _) | (refine And.intro (show vp_in _ _ from ?_) ?_; (focus (simp [gI, gJ, sI, sJ, vp_in]; done))) | (refine And.intro (show _ ∨ _ from ?_) ?_; (focus (simp [gI, gJ, sI, sJ, vp_in]; done))) | (refine And.intro (show ¬ _ from ?_) ?_; (focus (simp [gI, gJ, sI, sJ, vp_in]; done))) | (refine ⟨1, (by decide), _, m_isAskedN _ _ _ ha, ?_⟩; rintro _ _ ⟨rfl, rfl⟩) | (dsimp only [sI_c, sJ_c, sNw_c, sSp_c]) | (refine And.intro ?_ ?_ <;> intro h))
    all_goals (conv => whnf)
    all_goals rfl
set_option maxRecDepth 100000 in
set_option maxHeartbeats 4000000 in
theorem m_lackL {f : Nat → Nat → Int32} {g : Nat → Nat → Int64} {c : Nat × Nat} {mk : Int32} (hs : f 1175 6 = 0) : ∀ (n j : Nat) (x5 : Value), j + n = 401 → At (E0 6) mX7_lacking (qi (fun r m' => r = 0)) 25 [.ref 1175, .int mk, .int 0, .int (-1), .int (nI j), x5] [] (f, g, c) := by
  intro n
  induction n with
  | zero =>
    intro j x5 hj
    obtain rfl : j = 401 := by omega
    refine At.ls okX7_lacking 400 ⟨_, _, rfl⟩ ?_
    have hge : (400 : Int32) < nI 401 := by decide
    conv => whnf
    refine And.intro (fun _ => ?_) (fun q => absurd hge q)
    conv => whnf
    all_goals rfl
  | succ n ih =>
    intro j x5 hj
    have hlt : ¬ (400 : Int32) < nI j := nI_nlt (a := 400) (by omega) (by decide)
    refine At.ls okX7_lacking 400 ⟨_, _, rfl⟩ ?_
    conv => whnf
    refine And.intro (fun q => absurd q hlt) (fun _ => ?_)
    conv => whnf
    refine And.intro rfl (At.ls okX7_lacking 400 ⟨_, _, rfl⟩ ?_)
    conv => whnf
    refine And.intro (fun _ => ?_) (fun q => absurd (show f 1175 6 ≤ 0 by rw [hs]; decide) q)
    conv => whnf
    refine And.intro rfl ?_
    have q := ih (j + 1)
    rw [nI_succ] at q
    exact q _ (by omega)
set_option maxRecDepth 100000 in
set_option maxHeartbeats 4000000 in
theorem m_lackingY {f : Nat → Nat → Int32} {g : Nat → Nat → Int64} {c : Nat × Nat} (mk : Int32) (h : ZM f) (hc : 1 ≤ mk ∧ mk ≤ 99) : CI 6 mX7_lacking [.ref 1175, .int mk] (f, g, c) (fun r m' => r = 0) := by
  obtain ⟨⟨z2, z3, z4, z5, z6, z7⟩, z37, z38, z39, z40⟩ := h
  have n1 := Int32.not_lt.mpr hc.1
  have n2 := Int32.not_lt.mpr hc.2
  have c1 := hc.2
  refine At.gs okX7_lacking 300 ?_
  repeat' ((conv => whnf); first | (refine And.intro rfl ?_; refine m_lackL ?_ 401 0 _ (by omega); exact z6) | (refine And.intro rfl (At.ls okX7_lacking 300 ⟨_, _, rfl⟩ ?_)) | (refine And.intro ?_ ?_; (focus (intro h; exfalso; simp [gI, gJ, sI, sJ, vp_in, n1, n2, c1] at h; done)); intro _) | (refine And.intro ?_ ?_; rotate_left; (focus (intro h; exfalso; simp [gI, gJ, sI, sJ, vp_in, n1, n2, c1] at h; done)); intro _) | (refine And.intro (show vp_in _ _ from ?_) ?_; (focus (simp [gI, gJ, sI, sJ, vp_in, n1, n2, c1]; done))) | (refine And.intro (show _ ∨ _ from ?_) ?_; (focus (simp [gI, gJ, sI, sJ, vp_in, n1, n2, c1]; done))) | (refine And.intro (show ¬ _ from ?_) ?_; (focus (simp [gI, gJ, sI, sJ, vp_in, n1, n2, c1]; done))) | (dsimp only [sI_c, sJ_c, sNw_c, sSp_c]))
set_option maxRecDepth 100000 in
set_option maxHeartbeats 4000000 in
theorem m_lackingN {f : Nat → Nat → Int32} {g : Nat → Nat → Int64} {c : Nat × Nat} (mk : Int32) (h : ZM f) (hN : ¬ (1 ≤ mk ∧ mk ≤ 99)) : CI 6 mX7_lacking [.ref 1175, .int mk] (f, g, c) (fun r m' => r = -1) := by
  obtain ⟨⟨z2, z3, z4, z5, z6, z7⟩, z37, z38, z39, z40⟩ := h
  by_cases n1 : mk < 1
  · refine At.gs okX7_lacking 300 ?_
    repeat' ((conv => whnf); first | (refine And.intro rfl (At.ls okX7_lacking 300 ⟨_, _, rfl⟩ ?_)) | (refine And.intro ?_ ?_; (focus (intro h; exfalso; simp [gI, gJ, sI, sJ, vp_in, n1] at h; done)); intro _) | (refine And.intro ?_ ?_; rotate_left; (focus (intro h; exfalso; simp [gI, gJ, sI, sJ, vp_in, n1] at h; done)); intro _) | (refine And.intro (show vp_in _ _ from ?_) ?_; (focus (simp [gI, gJ, sI, sJ, vp_in, n1]; done))) | (refine And.intro (show _ ∨ _ from ?_) ?_; (focus (simp [gI, gJ, sI, sJ, vp_in, n1]; done))) | (refine And.intro (show ¬ _ from ?_) ?_; (focus (simp [gI, gJ, sI, sJ, vp_in, n1]; done))) | (dsimp only [sI_c, sJ_c, sNw_c, sSp_c]))
    rfl
  · have n2 : ¬ mk ≤ 99 := fun q => hN ⟨Int32.not_lt.mp n1, q⟩
    refine At.gs okX7_lacking 300 ?_
    repeat' ((conv => whnf); first | (refine And.intro rfl (At.ls okX7_lacking 300 ⟨_, _, rfl⟩ ?_)) | (refine And.intro ?_ ?_; (focus (intro h; exfalso; simp [gI, gJ, sI, sJ, vp_in, n1, n2] at h; done)); intro _) | (refine And.intro ?_ ?_; rotate_left; (focus (intro h; exfalso; simp [gI, gJ, sI, sJ, vp_in, n1, n2] at h; done)); intro _) | (refine And.intro (show vp_in _ _ from ?_) ?_; (focus (simp [gI, gJ, sI, sJ, vp_in, n1, n2]; done))) | (refine And.intro (show _ ∨ _ from ?_) ?_; (focus (simp [gI, gJ, sI, sJ, vp_in, n1, n2]; done))) | (refine And.intro (show ¬ _ from ?_) ?_; (focus (simp [gI, gJ, sI, sJ, vp_in, n1, n2]; done))) | (dsimp only [sI_c, sJ_c, sNw_c, sSp_c]))
    rfl
set_option maxRecDepth 100000 in
set_option maxHeartbeats 4000000 in
theorem m_luck1 {f : Nat → Nat → Int32} {g : Nat → Nat → Int64} {c : Nat × Nat} (w k d sd : Int32) (h : ZM f) (c1 : ¬ sd < 0) (ha : asked w k d) : CI 6 mX7_luck [.ref 1175, .int w, .int k, .int d, .int sd, .int 1] (f, g, c) (fun r m' => r = 1) := by
  obtain ⟨⟨z2, z3, z4, z5, z6, z7⟩, z37, z38, z39, z40⟩ := h
  refine At.gs okX7_luck 300 ?_
  repeat' ((conv => whnf); first | (refine And.intro rfl (At.ls okX7_luck 300 ⟨_, _, rfl⟩ ?_)) | (refine And.intro ?_ ?_; (focus (intro h; exfalso; simp [gI, gJ, sI, sJ, vp_in, c1] at h; done)); intro _) | (refine And.intro ?_ ?_; rotate_left; (focus (intro h; exfalso; simp [gI, gJ, sI, sJ, vp_in, c1] at h; done)); intro _) | (refine And.intro (show vp_in _ _ from ?_) ?_; (focus (simp [gI, gJ, sI, sJ, vp_in, c1]; done))) | (refine And.intro (show _ ∨ _ from ?_) ?_; (focus (simp [gI, gJ, sI, sJ, vp_in, c1]; done))) | (refine And.intro (show ¬ _ from ?_) ?_; (focus (simp [gI, gJ, sI, sJ, vp_in, c1]; done))) | (refine ⟨1, (by decide), _, m_isAskedY _ _ _ ha, ?_⟩; rintro _ _ ⟨rfl, rfl⟩) | (dsimp only [sI_c, sJ_c, sNw_c, sSp_c]))
  (refine ⟨2, (by decide), _, m_seeksNow _ _ _ ?_, ?_⟩; (focus (simp [gI, sI, z2, z3, z4, z5, z6, z7, z37, z38, z39, z40]; done)); rintro _ ⟨f1, rfl, s47, s42, hS⟩; have y3 := (hS 3 (by decide)).trans z3; have y4 := (hS 4 (by decide)).trans z4; have y5 := (hS 5 (by decide)).trans z5; have y6 := (hS 6 (by decide)).trans z6; have y40 := (hS 40 (by decide)).trans z40)
  have t42 := s42
  repeat' ((conv => whnf); first | (refine And.intro rfl (At.ls okX7_luck 300 ⟨_, _, rfl⟩ ?_)) | (refine And.intro ?_ ?_; (focus (intro h; exfalso; simp [gI, gJ, sI, sJ, vp_in, s47, s42, t42, y6] at h; done)); intro _) | (refine And.intro ?_ ?_; rotate_left; (focus (intro h; exfalso; simp [gI, gJ, sI, sJ, vp_in, s47, s42, t42, y6] at h; done)); intro _) | (refine And.intro (show vp_in _ _ from ?_) ?_; (focus (simp [gI, gJ, sI, sJ, vp_in, s47, s42, t42, y6]; done))) | (refine And.intro (show _ ∨ _ from ?_) ?_; (focus (simp [gI, gJ, sI, sJ, vp_in, s47, s42, t42, y6]; done))) | (refine And.intro (show ¬ _ from ?_) ?_; (focus (simp [gI, gJ, sI, sJ, vp_in, s47, s42, t42, y6]; done))) | (refine ⟨1, (by decide), _, m_seeks _ _ _ y6, ?_⟩; rintro _ ⟨f2, rfl, s47, s42, hS⟩; have y6 := (hS 6 (by decide)).trans y6) | (dsimp only [sI_c, sJ_c, sNw_c, sSp_c]))
  conv => whnf
  decide
set_option maxRecDepth 100000 in
set_option maxHeartbeats 4000000 in
theorem m_luck2 {f : Nat → Nat → Int32} {g : Nat → Nat → Int64} {c : Nat × Nat} (w k d sd : Int32) (h : ZM f) (c1 : ¬ sd < 0) (ha : asked w k d) : CI 6 mX7_luck [.ref 1175, .int w, .int k, .int d, .int sd, .int 2] (f, g, c) (fun r m' => r = 2) := by
  obtain ⟨⟨z2, z3, z4, z5, z6, z7⟩, z37, z38, z39, z40⟩ := h
  refine At.gs okX7_luck 300 ?_
  repeat' ((conv => whnf); first | (refine And.intro rfl (At.ls okX7_luck 300 ⟨_, _, rfl⟩ ?_)) | (refine And.intro ?_ ?_; (focus (intro h; exfalso; simp [gI, gJ, sI, sJ, vp_in, c1] at h; done)); intro _) | (refine And.intro ?_ ?_; rotate_left; (focus (intro h; exfalso; simp [gI, gJ, sI, sJ, vp_in, c1] at h; done)); intro _) | (refine And.intro (show vp_in _ _ from ?_) ?_; (focus (simp [gI, gJ, sI, sJ, vp_in, c1]; done))) | (refine And.intro (show _ ∨ _ from ?_) ?_; (focus (simp [gI, gJ, sI, sJ, vp_in, c1]; done))) | (refine And.intro (show ¬ _ from ?_) ?_; (focus (simp [gI, gJ, sI, sJ, vp_in, c1]; done))) | (refine ⟨1, (by decide), _, m_isAskedY _ _ _ ha, ?_⟩; rintro _ _ ⟨rfl, rfl⟩) | (dsimp only [sI_c, sJ_c, sNw_c, sSp_c]))
  (refine ⟨2, (by decide), _, m_seeksNow _ _ _ ?_, ?_⟩; (focus (simp [gI, sI, z2, z3, z4, z5, z6, z7, z37, z38, z39, z40]; done)); rintro _ ⟨f1, rfl, s47, s42, hS⟩; have y3 := (hS 3 (by decide)).trans z3; have y4 := (hS 4 (by decide)).trans z4; have y5 := (hS 5 (by decide)).trans z5; have y6 := (hS 6 (by decide)).trans z6; have y40 := (hS 40 (by decide)).trans z40)
  have t42 := s42
  repeat' ((conv => whnf); first | (refine And.intro rfl (At.ls okX7_luck 300 ⟨_, _, rfl⟩ ?_)) | (refine And.intro ?_ ?_; (focus (intro h; exfalso; simp [gI, gJ, sI, sJ, vp_in, s47, s42, t42, y6] at h; done)); intro _) | (refine And.intro ?_ ?_; rotate_left; (focus (intro h; exfalso; simp [gI, gJ, sI, sJ, vp_in, s47, s42, t42, y6] at h; done)); intro _) | (refine And.intro (show vp_in _ _ from ?_) ?_; (focus (simp [gI, gJ, sI, sJ, vp_in, s47, s42, t42, y6]; done))) | (refine And.intro (show _ ∨ _ from ?_) ?_; (focus (simp [gI, gJ, sI, sJ, vp_in, s47, s42, t42, y6]; done))) | (refine And.intro (show ¬ _ from ?_) ?_; (focus (simp [gI, gJ, sI, sJ, vp_in, s47, s42, t42, y6]; done))) | (refine ⟨1, (by decide), _, m_seeks _ _ _ y6, ?_⟩; rintro _ ⟨f2, rfl, s47, s42, hS⟩; have y6 := (hS 6 (by decide)).trans y6) | (dsimp only [sI_c, sJ_c, sNw_c, sSp_c]))
  conv => whnf
  decide
set_option maxRecDepth 100000 in
set_option maxHeartbeats 4000000 in
theorem m_luck3 {f : Nat → Nat → Int32} {g : Nat → Nat → Int64} {c : Nat × Nat} (w k d sd : Int32) (h : ZM f) (c1 : ¬ sd < 0) (ha : asked w k d) : CI 6 mX7_luck [.ref 1175, .int w, .int k, .int d, .int sd, .int 3] (f, g, c) (fun r m' => r = 3) := by
  obtain ⟨⟨z2, z3, z4, z5, z6, z7⟩, z37, z38, z39, z40⟩ := h
  refine At.gs okX7_luck 300 ?_
  repeat' ((conv => whnf); first | (refine And.intro rfl (At.ls okX7_luck 300 ⟨_, _, rfl⟩ ?_)) | (refine And.intro ?_ ?_; (focus (intro h; exfalso; simp [gI, gJ, sI, sJ, vp_in, c1] at h; done)); intro _) | (refine And.intro ?_ ?_; rotate_left; (focus (intro h; exfalso; simp [gI, gJ, sI, sJ, vp_in, c1] at h; done)); intro _) | (refine And.intro (show vp_in _ _ from ?_) ?_; (focus (simp [gI, gJ, sI, sJ, vp_in, c1]; done))) | (refine And.intro (show _ ∨ _ from ?_) ?_; (focus (simp [gI, gJ, sI, sJ, vp_in, c1]; done))) | (refine And.intro (show ¬ _ from ?_) ?_; (focus (simp [gI, gJ, sI, sJ, vp_in, c1]; done))) | (refine ⟨1, (by decide), _, m_isAskedY _ _ _ ha, ?_⟩; rintro _ _ ⟨rfl, rfl⟩) | (dsimp only [sI_c, sJ_c, sNw_c, sSp_c]))
  (refine ⟨2, (by decide), _, m_seeksNow _ _ _ ?_, ?_⟩; (focus (simp [gI, sI, z2, z3, z4, z5, z6, z7, z37, z38, z39, z40]; done)); rintro _ ⟨f1, rfl, s47, s42, hS⟩; have y3 := (hS 3 (by decide)).trans z3; have y4 := (hS 4 (by decide)).trans z4; have y5 := (hS 5 (by decide)).trans z5; have y6 := (hS 6 (by decide)).trans z6; have y40 := (hS 40 (by decide)).trans z40)
  have t42 := s42
  repeat' ((conv => whnf); first | (refine And.intro rfl (At.ls okX7_luck 300 ⟨_, _, rfl⟩ ?_)) | (refine And.intro ?_ ?_; (focus (intro h; exfalso; simp [gI, gJ, sI, sJ, vp_in, s47, s42, t42, y6] at h; done)); intro _) | (refine And.intro ?_ ?_; rotate_left; (focus (intro h; exfalso; simp [gI, gJ, sI, sJ, vp_in, s47, s42, t42, y6] at h; done)); intro _) | (refine And.intro (show vp_in _ _ from ?_) ?_; (focus (simp [gI, gJ, sI, sJ, vp_in, s47, s42, t42, y6]; done))) | (refine And.intro (show _ ∨ _ from ?_) ?_; (focus (simp [gI, gJ, sI, sJ, vp_in, s47, s42, t42, y6]; done))) | (refine And.intro (show ¬ _ from ?_) ?_; (focus (simp [gI, gJ, sI, sJ, vp_in, s47, s42, t42, y6]; done))) | (refine ⟨1, (by decide), _, m_seeks _ _ _ y6, ?_⟩; rintro _ ⟨f2, rfl, s47, s42, hS⟩; have y6 := (hS 6 (by decide)).trans y6) | (dsimp only [sI_c, sJ_c, sNw_c, sSp_c]))
  conv => whnf
  decide
set_option maxRecDepth 100000 in
set_option maxHeartbeats 4000000 in
theorem m_luck4 {f : Nat → Nat → Int32} {g : Nat → Nat → Int64} {c : Nat × Nat} (w k d sd : Int32) (h : ZM f) (c1 : ¬ sd < 0) (ha : asked w k d) : CI 6 mX7_luck [.ref 1175, .int w, .int k, .int d, .int sd, .int 4] (f, g, c) (fun r m' => r = 4) := by
  obtain ⟨⟨z2, z3, z4, z5, z6, z7⟩, z37, z38, z39, z40⟩ := h
  refine At.gs okX7_luck 300 ?_
  repeat' ((conv => whnf); first | (refine And.intro rfl (At.ls okX7_luck 300 ⟨_, _, rfl⟩ ?_)) | (refine And.intro ?_ ?_; (focus (intro h; exfalso; simp [gI, gJ, sI, sJ, vp_in, c1] at h; done)); intro _) | (refine And.intro ?_ ?_; rotate_left; (focus (intro h; exfalso; simp [gI, gJ, sI, sJ, vp_in, c1] at h; done)); intro _) | (refine And.intro (show vp_in _ _ from ?_) ?_; (focus (simp [gI, gJ, sI, sJ, vp_in, c1]; done))) | (refine And.intro (show _ ∨ _ from ?_) ?_; (focus (simp [gI, gJ, sI, sJ, vp_in, c1]; done))) | (refine And.intro (show ¬ _ from ?_) ?_; (focus (simp [gI, gJ, sI, sJ, vp_in, c1]; done))) | (refine ⟨1, (by decide), _, m_isAskedY _ _ _ ha, ?_⟩; rintro _ _ ⟨rfl, rfl⟩) | (dsimp only [sI_c, sJ_c, sNw_c, sSp_c]))
  (refine ⟨2, (by decide), _, m_seeksNow _ _ _ ?_, ?_⟩; (focus (simp [gI, sI, z2, z3, z4, z5, z6, z7, z37, z38, z39, z40]; done)); rintro _ ⟨f1, rfl, s47, s42, hS⟩; have y3 := (hS 3 (by decide)).trans z3; have y4 := (hS 4 (by decide)).trans z4; have y5 := (hS 5 (by decide)).trans z5; have y6 := (hS 6 (by decide)).trans z6; have y40 := (hS 40 (by decide)).trans z40)
  have t42 := s42
  repeat' ((conv => whnf); first | (refine And.intro rfl (At.ls okX7_luck 300 ⟨_, _, rfl⟩ ?_)) | (refine And.intro ?_ ?_; (focus (intro h; exfalso; simp [gI, gJ, sI, sJ, vp_in, s47, s42, t42, y6] at h; done)); intro _) | (refine And.intro ?_ ?_; rotate_left; (focus (intro h; exfalso; simp [gI, gJ, sI, sJ, vp_in, s47, s42, t42, y6] at h; done)); intro _) | (refine And.intro (show vp_in _ _ from ?_) ?_; (focus (simp [gI, gJ, sI, sJ, vp_in, s47, s42, t42, y6]; done))) | (refine And.intro (show _ ∨ _ from ?_) ?_; (focus (simp [gI, gJ, sI, sJ, vp_in, s47, s42, t42, y6]; done))) | (refine And.intro (show ¬ _ from ?_) ?_; (focus (simp [gI, gJ, sI, sJ, vp_in, s47, s42, t42, y6]; done))) | (refine ⟨1, (by decide), _, m_seeks _ _ _ y6, ?_⟩; rintro _ ⟨f2, rfl, s47, s42, hS⟩; have y6 := (hS 6 (by decide)).trans y6) | (dsimp only [sI_c, sJ_c, sNw_c, sSp_c]))
  conv => whnf
  decide
set_option maxRecDepth 100000 in
set_option maxHeartbeats 4000000 in
theorem m_luck5 {f : Nat → Nat → Int32} {g : Nat → Nat → Int64} {c : Nat × Nat} (w k d sd : Int32) (h : ZM f) (c1 : ¬ sd < 0) (ha : asked w k d) : CI 6 mX7_luck [.ref 1175, .int w, .int k, .int d, .int sd, .int 5] (f, g, c) (fun r m' => r = 5) := by
  obtain ⟨⟨z2, z3, z4, z5, z6, z7⟩, z37, z38, z39, z40⟩ := h
  refine At.gs okX7_luck 300 ?_
  repeat' ((conv => whnf); first | (refine And.intro rfl (At.ls okX7_luck 300 ⟨_, _, rfl⟩ ?_)) | (refine And.intro ?_ ?_; (focus (intro h; exfalso; simp [gI, gJ, sI, sJ, vp_in, c1] at h; done)); intro _) | (refine And.intro ?_ ?_; rotate_left; (focus (intro h; exfalso; simp [gI, gJ, sI, sJ, vp_in, c1] at h; done)); intro _) | (refine And.intro (show vp_in _ _ from ?_) ?_; (focus (simp [gI, gJ, sI, sJ, vp_in, c1]; done))) | (refine And.intro (show _ ∨ _ from ?_) ?_; (focus (simp [gI, gJ, sI, sJ, vp_in, c1]; done))) | (refine And.intro (show ¬ _ from ?_) ?_; (focus (simp [gI, gJ, sI, sJ, vp_in, c1]; done))) | (refine ⟨1, (by decide), _, m_isAskedY _ _ _ ha, ?_⟩; rintro _ _ ⟨rfl, rfl⟩) | (dsimp only [sI_c, sJ_c, sNw_c, sSp_c]))
  (refine ⟨2, (by decide), _, m_seeksNow _ _ _ ?_, ?_⟩; (focus (simp [gI, sI, z2, z3, z4, z5, z6, z7, z37, z38, z39, z40]; done)); rintro _ ⟨f1, rfl, s47, s42, hS⟩; have y3 := (hS 3 (by decide)).trans z3; have y4 := (hS 4 (by decide)).trans z4; have y5 := (hS 5 (by decide)).trans z5; have y6 := (hS 6 (by decide)).trans z6; have y40 := (hS 40 (by decide)).trans z40)
  have t42 := s42
  repeat' ((conv => whnf); first | (refine And.intro rfl (At.ls okX7_luck 300 ⟨_, _, rfl⟩ ?_)) | (refine And.intro ?_ ?_; (focus (intro h; exfalso; simp [gI, gJ, sI, sJ, vp_in, s47, s42, t42, y6] at h; done)); intro _) | (refine And.intro ?_ ?_; rotate_left; (focus (intro h; exfalso; simp [gI, gJ, sI, sJ, vp_in, s47, s42, t42, y6] at h; done)); intro _) | (refine And.intro (show vp_in _ _ from ?_) ?_; (focus (simp [gI, gJ, sI, sJ, vp_in, s47, s42, t42, y6]; done))) | (refine And.intro (show _ ∨ _ from ?_) ?_; (focus (simp [gI, gJ, sI, sJ, vp_in, s47, s42, t42, y6]; done))) | (refine And.intro (show ¬ _ from ?_) ?_; (focus (simp [gI, gJ, sI, sJ, vp_in, s47, s42, t42, y6]; done))) | (refine ⟨1, (by decide), _, m_seeks _ _ _ y6, ?_⟩; rintro _ ⟨f2, rfl, s47, s42, hS⟩; have y6 := (hS 6 (by decide)).trans y6) | (dsimp only [sI_c, sJ_c, sNw_c, sSp_c]))
  conv => whnf
  decide
set_option maxRecDepth 100000 in
set_option maxHeartbeats 4000000 in
theorem m_luck6 {f : Nat → Nat → Int32} {g : Nat → Nat → Int64} {c : Nat × Nat} (w k d sd : Int32) (h : ZM f) (c1 : ¬ sd < 0) (ha : asked w k d) : CI 6 mX7_luck [.ref 1175, .int w, .int k, .int d, .int sd, .int 6] (f, g, c) (fun r m' => r = 6) := by
  obtain ⟨⟨z2, z3, z4, z5, z6, z7⟩, z37, z38, z39, z40⟩ := h
  refine At.gs okX7_luck 300 ?_
  repeat' ((conv => whnf); first | (refine And.intro rfl (At.ls okX7_luck 300 ⟨_, _, rfl⟩ ?_)) | (refine And.intro ?_ ?_; (focus (intro h; exfalso; simp [gI, gJ, sI, sJ, vp_in, c1] at h; done)); intro _) | (refine And.intro ?_ ?_; rotate_left; (focus (intro h; exfalso; simp [gI, gJ, sI, sJ, vp_in, c1] at h; done)); intro _) | (refine And.intro (show vp_in _ _ from ?_) ?_; (focus (simp [gI, gJ, sI, sJ, vp_in, c1]; done))) | (refine And.intro (show _ ∨ _ from ?_) ?_; (focus (simp [gI, gJ, sI, sJ, vp_in, c1]; done))) | (refine And.intro (show ¬ _ from ?_) ?_; (focus (simp [gI, gJ, sI, sJ, vp_in, c1]; done))) | (refine ⟨1, (by decide), _, m_isAskedY _ _ _ ha, ?_⟩; rintro _ _ ⟨rfl, rfl⟩) | (dsimp only [sI_c, sJ_c, sNw_c, sSp_c]))
  (refine ⟨2, (by decide), _, m_seeksNow _ _ _ ?_, ?_⟩; (focus (simp [gI, sI, z2, z3, z4, z5, z6, z7, z37, z38, z39, z40]; done)); rintro _ ⟨f1, rfl, s47, s42, hS⟩; have y3 := (hS 3 (by decide)).trans z3; have y4 := (hS 4 (by decide)).trans z4; have y5 := (hS 5 (by decide)).trans z5; have y6 := (hS 6 (by decide)).trans z6; have y40 := (hS 40 (by decide)).trans z40)
  have t42 := s42
  repeat' ((conv => whnf); first | (refine And.intro rfl (At.ls okX7_luck 300 ⟨_, _, rfl⟩ ?_)) | (refine And.intro ?_ ?_; (focus (intro h; exfalso; simp [gI, gJ, sI, sJ, vp_in, s47, s42, t42, y6] at h; done)); intro _) | (refine And.intro ?_ ?_; rotate_left; (focus (intro h; exfalso; simp [gI, gJ, sI, sJ, vp_in, s47, s42, t42, y6] at h; done)); intro _) | (refine And.intro (show vp_in _ _ from ?_) ?_; (focus (simp [gI, gJ, sI, sJ, vp_in, s47, s42, t42, y6]; done))) | (refine And.intro (show _ ∨ _ from ?_) ?_; (focus (simp [gI, gJ, sI, sJ, vp_in, s47, s42, t42, y6]; done))) | (refine And.intro (show ¬ _ from ?_) ?_; (focus (simp [gI, gJ, sI, sJ, vp_in, s47, s42, t42, y6]; done))) | (refine ⟨1, (by decide), _, m_seeks _ _ _ y6, ?_⟩; rintro _ ⟨f2, rfl, s47, s42, hS⟩; have y6 := (hS 6 (by decide)).trans y6) | (dsimp only [sI_c, sJ_c, sNw_c, sSp_c]))
  conv => whnf
  decide
set_option maxRecDepth 100000 in
set_option maxHeartbeats 4000000 in
theorem m_luck7 {f : Nat → Nat → Int32} {g : Nat → Nat → Int64} {c : Nat × Nat} (w k d sd : Int32) (h : ZM f) (c1 : ¬ sd < 0) (ha : asked w k d) : CI 6 mX7_luck [.ref 1175, .int w, .int k, .int d, .int sd, .int 7] (f, g, c) (fun r m' => r = 7) := by
  obtain ⟨⟨z2, z3, z4, z5, z6, z7⟩, z37, z38, z39, z40⟩ := h
  refine At.gs okX7_luck 300 ?_
  repeat' ((conv => whnf); first | (refine And.intro rfl (At.ls okX7_luck 300 ⟨_, _, rfl⟩ ?_)) | (refine And.intro ?_ ?_; (focus (intro h; exfalso; simp [gI, gJ, sI, sJ, vp_in, c1] at h; done)); intro _) | (refine And.intro ?_ ?_; rotate_left; (focus (intro h; exfalso; simp [gI, gJ, sI, sJ, vp_in, c1] at h; done)); intro _) | (refine And.intro (show vp_in _ _ from ?_) ?_; (focus (simp [gI, gJ, sI, sJ, vp_in, c1]; done))) | (refine And.intro (show _ ∨ _ from ?_) ?_; (focus (simp [gI, gJ, sI, sJ, vp_in, c1]; done))) | (refine And.intro (show ¬ _ from ?_) ?_; (focus (simp [gI, gJ, sI, sJ, vp_in, c1]; done))) | (refine ⟨1, (by decide), _, m_isAskedY _ _ _ ha, ?_⟩; rintro _ _ ⟨rfl, rfl⟩) | (dsimp only [sI_c, sJ_c, sNw_c, sSp_c]))
  (refine ⟨2, (by decide), _, m_seeksNow _ _ _ ?_, ?_⟩; (focus (simp [gI, sI, z2, z3, z4, z5, z6, z7, z37, z38, z39, z40]; done)); rintro _ ⟨f1, rfl, s47, s42, hS⟩; have y3 := (hS 3 (by decide)).trans z3; have y4 := (hS 4 (by decide)).trans z4; have y5 := (hS 5 (by decide)).trans z5; have y6 := (hS 6 (by decide)).trans z6; have y40 := (hS 40 (by decide)).trans z40)
  have t42 := s42
  repeat' ((conv => whnf); first | (refine And.intro rfl (At.ls okX7_luck 300 ⟨_, _, rfl⟩ ?_)) | (refine And.intro ?_ ?_; (focus (intro h; exfalso; simp [gI, gJ, sI, sJ, vp_in, s47, s42, t42, y6] at h; done)); intro _) | (refine And.intro ?_ ?_; rotate_left; (focus (intro h; exfalso; simp [gI, gJ, sI, sJ, vp_in, s47, s42, t42, y6] at h; done)); intro _) | (refine And.intro (show vp_in _ _ from ?_) ?_; (focus (simp [gI, gJ, sI, sJ, vp_in, s47, s42, t42, y6]; done))) | (refine And.intro (show _ ∨ _ from ?_) ?_; (focus (simp [gI, gJ, sI, sJ, vp_in, s47, s42, t42, y6]; done))) | (refine And.intro (show ¬ _ from ?_) ?_; (focus (simp [gI, gJ, sI, sJ, vp_in, s47, s42, t42, y6]; done))) | (refine ⟨1, (by decide), _, m_seeks _ _ _ y6, ?_⟩; rintro _ ⟨f2, rfl, s47, s42, hS⟩; have y6 := (hS 6 (by decide)).trans y6) | (dsimp only [sI_c, sJ_c, sNw_c, sSp_c]))
  conv => whnf
  decide
set_option maxRecDepth 100000 in
set_option maxHeartbeats 4000000 in
theorem m_luck8 {f : Nat → Nat → Int32} {g : Nat → Nat → Int64} {c : Nat × Nat} (w k d sd : Int32) (h : ZM f) (c1 : ¬ sd < 0) (ha : asked w k d) : CI 6 mX7_luck [.ref 1175, .int w, .int k, .int d, .int sd, .int 8] (f, g, c) (fun r m' => r = 8) := by
  obtain ⟨⟨z2, z3, z4, z5, z6, z7⟩, z37, z38, z39, z40⟩ := h
  refine At.gs okX7_luck 300 ?_
  repeat' ((conv => whnf); first | (refine And.intro rfl (At.ls okX7_luck 300 ⟨_, _, rfl⟩ ?_)) | (refine And.intro ?_ ?_; (focus (intro h; exfalso; simp [gI, gJ, sI, sJ, vp_in, c1] at h; done)); intro _) | (refine And.intro ?_ ?_; rotate_left; (focus (intro h; exfalso; simp [gI, gJ, sI, sJ, vp_in, c1] at h; done)); intro _) | (refine And.intro (show vp_in _ _ from ?_) ?_; (focus (simp [gI, gJ, sI, sJ, vp_in, c1]; done))) | (refine And.intro (show _ ∨ _ from ?_) ?_; (focus (simp [gI, gJ, sI, sJ, vp_in, c1]; done))) | (refine And.intro (show ¬ _ from ?_) ?_; (focus (simp [gI, gJ, sI, sJ, vp_in, c1]; done))) | (refine ⟨1, (by decide), _, m_isAskedY _ _ _ ha, ?_⟩; rintro _ _ ⟨rfl, rfl⟩) | (dsimp only [sI_c, sJ_c, sNw_c, sSp_c]))
  (refine ⟨2, (by decide), _, m_seeksNow _ _ _ ?_, ?_⟩; (focus (simp [gI, sI, z2, z3, z4, z5, z6, z7, z37, z38, z39, z40]; done)); rintro _ ⟨f1, rfl, s47, s42, hS⟩; have y3 := (hS 3 (by decide)).trans z3; have y4 := (hS 4 (by decide)).trans z4; have y5 := (hS 5 (by decide)).trans z5; have y6 := (hS 6 (by decide)).trans z6; have y40 := (hS 40 (by decide)).trans z40)
  have t42 := s42
  repeat' ((conv => whnf); first | (refine And.intro rfl (At.ls okX7_luck 300 ⟨_, _, rfl⟩ ?_)) | (refine And.intro ?_ ?_; (focus (intro h; exfalso; simp [gI, gJ, sI, sJ, vp_in, s47, s42, t42, y6] at h; done)); intro _) | (refine And.intro ?_ ?_; rotate_left; (focus (intro h; exfalso; simp [gI, gJ, sI, sJ, vp_in, s47, s42, t42, y6] at h; done)); intro _) | (refine And.intro (show vp_in _ _ from ?_) ?_; (focus (simp [gI, gJ, sI, sJ, vp_in, s47, s42, t42, y6]; done))) | (refine And.intro (show _ ∨ _ from ?_) ?_; (focus (simp [gI, gJ, sI, sJ, vp_in, s47, s42, t42, y6]; done))) | (refine And.intro (show ¬ _ from ?_) ?_; (focus (simp [gI, gJ, sI, sJ, vp_in, s47, s42, t42, y6]; done))) | (refine ⟨1, (by decide), _, m_seeks _ _ _ y6, ?_⟩; rintro _ ⟨f2, rfl, s47, s42, hS⟩; have y6 := (hS 6 (by decide)).trans y6) | (dsimp only [sI_c, sJ_c, sNw_c, sSp_c]))
  conv => whnf
  decide
set_option maxRecDepth 100000 in
set_option maxHeartbeats 4000000 in
theorem m_luck9 {f : Nat → Nat → Int32} {g : Nat → Nat → Int64} {c : Nat × Nat} (w k d sd : Int32) (h : ZM f) (c1 : ¬ sd < 0) (ha : asked w k d) : CI 6 mX7_luck [.ref 1175, .int w, .int k, .int d, .int sd, .int 9] (f, g, c) (fun r m' => r = 9) := by
  obtain ⟨⟨z2, z3, z4, z5, z6, z7⟩, z37, z38, z39, z40⟩ := h
  refine At.gs okX7_luck 300 ?_
  repeat' ((conv => whnf); first | (refine And.intro rfl (At.ls okX7_luck 300 ⟨_, _, rfl⟩ ?_)) | (refine And.intro ?_ ?_; (focus (intro h; exfalso; simp [gI, gJ, sI, sJ, vp_in, c1] at h; done)); intro _) | (refine And.intro ?_ ?_; rotate_left; (focus (intro h; exfalso; simp [gI, gJ, sI, sJ, vp_in, c1] at h; done)); intro _) | (refine And.intro (show vp_in _ _ from ?_) ?_; (focus (simp [gI, gJ, sI, sJ, vp_in, c1]; done))) | (refine And.intro (show _ ∨ _ from ?_) ?_; (focus (simp [gI, gJ, sI, sJ, vp_in, c1]; done))) | (refine And.intro (show ¬ _ from ?_) ?_; (focus (simp [gI, gJ, sI, sJ, vp_in, c1]; done))) | (refine ⟨1, (by decide), _, m_isAskedY _ _ _ ha, ?_⟩; rintro _ _ ⟨rfl, rfl⟩) | (dsimp only [sI_c, sJ_c, sNw_c, sSp_c]))
  (refine ⟨2, (by decide), _, m_seeksNow _ _ _ ?_, ?_⟩; (focus (simp [gI, sI, z2, z3, z4, z5, z6, z7, z37, z38, z39, z40]; done)); rintro _ ⟨f1, rfl, s47, s42, hS⟩; have y3 := (hS 3 (by decide)).trans z3; have y4 := (hS 4 (by decide)).trans z4; have y5 := (hS 5 (by decide)).trans z5; have y6 := (hS 6 (by decide)).trans z6; have y40 := (hS 40 (by decide)).trans z40)
  have t42 := s42
  repeat' ((conv => whnf); first | (refine And.intro rfl (At.ls okX7_luck 300 ⟨_, _, rfl⟩ ?_)) | (refine And.intro ?_ ?_; (focus (intro h; exfalso; simp [gI, gJ, sI, sJ, vp_in, s47, s42, t42, y6] at h; done)); intro _) | (refine And.intro ?_ ?_; rotate_left; (focus (intro h; exfalso; simp [gI, gJ, sI, sJ, vp_in, s47, s42, t42, y6] at h; done)); intro _) | (refine And.intro (show vp_in _ _ from ?_) ?_; (focus (simp [gI, gJ, sI, sJ, vp_in, s47, s42, t42, y6]; done))) | (refine And.intro (show _ ∨ _ from ?_) ?_; (focus (simp [gI, gJ, sI, sJ, vp_in, s47, s42, t42, y6]; done))) | (refine And.intro (show ¬ _ from ?_) ?_; (focus (simp [gI, gJ, sI, sJ, vp_in, s47, s42, t42, y6]; done))) | (refine ⟨1, (by decide), _, m_seeks _ _ _ y6, ?_⟩; rintro _ ⟨f2, rfl, s47, s42, hS⟩; have y6 := (hS 6 (by decide)).trans y6) | (dsimp only [sI_c, sJ_c, sNw_c, sSp_c]))
  conv => whnf
  decide
set_option maxRecDepth 100000 in
set_option maxHeartbeats 4000000 in
theorem m_luck10 {f : Nat → Nat → Int32} {g : Nat → Nat → Int64} {c : Nat × Nat} (w k d sd : Int32) (h : ZM f) (c1 : ¬ sd < 0) (ha : asked w k d) : CI 6 mX7_luck [.ref 1175, .int w, .int k, .int d, .int sd, .int 10] (f, g, c) (fun r m' => r = 10) := by
  obtain ⟨⟨z2, z3, z4, z5, z6, z7⟩, z37, z38, z39, z40⟩ := h
  refine At.gs okX7_luck 300 ?_
  repeat' ((conv => whnf); first | (refine And.intro rfl (At.ls okX7_luck 300 ⟨_, _, rfl⟩ ?_)) | (refine And.intro ?_ ?_; (focus (intro h; exfalso; simp [gI, gJ, sI, sJ, vp_in, c1] at h; done)); intro _) | (refine And.intro ?_ ?_; rotate_left; (focus (intro h; exfalso; simp [gI, gJ, sI, sJ, vp_in, c1] at h; done)); intro _) | (refine And.intro (show vp_in _ _ from ?_) ?_; (focus (simp [gI, gJ, sI, sJ, vp_in, c1]; done))) | (refine And.intro (show _ ∨ _ from ?_) ?_; (focus (simp [gI, gJ, sI, sJ, vp_in, c1]; done))) | (refine And.intro (show ¬ _ from ?_) ?_; (focus (simp [gI, gJ, sI, sJ, vp_in, c1]; done))) | (refine ⟨1, (by decide), _, m_isAskedY _ _ _ ha, ?_⟩; rintro _ _ ⟨rfl, rfl⟩) | (dsimp only [sI_c, sJ_c, sNw_c, sSp_c]))
  (refine ⟨2, (by decide), _, m_seeksNow _ _ _ ?_, ?_⟩; (focus (simp [gI, sI, z2, z3, z4, z5, z6, z7, z37, z38, z39, z40]; done)); rintro _ ⟨f1, rfl, s47, s42, hS⟩; have y3 := (hS 3 (by decide)).trans z3; have y4 := (hS 4 (by decide)).trans z4; have y5 := (hS 5 (by decide)).trans z5; have y6 := (hS 6 (by decide)).trans z6; have y40 := (hS 40 (by decide)).trans z40)
  have t42 := s42
  repeat' ((conv => whnf); first | (refine And.intro rfl (At.ls okX7_luck 300 ⟨_, _, rfl⟩ ?_)) | (refine And.intro ?_ ?_; (focus (intro h; exfalso; simp [gI, gJ, sI, sJ, vp_in, s47, s42, t42, y6] at h; done)); intro _) | (refine And.intro ?_ ?_; rotate_left; (focus (intro h; exfalso; simp [gI, gJ, sI, sJ, vp_in, s47, s42, t42, y6] at h; done)); intro _) | (refine And.intro (show vp_in _ _ from ?_) ?_; (focus (simp [gI, gJ, sI, sJ, vp_in, s47, s42, t42, y6]; done))) | (refine And.intro (show _ ∨ _ from ?_) ?_; (focus (simp [gI, gJ, sI, sJ, vp_in, s47, s42, t42, y6]; done))) | (refine And.intro (show ¬ _ from ?_) ?_; (focus (simp [gI, gJ, sI, sJ, vp_in, s47, s42, t42, y6]; done))) | (refine ⟨1, (by decide), _, m_seeks _ _ _ y6, ?_⟩; rintro _ ⟨f2, rfl, s47, s42, hS⟩; have y6 := (hS 6 (by decide)).trans y6) | (dsimp only [sI_c, sJ_c, sNw_c, sSp_c]))
  conv => whnf
  decide
set_option maxRecDepth 100000 in
set_option maxHeartbeats 4000000 in
theorem m_luckY {f : Nat → Nat → Int32} {g : Nat → Nat → Int64} {c : Nat × Nat} (w k d sd dr : Int32) (h : ZM f) (c1 : ¬ sd < 0) (c2 : 1 ≤ dr ∧ dr ≤ 10) (ha : asked w k d) : CI 6 mX7_luck [.ref 1175, .int w, .int k, .int d, .int sd, .int dr] (f, g, c) (fun r m' => r = dr) := by
  rcases f_ten c2 with rfl | rfl | rfl | rfl | rfl | rfl | rfl | rfl | rfl | rfl
  · exact m_luck1 _ _ _ _ h c1 ha
  · exact m_luck2 _ _ _ _ h c1 ha
  · exact m_luck3 _ _ _ _ h c1 ha
  · exact m_luck4 _ _ _ _ h c1 ha
  · exact m_luck5 _ _ _ _ h c1 ha
  · exact m_luck6 _ _ _ _ h c1 ha
  · exact m_luck7 _ _ _ _ h c1 ha
  · exact m_luck8 _ _ _ _ h c1 ha
  · exact m_luck9 _ _ _ _ h c1 ha
  · exact m_luck10 _ _ _ _ h c1 ha
set_option maxRecDepth 100000 in
set_option maxHeartbeats 4000000 in
theorem m_luckN {f : Nat → Nat → Int32} {g : Nat → Nat → Int64} {c : Nat × Nat} (w : Int32) (k : Int32) (d : Int32) (sd : Int32) (dr : Int32) (h : ZM f) (hN : ¬ ((¬ sd < 0) ∧ (1 ≤ dr ∧ dr ≤ 10) ∧ (asked w k d))) : CI 6 mX7_luck [.ref 1175, .int w, .int k, .int d, .int sd, .int dr] (f, g, c) (fun r m' => r = -1) := by
  obtain ⟨⟨z2, z3, z4, z5, z6, z7⟩, z37, z38, z39, z40⟩ := h
  by_cases ha : asked w k d
  · have hM : ¬ ((¬ sd < 0) ∧ (1 ≤ dr ∧ dr ≤ 10)) := fun q => hN ⟨q.1, q.2, ha⟩
    clear hN
    refine At.gs okX7_luck 300 ?_
    repeat' ((conv => whnf); first | (refine And.intro rfl (At.ls okX7_luck 300 ⟨_, _, rfl⟩ ?_)) | (refine And.intro ?_ ?_; (focus (intro h; exfalso; simp [gI, gJ, sI, sJ, vp_in] at h; done)); intro _) | (refine And.intro ?_ ?_; rotate_left; (focus (intro h; exfalso; simp [gI, gJ, sI, sJ, vp_in] at h; done)); intro _) | (refine And.intro (show vp_in _ _ from ?_) ?_; (focus (simp [gI, gJ, sI, sJ, vp_in]; done))) | (refine And.intro (show _ ∨ _ from ?_) ?_; (focus (simp [gI, gJ, sI, sJ, vp_in]; done))) | (refine And.intro (show ¬ _ from ?_) ?_; (focus (simp [gI, gJ, sI, sJ, vp_in]; done))) | (refine ⟨1, (by decide), _, m_isAskedY _ _ _ ha, ?_⟩; rintro _ _ ⟨rfl, rfl⟩) | (dsimp only [sI_c, sJ_c, sNw_c, sSp_c]) | (refine And.intro ?_ ?_ <;> intro h))
    all_goals (conv => whnf)
    all_goals (first | (with_reducible rfl) | (exfalso; apply hM; simp only [Int32.le_iff_toInt_le, Int32.lt_iff_toInt_lt] at *; omega))
  · refine At.gs okX7_luck 300 ?_
    repeat' ((conv => whnf); first | (refine And.intro rfl (At.ls okX7_luck 300 ⟨_, _, rfl⟩ ?_)) | (refine And.intro ?_ ?_; (focus (intro h; exfalso; simp [gI, gJ, sI, sJ, vp_in] at h; done)); intro _) | (refine And.intro ?_ ?_; rotate_left; (focus (intro h; exfalso; simp [gI, gJ, sI, sJ, vp_in] at h; done)); intro _) | (refine And.intro (show vp_in _ _ from ?_) ?_; (focus (simp [gI, gJ, sI, sJ, vp_in]; done))) | (refine And.intro (show _ ∨ _ from ?_) ?_; (focus (simp [gI, gJ, sI, sJ, vp_in]; done))) | (refine And.intro (show ¬ _ from ?_) ?_; (focus (simp [gI, gJ, sI, sJ, vp_in]; done))) | (refine ⟨1, (by decide), _, m_isAskedN _ _ _ ha, ?_⟩; rintro _ _ ⟨rfl, rfl⟩) | (dsimp only [sI_c, sJ_c, sNw_c, sSp_c]) | (refine And.intro ?_ ?_ <;> intro h))
    all_goals (conv => whnf)
    all_goals rfl
