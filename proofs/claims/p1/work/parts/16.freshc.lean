/-! contracts on a fresh object: the rest of the class -/
set_option maxRecDepth 100000 in
set_option maxHeartbeats 4000000 in
theorem f_saleAt {m : MM} (row : Int64) (i : Int32) : CI 1 mX6_saleAt [.long row, .int i] m (fun r m' => m' = m) := by
  refine At.gs okX6_saleAt 300 ?_
  repeat' ((conv => whnf); first | (refine And.intro rfl (At.ls okX6_saleAt 300 ⟨_, _, rfl⟩ ?_)) | (refine And.intro ?_ ?_; (focus (intro h; exfalso; simp [gI, gJ, sI, sJ, vp_in] at h; done)); intro _) | (refine And.intro ?_ ?_; rotate_left; (focus (intro h; exfalso; simp [gI, gJ, sI, sJ, vp_in] at h; done)); intro _) | (refine And.intro (show vp_in _ _ from ?_) ?_; (focus (simp [gI, gJ, sI, sJ, vp_in]; done))) | (refine And.intro (show _ ∨ _ from ?_) ?_; (focus (simp [gI, gJ, sI, sJ, vp_in]; done))) | (refine And.intro (show ¬ _ from ?_) ?_; (focus (simp [gI, gJ, sI, sJ, vp_in]; done))) | (dsimp only [sI_c, sJ_c, sNw_c, sSp_c]))
  rfl
set_option maxRecDepth 100000 in
set_option maxHeartbeats 4000000 in
theorem f_judge {f : Nat → Nat → Int32} {g : Nat → Nat → Int64} (w n : Int32) (row : Int64) (h : ZC f) : CI 5 mX6_judge [.ref 6, .int w, .int n, .long row] (f, g, (336, 720)) (fun r m' => r = -1 ∧ m' = (f, g, (336, 720))) := by
  obtain ⟨⟨hr1, hr2, hr3⟩, h1, h2, h3, h4, h5, h6, h7, h8, h9⟩ := h
  by_cases hn : 2 ≤ n ∧ n ≤ 6
  · have hn0 : ¬ n ≤ 0 := by have h1 := hn.1; rw [Int32.le_iff_toInt_le] at h1 ⊢; have e2 : (2 : Int32).toInt = 2 := rfl; have e0 : (0 : Int32).toInt = 0 := rfl; omega
    by_cases hw : 0 ≤ w ∧ w ≤ 1
    · refine At.gs okX6_judge 300 ?_
      repeat' ((conv => whnf); first | (refine And.intro rfl (At.ls okX6_judge 300 ⟨_, _, rfl⟩ ?_)) | (refine And.intro ?_ ?_; (focus (intro h; exfalso; simp [gI, gJ, sI, sJ, vp_in, hn, hw, hn0] at h; done)); intro _) | (refine And.intro ?_ ?_; rotate_left; (focus (intro h; exfalso; simp [gI, gJ, sI, sJ, vp_in, hn, hw, hn0] at h; done)); intro _) | (refine And.intro (show vp_in _ _ from ?_) ?_; (focus (simp [gI, gJ, sI, sJ, vp_in, hn, hw, hn0]; done))) | (refine And.intro (show _ ∨ _ from ?_) ?_; (focus (simp [gI, gJ, sI, sJ, vp_in, hn, hw, hn0]; done))) | (refine And.intro (show ¬ _ from ?_) ?_; (focus (simp [gI, gJ, sI, sJ, vp_in, hn, hw, hn0]; done))) | (refine ⟨1, (by decide), _, f_within _ _ _, ?_⟩; rintro _ _ ⟨rfl, rfl⟩) | (refine ⟨1, (by decide), _, f_saleAt _ _, ?_⟩; rintro _ _ rfl) | (refine ⟨1, (by decide), _, f_hasS _ h4, ?_⟩; rintro _ _ ⟨rfl, rfl⟩) | (dsimp only [sI_c, sJ_c, sNw_c, sSp_c]))
      exact ⟨rfl, rfl⟩
    · refine At.gs okX6_judge 300 ?_
      repeat' ((conv => whnf); first | (refine And.intro rfl (At.ls okX6_judge 300 ⟨_, _, rfl⟩ ?_)) | (refine And.intro ?_ ?_; (focus (intro h; exfalso; simp [gI, gJ, sI, sJ, vp_in, hn, hw, hn0] at h; done)); intro _) | (refine And.intro ?_ ?_; rotate_left; (focus (intro h; exfalso; simp [gI, gJ, sI, sJ, vp_in, hn, hw, hn0] at h; done)); intro _) | (refine And.intro (show vp_in _ _ from ?_) ?_; (focus (simp [gI, gJ, sI, sJ, vp_in, hn, hw, hn0]; done))) | (refine And.intro (show _ ∨ _ from ?_) ?_; (focus (simp [gI, gJ, sI, sJ, vp_in, hn, hw, hn0]; done))) | (refine And.intro (show ¬ _ from ?_) ?_; (focus (simp [gI, gJ, sI, sJ, vp_in, hn, hw, hn0]; done))) | (refine ⟨1, (by decide), _, f_within _ _ _, ?_⟩; rintro _ _ ⟨rfl, rfl⟩) | (dsimp only [sI_c, sJ_c, sNw_c, sSp_c]))
      exact ⟨rfl, rfl⟩
  · refine At.gs okX6_judge 300 ?_
    repeat' ((conv => whnf); first | (refine And.intro rfl (At.ls okX6_judge 300 ⟨_, _, rfl⟩ ?_)) | (refine And.intro ?_ ?_; (focus (intro h; exfalso; simp [gI, gJ, sI, sJ, vp_in, hn] at h; done)); intro _) | (refine And.intro ?_ ?_; rotate_left; (focus (intro h; exfalso; simp [gI, gJ, sI, sJ, vp_in, hn] at h; done)); intro _) | (refine And.intro (show vp_in _ _ from ?_) ?_; (focus (simp [gI, gJ, sI, sJ, vp_in, hn]; done))) | (refine And.intro (show _ ∨ _ from ?_) ?_; (focus (simp [gI, gJ, sI, sJ, vp_in, hn]; done))) | (refine And.intro (show ¬ _ from ?_) ?_; (focus (simp [gI, gJ, sI, sJ, vp_in, hn]; done))) | (refine ⟨1, (by decide), _, f_within _ _ _, ?_⟩; rintro _ _ ⟨rfl, rfl⟩) | (dsimp only [sI_c, sJ_c, sNw_c, sSp_c]))
    exact ⟨rfl, rfl⟩
set_option maxRecDepth 100000 in
set_option maxHeartbeats 4000000 in
theorem f_nextOf {f : Nat → Nat → Int32} {g : Nat → Nat → Int64} {c : Nat × Nat} (sg l : Int32) (hs : f 452 7 = 0) : CI 1 mX4_nextOf [.ref 452, .int sg, .int l] (f, g, c) (fun r m' => r = -1 ∧ m' = (f, g, c)) := by
  refine At.gs okX4_nextOf 300 ?_
  repeat' ((conv => whnf); first | (refine And.intro rfl (At.ls okX4_nextOf 300 ⟨_, _, rfl⟩ ?_)) | (refine And.intro ?_ ?_; (focus (intro h; exfalso; simp [gI, gJ, sI, sJ, vp_in, hs] at h; done)); intro _) | (refine And.intro ?_ ?_; rotate_left; (focus (intro h; exfalso; simp [gI, gJ, sI, sJ, vp_in, hs] at h; done)); intro _) | (refine And.intro (show vp_in _ _ from ?_) ?_; (focus (simp [gI, gJ, sI, sJ, vp_in, hs]; done))) | (refine And.intro (show _ ∨ _ from ?_) ?_; (focus (simp [gI, gJ, sI, sJ, vp_in, hs]; done))) | (refine And.intro (show ¬ _ from ?_) ?_; (focus (simp [gI, gJ, sI, sJ, vp_in, hs]; done))) | (dsimp only [sI_c, sJ_c, sNw_c, sSp_c]))
  exact ⟨rfl, rfl⟩
set_option maxRecDepth 100000 in
set_option maxHeartbeats 4000000 in
theorem f_gapsOf {f : Nat → Nat → Int32} {g : Nat → Nat → Int64} {c : Nat × Nat} (sg : Int32) (hs : f 452 7 = 0) : CI 2 mX4_gapsOf [.ref 452, .int sg] (f, g, c) (fun r m' => r = 0 ∧ m' = (f, g, c)) := by
  refine At.gs okX4_gapsOf 300 ?_
  repeat' ((conv => whnf); first | (refine And.intro rfl (At.ls okX4_gapsOf 300 ⟨_, _, rfl⟩ ?_)) | (refine And.intro ?_ ?_; (focus (intro h; exfalso; simp [gI, gJ, sI, sJ, vp_in, hs] at h; done)); intro _) | (refine And.intro ?_ ?_; rotate_left; (focus (intro h; exfalso; simp [gI, gJ, sI, sJ, vp_in, hs] at h; done)); intro _) | (refine And.intro (show vp_in _ _ from ?_) ?_; (focus (simp [gI, gJ, sI, sJ, vp_in, hs]; done))) | (refine And.intro (show _ ∨ _ from ?_) ?_; (focus (simp [gI, gJ, sI, sJ, vp_in, hs]; done))) | (refine And.intro (show ¬ _ from ?_) ?_; (focus (simp [gI, gJ, sI, sJ, vp_in, hs]; done))) | (refine ⟨1, (by decide), _, f_nextOf _ _ hs, ?_⟩; rintro _ _ ⟨rfl, rfl⟩) | (dsimp only [sI_c, sJ_c, sNw_c, sSp_c]))
  exact ⟨rfl, rfl⟩
set_option maxRecDepth 100000 in
set_option maxHeartbeats 4000000 in
theorem f_lacking {f : Nat → Nat → Int32} {g : Nat → Nat → Int64} (mk : Int32) (h : ZC f) : CI 5 mX6_lacking [.ref 6, .int mk] (f, g, (336, 720)) (fun r m' => r = (if 1 ≤ mk ∧ mk ≤ 99 then 0 else -1) ∧ m' = (f, g, (336, 720))) := by
  obtain ⟨⟨hr1, hr2, hr3⟩, h1, h2, h3, h4, h5, h6, h7, h8, h9⟩ := h
  by_cases hn : 1 ≤ mk ∧ mk ≤ 99
  · refine At.gs okX6_lacking 300 ?_
    repeat' ((conv => whnf); first | (refine And.intro rfl (At.ls okX6_lacking 300 ⟨_, _, rfl⟩ ?_)) | (refine And.intro ?_ ?_; (focus (intro h; exfalso; simp [gI, gJ, sI, sJ, vp_in, hn] at h; done)); intro _) | (refine And.intro ?_ ?_; rotate_left; (focus (intro h; exfalso; simp [gI, gJ, sI, sJ, vp_in, hn] at h; done)); intro _) | (refine And.intro (show vp_in _ _ from ?_) ?_; (focus (simp [gI, gJ, sI, sJ, vp_in, hn]; done))) | (refine And.intro (show _ ∨ _ from ?_) ?_; (focus (simp [gI, gJ, sI, sJ, vp_in, hn]; done))) | (refine And.intro (show ¬ _ from ?_) ?_; (focus (simp [gI, gJ, sI, sJ, vp_in, hn]; done))) | (refine ⟨1, (by decide), _, f_within _ _ _, ?_⟩; rintro _ _ ⟨rfl, rfl⟩) | (refine ⟨2, (by decide), _, f_gapsOf _ h4, ?_⟩; rintro _ _ ⟨rfl, rfl⟩) | (dsimp only [sI_c, sJ_c, sNw_c, sSp_c]))
    exact ⟨by simp [hn], rfl⟩
  · refine At.gs okX6_lacking 300 ?_
    repeat' ((conv => whnf); first | (refine And.intro rfl (At.ls okX6_lacking 300 ⟨_, _, rfl⟩ ?_)) | (refine And.intro ?_ ?_; (focus (intro h; exfalso; simp [gI, gJ, sI, sJ, vp_in, hn] at h; done)); intro _) | (refine And.intro ?_ ?_; rotate_left; (focus (intro h; exfalso; simp [gI, gJ, sI, sJ, vp_in, hn] at h; done)); intro _) | (refine And.intro (show vp_in _ _ from ?_) ?_; (focus (simp [gI, gJ, sI, sJ, vp_in, hn]; done))) | (refine And.intro (show _ ∨ _ from ?_) ?_; (focus (simp [gI, gJ, sI, sJ, vp_in, hn]; done))) | (refine And.intro (show ¬ _ from ?_) ?_; (focus (simp [gI, gJ, sI, sJ, vp_in, hn]; done))) | (refine ⟨1, (by decide), _, f_within _ _ _, ?_⟩; rintro _ _ ⟨rfl, rfl⟩) | (dsimp only [sI_c, sJ_c, sNw_c, sSp_c]))
    exact ⟨by simp only [if_neg hn], rfl⟩
set_option maxRecDepth 100000 in
set_option maxHeartbeats 4000000 in
theorem f_areBits {m : MM} (b z : Int32) (hz : z = 0) : CI 1 mX6_areBits [.int b, .int z] m (fun r m' => r = (if b = 0 then 1 else 0) ∧ m' = m) := by
  subst hz
  have e : b &&& ((-1) <<< ((0 : Int32) &&& 31)) = b := by rw [show ((-1 : Int32) <<< ((0 : Int32) &&& 31)) = -1 from by decide]; exact Int32.and_neg_one
  refine At.gs okX6_areBits 300 ?_
  repeat' ((conv => whnf); first | (refine And.intro rfl (At.ls okX6_areBits 300 ⟨_, _, rfl⟩ ?_)) | (refine And.intro ?_ ?_; (focus (intro h; exfalso; simp [gI, gJ, sI, sJ, vp_in, e] at h; done)); intro _) | (refine And.intro ?_ ?_; rotate_left; (focus (intro h; exfalso; simp [gI, gJ, sI, sJ, vp_in, e] at h; done)); intro _) | (refine And.intro (show vp_in _ _ from ?_) ?_; (focus (simp [gI, gJ, sI, sJ, vp_in, e]; done))) | (refine And.intro (show _ ∨ _ from ?_) ?_; (focus (simp [gI, gJ, sI, sJ, vp_in, e]; done))) | (refine And.intro (show ¬ _ from ?_) ?_; (focus (simp [gI, gJ, sI, sJ, vp_in, e]; done))) | (dsimp only [sI_c, sJ_c, sNw_c, sSp_c]) | (refine And.intro ?_ ?_ <;> intro h))
  all_goals (refine And.intro ?_ rfl)
  all_goals (rw [e] at h; simp [h])
set_option maxRecDepth 100000 in
set_option maxHeartbeats 4000000 in
theorem f_bitC {m : MM} (z : Int32) (hz : z = 0) : CI 1 mJ6_bitCount_0f7a4 [.int z] m (fun r m' => r = 0 ∧ m' = m) := by
  subst hz
  exact f_bitCount
set_option maxRecDepth 100000 in
set_option maxHeartbeats 4000000 in
theorem f_stop {f : Nat → Nat → Int32} {g : Nat → Nat → Int64} (b : Int32) (h : ZC f) : CI 5 mX6_stop [.ref 6, .int b] (f, g, (336, 720)) (fun r m' => r = (if b = 0 then 0 else -1) ∧ ∃ f', m' = (f', g, (336, 720)) ∧ FrM f f') := by
  obtain ⟨⟨hr1, hr2, hr3⟩, h1, h2, h3, h4, h5, h6, h7, h8, h9⟩ := h
  by_cases hb : b = 0
  · subst hb
    refine At.gs okX6_stop 300 ?_
    repeat' ((conv => whnf); first | (refine And.intro rfl (At.ls okX6_stop 300 ⟨_, _, rfl⟩ ?_)) | (refine And.intro ?_ ?_; (focus (intro h; exfalso; simp [gI, gJ, sI, sJ, vp_in] at h; done)); intro _) | (refine And.intro ?_ ?_; rotate_left; (focus (intro h; exfalso; simp [gI, gJ, sI, sJ, vp_in] at h; done)); intro _) | (refine And.intro (show vp_in _ _ from ?_) ?_; (focus (simp [gI, gJ, sI, sJ, vp_in]; done))) | (refine And.intro (show _ ∨ _ from ?_) ?_; (focus (simp [gI, gJ, sI, sJ, vp_in]; done))) | (refine And.intro (show ¬ _ from ?_) ?_; (focus (simp [gI, gJ, sI, sJ, vp_in]; done))) | (refine ⟨1, (by decide), _, f_areBits _ _ h3, ?_⟩; rintro _ _ ⟨rfl, rfl⟩) | (refine ⟨1, (by decide), _, f_bitCount, ?_⟩; rintro _ _ ⟨rfl, rfl⟩) | (dsimp only [sI_c, sJ_c, sNw_c, sSp_c]))
    exact ⟨rfl, _, rfl, fun k => rfl⟩
  · refine At.gs okX6_stop 300 ?_
    repeat' ((conv => whnf); first | (refine And.intro rfl (At.ls okX6_stop 300 ⟨_, _, rfl⟩ ?_)) | (refine And.intro ?_ ?_; (focus (intro h; exfalso; simp [gI, gJ, sI, sJ, vp_in, hb] at h; done)); intro _) | (refine And.intro ?_ ?_; rotate_left; (focus (intro h; exfalso; simp [gI, gJ, sI, sJ, vp_in, hb] at h; done)); intro _) | (refine And.intro (show vp_in _ _ from ?_) ?_; (focus (simp [gI, gJ, sI, sJ, vp_in, hb]; done))) | (refine And.intro (show _ ∨ _ from ?_) ?_; (focus (simp [gI, gJ, sI, sJ, vp_in, hb]; done))) | (refine And.intro (show ¬ _ from ?_) ?_; (focus (simp [gI, gJ, sI, sJ, vp_in, hb]; done))) | (refine ⟨1, (by decide), _, f_areBits _ _ h3, ?_⟩; rintro _ _ ⟨rfl, rfl⟩) | (dsimp only [sI_c, sJ_c, sNw_c, sSp_c]))
    exact ⟨by simp only [if_neg hb], _, rfl, fun k => rfl⟩
set_option maxRecDepth 100000 in
set_option maxHeartbeats 4000000 in
theorem f_rule {f : Nat → Nat → Int32} {g : Nat → Nat → Int64} (b : Int32) (h : ZC f) : CI 5 mX6_rule [.ref 6, .int b] (f, g, (336, 720)) (fun r m' => r = (if b = 0 then 0 else -1) ∧ ∃ f', m' = (f', g, (336, 720)) ∧ FrM f f') := by
  obtain ⟨⟨hr1, hr2, hr3⟩, h1, h2, h3, h4, h5, h6, h7, h8, h9⟩ := h
  by_cases hb : b = 0
  · subst hb
    refine At.gs okX6_rule 300 ?_
    repeat' ((conv => whnf); first | (refine And.intro rfl (At.ls okX6_rule 300 ⟨_, _, rfl⟩ ?_)) | (refine And.intro ?_ ?_; (focus (intro h; exfalso; simp [gI, gJ, sI, sJ, vp_in] at h; done)); intro _) | (refine And.intro ?_ ?_; rotate_left; (focus (intro h; exfalso; simp [gI, gJ, sI, sJ, vp_in] at h; done)); intro _) | (refine And.intro (show vp_in _ _ from ?_) ?_; (focus (simp [gI, gJ, sI, sJ, vp_in]; done))) | (refine And.intro (show _ ∨ _ from ?_) ?_; (focus (simp [gI, gJ, sI, sJ, vp_in]; done))) | (refine And.intro (show ¬ _ from ?_) ?_; (focus (simp [gI, gJ, sI, sJ, vp_in]; done))) | (refine ⟨1, (by decide), _, f_areBits _ _ h1, ?_⟩; rintro _ _ ⟨rfl, rfl⟩) | (refine ⟨1, (by decide), _, f_bitCount, ?_⟩; rintro _ _ ⟨rfl, rfl⟩) | (dsimp only [sI_c, sJ_c, sNw_c, sSp_c]))
    exact ⟨rfl, _, rfl, fun k => rfl⟩
  · refine At.gs okX6_rule 300 ?_
    repeat' ((conv => whnf); first | (refine And.intro rfl (At.ls okX6_rule 300 ⟨_, _, rfl⟩ ?_)) | (refine And.intro ?_ ?_; (focus (intro h; exfalso; simp [gI, gJ, sI, sJ, vp_in, hb] at h; done)); intro _) | (refine And.intro ?_ ?_; rotate_left; (focus (intro h; exfalso; simp [gI, gJ, sI, sJ, vp_in, hb] at h; done)); intro _) | (refine And.intro (show vp_in _ _ from ?_) ?_; (focus (simp [gI, gJ, sI, sJ, vp_in, hb]; done))) | (refine And.intro (show _ ∨ _ from ?_) ?_; (focus (simp [gI, gJ, sI, sJ, vp_in, hb]; done))) | (refine And.intro (show ¬ _ from ?_) ?_; (focus (simp [gI, gJ, sI, sJ, vp_in, hb]; done))) | (refine ⟨1, (by decide), _, f_areBits _ _ h1, ?_⟩; rintro _ _ ⟨rfl, rfl⟩) | (dsimp only [sI_c, sJ_c, sNw_c, sSp_c]))
    exact ⟨by simp only [if_neg hb], _, rfl, fun k => rfl⟩
set_option maxRecDepth 100000 in
set_option maxHeartbeats 4000000 in
theorem f_count {f : Nat → Nat → Int32} {g : Nat → Nat → Int64} (w : Int32) (h : ZC f) : CI 5 mX6_count [.ref 6, .int w] (f, g, (336, 720)) (fun r m' => r = (if 0 ≤ w ∧ w ≤ 7 then 0 else -1) ∧ m' = (f, g, (336, 720))) := by
  obtain ⟨⟨hr1, hr2, hr3⟩, h1, h2, h3, h4, h5, h6, h7, h8, h9⟩ := h
  refine At.gs okX6_count 300 ?_
  repeat' ((conv => whnf); first | (refine And.intro rfl (At.ls okX6_count 300 ⟨_, _, rfl⟩ ?_)) | (refine And.intro ?_ ?_; (focus (intro h; exfalso; simp [gI, gJ, sI, sJ, vp_in] at h; done)); intro _) | (refine And.intro ?_ ?_; rotate_left; (focus (intro h; exfalso; simp [gI, gJ, sI, sJ, vp_in] at h; done)); intro _) | (refine And.intro (show vp_in _ _ from ?_) ?_; (focus (simp [gI, gJ, sI, sJ, vp_in]; done))) | (refine And.intro (show _ ∨ _ from ?_) ?_; (focus (simp [gI, gJ, sI, sJ, vp_in]; done))) | (refine And.intro (show ¬ _ from ?_) ?_; (focus (simp [gI, gJ, sI, sJ, vp_in]; done))) | (refine ⟨1, (by decide), _, f_bitC _ h6, ?_⟩; rintro _ _ ⟨rfl, rfl⟩) | (refine ⟨1, (by decide), _, f_bitC _ h7, ?_⟩; rintro _ _ ⟨rfl, rfl⟩) | (refine ⟨2, (by decide), _, f_missing _ h3 h4, ?_⟩; rintro _ _ ⟨rfl, rfl⟩) | (refine ⟨1, (by decide), _, f_bitCount, ?_⟩; rintro _ _ ⟨rfl, rfl⟩) | (dsimp only [sI_c, sJ_c, sNw_c, sSp_c]) | (refine And.intro ?_ ?_ <;> intro h))
  all_goals (refine And.intro ?_ rfl)
  all_goals (first | (subst_vars; simp_all [gI]; done) | (rw [if_neg]; rintro ⟨q1, q2⟩; simp only [Int32.le_iff_toInt_le, ← Int32.toInt_inj] at *; simp at *; omega))
