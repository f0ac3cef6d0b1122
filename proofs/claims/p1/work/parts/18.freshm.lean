/-! contracts on a fresh reference -/
def ZM (f : Nat → Nat → Int32) : Prop := (f 1175 2 = 0 ∧ f 1175 3 = 0 ∧ f 1175 4 = 0 ∧ f 1175 5 = 0 ∧ f 1175 6 = 0 ∧ f 1175 7 = 0) ∧ f 1175 37 = 0 ∧ f 1175 38 = -1 ∧ f 1175 39 = 0 ∧ f 1175 40 = 0
set_option maxRecDepth 100000 in
set_option maxHeartbeats 4000000 in
theorem m_isFirm {f : Nat → Nat → Int32} {g : Nat → Nat → Int64} {c : Nat × Nat} (x : Int32) (hs : f 1175 5 = 0) : CI 1 mX7_isFirm [.ref 1175, .int x] (f, g, c) (fun r m' => r = 0 ∧ m' = (f, g, c)) := by
  refine At.gs okX7_isFirm 300 ?_
  repeat' ((conv => whnf); first | (refine And.intro rfl (At.ls okX7_isFirm 300 ⟨_, _, rfl⟩ ?_)) | (refine And.intro ?_ ?_; (focus (intro h; exfalso; simp [gI, gJ, sI, sJ, vp_in, hs] at h; done)); intro _) | (refine And.intro ?_ ?_; rotate_left; (focus (intro h; exfalso; simp [gI, gJ, sI, sJ, vp_in, hs] at h; done)); intro _) | (refine And.intro (show vp_in _ _ from ?_) ?_; (focus (simp [gI, gJ, sI, sJ, vp_in, hs]; done))) | (refine And.intro (show _ ∨ _ from ?_) ?_; (focus (simp [gI, gJ, sI, sJ, vp_in, hs]; done))) | (refine And.intro (show ¬ _ from ?_) ?_; (focus (simp [gI, gJ, sI, sJ, vp_in, hs]; done))) | (dsimp only [sI_c, sJ_c, sNw_c, sSp_c]) | (refine And.intro ?_ ?_ <;> intro h))
  all_goals (refine And.intro ?_ ?_)
  all_goals (first | (with_reducible rfl) | (simp_all [gI, gJ, sI, sJ]; done) | (simp only [Int32.lt_iff_toInt_lt, Int32.le_iff_toInt_le] at *; first | (rw [if_pos (by omega)]; done) | (rw [if_neg (by omega)]; done)) | (exfalso; simp_all [gI, gJ, sI, sJ, Int32.lt_iff_toInt_lt, Int32.le_iff_toInt_le]; omega) | rfl)
set_option maxRecDepth 100000 in
set_option maxHeartbeats 4000000 in
theorem m_isSale {f : Nat → Nat → Int32} {g : Nat → Nat → Int64} {c : Nat × Nat} (x : Int32) (hs : f 1175 6 = 0) : CI 1 mX7_isSale [.ref 1175, .int x] (f, g, c) (fun r m' => r = 0 ∧ m' = (f, g, c)) := by
  refine At.gs okX7_isSale 300 ?_
  repeat' ((conv => whnf); first | (refine And.intro rfl (At.ls okX7_isSale 300 ⟨_, _, rfl⟩ ?_)) | (refine And.intro ?_ ?_; (focus (intro h; exfalso; simp [gI, gJ, sI, sJ, vp_in, hs] at h; done)); intro _) | (refine And.intro ?_ ?_; rotate_left; (focus (intro h; exfalso; simp [gI, gJ, sI, sJ, vp_in, hs] at h; done)); intro _) | (refine And.intro (show vp_in _ _ from ?_) ?_; (focus (simp [gI, gJ, sI, sJ, vp_in, hs]; done))) | (refine And.intro (show _ ∨ _ from ?_) ?_; (focus (simp [gI, gJ, sI, sJ, vp_in, hs]; done))) | (refine And.intro (show ¬ _ from ?_) ?_; (focus (simp [gI, gJ, sI, sJ, vp_in, hs]; done))) | (dsimp only [sI_c, sJ_c, sNw_c, sSp_c]) | (refine And.intro ?_ ?_ <;> intro h))
  all_goals (refine And.intro ?_ ?_)
  all_goals (first | (with_reducible rfl) | (simp_all [gI, gJ, sI, sJ]; done) | (simp only [Int32.lt_iff_toInt_lt, Int32.le_iff_toInt_le] at *; first | (rw [if_pos (by omega)]; done) | (rw [if_neg (by omega)]; done)) | (exfalso; simp_all [gI, gJ, sI, sJ, Int32.lt_iff_toInt_lt, Int32.le_iff_toInt_le]; omega) | rfl)
set_option maxRecDepth 100000 in
set_option maxHeartbeats 4000000 in
theorem m_isAskedY {m : MM} (w k d : Int32) (ha : asked w k d) : CI 1 mX7_isAsked [.int w, .int k, .int d] m (fun r m' => r = 1 ∧ m' = m) := by
  have n1 := Int32.not_lt.mpr ha.1.1
  have n2 := Int32.not_lt.mpr ha.1.2
  have n3 := Int32.not_lt.mpr ha.2.1.1
  have n4 := Int32.not_lt.mpr ha.2.1.2
  have n5 := Int32.not_lt.mpr ha.2.2.1
  have n6 := Int32.not_lt.mpr ha.2.2.2
  refine At.gs okX7_isAsked 300 ?_
  repeat' ((conv => whnf); first | (refine And.intro rfl (At.ls okX7_isAsked 300 ⟨_, _, rfl⟩ ?_)) | (refine And.intro ?_ ?_; (focus (intro h; exfalso; simp [gI, gJ, sI, sJ, vp_in, n1, n2, n3, n4, n5, n6] at h; done)); intro _) | (refine And.intro ?_ ?_; rotate_left; (focus (intro h; exfalso; simp [gI, gJ, sI, sJ, vp_in, n1, n2, n3, n4, n5, n6] at h; done)); intro _) | (refine And.intro (show vp_in _ _ from ?_) ?_; (focus (simp [gI, gJ, sI, sJ, vp_in, n1, n2, n3, n4, n5, n6]; done))) | (refine And.intro (show _ ∨ _ from ?_) ?_; (focus (simp [gI, gJ, sI, sJ, vp_in, n1, n2, n3, n4, n5, n6]; done))) | (refine And.intro (show ¬ _ from ?_) ?_; (focus (simp [gI, gJ, sI, sJ, vp_in, n1, n2, n3, n4, n5, n6]; done))) | (dsimp only [sI_c, sJ_c, sNw_c, sSp_c]))
  exact ⟨rfl, rfl⟩
set_option maxRecDepth 100000 in
set_option maxHeartbeats 4000000 in
theorem m_isAskedN {m : MM} (w k d : Int32) (ha : ¬ asked w k d) : CI 1 mX7_isAsked [.int w, .int k, .int d] m (fun r m' => r = 0 ∧ m' = m) := by
  refine At.gs okX7_isAsked 300 ?_
  repeat' ((conv => whnf); first | (refine And.intro rfl (At.ls okX7_isAsked 300 ⟨_, _, rfl⟩ ?_)) | (refine And.intro ?_ ?_; (focus (intro h; exfalso; simp [gI, gJ, sI, sJ, vp_in] at h; done)); intro _) | (refine And.intro ?_ ?_; rotate_left; (focus (intro h; exfalso; simp [gI, gJ, sI, sJ, vp_in] at h; done)); intro _) | (refine And.intro (show vp_in _ _ from ?_) ?_; (focus (simp [gI, gJ, sI, sJ, vp_in]; done))) | (refine And.intro (show _ ∨ _ from ?_) ?_; (focus (simp [gI, gJ, sI, sJ, vp_in]; done))) | (refine And.intro (show ¬ _ from ?_) ?_; (focus (simp [gI, gJ, sI, sJ, vp_in]; done))) | (dsimp only [sI_c, sJ_c, sNw_c, sSp_c]) | (refine And.intro ?_ ?_ <;> intro h))
  all_goals (first | exact ⟨rfl, rfl⟩ | (exfalso; apply ha; simp only [asked, Int32.le_iff_toInt_le]; simp only [Int32.lt_iff_toInt_lt] at *; omega))
set_option maxRecDepth 100000 in
set_option maxHeartbeats 4000000 in
theorem m_seeks {f : Nat → Nat → Int32} {g : Nat → Nat → Int64} {c : Nat × Nat} (w k d : Int32) (hs : f 1175 6 = 0) : CV 1 mX7_seeks [.ref 1175, .int w, .int k, .int d] (f, g, c) (fun m' => ∃ f', m' = (f', g, c) ∧ f' 1175 47 = 0 ∧ f' 1175 42 = 0 ∧ ∀ j, j < 42 → f' 1175 j = f 1175 j) := by
  refine At.gs okX7_seeks 300 ?_
  repeat' ((conv => whnf); first | (refine And.intro rfl (At.ls okX7_seeks 300 ⟨_, _, rfl⟩ ?_)) | (refine And.intro ?_ ?_; (focus (intro h; exfalso; simp [gI, gJ, sI, sJ, vp_in, hs] at h; done)); intro _) | (refine And.intro ?_ ?_; rotate_left; (focus (intro h; exfalso; simp [gI, gJ, sI, sJ, vp_in, hs] at h; done)); intro _) | (refine And.intro (show vp_in _ _ from ?_) ?_; (focus (simp [gI, gJ, sI, sJ, vp_in, hs]; done))) | (refine And.intro (show _ ∨ _ from ?_) ?_; (focus (simp [gI, gJ, sI, sJ, vp_in, hs]; done))) | (refine And.intro (show ¬ _ from ?_) ?_; (focus (simp [gI, gJ, sI, sJ, vp_in, hs]; done))) | (dsimp only [sI_c, sJ_c, sNw_c, sSp_c]))
  refine ⟨_, rfl, ?_, ?_, ?_⟩
  · simp [sI]
  · simp [sI]
  · intro j hj
    have : j ≠ 42 ∧ j ≠ 47 ∧ j ≠ 48 ∧ j ≠ 49 ∧ j ≠ 50 := by omega
    simp [sI, this]
set_option maxRecDepth 100000 in
set_option maxHeartbeats 4000000 in
theorem m_seeksNow {f : Nat → Nat → Int32} {g : Nat → Nat → Int64} {c : Nat × Nat} (w k d : Int32) (hs : f 1175 6 = 0) : CV 2 mX7_seeksNow [.ref 1175, .int w, .int k, .int d] (f, g, c) (fun m' => ∃ f', m' = (f', g, c) ∧ f' 1175 47 = 0 ∧ f' 1175 42 = 0 ∧ ∀ j, j < 42 → f' 1175 j = f 1175 j) := by
  refine At.gs okX7_seeksNow 300 ?_
  repeat' ((conv => whnf); first | (refine And.intro rfl (At.ls okX7_seeksNow 300 ⟨_, _, rfl⟩ ?_)) | (refine And.intro ?_ ?_; (focus (intro h; exfalso; simp [gI, gJ, sI, sJ, vp_in, hs] at h; done)); intro _) | (refine And.intro ?_ ?_; rotate_left; (focus (intro h; exfalso; simp [gI, gJ, sI, sJ, vp_in, hs] at h; done)); intro _) | (refine And.intro (show vp_in _ _ from ?_) ?_; (focus (simp [gI, gJ, sI, sJ, vp_in, hs]; done))) | (refine And.intro (show _ ∨ _ from ?_) ?_; (focus (simp [gI, gJ, sI, sJ, vp_in, hs]; done))) | (refine And.intro (show ¬ _ from ?_) ?_; (focus (simp [gI, gJ, sI, sJ, vp_in, hs]; done))) | (refine ⟨1, (by decide), _, m_seeks _ _ _ hs, ?_⟩; rintro _ hx) | (dsimp only [sI_c, sJ_c, sNw_c, sSp_c]))
  exact hx
set_option maxRecDepth 100000 in
set_option maxHeartbeats 4000000 in
theorem m_allTakes {f : Nat → Nat → Int32} {g : Nat → Nat → Int64} {c : Nat × Nat} (x y z : Int32) (hs : f 1175 42 = 0) : CJ 1 mX7_allTakes [.ref 1175, .int x, .int y, .int z] (f, g, c) (fun r m' => r = 0 ∧ m' = (f, g, c)) := by
  refine At.gs okX7_allTakes 300 ?_
  repeat' ((conv => whnf); first | (refine And.intro rfl (At.ls okX7_allTakes 300 ⟨_, _, rfl⟩ ?_)) | (refine And.intro ?_ ?_; (focus (intro h; exfalso; simp [gI, gJ, sI, sJ, vp_in, hs] at h; done)); intro _) | (refine And.intro ?_ ?_; rotate_left; (focus (intro h; exfalso; simp [gI, gJ, sI, sJ, vp_in, hs] at h; done)); intro _) | (refine And.intro (show vp_in _ _ from ?_) ?_; (focus (simp [gI, gJ, sI, sJ, vp_in, hs]; done))) | (refine And.intro (show _ ∨ _ from ?_) ?_; (focus (simp [gI, gJ, sI, sJ, vp_in, hs]; done))) | (refine And.intro (show ¬ _ from ?_) ?_; (focus (simp [gI, gJ, sI, sJ, vp_in, hs]; done))) | (dsimp only [sI_c, sJ_c, sNw_c, sSp_c]))
  exact ⟨rfl, rfl⟩
set_option maxRecDepth 100000 in
set_option maxHeartbeats 4000000 in
theorem m_parties {f : Nat → Nat → Int32} {g : Nat → Nat → Int64} {c : Nat × Nat} (hs : f 1175 5 = 0) : CV 1 mX7_parties [.ref 1175] (f, g, c) (fun m' => m' = (f, g, c)) := by
  refine At.gs okX7_parties 300 ?_
  repeat' ((conv => whnf); first | (refine And.intro rfl (At.ls okX7_parties 300 ⟨_, _, rfl⟩ ?_)) | (refine And.intro ?_ ?_; (focus (intro h; exfalso; simp [gI, gJ, sI, sJ, vp_in, hs] at h; done)); intro _) | (refine And.intro ?_ ?_; rotate_left; (focus (intro h; exfalso; simp [gI, gJ, sI, sJ, vp_in, hs] at h; done)); intro _) | (refine And.intro (show vp_in _ _ from ?_) ?_; (focus (simp [gI, gJ, sI, sJ, vp_in, hs]; done))) | (refine And.intro (show _ ∨ _ from ?_) ?_; (focus (simp [gI, gJ, sI, sJ, vp_in, hs]; done))) | (refine And.intro (show ¬ _ from ?_) ?_; (focus (simp [gI, gJ, sI, sJ, vp_in, hs]; done))) | (dsimp only [sI_c, sJ_c, sNw_c, sSp_c]))
  rfl
set_option maxRecDepth 100000 in
set_option maxHeartbeats 4000000 in
theorem m_bits {m : MM} (z : Int32) (hz : z = 0) : CI 1 mX7_bits [.int z] m (fun r m' => r = 0 ∧ m' = m) := by
  subst hz
  refine At.gs okX7_bits 2000 ?_
  repeat' ((conv => whnf); first | (refine And.intro rfl (At.ls okX7_bits 2000 ⟨_, _, rfl⟩ ?_)) | (refine And.intro ?_ ?_; (focus (intro h; exfalso; simp [gI, gJ, sI, sJ, vp_in] at h; done)); intro _) | (refine And.intro ?_ ?_; rotate_left; (focus (intro h; exfalso; simp [gI, gJ, sI, sJ, vp_in] at h; done)); intro _) | (refine And.intro (show vp_in _ _ from ?_) ?_; (focus (simp [gI, gJ, sI, sJ, vp_in]; done))) | (refine And.intro (show _ ∨ _ from ?_) ?_; (focus (simp [gI, gJ, sI, sJ, vp_in]; done))) | (refine And.intro (show ¬ _ from ?_) ?_; (focus (simp [gI, gJ, sI, sJ, vp_in]; done))) | (dsimp only [sI_c, sJ_c, sNw_c, sSp_c]))
  exact ⟨by decide, rfl⟩
set_option maxRecDepth 100000 in
set_option maxHeartbeats 4000000 in
theorem m_found {m : MM} (a : Nat) (x y z : Int32) (hy : y = 0) : CI 1 mX7_found [.ref a, .int x, .int y, .int z] m (fun r m' => r = -1 ∧ m' = m) := by
  subst hy
  refine At.gs okX7_found 300 ?_
  repeat' ((conv => whnf); first | (refine And.intro rfl (At.ls okX7_found 300 ⟨_, _, rfl⟩ ?_)) | (refine And.intro ?_ ?_; (focus (intro h; exfalso; simp [gI, gJ, sI, sJ, vp_in] at h; done)); intro _) | (refine And.intro ?_ ?_; rotate_left; (focus (intro h; exfalso; simp [gI, gJ, sI, sJ, vp_in] at h; done)); intro _) | (refine And.intro (show vp_in _ _ from ?_) ?_; (focus (simp [gI, gJ, sI, sJ, vp_in]; done))) | (refine And.intro (show _ ∨ _ from ?_) ?_; (focus (simp [gI, gJ, sI, sJ, vp_in]; done))) | (refine And.intro (show ¬ _ from ?_) ?_; (focus (simp [gI, gJ, sI, sJ, vp_in]; done))) | (dsimp only [sI_c, sJ_c, sNw_c, sSp_c]))
  exact ⟨rfl, rfl⟩
set_option maxRecDepth 100000 in
set_option maxHeartbeats 4000000 in
theorem m_here {f : Nat → Nat → Int32} {g : Nat → Nat → Int64} {c : Nat × Nat} (h1 : f 1175 31 = 0) (h2 : f 1175 30 = 0) : CI 1 mX7_here [.ref 1175] (f, g, c) (fun r m' => r = -1 ∧ m' = (f, g, c)) := by
  refine At.gs okX7_here 300 ?_
  repeat' ((conv => whnf); first | (refine And.intro rfl (At.ls okX7_here 300 ⟨_, _, rfl⟩ ?_)) | (refine And.intro ?_ ?_; (focus (intro h; exfalso; simp [gI, gJ, sI, sJ, vp_in, h1, h2] at h; done)); intro _) | (refine And.intro ?_ ?_; rotate_left; (focus (intro h; exfalso; simp [gI, gJ, sI, sJ, vp_in, h1, h2] at h; done)); intro _) | (refine And.intro (show vp_in _ _ from ?_) ?_; (focus (simp [gI, gJ, sI, sJ, vp_in, h1, h2]; done))) | (refine And.intro (show _ ∨ _ from ?_) ?_; (focus (simp [gI, gJ, sI, sJ, vp_in, h1, h2]; done))) | (refine And.intro (show ¬ _ from ?_) ?_; (focus (simp [gI, gJ, sI, sJ, vp_in, h1, h2]; done))) | (dsimp only [sI_c, sJ_c, sNw_c, sSp_c]))
  exact ⟨rfl, rfl⟩
set_option maxRecDepth 100000 in
set_option maxHeartbeats 4000000 in
theorem m_next {f : Nat → Nat → Int32} {g : Nat → Nat → Int64} {c : Nat × Nat} (h1 : f 1175 31 = 0) (h2 : f 1175 30 = 0) : CV 2 mX7_next [.ref 1175] (f, g, c) (fun m' => ∃ f', m' = (f', g, c) ∧ f' 1175 33 = 4 ∧ ∀ j, j ≠ 32 → j ≠ 33 → f' 1175 j = f 1175 j) := by
  refine At.gs okX7_next 300 ?_
  repeat' ((conv => whnf); first | (refine And.intro rfl (At.ls okX7_next 300 ⟨_, _, rfl⟩ ?_)) | (refine And.intro ?_ ?_; (focus (intro h; exfalso; simp [gI, gJ, sI, sJ, vp_in, h1, h2] at h; done)); intro _) | (refine And.intro ?_ ?_; rotate_left; (focus (intro h; exfalso; simp [gI, gJ, sI, sJ, vp_in, h1, h2] at h; done)); intro _) | (refine And.intro (show vp_in _ _ from ?_) ?_; (focus (simp [gI, gJ, sI, sJ, vp_in, h1, h2]; done))) | (refine And.intro (show _ ∨ _ from ?_) ?_; (focus (simp [gI, gJ, sI, sJ, vp_in, h1, h2]; done))) | (refine And.intro (show ¬ _ from ?_) ?_; (focus (simp [gI, gJ, sI, sJ, vp_in, h1, h2]; done))) | (refine ⟨1, (by decide), _, m_here ?_ ?_, ?_⟩; (focus (simp [gI, sI, h1]; done)); (focus (simp [gI, sI, h2]; done)); rintro _ _ ⟨rfl, rfl⟩) | (dsimp only [sI_c, sJ_c, sNw_c, sSp_c]))
  refine ⟨_, rfl, ?_, ?_⟩
  · simp [sI]
  · intro j j1 j2; simp [sI, j1, j2]
