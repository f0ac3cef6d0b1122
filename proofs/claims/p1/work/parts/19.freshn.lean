/-! contracts on a fresh reference: its public methods -/
set_option maxRecDepth 100000 in
set_option maxHeartbeats 4000000 in
theorem m_feedL {g : Nat → Nat → Int64} {c : Nat × Nat} {x1 x2 x3 x4 x5 : Int32} : ∀ (n j : Nat) (x7 : Value) (f : Nat → Nat → Int32), j + n = 20 → f 1175 2 = 0 → At (E0 6) mX7_feed (qi (fun r m' => r = 20)) 20 [.ref 1175, .int x1, .int x2, .int x3, .int x4, .int x5, .int (nI j), x7] [] (f, g, c) := by
  intro n
  induction n with
  | zero =>
    intro j x7 f hj hv
    obtain rfl : j = 20 := by omega
    refine At.ls okX7_feed 400 ⟨_, _, rfl⟩ ?_
    have hge : (20 : Int32) ≤ nI 20 := by decide
    conv => whnf
    refine And.intro (fun _ => ?_) (fun q => absurd hge q)
    conv => whnf
    simp [gI, sI, hv]
  | succ n ih =>
    intro j x7 f hj hv
    have hlt : ¬ (20 : Int32) ≤ nI j := nI_ge (b := 20) (by omega) (by decide)
    have v1 : vp_in (0 + nI j) 800 := by have q := vp_in_nI (n := 0 + j) (N := 800) (by omega) (by decide); rw [← nI_add] at q; exact q
    refine At.ls okX7_feed 400 ⟨_, _, rfl⟩ ?_
    repeat' ((conv => whnf); first | (refine And.intro rfl ?_; have q := ih (j + 1); rw [nI_succ] at q; refine q _ _ (by omega) ?_; exact hv) | (refine And.intro rfl (At.ls okX7_feed 300 ⟨_, _, rfl⟩ ?_)) | (refine And.intro ?_ ?_; (focus (intro h; exfalso; simp [gI, gJ, sI, sJ, vp_in, hlt] at h; done)); intro _) | (refine And.intro ?_ ?_; rotate_left; (focus (intro h; exfalso; simp [gI, gJ, sI, sJ, vp_in, hlt] at h; done)); intro _) | (refine And.intro (show vp_in _ _ from ?_) ?_; (focus (simp [gI, gJ, sI, sJ, vp_in, hlt]; done))) | (refine And.intro (show _ ∨ _ from ?_) ?_; (focus (simp [gI, gJ, sI, sJ, vp_in, hlt]; done))) | (refine And.intro (show ¬ _ from ?_) ?_; (focus (simp [gI, gJ, sI, sJ, vp_in, hlt]; done))) | (refine And.intro ?_ ?_; (focus (show vp_in (f 1175 2 + nI j) 800; rw [hv]; exact v1))) | (dsimp only [sI_c, sJ_c, sNw_c, sSp_c]) | (refine And.intro ?_ ?_ <;> intro h))
set_option maxRecDepth 100000 in
set_option maxHeartbeats 4000000 in
theorem m_feed {f : Nat → Nat → Int32} {g : Nat → Nat → Int64} {c : Nat × Nat} (x1 x2 x3 x4 x5 : Int32) (h : ZM f) : CI 6 mX7_feed [.ref 1175, .int x1, .int x2, .int x3, .int x4, .int x5] (f, g, c) (fun r m' => r = 20) := by
  obtain ⟨⟨z2, z3, z4, z5, z6, z7⟩, z37, z38, z39, z40⟩ := h
  refine At.gs okX7_feed 300 ?_
  repeat' ((conv => whnf); first | (refine And.intro rfl ?_; refine m_feedL 20 0 _ _ (by omega) ?_; exact z2) | (refine And.intro rfl (At.ls okX7_feed 300 ⟨_, _, rfl⟩ ?_)) | (refine And.intro ?_ ?_; (focus (intro h; exfalso; simp [gI, gJ, sI, sJ, vp_in, z2] at h; done)); intro _) | (refine And.intro ?_ ?_; rotate_left; (focus (intro h; exfalso; simp [gI, gJ, sI, sJ, vp_in, z2] at h; done)); intro _) | (refine And.intro (show vp_in _ _ from ?_) ?_; (focus (simp [gI, gJ, sI, sJ, vp_in, z2]; done))) | (refine And.intro (show _ ∨ _ from ?_) ?_; (focus (simp [gI, gJ, sI, sJ, vp_in, z2]; done))) | (refine And.intro (show ¬ _ from ?_) ?_; (focus (simp [gI, gJ, sI, sJ, vp_in, z2]; done))) | (dsimp only [sI_c, sJ_c, sNw_c, sSp_c]))
set_option maxRecDepth 100000 in
set_option maxHeartbeats 4000000 in
theorem m_fault {f : Nat → Nat → Int32} {g : Nat → Nat → Int64} {c : Nat × Nat} (w : Int32) (h : ZM f)  : CI 6 mX7_fault [.ref 1175, .int w] (f, g, c) (fun r m' => r = (if w = 0 then 0 else -1)) := by
  obtain ⟨⟨z2, z3, z4, z5, z6, z7⟩, z37, z38, z39, z40⟩ := h
  refine At.gs okX7_fault 300 ?_
  repeat' ((conv => whnf); first | (refine And.intro rfl (At.ls okX7_fault 300 ⟨_, _, rfl⟩ ?_)) | (refine And.intro ?_ ?_; (focus (intro h; exfalso; simp [gI, gJ, sI, sJ, vp_in, z2, z3, z4, z5, z6, z7, z37, z38, z39, z40] at h; done)); intro _) | (refine And.intro ?_ ?_; rotate_left; (focus (intro h; exfalso; simp [gI, gJ, sI, sJ, vp_in, z2, z3, z4, z5, z6, z7, z37, z38, z39, z40] at h; done)); intro _) | (refine And.intro (show vp_in _ _ from ?_) ?_; (focus (simp [gI, gJ, sI, sJ, vp_in, z2, z3, z4, z5, z6, z7, z37, z38, z39, z40]; done))) | (refine And.intro (show _ ∨ _ from ?_) ?_; (focus (simp [gI, gJ, sI, sJ, vp_in, z2, z3, z4, z5, z6, z7, z37, z38, z39, z40]; done))) | (refine And.intro (show ¬ _ from ?_) ?_; (focus (simp [gI, gJ, sI, sJ, vp_in, z2, z3, z4, z5, z6, z7, z37, z38, z39, z40]; done))) | (dsimp only [sI_c, sJ_c, sNw_c, sSp_c]) | (refine And.intro ?_ ?_ <;> intro h))
  all_goals (conv => whnf)
  all_goals (first | (with_reducible rfl) | (simp_all [gI, sI]; done) | rfl)
set_option maxRecDepth 100000 in
set_option maxHeartbeats 4000000 in
theorem m_named {f : Nat → Nat → Int32} {g : Nat → Nat → Int64} {c : Nat × Nat} (w : Int32) (x : Int32) (h : ZM f)  : CI 6 mX7_named [.ref 1175, .int w, .int x] (f, g, c) (fun r m' => r = -1) := by
  obtain ⟨⟨z2, z3, z4, z5, z6, z7⟩, z37, z38, z39, z40⟩ := h
  refine At.gs okX7_named 300 ?_
  repeat' ((conv => whnf); first | (refine And.intro rfl (At.ls okX7_named 300 ⟨_, _, rfl⟩ ?_)) | (refine And.intro ?_ ?_; (focus (intro h; exfalso; simp [gI, gJ, sI, sJ, vp_in, z2, z3, z4, z5, z6, z7, z37, z38, z39, z40] at h; done)); intro _) | (refine And.intro ?_ ?_; rotate_left; (focus (intro h; exfalso; simp [gI, gJ, sI, sJ, vp_in, z2, z3, z4, z5, z6, z7, z37, z38, z39, z40] at h; done)); intro _) | (refine And.intro (show vp_in _ _ from ?_) ?_; (focus (simp [gI, gJ, sI, sJ, vp_in, z2, z3, z4, z5, z6, z7, z37, z38, z39, z40]; done))) | (refine And.intro (show _ ∨ _ from ?_) ?_; (focus (simp [gI, gJ, sI, sJ, vp_in, z2, z3, z4, z5, z6, z7, z37, z38, z39, z40]; done))) | (refine And.intro (show ¬ _ from ?_) ?_; (focus (simp [gI, gJ, sI, sJ, vp_in, z2, z3, z4, z5, z6, z7, z37, z38, z39, z40]; done))) | (refine ⟨1, (by decide), _, m_found _ _ _ _ ?_, ?_⟩; (focus (simp [gI, sI, z2, z3, z4, z5, z6, z7, z37, z38, z39, z40]; done)); rintro _ _ ⟨rfl, rfl⟩) | (dsimp only [sI_c, sJ_c, sNw_c, sSp_c]) | (refine And.intro ?_ ?_ <;> intro h))
  all_goals (conv => whnf)
  all_goals (first | (with_reducible rfl) | (simp_all [gI, sI]; done) | rfl)
