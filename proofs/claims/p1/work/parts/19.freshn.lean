/-! contracts on a fresh reference: its public methods -/
set_option maxRecDepth 100000 in
set_option maxHeartbeats 4000000 in
theorem m_lays224 {g : Nat → Nat → Int64} {c : Nat × Nat} {v : Int32} : ∀ (n j : Nat) (f : Nat → Nat → Int32), j + n = 40 → f 1175 29 = v → At (E0 1) mX7_lays (qv (fun m' => gI m' 1175 29 = v)) 224 [.ref 1175, .int (nI j)] [] (f, g, c) := by
  intro n
  induction n with
  | zero =>
    intro j f hj hv
    obtain rfl : j = 40 := by omega
    refine At.ls okX7_lays 400 ⟨_, _, rfl⟩ ?_
    have hge : (40 : Int32) ≤ nI 40 := by decide
    conv => whnf
    refine And.intro (fun _ => ?_) (fun q => absurd hge q)
    repeat' ((conv => whnf); first | (refine And.intro rfl (At.ls okX7_lays 400 ⟨_, _, rfl⟩ ?_)) | (refine And.intro ?_ ?_; (focus (intro h; exfalso; simp [gI, gJ, sI, sJ, vp_in] at h; done)); intro _) | (refine And.intro ?_ ?_; rotate_left; (focus (intro h; exfalso; simp [gI, gJ, sI, sJ, vp_in] at h; done)); intro _) | (refine And.intro (show vp_in _ _ from ?_) ?_; (focus (simp [gI, gJ, sI, sJ, vp_in]; done))) | (refine And.intro (show _ ∨ _ from ?_) ?_; (focus (simp [gI, gJ, sI, sJ, vp_in]; done))) | (refine And.intro (show ¬ _ from ?_) ?_; (focus (simp [gI, gJ, sI, sJ, vp_in]; done))) | (dsimp only [sI_c, sJ_c, sNw_c, sSp_c]))
    exact hv
  | succ n ih =>
    intro j f hj hv
    have hlt : ¬ (40 : Int32) ≤ nI j := nI_ge (b := 40) (by omega) (by decide)
    have v1 : vp_in (nI j) 80 := vp_in_nI (by omega) (by decide)
    have v2 : vp_in (40 + nI j) 80 := by have q := vp_in_nI (n := 40 + j) (N := 80) (by omega) (by decide); rw [← nI_add] at q; exact q
    refine At.ls okX7_lays 400 ⟨_, _, rfl⟩ ?_
    repeat' ((conv => whnf); first | (refine And.intro rfl ?_; have q := ih (j + 1); rw [nI_succ] at q; refine q _ (by omega) ?_; exact hv) | (refine And.intro rfl (At.ls okX7_lays 400 ⟨_, _, rfl⟩ ?_)) | (refine And.intro ?_ ?_; (focus (intro h; exfalso; simp [gI, gJ, sI, sJ, vp_in, hlt] at h; done)); intro _) | (refine And.intro ?_ ?_; rotate_left; (focus (intro h; exfalso; simp [gI, gJ, sI, sJ, vp_in, hlt] at h; done)); intro _) | (refine And.intro (show vp_in _ _ from ?_) ?_; (focus (simp [gI, gJ, sI, sJ, vp_in, hlt]; done))) | (refine And.intro (show _ ∨ _ from ?_) ?_; (focus (simp [gI, gJ, sI, sJ, vp_in, hlt]; done))) | (refine And.intro (show ¬ _ from ?_) ?_; (focus (simp [gI, gJ, sI, sJ, vp_in, hlt]; done))) | (refine And.intro v1 ?_) | (refine And.intro v2 ?_) | (dsimp only [sI_c, sJ_c, sNw_c, sSp_c]))
set_option maxRecDepth 100000 in
set_option maxHeartbeats 4000000 in
theorem m_lays120 {g : Nat → Nat → Int64} {c : Nat × Nat} {v : Int32} : ∀ (n j : Nat) (f : Nat → Nat → Int32), j + n = 12 → f 1175 29 = v → At (E0 1) mX7_lays (qv (fun m' => gI m' 1175 29 = v)) 120 [.ref 1175, .int (nI j)] [] (f, g, c) := by
  intro n
  induction n with
  | zero =>
    intro j f hj hv
    obtain rfl : j = 12 := by omega
    refine At.ls okX7_lays 400 ⟨_, _, rfl⟩ ?_
    have hge : (12 : Int32) ≤ nI 12 := by decide
    conv => whnf
    refine And.intro (fun _ => ?_) (fun q => absurd hge q)
    repeat' ((conv => whnf); first | (refine And.intro rfl ?_; exact m_lays224 40 0 _ (by omega) hv) | (refine And.intro rfl (At.ls okX7_lays 400 ⟨_, _, rfl⟩ ?_)) | (refine And.intro ?_ ?_; (focus (intro h; exfalso; simp [gI, gJ, sI, sJ, vp_in] at h; done)); intro _) | (refine And.intro ?_ ?_; rotate_left; (focus (intro h; exfalso; simp [gI, gJ, sI, sJ, vp_in] at h; done)); intro _) | (refine And.intro (show vp_in _ _ from ?_) ?_; (focus (simp [gI, gJ, sI, sJ, vp_in]; done))) | (refine And.intro (show _ ∨ _ from ?_) ?_; (focus (simp [gI, gJ, sI, sJ, vp_in]; done))) | (refine And.intro (show ¬ _ from ?_) ?_; (focus (simp [gI, gJ, sI, sJ, vp_in]; done))) | (refine And.intro rfl ?_; exact m_lays224 40 0 _ (by omega) hv) | (dsimp only [sI_c, sJ_c, sNw_c, sSp_c]))
  | succ n ih =>
    intro j f hj hv
    have hlt : ¬ (12 : Int32) ≤ nI j := nI_ge (b := 12) (by omega) (by decide)
    have v1 : vp_in (nI j) 24 := vp_in_nI (by omega) (by decide)
    have v2 : vp_in (12 + nI j) 24 := by have q := vp_in_nI (n := 12 + j) (N := 24) (by omega) (by decide); rw [← nI_add] at q; exact q
    refine At.ls okX7_lays 400 ⟨_, _, rfl⟩ ?_
    repeat' ((conv => whnf); first | (refine And.intro rfl ?_; have q := ih (j + 1); rw [nI_succ] at q; refine q _ (by omega) ?_; exact hv) | (refine And.intro rfl (At.ls okX7_lays 400 ⟨_, _, rfl⟩ ?_)) | (refine And.intro ?_ ?_; (focus (intro h; exfalso; simp [gI, gJ, sI, sJ, vp_in, hlt] at h; done)); intro _) | (refine And.intro ?_ ?_; rotate_left; (focus (intro h; exfalso; simp [gI, gJ, sI, sJ, vp_in, hlt] at h; done)); intro _) | (refine And.intro (show vp_in _ _ from ?_) ?_; (focus (simp [gI, gJ, sI, sJ, vp_in, hlt]; done))) | (refine And.intro (show _ ∨ _ from ?_) ?_; (focus (simp [gI, gJ, sI, sJ, vp_in, hlt]; done))) | (refine And.intro (show ¬ _ from ?_) ?_; (focus (simp [gI, gJ, sI, sJ, vp_in, hlt]; done))) | (refine And.intro v1 ?_) | (refine And.intro v2 ?_) | (dsimp only [sI_c, sJ_c, sNw_c, sSp_c]))
set_option maxRecDepth 100000 in
set_option maxHeartbeats 4000000 in
theorem m_lays93 {g : Nat → Nat → Int64} {c : Nat × Nat} {v : Int32} : ∀ (n j : Nat) (f : Nat → Nat → Int32), j + n = 4 → f 1175 29 = v → At (E0 1) mX7_lays (qv (fun m' => gI m' 1175 29 = v)) 93 [.ref 1175, .int (nI j)] [] (f, g, c) := by
  intro n
  induction n with
  | zero =>
    intro j f hj hv
    obtain rfl : j = 4 := by omega
    refine At.ls okX7_lays 400 ⟨_, _, rfl⟩ ?_
    have hge : (4 : Int32) ≤ nI 4 := by decide
    conv => whnf
    refine And.intro (fun _ => ?_) (fun q => absurd hge q)
    repeat' ((conv => whnf); first | (refine And.intro rfl ?_; exact m_lays120 12 0 _ (by omega) hv) | (refine And.intro rfl (At.ls okX7_lays 400 ⟨_, _, rfl⟩ ?_)) | (refine And.intro ?_ ?_; (focus (intro h; exfalso; simp [gI, gJ, sI, sJ, vp_in] at h; done)); intro _) | (refine And.intro ?_ ?_; rotate_left; (focus (intro h; exfalso; simp [gI, gJ, sI, sJ, vp_in] at h; done)); intro _) | (refine And.intro (show vp_in _ _ from ?_) ?_; (focus (simp [gI, gJ, sI, sJ, vp_in]; done))) | (refine And.intro (show _ ∨ _ from ?_) ?_; (focus (simp [gI, gJ, sI, sJ, vp_in]; done))) | (refine And.intro (show ¬ _ from ?_) ?_; (focus (simp [gI, gJ, sI, sJ, vp_in]; done))) | (refine And.intro rfl ?_; exact m_lays120 12 0 _ (by omega) hv) | (dsimp only [sI_c, sJ_c, sNw_c, sSp_c]))
  | succ n ih =>
    intro j f hj hv
    have hlt : ¬ (4 : Int32) ≤ nI j := nI_ge (b := 4) (by omega) (by decide)
    have v1 : vp_in (nI j) 8 := vp_in_nI (by omega) (by decide)
    have v2 : vp_in (4 + nI j) 8 := by have q := vp_in_nI (n := 4 + j) (N := 8) (by omega) (by decide); rw [← nI_add] at q; exact q
    refine At.ls okX7_lays 400 ⟨_, _, rfl⟩ ?_
    repeat' ((conv => whnf); first | (refine And.intro rfl ?_; have q := ih (j + 1); rw [nI_succ] at q; refine q _ (by omega) ?_; exact hv) | (refine And.intro rfl (At.ls okX7_lays 400 ⟨_, _, rfl⟩ ?_)) | (refine And.intro ?_ ?_; (focus (intro h; exfalso; simp [gI, gJ, sI, sJ, vp_in, hlt] at h; done)); intro _) | (refine And.intro ?_ ?_; rotate_left; (focus (intro h; exfalso; simp [gI, gJ, sI, sJ, vp_in, hlt] at h; done)); intro _) | (refine And.intro (show vp_in _ _ from ?_) ?_; (focus (simp [gI, gJ, sI, sJ, vp_in, hlt]; done))) | (refine And.intro (show _ ∨ _ from ?_) ?_; (focus (simp [gI, gJ, sI, sJ, vp_in, hlt]; done))) | (refine And.intro (show ¬ _ from ?_) ?_; (focus (simp [gI, gJ, sI, sJ, vp_in, hlt]; done))) | (refine And.intro v1 ?_) | (refine And.intro v2 ?_) | (dsimp only [sI_c, sJ_c, sNw_c, sSp_c]))
set_option maxRecDepth 100000 in
set_option maxHeartbeats 4000000 in
theorem m_lays52 {g : Nat → Nat → Int64} {c : Nat × Nat} {v : Int32} : ∀ (n j : Nat) (f : Nat → Nat → Int32), j + n = 5 → f 1175 29 = v → At (E0 1) mX7_lays (qv (fun m' => gI m' 1175 29 = v)) 52 [.ref 1175, .int (nI j)] [] (f, g, c) := by
  intro n
  induction n with
  | zero =>
    intro j f hj hv
    obtain rfl : j = 5 := by omega
    refine At.ls okX7_lays 400 ⟨_, _, rfl⟩ ?_
    have hge : (5 : Int32) ≤ nI 5 := by decide
    conv => whnf
    refine And.intro (fun _ => ?_) (fun q => absurd hge q)
    repeat' ((conv => whnf); first | (refine And.intro rfl ?_; exact m_lays93 4 0 _ (by omega) hv) | (refine And.intro rfl (At.ls okX7_lays 400 ⟨_, _, rfl⟩ ?_)) | (refine And.intro ?_ ?_; (focus (intro h; exfalso; simp [gI, gJ, sI, sJ, vp_in] at h; done)); intro _) | (refine And.intro ?_ ?_; rotate_left; (focus (intro h; exfalso; simp [gI, gJ, sI, sJ, vp_in] at h; done)); intro _) | (refine And.intro (show vp_in _ _ from ?_) ?_; (focus (simp [gI, gJ, sI, sJ, vp_in]; done))) | (refine And.intro (show _ ∨ _ from ?_) ?_; (focus (simp [gI, gJ, sI, sJ, vp_in]; done))) | (refine And.intro (show ¬ _ from ?_) ?_; (focus (simp [gI, gJ, sI, sJ, vp_in]; done))) | (refine And.intro rfl ?_; exact m_lays93 4 0 _ (by omega) hv) | (dsimp only [sI_c, sJ_c, sNw_c, sSp_c]))
  | succ n ih =>
    intro j f hj hv
    have hlt : ¬ (5 : Int32) ≤ nI j := nI_ge (b := 5) (by omega) (by decide)
    have v1 : vp_in (nI j) 10 := vp_in_nI (by omega) (by decide)
    have v2 : vp_in (5 + nI j) 10 := by have q := vp_in_nI (n := 5 + j) (N := 10) (by omega) (by decide); rw [← nI_add] at q; exact q
    refine At.ls okX7_lays 400 ⟨_, _, rfl⟩ ?_
    repeat' ((conv => whnf); first | (refine And.intro rfl ?_; have q := ih (j + 1); rw [nI_succ] at q; refine q _ (by omega) ?_; exact hv) | (refine And.intro rfl (At.ls okX7_lays 400 ⟨_, _, rfl⟩ ?_)) | (refine And.intro ?_ ?_; (focus (intro h; exfalso; simp [gI, gJ, sI, sJ, vp_in, hlt] at h; done)); intro _) | (refine And.intro ?_ ?_; rotate_left; (focus (intro h; exfalso; simp [gI, gJ, sI, sJ, vp_in, hlt] at h; done)); intro _) | (refine And.intro (show vp_in _ _ from ?_) ?_; (focus (simp [gI, gJ, sI, sJ, vp_in, hlt]; done))) | (refine And.intro (show _ ∨ _ from ?_) ?_; (focus (simp [gI, gJ, sI, sJ, vp_in, hlt]; done))) | (refine And.intro (show ¬ _ from ?_) ?_; (focus (simp [gI, gJ, sI, sJ, vp_in, hlt]; done))) | (refine And.intro v1 ?_) | (refine And.intro v2 ?_) | (dsimp only [sI_c, sJ_c, sNw_c, sSp_c]))
set_option maxRecDepth 100000 in
set_option maxHeartbeats 4000000 in
theorem m_lays {f : Nat → Nat → Int32} {g : Nat → Nat → Int64} {c : Nat × Nat} : CV 1 mX7_lays [.ref 1175] (f, g, c) (fun m' => gI m' 1175 29 = f 1175 29) := by
  refine At.gs okX7_lays 400 ?_
  repeat' ((conv => whnf); first | (refine And.intro rfl ?_; exact m_lays52 5 0 _ (by omega) rfl) | (refine And.intro rfl (At.ls okX7_lays 400 ⟨_, _, rfl⟩ ?_)) | (refine And.intro ?_ ?_; (focus (intro h; exfalso; simp [gI, gJ, sI, sJ, vp_in] at h; done)); intro _) | (refine And.intro ?_ ?_; rotate_left; (focus (intro h; exfalso; simp [gI, gJ, sI, sJ, vp_in] at h; done)); intro _) | (refine And.intro (show vp_in _ _ from ?_) ?_; (focus (simp [gI, gJ, sI, sJ, vp_in]; done))) | (refine And.intro (show _ ∨ _ from ?_) ?_; (focus (simp [gI, gJ, sI, sJ, vp_in]; done))) | (refine And.intro (show ¬ _ from ?_) ?_; (focus (simp [gI, gJ, sI, sJ, vp_in]; done))) | (dsimp only [sI_c, sJ_c, sNw_c, sSp_c]))
set_option maxRecDepth 100000 in
set_option maxHeartbeats 4000000 in
theorem m_feedL {g : Nat → Nat → Int64} {c : Nat × Nat} {x1 x2 x3 x4 x5 : Int32} : ∀ (n j : Nat) (x7 : Value) (f : Nat → Nat → Int32), j + n = 20 → f 1175 2 = 0 → At (E0 6) mX7_feed (qi (fun r m' => r = 20)) 20 [.ref 1175, .int x1, .int x2, .int x3, .int x4, .int x5, .int (nI j), x7] [] (f, g, c) := by
  intro n
  induction n with
  | zero =>
    intro j x7 f hj hv
    obtain rfl : j = 20 := by omega
    refine At.ls okX7_feed 400 ⟨_, _, rfl⟩ ?_
    have hge : (20 : Int32) ≤ nI 20 := by decide
    conv => whnf
    refine And.intro (fun _ => ?_) (fun q => absurd hge q)
    conv => whnf
    simp [gI, sI, hv]
  | succ n ih =>
    intro j x7 f hj hv
    have hlt : ¬ (20 : Int32) ≤ nI j := nI_ge (b := 20) (by omega) (by decide)
    have v1 : vp_in (0 + nI j) 800 := by have q := vp_in_nI (n := 0 + j) (N := 800) (by omega) (by decide); rw [← nI_add] at q; exact q
    refine At.ls okX7_feed 400 ⟨_, _, rfl⟩ ?_
    repeat' ((conv => whnf); first | (refine And.intro rfl ?_; have q := ih (j + 1); rw [nI_succ] at q; refine q _ _ (by omega) ?_; exact hv) | (refine And.intro rfl (At.ls okX7_feed 300 ⟨_, _, rfl⟩ ?_)) | (refine And.intro ?_ ?_; (focus (intro h; exfalso; simp [gI, gJ, sI, sJ, vp_in, hlt] at h; done)); intro _) | (refine And.intro ?_ ?_; rotate_left; (focus (intro h; exfalso; simp [gI, gJ, sI, sJ, vp_in, hlt] at h; done)); intro _) | (refine And.intro (show vp_in _ _ from ?_) ?_; (focus (simp [gI, gJ, sI, sJ, vp_in, hlt]; done))) | (refine And.intro (show _ ∨ _ from ?_) ?_; (focus (simp [gI, gJ, sI, sJ, vp_in, hlt]; done))) | (refine And.intro (show ¬ _ from ?_) ?_; (focus (simp [gI, gJ, sI, sJ, vp_in, hlt]; done))) | (refine And.intro ?_ ?_; (focus (show vp_in (f 1175 2 + nI j) 800; rw [hv]; exact v1))) | (dsimp only [sI_c, sJ_c, sNw_c, sSp_c]) | (refine And.intro ?_ ?_ <;> intro h))
set_option maxRecDepth 100000 in
set_option maxHeartbeats 4000000 in
theorem m_feed {f : Nat → Nat → Int32} {g : Nat → Nat → Int64} {c : Nat × Nat} (x1 x2 x3 x4 x5 : Int32) (h : ZM f) : CI 6 mX7_feed [.ref 1175, .int x1, .int x2, .int x3, .int x4, .int x5] (f, g, c) (fun r m' => r = 20) := by
  obtain ⟨⟨z2, z3, z4, z5, z6, z7⟩, z37, z38, z39, z40⟩ := h
  refine At.gs okX7_feed 300 ?_
  repeat' ((conv => whnf); first | (refine And.intro rfl ?_; refine m_feedL 20 0 _ _ (by omega) ?_; exact z2) | (refine And.intro rfl (At.ls okX7_feed 300 ⟨_, _, rfl⟩ ?_)) | (refine And.intro ?_ ?_; (focus (intro h; exfalso; simp [gI, gJ, sI, sJ, vp_in, z2] at h; done)); intro _) | (refine And.intro ?_ ?_; rotate_left; (focus (intro h; exfalso; simp [gI, gJ, sI, sJ, vp_in, z2] at h; done)); intro _) | (refine And.intro (show vp_in _ _ from ?_) ?_; (focus (simp [gI, gJ, sI, sJ, vp_in, z2]; done))) | (refine And.intro (show _ ∨ _ from ?_) ?_; (focus (simp [gI, gJ, sI, sJ, vp_in, z2]; done))) | (refine And.intro (show ¬ _ from ?_) ?_; (focus (simp [gI, gJ, sI, sJ, vp_in, z2]; done))) | (dsimp only [sI_c, sJ_c, sNw_c, sSp_c]))
set_option maxRecDepth 100000 in
set_option maxHeartbeats 4000000 in
theorem m_fault {f : Nat → Nat → Int32} {g : Nat → Nat → Int64} {c : Nat × Nat} (w : Int32) (h : ZM f)  : CI 6 mX7_fault [.ref 1175, .int w] (f, g, c) (fun r m' => r = (if w = 0 then 0 else -1)) := by
  obtain ⟨⟨z2, z3, z4, z5, z6, z7⟩, z37, z38, z39, z40⟩ := h
  refine At.gs okX7_fault 300 ?_
  repeat' ((conv => whnf); first | (refine And.intro rfl (At.ls okX7_fault 300 ⟨_, _, rfl⟩ ?_)) | (refine And.intro ?_ ?_; (focus (intro h; exfalso; simp [gI, gJ, sI, sJ, vp_in, z2, z3, z4, z5, z6, z7, z37, z38, z39, z40] at h; done)); intro _) | (refine And.intro ?_ ?_; rotate_left; (focus (intro h; exfalso; simp [gI, gJ, sI, sJ, vp_in, z2, z3, z4, z5, z6, z7, z37, z38, z39, z40] at h; done)); intro _) | (refine And.intro (show vp_in _ _ from ?_) ?_; (focus (simp [gI, gJ, sI, sJ, vp_in, z2, z3, z4, z5, z6, z7, z37, z38, z39, z40]; done))) | (refine And.intro (show _ ∨ _ from ?_) ?_; (focus (simp [gI, gJ, sI, sJ, vp_in, z2, z3, z4, z5, z6, z7, z37, z38, z39, z40]; done))) | (refine And.intro (show ¬ _ from ?_) ?_; (focus (simp [gI, gJ, sI, sJ, vp_in, z2, z3, z4, z5, z6, z7, z37, z38, z39, z40]; done))) | (dsimp only [sI_c, sJ_c, sNw_c, sSp_c]) | (refine And.intro ?_ ?_ <;> intro h))
  all_goals (conv => whnf)
  all_goals (first | (with_reducible rfl) | (simp_all [gI, sI]; done) | rfl)
set_option maxRecDepth 100000 in
set_option maxHeartbeats 4000000 in
theorem m_named {f : Nat → Nat → Int32} {g : Nat → Nat → Int64} {c : Nat × Nat} (w : Int32) (x : Int32) (h : ZM f)  : CI 6 mX7_named [.ref 1175, .int w, .int x] (f, g, c) (fun r m' => r = -1) := by
  obtain ⟨⟨z2, z3, z4, z5, z6, z7⟩, z37, z38, z39, z40⟩ := h
  refine At.gs okX7_named 300 ?_
  repeat' ((conv => whnf); first | (refine And.intro rfl (At.ls okX7_named 300 ⟨_, _, rfl⟩ ?_)) | (refine And.intro ?_ ?_; (focus (intro h; exfalso; simp [gI, gJ, sI, sJ, vp_in, z2, z3, z4, z5, z6, z7, z37, z38, z39, z40] at h; done)); intro _) | (refine And.intro ?_ ?_; rotate_left; (focus (intro h; exfalso; simp [gI, gJ, sI, sJ, vp_in, z2, z3, z4, z5, z6, z7, z37, z38, z39, z40] at h; done)); intro _) | (refine And.intro (show vp_in _ _ from ?_) ?_; (focus (simp [gI, gJ, sI, sJ, vp_in, z2, z3, z4, z5, z6, z7, z37, z38, z39, z40]; done))) | (refine And.intro (show _ ∨ _ from ?_) ?_; (focus (simp [gI, gJ, sI, sJ, vp_in, z2, z3, z4, z5, z6, z7, z37, z38, z39, z40]; done))) | (refine And.intro (show ¬ _ from ?_) ?_; (focus (simp [gI, gJ, sI, sJ, vp_in, z2, z3, z4, z5, z6, z7, z37, z38, z39, z40]; done))) | (refine ⟨1, (by decide), _, m_found _ _ _ _ ?_, ?_⟩; (focus (simp [gI, sI, z2, z3, z4, z5, z6, z7, z37, z38, z39, z40]; done)); rintro _ _ ⟨rfl, rfl⟩) | (dsimp only [sI_c, sJ_c, sNw_c, sSp_c]) | (refine And.intro ?_ ?_ <;> intro h))
  all_goals (conv => whnf)
  all_goals (first | (with_reducible rfl) | (simp_all [gI, sI]; done) | rfl)
set_option maxRecDepth 100000 in
set_option maxHeartbeats 4000000 in
theorem m_firm {f : Nat → Nat → Int32} {g : Nat → Nat → Int64} {c : Nat × Nat} (x : Int32) (w : Int32) (h : ZM f)  : CI 6 mX7_firm [.ref 1175, .int x, .int w] (f, g, c) (fun r m' => r = -2147483648) := by
  obtain ⟨⟨z2, z3, z4, z5, z6, z7⟩, z37, z38, z39, z40⟩ := h
  refine At.gs okX7_firm 300 ?_
  repeat' ((conv => whnf); first | (refine And.intro rfl (At.ls okX7_firm 300 ⟨_, _, rfl⟩ ?_)) | (refine And.intro ?_ ?_; (focus (intro h; exfalso; simp [gI, gJ, sI, sJ, vp_in, z2, z3, z4, z5, z6, z7, z37, z38, z39, z40] at h; done)); intro _) | (refine And.intro ?_ ?_; rotate_left; (focus (intro h; exfalso; simp [gI, gJ, sI, sJ, vp_in, z2, z3, z4, z5, z6, z7, z37, z38, z39, z40] at h; done)); intro _) | (refine And.intro (show vp_in _ _ from ?_) ?_; (focus (simp [gI, gJ, sI, sJ, vp_in, z2, z3, z4, z5, z6, z7, z37, z38, z39, z40]; done))) | (refine And.intro (show _ ∨ _ from ?_) ?_; (focus (simp [gI, gJ, sI, sJ, vp_in, z2, z3, z4, z5, z6, z7, z37, z38, z39, z40]; done))) | (refine And.intro (show ¬ _ from ?_) ?_; (focus (simp [gI, gJ, sI, sJ, vp_in, z2, z3, z4, z5, z6, z7, z37, z38, z39, z40]; done))) | (refine ⟨1, (by decide), _, m_isFirm _ ?_, ?_⟩; (focus (simp [gI, sI, z2, z3, z4, z5, z6, z7, z37, z38, z39, z40]; done)); rintro _ _ ⟨rfl, rfl⟩) | (dsimp only [sI_c, sJ_c, sNw_c, sSp_c]))
  all_goals (conv => whnf)
  all_goals (first | (with_reducible rfl) | (simp_all [gI, sI]; done) | rfl)
set_option maxRecDepth 100000 in
set_option maxHeartbeats 4000000 in
theorem m_sell {f : Nat → Nat → Int32} {g : Nat → Nat → Int64} {c : Nat × Nat} (a : Int32) (b : Int32) (n : Int32) (gd : Int32) (p : Int32) (dd : Int32) (mk : Int32) (h : ZM f)  : CI 6 mX7_sell [.ref 1175, .int a, .int b, .int n, .int gd, .int p, .int dd, .int mk] (f, g, c) (fun r m' => r = -1) := by
  obtain ⟨⟨z2, z3, z4, z5, z6, z7⟩, z37, z38, z39, z40⟩ := h
  refine At.gs okX7_sell 300 ?_
  repeat' ((conv => whnf); first | (refine And.intro rfl (At.ls okX7_sell 300 ⟨_, _, rfl⟩ ?_)) | (refine And.intro ?_ ?_; (focus (intro h; exfalso; simp [gI, gJ, sI, sJ, vp_in, z2, z3, z4, z5, z6, z7, z37, z38, z39, z40] at h; done)); intro _) | (refine And.intro ?_ ?_; rotate_left; (focus (intro h; exfalso; simp [gI, gJ, sI, sJ, vp_in, z2, z3, z4, z5, z6, z7, z37, z38, z39, z40] at h; done)); intro _) | (refine And.intro (show vp_in _ _ from ?_) ?_; (focus (simp [gI, gJ, sI, sJ, vp_in, z2, z3, z4, z5, z6, z7, z37, z38, z39, z40]; done))) | (refine And.intro (show _ ∨ _ from ?_) ?_; (focus (simp [gI, gJ, sI, sJ, vp_in, z2, z3, z4, z5, z6, z7, z37, z38, z39, z40]; done))) | (refine And.intro (show ¬ _ from ?_) ?_; (focus (simp [gI, gJ, sI, sJ, vp_in, z2, z3, z4, z5, z6, z7, z37, z38, z39, z40]; done))) | (refine ⟨1, (by decide), _, m_isFirm _ ?_, ?_⟩; (focus (simp [gI, sI, z2, z3, z4, z5, z6, z7, z37, z38, z39, z40]; done)); rintro _ _ ⟨rfl, rfl⟩) | (dsimp only [sI_c, sJ_c, sNw_c, sSp_c]))
  all_goals (conv => whnf)
  all_goals (first | (with_reducible rfl) | (simp_all [gI, sI]; done) | rfl)
set_option maxRecDepth 100000 in
set_option maxHeartbeats 4000000 in
theorem m_undo {f : Nat → Nat → Int32} {g : Nat → Nat → Int64} {c : Nat × Nat}  (h : ZM f)  : CI 6 mX7_undo [.ref 1175] (f, g, c) (fun r m' => r = -1) := by
  obtain ⟨⟨z2, z3, z4, z5, z6, z7⟩, z37, z38, z39, z40⟩ := h
  refine At.gs okX7_undo 300 ?_
  repeat' ((conv => whnf); first | (refine And.intro rfl (At.ls okX7_undo 300 ⟨_, _, rfl⟩ ?_)) | (refine And.intro ?_ ?_; (focus (intro h; exfalso; simp [gI, gJ, sI, sJ, vp_in, z2, z3, z4, z5, z6, z7, z37, z38, z39, z40] at h; done)); intro _) | (refine And.intro ?_ ?_; rotate_left; (focus (intro h; exfalso; simp [gI, gJ, sI, sJ, vp_in, z2, z3, z4, z5, z6, z7, z37, z38, z39, z40] at h; done)); intro _) | (refine And.intro (show vp_in _ _ from ?_) ?_; (focus (simp [gI, gJ, sI, sJ, vp_in, z2, z3, z4, z5, z6, z7, z37, z38, z39, z40]; done))) | (refine And.intro (show _ ∨ _ from ?_) ?_; (focus (simp [gI, gJ, sI, sJ, vp_in, z2, z3, z4, z5, z6, z7, z37, z38, z39, z40]; done))) | (refine And.intro (show ¬ _ from ?_) ?_; (focus (simp [gI, gJ, sI, sJ, vp_in, z2, z3, z4, z5, z6, z7, z37, z38, z39, z40]; done))) | (dsimp only [sI_c, sJ_c, sNw_c, sSp_c]))
  all_goals (conv => whnf)
  all_goals (first | (with_reducible rfl) | (simp_all [gI, sI]; done) | rfl)
set_option maxRecDepth 100000 in
set_option maxHeartbeats 4000000 in
theorem m_pay {f : Nat → Nat → Int32} {g : Nat → Nat → Int64} {c : Nat × Nat} (x : Int32) (s : Int32) (h : ZM f)  : CI 6 mX7_pay [.ref 1175, .int x, .int s] (f, g, c) (fun r m' => r = -1) := by
  obtain ⟨⟨z2, z3, z4, z5, z6, z7⟩, z37, z38, z39, z40⟩ := h
  refine At.gs okX7_pay 300 ?_
  repeat' ((conv => whnf); first | (refine And.intro rfl (At.ls okX7_pay 300 ⟨_, _, rfl⟩ ?_)) | (refine And.intro ?_ ?_; (focus (intro h; exfalso; simp [gI, gJ, sI, sJ, vp_in, z2, z3, z4, z5, z6, z7, z37, z38, z39, z40] at h; done)); intro _) | (refine And.intro ?_ ?_; rotate_left; (focus (intro h; exfalso; simp [gI, gJ, sI, sJ, vp_in, z2, z3, z4, z5, z6, z7, z37, z38, z39, z40] at h; done)); intro _) | (refine And.intro (show vp_in _ _ from ?_) ?_; (focus (simp [gI, gJ, sI, sJ, vp_in, z2, z3, z4, z5, z6, z7, z37, z38, z39, z40]; done))) | (refine And.intro (show _ ∨ _ from ?_) ?_; (focus (simp [gI, gJ, sI, sJ, vp_in, z2, z3, z4, z5, z6, z7, z37, z38, z39, z40]; done))) | (refine And.intro (show ¬ _ from ?_) ?_; (focus (simp [gI, gJ, sI, sJ, vp_in, z2, z3, z4, z5, z6, z7, z37, z38, z39, z40]; done))) | (refine ⟨1, (by decide), _, m_isFirm _ ?_, ?_⟩; (focus (simp [gI, sI, z2, z3, z4, z5, z6, z7, z37, z38, z39, z40]; done)); rintro _ _ ⟨rfl, rfl⟩) | (dsimp only [sI_c, sJ_c, sNw_c, sSp_c]))
  all_goals (conv => whnf)
  all_goals (first | (with_reducible rfl) | (simp_all [gI, sI]; done) | rfl)
set_option maxRecDepth 100000 in
set_option maxHeartbeats 4000000 in
theorem m_flow {f : Nat → Nat → Int32} {g : Nat → Nat → Int64} {c : Nat × Nat} (x : Int32) (gd : Int32) (h : ZM f)  : CI 6 mX7_flow [.ref 1175, .int x, .int gd] (f, g, c) (fun r m' => r = -1) := by
  obtain ⟨⟨z2, z3, z4, z5, z6, z7⟩, z37, z38, z39, z40⟩ := h
  refine At.gs okX7_flow 300 ?_
  repeat' ((conv => whnf); first | (refine And.intro rfl (At.ls okX7_flow 300 ⟨_, _, rfl⟩ ?_)) | (refine And.intro ?_ ?_; (focus (intro h; exfalso; simp [gI, gJ, sI, sJ, vp_in, z2, z3, z4, z5, z6, z7, z37, z38, z39, z40] at h; done)); intro _) | (refine And.intro ?_ ?_; rotate_left; (focus (intro h; exfalso; simp [gI, gJ, sI, sJ, vp_in, z2, z3, z4, z5, z6, z7, z37, z38, z39, z40] at h; done)); intro _) | (refine And.intro (show vp_in _ _ from ?_) ?_; (focus (simp [gI, gJ, sI, sJ, vp_in, z2, z3, z4, z5, z6, z7, z37, z38, z39, z40]; done))) | (refine And.intro (show _ ∨ _ from ?_) ?_; (focus (simp [gI, gJ, sI, sJ, vp_in, z2, z3, z4, z5, z6, z7, z37, z38, z39, z40]; done))) | (refine And.intro (show ¬ _ from ?_) ?_; (focus (simp [gI, gJ, sI, sJ, vp_in, z2, z3, z4, z5, z6, z7, z37, z38, z39, z40]; done))) | (refine ⟨1, (by decide), _, m_isFirm _ ?_, ?_⟩; (focus (simp [gI, sI, z2, z3, z4, z5, z6, z7, z37, z38, z39, z40]; done)); rintro _ _ ⟨rfl, rfl⟩) | (dsimp only [sI_c, sJ_c, sNw_c, sSp_c]))
  all_goals (conv => whnf)
  all_goals (first | (with_reducible rfl) | (simp_all [gI, sI]; done) | rfl)
set_option maxRecDepth 100000 in
set_option maxHeartbeats 4000000 in
theorem m_hands {f : Nat → Nat → Int32} {g : Nat → Nat → Int64} {c : Nat × Nat}  (h : ZM f)  : CI 6 mX7_hands [.ref 1175] (f, g, c) (fun r m' => r = 0) := by
  obtain ⟨⟨z2, z3, z4, z5, z6, z7⟩, z37, z38, z39, z40⟩ := h
  refine At.gs okX7_hands 300 ?_
  repeat' ((conv => whnf); first | (refine And.intro rfl (At.ls okX7_hands 300 ⟨_, _, rfl⟩ ?_)) | (refine And.intro ?_ ?_; (focus (intro h; exfalso; simp [gI, gJ, sI, sJ, vp_in, z2, z3, z4, z5, z6, z7, z37, z38, z39, z40] at h; done)); intro _) | (refine And.intro ?_ ?_; rotate_left; (focus (intro h; exfalso; simp [gI, gJ, sI, sJ, vp_in, z2, z3, z4, z5, z6, z7, z37, z38, z39, z40] at h; done)); intro _) | (refine And.intro (show vp_in _ _ from ?_) ?_; (focus (simp [gI, gJ, sI, sJ, vp_in, z2, z3, z4, z5, z6, z7, z37, z38, z39, z40]; done))) | (refine And.intro (show _ ∨ _ from ?_) ?_; (focus (simp [gI, gJ, sI, sJ, vp_in, z2, z3, z4, z5, z6, z7, z37, z38, z39, z40]; done))) | (refine And.intro (show ¬ _ from ?_) ?_; (focus (simp [gI, gJ, sI, sJ, vp_in, z2, z3, z4, z5, z6, z7, z37, z38, z39, z40]; done))) | (refine ⟨1, (by decide), _, m_parties ?_, ?_⟩; (focus (simp [gI, sI, z2, z3, z4, z5, z6, z7, z37, z38, z39, z40]; done)); rintro _ rfl) | (dsimp only [sI_c, sJ_c, sNw_c, sSp_c]))
  all_goals (conv => whnf)
  all_goals (first | (with_reducible rfl) | (simp_all [gI, sI]; done) | rfl)
set_option maxRecDepth 100000 in
set_option maxHeartbeats 4000000 in
theorem m_burden {f : Nat → Nat → Int32} {g : Nat → Nat → Int64} {c : Nat × Nat} (l : Int32) (h : ZM f)  : CI 6 mX7_burden [.ref 1175, .int l] (f, g, c) (fun r m' => r = -1) := by
  obtain ⟨⟨z2, z3, z4, z5, z6, z7⟩, z37, z38, z39, z40⟩ := h
  refine At.gs okX7_burden 300 ?_
  repeat' ((conv => whnf); first | (refine And.intro rfl (At.ls okX7_burden 300 ⟨_, _, rfl⟩ ?_)) | (refine And.intro ?_ ?_; (focus (intro h; exfalso; simp [gI, gJ, sI, sJ, vp_in, z2, z3, z4, z5, z6, z7, z37, z38, z39, z40] at h; done)); intro _) | (refine And.intro ?_ ?_; rotate_left; (focus (intro h; exfalso; simp [gI, gJ, sI, sJ, vp_in, z2, z3, z4, z5, z6, z7, z37, z38, z39, z40] at h; done)); intro _) | (refine And.intro (show vp_in _ _ from ?_) ?_; (focus (simp [gI, gJ, sI, sJ, vp_in, z2, z3, z4, z5, z6, z7, z37, z38, z39, z40]; done))) | (refine And.intro (show _ ∨ _ from ?_) ?_; (focus (simp [gI, gJ, sI, sJ, vp_in, z2, z3, z4, z5, z6, z7, z37, z38, z39, z40]; done))) | (refine And.intro (show ¬ _ from ?_) ?_; (focus (simp [gI, gJ, sI, sJ, vp_in, z2, z3, z4, z5, z6, z7, z37, z38, z39, z40]; done))) | (dsimp only [sI_c, sJ_c, sNw_c, sSp_c]) | (refine And.intro ?_ ?_ <;> intro h))
  all_goals (first | rfl | (exfalso; simp_all [gI, sI, Int32.lt_iff_toInt_lt, Int32.le_iff_toInt_le]; done) | (exfalso; simp_all [gI, sI, Int32.lt_iff_toInt_lt, Int32.le_iff_toInt_le]; omega))
set_option maxRecDepth 100000 in
set_option maxHeartbeats 4000000 in
theorem m_signs {f : Nat → Nat → Int32} {g : Nat → Nat → Int64} {c : Nat × Nat} (x : Int32) (w : Int32) (k : Int32) (d : Int32) (h : ZM f)  : CI 6 mX7_signs [.ref 1175, .int x, .int w, .int k, .int d] (f, g, c) (fun r m' => r = -1) := by
  obtain ⟨⟨z2, z3, z4, z5, z6, z7⟩, z37, z38, z39, z40⟩ := h
  refine At.gs okX7_signs 300 ?_
  repeat' ((conv => whnf); first | (refine And.intro rfl (At.ls okX7_signs 300 ⟨_, _, rfl⟩ ?_)) | (refine And.intro ?_ ?_; (focus (intro h; exfalso; simp [gI, gJ, sI, sJ, vp_in, z2, z3, z4, z5, z6, z7, z37, z38, z39, z40] at h; done)); intro _) | (refine And.intro ?_ ?_; rotate_left; (focus (intro h; exfalso; simp [gI, gJ, sI, sJ, vp_in, z2, z3, z4, z5, z6, z7, z37, z38, z39, z40] at h; done)); intro _) | (refine And.intro (show vp_in _ _ from ?_) ?_; (focus (simp [gI, gJ, sI, sJ, vp_in, z2, z3, z4, z5, z6, z7, z37, z38, z39, z40]; done))) | (refine And.intro (show _ ∨ _ from ?_) ?_; (focus (simp [gI, gJ, sI, sJ, vp_in, z2, z3, z4, z5, z6, z7, z37, z38, z39, z40]; done))) | (refine And.intro (show ¬ _ from ?_) ?_; (focus (simp [gI, gJ, sI, sJ, vp_in, z2, z3, z4, z5, z6, z7, z37, z38, z39, z40]; done))) | (refine ⟨1, (by decide), _, m_isFirm _ ?_, ?_⟩; (focus (simp [gI, sI, z2, z3, z4, z5, z6, z7, z37, z38, z39, z40]; done)); rintro _ _ ⟨rfl, rfl⟩) | (dsimp only [sI_c, sJ_c, sNw_c, sSp_c]))
  all_goals (conv => whnf)
  all_goals (first | (with_reducible rfl) | (simp_all [gI, sI]; done) | rfl)
