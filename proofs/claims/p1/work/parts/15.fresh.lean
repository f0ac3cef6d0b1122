/-! contracts on a fresh object -/
def Stq (pc : Nat) (q : Prop) : Prop := pc = pc ∧ q
theorem sI_c (m : MM) (a i : Nat) (v : Int32) : (sI m a i v).2.2 = m.2.2 := rfl
theorem sJ_c (m : MM) (a i : Nat) (v : Int64) : (sJ m a i v).2.2 = m.2.2 := rfl
theorem sNw_c (m : MM) (b : Nat) : (sNw m b).2.2 = (b, m.2.2.2) := rfl
theorem sSp_c (m : MM) (b : Nat) : (sSp m b).2.2 = (m.2.2.1, b) := rfl
section FreshGo
variable {E : EE} {μ : MI} {P : QQ} {full : List CE}
theorem At.gs (hF : CodeOk μ full) (n : Nat) {pc : Nat} {ls st : List Value} {m : MM} (h : sx E P (fun pc ls st m => Stq pc (At E μ P pc ls st m)) full n (seek pc full) ls st m) : At E μ P pc ls st m :=
  fun p l e R s mid args below meth c dC dI dA ad b A C0 S0 Qf hC hR => AtC.go hF hC hR (fun _ _ _ _ h => h.2 p l e R s mid args below meth c dC dI dA ad b A C0 S0 Qf hC hR) n h
theorem At.ls (hF : CodeOk μ full) (n : Nat) {pc : Nat} {ls st : List Value} {m : MM} (hz : ∃ o r, seek pc full = (pc, 0, o) :: r) (h : sx E P (fun pc ls st m => Stq pc (At E μ P pc ls st m)) full n (seek pc full).tail ls st m) : At E μ P pc ls st m :=
  fun p l e R s mid args below meth c dC dI dA ad b A C0 S0 Qf hC hR => AtC.lp hF hC hR (fun _ _ _ _ h => h.2 p l e R s mid args below meth c dC dI dA ad b A C0 S0 Qf hC hR) n hz h
end FreshGo
/-- what a fresh object's int fields hold, so far as one call looks at them -/
def ZC (f : Nat → Nat → Int32) : Prop := (f 19 1 = 0 ∧ f 19 2 = 0 ∧ f 19 3 = -1) ∧ f 354 1 = 0 ∧ f 386 1 = 0 ∧ f 418 1 = 0 ∧ f 452 7 = 0 ∧ f 452 8 = 0 ∧ f 6 5 = 0 ∧ f 6 6 = 0 ∧ f 49 13 = 0 ∧ f 802 1 = 0
/-- nothing but the finder changed -/
def FrF (f f' : Nat → Nat → Int32) : Prop := ∀ a k, a ≠ 49 → f' a k = f a k
/-- the reference is as it was -/
def FrM (f f' : Nat → Nat → Int32) : Prop := ∀ k, f' 1175 k = f 1175 k
def asked (way k d : Int32) : Prop := (0 ≤ way ∧ way ≤ 1) ∧ (2 ≤ k ∧ k ≤ 6) ∧ (0 ≤ d ∧ d ≤ 400)
set_option maxRecDepth 100000 in
set_option maxHeartbeats 4000000 in
theorem f_within {m : MM} (x a b : Int32) : CI 1 mX6_within [.int x, .int a, .int b] m (fun r m' => r = (if a ≤ x ∧ x ≤ b then 1 else 0) ∧ m' = m) := by
  refine At.gs okX6_within 300 ?_
  repeat' ((conv => whnf); first | (refine And.intro rfl (At.ls okX6_within 300 ⟨_, _, rfl⟩ ?_)) | (refine And.intro ?_ ?_; (focus (intro h; exfalso; simp [gI, gJ, sI, sJ, vp_in] at h; done)); intro _) | (refine And.intro ?_ ?_; rotate_left; (focus (intro h; exfalso; simp [gI, gJ, sI, sJ, vp_in] at h; done)); intro _) | (refine And.intro (show vp_in _ _ from ?_) ?_; (focus (simp [gI, gJ, sI, sJ, vp_in]; done))) | (refine And.intro (show _ ∨ _ from ?_) ?_; (focus (simp [gI, gJ, sI, sJ, vp_in]; done))) | (refine And.intro (show ¬ _ from ?_) ?_; (focus (simp [gI, gJ, sI, sJ, vp_in]; done))) | (dsimp only [sI_c, sJ_c, sNw_c, sSp_c]) | (refine And.intro ?_ ?_ <;> intro h))
  all_goals (refine And.intro ?_ ?_)
  all_goals (first | (with_reducible rfl) | (simp_all [gI, gJ, sI, sJ]; done) | (simp only [Int32.lt_iff_toInt_lt, Int32.le_iff_toInt_le] at *; first | (rw [if_pos (by omega)]; done) | (rw [if_neg (by omega)]; done)) | (exfalso; simp_all [gI, gJ, sI, sJ, Int32.lt_iff_toInt_lt, Int32.le_iff_toInt_le]; omega) | rfl)
set_option maxRecDepth 100000 in
set_option maxHeartbeats 4000000 in
theorem f_hasSpace {f : Nat → Nat → Int32} {g : Nat → Nat → Int64} (a s : Int32) (hs : f 19 1 = s) (h8 : ¬ 800 < s + a) : CI 1 mX3_hasSpace [.ref 19, .int a] (f, g, (336, 720)) (fun r m' => r = 1 ∧ m' = (f, g, (336, 720))) := by
  refine At.gs okX3_hasSpace 300 ?_
  repeat' ((conv => whnf); first | (refine And.intro rfl (At.ls okX3_hasSpace 300 ⟨_, _, rfl⟩ ?_)) | (refine And.intro ?_ ?_; (focus (intro h; exfalso; simp [gI, gJ, sI, sJ, vp_in, hs, h8] at h; done)); intro _) | (refine And.intro ?_ ?_; rotate_left; (focus (intro h; exfalso; simp [gI, gJ, sI, sJ, vp_in, hs, h8] at h; done)); intro _) | (refine And.intro (show vp_in _ _ from ?_) ?_; (focus (simp [gI, gJ, sI, sJ, vp_in, hs, h8]; done))) | (refine And.intro (show _ ∨ _ from ?_) ?_; (focus (simp [gI, gJ, sI, sJ, vp_in, hs, h8]; done))) | (refine And.intro (show ¬ _ from ?_) ?_; (focus (simp [gI, gJ, sI, sJ, vp_in, hs, h8]; done))) | (dsimp only [sI_c, sJ_c, sNw_c, sSp_c]))
  all_goals (refine And.intro ?_ ?_)
  all_goals (first | (with_reducible rfl) | (simp_all [gI, gJ, sI, sJ]; done) | (simp only [Int32.lt_iff_toInt_lt, Int32.le_iff_toInt_le] at *; first | (rw [if_pos (by omega)]; done) | (rw [if_neg (by omega)]; done)) | (exfalso; simp_all [gI, gJ, sI, sJ, Int32.lt_iff_toInt_lt, Int32.le_iff_toInt_le]; omega) | rfl)
set_option maxRecDepth 100000 in
set_option maxHeartbeats 4000000 in
theorem f_has354 {f : Nat → Nat → Int32} {g : Nat → Nat → Int64} (i : Int32) (hs : f 354 1 = 0) : CI 1 mX2_has [.ref 354, .int i] (f, g, (336, 720)) (fun r m' => r = 0 ∧ m' = (f, g, (336, 720))) := by
  refine At.gs okX2_has 300 ?_
  repeat' ((conv => whnf); first | (refine And.intro rfl (At.ls okX2_has 300 ⟨_, _, rfl⟩ ?_)) | (refine And.intro ?_ ?_; (focus (intro h; exfalso; simp [gI, gJ, sI, sJ, vp_in, hs] at h; done)); intro _) | (refine And.intro ?_ ?_; rotate_left; (focus (intro h; exfalso; simp [gI, gJ, sI, sJ, vp_in, hs] at h; done)); intro _) | (refine And.intro (show vp_in _ _ from ?_) ?_; (focus (simp [gI, gJ, sI, sJ, vp_in, hs]; done))) | (refine And.intro (show _ ∨ _ from ?_) ?_; (focus (simp [gI, gJ, sI, sJ, vp_in, hs]; done))) | (refine And.intro (show ¬ _ from ?_) ?_; (focus (simp [gI, gJ, sI, sJ, vp_in, hs]; done))) | (dsimp only [sI_c, sJ_c, sNw_c, sSp_c]) | (refine And.intro ?_ ?_ <;> intro h))
  all_goals (refine And.intro ?_ ?_)
  all_goals (first | (with_reducible rfl) | (simp_all [gI, gJ, sI, sJ]; done) | (simp only [Int32.lt_iff_toInt_lt, Int32.le_iff_toInt_le] at *; first | (rw [if_pos (by omega)]; done) | (rw [if_neg (by omega)]; done)) | (exfalso; simp_all [gI, gJ, sI, sJ, Int32.lt_iff_toInt_lt, Int32.le_iff_toInt_le]; omega) | rfl)
set_option maxRecDepth 100000 in
set_option maxHeartbeats 4000000 in
theorem f_find354 {f : Nat → Nat → Int32} {g : Nat → Nat → Int64} (i : Int32) (hs : f 354 1 = 0) : CI 1 mX2_find [.ref 354, .int i] (f, g, (336, 720)) (fun r m' => r = -1 ∧ m' = (f, g, (336, 720))) := by
  refine At.gs okX2_find 300 ?_
  repeat' ((conv => whnf); first | (refine And.intro rfl (At.ls okX2_find 300 ⟨_, _, rfl⟩ ?_)) | (refine And.intro ?_ ?_; (focus (intro h; exfalso; simp [gI, gJ, sI, sJ, vp_in, hs] at h; done)); intro _) | (refine And.intro ?_ ?_; rotate_left; (focus (intro h; exfalso; simp [gI, gJ, sI, sJ, vp_in, hs] at h; done)); intro _) | (refine And.intro (show vp_in _ _ from ?_) ?_; (focus (simp [gI, gJ, sI, sJ, vp_in, hs]; done))) | (refine And.intro (show _ ∨ _ from ?_) ?_; (focus (simp [gI, gJ, sI, sJ, vp_in, hs]; done))) | (refine And.intro (show ¬ _ from ?_) ?_; (focus (simp [gI, gJ, sI, sJ, vp_in, hs]; done))) | (dsimp only [sI_c, sJ_c, sNw_c, sSp_c]))
  all_goals (refine And.intro ?_ ?_)
  all_goals (first | (with_reducible rfl) | (simp_all [gI, gJ, sI, sJ]; done) | (simp only [Int32.lt_iff_toInt_lt, Int32.le_iff_toInt_le] at *; first | (rw [if_pos (by omega)]; done) | (rw [if_neg (by omega)]; done)) | (exfalso; simp_all [gI, gJ, sI, sJ, Int32.lt_iff_toInt_lt, Int32.le_iff_toInt_le]; omega) | rfl)
set_option maxRecDepth 100000 in
set_option maxHeartbeats 4000000 in
theorem f_has386 {f : Nat → Nat → Int32} {g : Nat → Nat → Int64} (i : Int32) (hs : f 386 1 = 0) : CI 1 mX2_has [.ref 386, .int i] (f, g, (336, 720)) (fun r m' => r = 0 ∧ m' = (f, g, (336, 720))) := by
  refine At.gs okX2_has 300 ?_
  repeat' ((conv => whnf); first | (refine And.intro rfl (At.ls okX2_has 300 ⟨_, _, rfl⟩ ?_)) | (refine And.intro ?_ ?_; (focus (intro h; exfalso; simp [gI, gJ, sI, sJ, vp_in, hs] at h; done)); intro _) | (refine And.intro ?_ ?_; rotate_left; (focus (intro h; exfalso; simp [gI, gJ, sI, sJ, vp_in, hs] at h; done)); intro _) | (refine And.intro (show vp_in _ _ from ?_) ?_; (focus (simp [gI, gJ, sI, sJ, vp_in, hs]; done))) | (refine And.intro (show _ ∨ _ from ?_) ?_; (focus (simp [gI, gJ, sI, sJ, vp_in, hs]; done))) | (refine And.intro (show ¬ _ from ?_) ?_; (focus (simp [gI, gJ, sI, sJ, vp_in, hs]; done))) | (dsimp only [sI_c, sJ_c, sNw_c, sSp_c]) | (refine And.intro ?_ ?_ <;> intro h))
  all_goals (refine And.intro ?_ ?_)
  all_goals (first | (with_reducible rfl) | (simp_all [gI, gJ, sI, sJ]; done) | (simp only [Int32.lt_iff_toInt_lt, Int32.le_iff_toInt_le] at *; first | (rw [if_pos (by omega)]; done) | (rw [if_neg (by omega)]; done)) | (exfalso; simp_all [gI, gJ, sI, sJ, Int32.lt_iff_toInt_lt, Int32.le_iff_toInt_le]; omega) | rfl)
set_option maxRecDepth 100000 in
set_option maxHeartbeats 4000000 in
theorem f_find386 {f : Nat → Nat → Int32} {g : Nat → Nat → Int64} (i : Int32) (hs : f 386 1 = 0) : CI 1 mX2_find [.ref 386, .int i] (f, g, (336, 720)) (fun r m' => r = -1 ∧ m' = (f, g, (336, 720))) := by
  refine At.gs okX2_find 300 ?_
  repeat' ((conv => whnf); first | (refine And.intro rfl (At.ls okX2_find 300 ⟨_, _, rfl⟩ ?_)) | (refine And.intro ?_ ?_; (focus (intro h; exfalso; simp [gI, gJ, sI, sJ, vp_in, hs] at h; done)); intro _) | (refine And.intro ?_ ?_; rotate_left; (focus (intro h; exfalso; simp [gI, gJ, sI, sJ, vp_in, hs] at h; done)); intro _) | (refine And.intro (show vp_in _ _ from ?_) ?_; (focus (simp [gI, gJ, sI, sJ, vp_in, hs]; done))) | (refine And.intro (show _ ∨ _ from ?_) ?_; (focus (simp [gI, gJ, sI, sJ, vp_in, hs]; done))) | (refine And.intro (show ¬ _ from ?_) ?_; (focus (simp [gI, gJ, sI, sJ, vp_in, hs]; done))) | (dsimp only [sI_c, sJ_c, sNw_c, sSp_c]))
  all_goals (refine And.intro ?_ ?_)
  all_goals (first | (with_reducible rfl) | (simp_all [gI, gJ, sI, sJ]; done) | (simp only [Int32.lt_iff_toInt_lt, Int32.le_iff_toInt_le] at *; first | (rw [if_pos (by omega)]; done) | (rw [if_neg (by omega)]; done)) | (exfalso; simp_all [gI, gJ, sI, sJ, Int32.lt_iff_toInt_lt, Int32.le_iff_toInt_le]; omega) | rfl)
set_option maxRecDepth 100000 in
set_option maxHeartbeats 4000000 in
theorem f_has418 {f : Nat → Nat → Int32} {g : Nat → Nat → Int64} (i : Int32) (hs : f 418 1 = 0) : CI 1 mX2_has [.ref 418, .int i] (f, g, (336, 720)) (fun r m' => r = 0 ∧ m' = (f, g, (336, 720))) := by
  refine At.gs okX2_has 300 ?_
  repeat' ((conv => whnf); first | (refine And.intro rfl (At.ls okX2_has 300 ⟨_, _, rfl⟩ ?_)) | (refine And.intro ?_ ?_; (focus (intro h; exfalso; simp [gI, gJ, sI, sJ, vp_in, hs] at h; done)); intro _) | (refine And.intro ?_ ?_; rotate_left; (focus (intro h; exfalso; simp [gI, gJ, sI, sJ, vp_in, hs] at h; done)); intro _) | (refine And.intro (show vp_in _ _ from ?_) ?_; (focus (simp [gI, gJ, sI, sJ, vp_in, hs]; done))) | (refine And.intro (show _ ∨ _ from ?_) ?_; (focus (simp [gI, gJ, sI, sJ, vp_in, hs]; done))) | (refine And.intro (show ¬ _ from ?_) ?_; (focus (simp [gI, gJ, sI, sJ, vp_in, hs]; done))) | (dsimp only [sI_c, sJ_c, sNw_c, sSp_c]) | (refine And.intro ?_ ?_ <;> intro h))
  all_goals (refine And.intro ?_ ?_)
  all_goals (first | (with_reducible rfl) | (simp_all [gI, gJ, sI, sJ]; done) | (simp only [Int32.lt_iff_toInt_lt, Int32.le_iff_toInt_le] at *; first | (rw [if_pos (by omega)]; done) | (rw [if_neg (by omega)]; done)) | (exfalso; simp_all [gI, gJ, sI, sJ, Int32.lt_iff_toInt_lt, Int32.le_iff_toInt_le]; omega) | rfl)
set_option maxRecDepth 100000 in
set_option maxHeartbeats 4000000 in
theorem f_find418 {f : Nat → Nat → Int32} {g : Nat → Nat → Int64} (i : Int32) (hs : f 418 1 = 0) : CI 1 mX2_find [.ref 418, .int i] (f, g, (336, 720)) (fun r m' => r = -1 ∧ m' = (f, g, (336, 720))) := by
  refine At.gs okX2_find 300 ?_
  repeat' ((conv => whnf); first | (refine And.intro rfl (At.ls okX2_find 300 ⟨_, _, rfl⟩ ?_)) | (refine And.intro ?_ ?_; (focus (intro h; exfalso; simp [gI, gJ, sI, sJ, vp_in, hs] at h; done)); intro _) | (refine And.intro ?_ ?_; rotate_left; (focus (intro h; exfalso; simp [gI, gJ, sI, sJ, vp_in, hs] at h; done)); intro _) | (refine And.intro (show vp_in _ _ from ?_) ?_; (focus (simp [gI, gJ, sI, sJ, vp_in, hs]; done))) | (refine And.intro (show _ ∨ _ from ?_) ?_; (focus (simp [gI, gJ, sI, sJ, vp_in, hs]; done))) | (refine And.intro (show ¬ _ from ?_) ?_; (focus (simp [gI, gJ, sI, sJ, vp_in, hs]; done))) | (dsimp only [sI_c, sJ_c, sNw_c, sSp_c]))
  all_goals (refine And.intro ?_ ?_)
  all_goals (first | (with_reducible rfl) | (simp_all [gI, gJ, sI, sJ]; done) | (simp only [Int32.lt_iff_toInt_lt, Int32.le_iff_toInt_le] at *; first | (rw [if_pos (by omega)]; done) | (rw [if_neg (by omega)]; done)) | (exfalso; simp_all [gI, gJ, sI, sJ, Int32.lt_iff_toInt_lt, Int32.le_iff_toInt_le]; omega) | rfl)
set_option maxRecDepth 100000 in
set_option maxHeartbeats 4000000 in
theorem f_hasS {f : Nat → Nat → Int32} {g : Nat → Nat → Int64} (i : Int32) (hs : f 452 7 = 0) : CI 1 mX4_has [.ref 452, .int i] (f, g, (336, 720)) (fun r m' => r = 0 ∧ m' = (f, g, (336, 720))) := by
  refine At.gs okX4_has 300 ?_
  repeat' ((conv => whnf); first | (refine And.intro rfl (At.ls okX4_has 300 ⟨_, _, rfl⟩ ?_)) | (refine And.intro ?_ ?_; (focus (intro h; exfalso; simp [gI, gJ, sI, sJ, vp_in, hs] at h; done)); intro _) | (refine And.intro ?_ ?_; rotate_left; (focus (intro h; exfalso; simp [gI, gJ, sI, sJ, vp_in, hs] at h; done)); intro _) | (refine And.intro (show vp_in _ _ from ?_) ?_; (focus (simp [gI, gJ, sI, sJ, vp_in, hs]; done))) | (refine And.intro (show _ ∨ _ from ?_) ?_; (focus (simp [gI, gJ, sI, sJ, vp_in, hs]; done))) | (refine And.intro (show ¬ _ from ?_) ?_; (focus (simp [gI, gJ, sI, sJ, vp_in, hs]; done))) | (dsimp only [sI_c, sJ_c, sNw_c, sSp_c]) | (refine And.intro ?_ ?_ <;> intro h))
  all_goals (refine And.intro ?_ ?_)
  all_goals (first | (with_reducible rfl) | (simp_all [gI, gJ, sI, sJ]; done) | (simp only [Int32.lt_iff_toInt_lt, Int32.le_iff_toInt_le] at *; first | (rw [if_pos (by omega)]; done) | (rw [if_neg (by omega)]; done)) | (exfalso; simp_all [gI, gJ, sI, sJ, Int32.lt_iff_toInt_lt, Int32.le_iff_toInt_le]; omega) | rfl)
set_option maxRecDepth 100000 in
set_option maxHeartbeats 4000000 in
theorem f_fault {f : Nat → Nat → Int32} {g : Nat → Nat → Int64} (w : Int32) (h : ZC f) : CI 4 mX6_fault [.ref 6, .int w] (f, g, (336, 720)) (fun r m' => r = (if w = 0 then 0 else -1) ∧ m' = (f, g, (336, 720))) := by
  obtain ⟨⟨h1, h2, h3⟩, -⟩ := h
  refine At.gs okX6_fault 300 ?_
  repeat' ((conv => whnf); first | (refine And.intro rfl (At.ls okX6_fault 300 ⟨_, _, rfl⟩ ?_)) | (refine And.intro ?_ ?_; (focus (intro h; exfalso; simp [gI, gJ, sI, sJ, vp_in] at h; done)); intro _) | (refine And.intro ?_ ?_; rotate_left; (focus (intro h; exfalso; simp [gI, gJ, sI, sJ, vp_in] at h; done)); intro _) | (refine And.intro (show vp_in _ _ from ?_) ?_; (focus (simp [gI, gJ, sI, sJ, vp_in]; done))) | (refine And.intro (show _ ∨ _ from ?_) ?_; (focus (simp [gI, gJ, sI, sJ, vp_in]; done))) | (refine And.intro (show ¬ _ from ?_) ?_; (focus (simp [gI, gJ, sI, sJ, vp_in]; done))) | (dsimp only [sI_c, sJ_c, sNw_c, sSp_c]) | (refine And.intro ?_ ?_ <;> intro h))
  all_goals (refine And.intro ?_ ?_)
  all_goals (first | (with_reducible rfl) | (simp_all [gI, gJ, sI, sJ]; done) | (simp only [Int32.lt_iff_toInt_lt, Int32.le_iff_toInt_le] at *; first | (rw [if_pos (by omega)]; done) | (rw [if_neg (by omega)]; done)) | (exfalso; simp_all [gI, gJ, sI, sJ, Int32.lt_iff_toInt_lt, Int32.le_iff_toInt_le]; omega) | rfl)
set_option maxRecDepth 100000 in
set_option maxHeartbeats 4000000 in
theorem f_named {f : Nat → Nat → Int32} {g : Nat → Nat → Int64} (w i : Int32) (h : ZC f) : CI 4 mX6_named [.ref 6, .int w, .int i] (f, g, (336, 720)) (fun r m' => r = -1 ∧ m' = (f, g, (336, 720))) := by
  obtain ⟨-, h1, h2, h3, -⟩ := h
  refine At.gs okX6_named 300 ?_
  repeat' ((conv => whnf); first | (refine And.intro rfl (At.ls okX6_named 300 ⟨_, _, rfl⟩ ?_)) | (refine And.intro ?_ ?_; (focus (intro h; exfalso; simp [gI, gJ, sI, sJ, vp_in] at h; done)); intro _) | (refine And.intro ?_ ?_; rotate_left; (focus (intro h; exfalso; simp [gI, gJ, sI, sJ, vp_in] at h; done)); intro _) | (refine And.intro (show vp_in _ _ from ?_) ?_; (focus (simp [gI, gJ, sI, sJ, vp_in]; done))) | (refine And.intro (show _ ∨ _ from ?_) ?_; (focus (simp [gI, gJ, sI, sJ, vp_in]; done))) | (refine And.intro (show ¬ _ from ?_) ?_; (focus (simp [gI, gJ, sI, sJ, vp_in]; done))) | (refine ⟨1, (by decide), _, f_find354 _ h1, ?_⟩; rintro _ _ ⟨rfl, rfl⟩) | (refine ⟨1, (by decide), _, f_find386 _ h2, ?_⟩; rintro _ _ ⟨rfl, rfl⟩) | (refine ⟨1, (by decide), _, f_find418 _ h3, ?_⟩; rintro _ _ ⟨rfl, rfl⟩) | (dsimp only [sI_c, sJ_c, sNw_c, sSp_c]) | (refine And.intro ?_ ?_ <;> intro h))
  all_goals (refine And.intro ?_ ?_)
  all_goals (first | (with_reducible rfl) | (simp_all [gI, gJ, sI, sJ]; done) | (simp only [Int32.lt_iff_toInt_lt, Int32.le_iff_toInt_le] at *; first | (rw [if_pos (by omega)]; done) | (rw [if_neg (by omega)]; done)) | (exfalso; simp_all [gI, gJ, sI, sJ, Int32.lt_iff_toInt_lt, Int32.le_iff_toInt_le]; omega) | rfl)
set_option maxRecDepth 100000 in
set_option maxHeartbeats 4000000 in
theorem f_push {f : Nat → Nat → Int32} {g : Nat → Nat → Int64} (a s : Int32) (hs : f 19 1 = s) (h : s = 0 ∨ s = 4 ∨ s = 8 ∨ s = 12 ∨ s = 16) : CV 2 mX3_push [.ref 19, .int a] (f, g, (336, 720)) (fun m' => ∃ f', m' = (f', g, (336, 720)) ∧ f' 19 1 = s + 4 ∧ FrM f f') := by
  rcases h with rfl | rfl | rfl | rfl | rfl
  all_goals (
    refine At.gs okX3_push 300 ?_
    repeat' ((conv => whnf); first | (refine And.intro rfl (At.ls okX3_push 300 ⟨_, _, rfl⟩ ?_)) | (refine And.intro ?_ ?_; (focus (intro h; exfalso; simp [gI, gJ, sI, sJ, vp_in, hs] at h; done)); intro _) | (refine And.intro ?_ ?_; rotate_left; (focus (intro h; exfalso; simp [gI, gJ, sI, sJ, vp_in, hs] at h; done)); intro _) | (refine And.intro (show vp_in _ _ from ?_) ?_; (focus (simp [gI, gJ, sI, sJ, vp_in, hs]; done))) | (refine And.intro (show _ ∨ _ from ?_) ?_; (focus (simp [gI, gJ, sI, sJ, vp_in, hs]; done))) | (refine And.intro (show ¬ _ from ?_) ?_; (focus (simp [gI, gJ, sI, sJ, vp_in, hs]; done))) | (refine ⟨1, (by decide), _, f_hasSpace 4 _ hs (by decide), ?_⟩; rintro _ _ ⟨rfl, rfl⟩) | (dsimp only [sI_c, sJ_c, sNw_c, sSp_c]))
    refine ⟨_, rfl, ?_, ?_⟩
    · simp [gI, sI, hs]
    · intro k; simp [gI, sI])
set_option maxRecDepth 100000 in
set_option maxHeartbeats 4000000 in
theorem f_feed {f : Nat → Nat → Int32} {g : Nat → Nat → Int64} (a b c d e : Int32) (h : ZC f) : CI 4 mX6_feed [.ref 6, .int a, .int b, .int c, .int d, .int e] (f, g, (336, 720)) (fun r m' => r = 20 ∧ ∃ f' g' c', m' = (f', g', c') ∧ FrM f f') := by
  have hs := h.1.1
  clear h
  refine At.gs okX6_feed 300 ?_
  repeat' ((conv => whnf); first | (refine And.intro rfl (At.ls okX6_feed 300 ⟨_, _, rfl⟩ ?_)) | (refine And.intro ?_ ?_; (focus (intro h; exfalso; simp [gI, gJ, sI, sJ, vp_in, hs] at h; done)); intro _) | (refine And.intro ?_ ?_; rotate_left; (focus (intro h; exfalso; simp [gI, gJ, sI, sJ, vp_in, hs] at h; done)); intro _) | (refine And.intro (show vp_in _ _ from ?_) ?_; (focus (simp [gI, gJ, sI, sJ, vp_in, hs]; done))) | (refine And.intro (show _ ∨ _ from ?_) ?_; (focus (simp [gI, gJ, sI, sJ, vp_in, hs]; done))) | (refine And.intro (show ¬ _ from ?_) ?_; (focus (simp [gI, gJ, sI, sJ, vp_in, hs]; done))) | (refine ⟨1, (by decide), _, f_hasSpace 20 _ hs (by decide), ?_⟩; rintro _ _ ⟨rfl, rfl⟩) | (refine ⟨2, (by decide), _, f_push _ _ hs (by decide), ?_⟩; rintro _ ⟨f1, rfl, hs, hF⟩) | (dsimp only [sI_c, sJ_c, sNw_c, sSp_c]))
  refine ⟨?_, _, _, _, rfl, ?_⟩
  · simp [gI, hs]
  · intro k; simp_all [FrM]
set_option maxRecDepth 100000 in
set_option maxHeartbeats 4000000 in
theorem f_clear {f : Nat → Nat → Int32} {g : Nat → Nat → Int64} : CV 1 mX0_clear [.ref 720] (f, g, (336, 720)) (fun m' => m' = sI (sI (sI (sI (sI (f, g, (336, 720)) 738 1 0) 770 1 0) 802 1 0) 836 7 0) 836 8 0) := by
  refine At.gs okX0_clear 300 ?_
  repeat' ((conv => whnf); first | (refine And.intro rfl (At.ls okX0_clear 300 ⟨_, _, rfl⟩ ?_)) | (refine And.intro ?_ ?_; (focus (intro h; exfalso; simp [gI, gJ, sI, sJ, vp_in] at h; done)); intro _) | (refine And.intro ?_ ?_; rotate_left; (focus (intro h; exfalso; simp [gI, gJ, sI, sJ, vp_in] at h; done)); intro _) | (refine And.intro (show vp_in _ _ from ?_) ?_; (focus (simp [gI, gJ, sI, sJ, vp_in]; done))) | (refine And.intro (show _ ∨ _ from ?_) ?_; (focus (simp [gI, gJ, sI, sJ, vp_in]; done))) | (refine And.intro (show ¬ _ from ?_) ?_; (focus (simp [gI, gJ, sI, sJ, vp_in]; done))) | (dsimp only [sI_c, sJ_c, sNw_c, sSp_c]))
  rfl
set_option maxRecDepth 100000 in
set_option maxHeartbeats 4000000 in
theorem f_forget {f : Nat → Nat → Int32} {g : Nat → Nat → Int64} {c : Nat × Nat} : CV 1 mX1_forget [.ref 49] (f, g, c) (fun m' => m' = sI (f, g, c) 49 13 0) := by
  refine At.gs okX1_forget 300 ?_
  repeat' ((conv => whnf); first | (refine And.intro rfl (At.ls okX1_forget 300 ⟨_, _, rfl⟩ ?_)) | (refine And.intro ?_ ?_; (focus (intro h; exfalso; simp [gI, gJ, sI, sJ, vp_in] at h; done)); intro _) | (refine And.intro ?_ ?_; rotate_left; (focus (intro h; exfalso; simp [gI, gJ, sI, sJ, vp_in] at h; done)); intro _) | (refine And.intro (show vp_in _ _ from ?_) ?_; (focus (simp [gI, gJ, sI, sJ, vp_in]; done))) | (refine And.intro (show _ ∨ _ from ?_) ?_; (focus (simp [gI, gJ, sI, sJ, vp_in]; done))) | (refine And.intro (show ¬ _ from ?_) ?_; (focus (simp [gI, gJ, sI, sJ, vp_in]; done))) | (dsimp only [sI_c, sJ_c, sNw_c, sSp_c]))
  rfl
set_option maxRecDepth 100000 in
set_option maxHeartbeats 4000000 in
theorem f_join {f : Nat → Nat → Int32} {g : Nat → Nat → Int64} {c : Nat × Nat} (hs : f 802 1 = 0) : CV 1 mX0_joinParties [.ref 720] (f, g, c) (fun m' => m' = (f, g, c)) := by
  refine At.gs okX0_joinParties 300 ?_
  repeat' ((conv => whnf); first | (refine And.intro rfl (At.ls okX0_joinParties 300 ⟨_, _, rfl⟩ ?_)) | (refine And.intro ?_ ?_; (focus (intro h; exfalso; simp [gI, gJ, sI, sJ, vp_in, hs] at h; done)); intro _) | (refine And.intro ?_ ?_; rotate_left; (focus (intro h; exfalso; simp [gI, gJ, sI, sJ, vp_in, hs] at h; done)); intro _) | (refine And.intro (show vp_in _ _ from ?_) ?_; (focus (simp [gI, gJ, sI, sJ, vp_in, hs]; done))) | (refine And.intro (show _ ∨ _ from ?_) ?_; (focus (simp [gI, gJ, sI, sJ, vp_in, hs]; done))) | (refine And.intro (show ¬ _ from ?_) ?_; (focus (simp [gI, gJ, sI, sJ, vp_in, hs]; done))) | (dsimp only [sI_c, sJ_c, sNw_c, sSp_c]))
  rfl
set_option maxRecDepth 100000 in
set_option maxHeartbeats 4000000 in
theorem f_advance {f : Nat → Nat → Int32} {g : Nat → Nat → Int64} {c : Nat × Nat} (h4 : f 19 4 = 0) (h5 : f 19 5 = 0) : CV 1 mX3_advance [.ref 19] (f, g, c) (fun m' => ∃ f', m' = (f', g, c) ∧ f' 19 6 = 0 ∧ ∀ a k, a ≠ 19 → f' a k = f a k) := by
  refine At.gs okX3_advance 300 ?_
  repeat' ((conv => whnf); first | (refine And.intro rfl (At.ls okX3_advance 300 ⟨_, _, rfl⟩ ?_)) | (refine And.intro ?_ ?_; (focus (intro h; exfalso; simp [gI, gJ, sI, sJ, vp_in, h4, h5] at h; done)); intro _) | (refine And.intro ?_ ?_; rotate_left; (focus (intro h; exfalso; simp [gI, gJ, sI, sJ, vp_in, h4, h5] at h; done)); intro _) | (refine And.intro (show vp_in _ _ from ?_) ?_; (focus (simp [gI, gJ, sI, sJ, vp_in, h4, h5]; done))) | (refine And.intro (show _ ∨ _ from ?_) ?_; (focus (simp [gI, gJ, sI, sJ, vp_in, h4, h5]; done))) | (refine And.intro (show ¬ _ from ?_) ?_; (focus (simp [gI, gJ, sI, sJ, vp_in, h4, h5]; done))) | (dsimp only [sI_c, sJ_c, sNw_c, sSp_c]))
  refine ⟨_, rfl, ?_, ?_⟩
  · simp [gI, sI]
  · intro a k ha; simp [gI, sI, ha]
set_option maxRecDepth 100000 in
set_option maxHeartbeats 4000000 in
theorem f_read {f : Nat → Nat → Int32} {g : Nat → Nat → Int64} {c : Nat × Nat} (hs : f 19 1 = 0) : CI 3 mX3_read [.ref 19, .int 0, .ref 720] (f, g, c) (fun r m' => r = 0 ∧ ∃ f', m' = (f', g, c) ∧ ∀ a k, a ≠ 19 → f' a k = f a k) := by
  refine At.gs okX3_read 300 ?_
  conv => whnf
  (refine ⟨1, (by decide), _, f_advance ?_ ?_, ?_⟩; (focus (simp [gI, sI, hs]; done)); (focus (simp [gI, sI, hs]; done)); rintro _ ⟨f1, rfl, h6, hF⟩)
  repeat' ((conv => whnf); first | (refine And.intro rfl (At.ls okX3_read 300 ⟨_, _, rfl⟩ ?_)) | (refine And.intro ?_ ?_; (focus (intro h; exfalso; simp [gI, gJ, sI, sJ, vp_in, hs, h6] at h; done)); intro _) | (refine And.intro ?_ ?_; rotate_left; (focus (intro h; exfalso; simp [gI, gJ, sI, sJ, vp_in, hs, h6] at h; done)); intro _) | (refine And.intro (show vp_in _ _ from ?_) ?_; (focus (simp [gI, gJ, sI, sJ, vp_in, hs, h6]; done))) | (refine And.intro (show _ ∨ _ from ?_) ?_; (focus (simp [gI, gJ, sI, sJ, vp_in, hs, h6]; done))) | (refine And.intro (show ¬ _ from ?_) ?_; (focus (simp [gI, gJ, sI, sJ, vp_in, hs, h6]; done))) | (dsimp only [sI_c, sJ_c, sNw_c, sSp_c]))
  refine ⟨rfl, _, rfl, ?_⟩
  intro a k ha
  rw [hF a k ha]
  simp [gI, sI, ha]
set_option maxRecDepth 100000 in
set_option maxHeartbeats 4000000 in
theorem f_book {f : Nat → Nat → Int32} {g : Nat → Nat → Int64} (n : Int32) (h : ZC f) : CI 8 mX6_book [.ref 6, .int n] (f, g, (336, 720)) (fun r m' => r = (if n = 0 then 0 else -2) ∧ ∃ f' g' c', m' = (f', g', c') ∧ FrM f f') := by
  obtain ⟨⟨hs, -⟩, h1, h2, h3, h4, h5, h6, h7, h8, h9⟩ := h
  by_cases hn : n = 0
  · subst hn
    refine At.gs okX6_book 300 ?_
    repeat' ((conv => whnf); first | (refine And.intro rfl (At.ls okX6_book 300 ⟨_, _, rfl⟩ ?_)) | (refine And.intro ?_ ?_; (focus (intro h; exfalso; simp [gI, gJ, sI, sJ, vp_in, hs] at h; done)); intro _) | (refine And.intro ?_ ?_; rotate_left; (focus (intro h; exfalso; simp [gI, gJ, sI, sJ, vp_in, hs] at h; done)); intro _) | (refine And.intro (show vp_in _ _ from ?_) ?_; (focus (simp [gI, gJ, sI, sJ, vp_in, hs]; done))) | (refine And.intro (show _ ∨ _ from ?_) ?_; (focus (simp [gI, gJ, sI, sJ, vp_in, hs]; done))) | (refine And.intro (show ¬ _ from ?_) ?_; (focus (simp [gI, gJ, sI, sJ, vp_in, hs]; done))) | (refine ⟨1, (by decide), _, f_clear, ?_⟩; rintro _ rfl) | (refine ⟨3, (by decide), _, f_read ?_, ?_⟩; (focus (simp [gI, sI, hs]; done)); rintro _ _ ⟨rfl, f1, rfl, hF⟩) | (refine ⟨1, (by decide), _, f_join ?_, ?_⟩; (focus (simp [gI, sI, hF, sNw, sSp, h9]; done)); rintro _ rfl) | (refine ⟨1, (by decide), _, f_forget, ?_⟩; rintro _ rfl) | (dsimp only [sI_c, sJ_c, sNw_c, sSp_c]))
    refine ⟨by simp, _, _, _, rfl, ?_⟩
    intro k
    simp [gI, sI, sNw, sSp, hF]
  · refine At.gs okX6_book 300 ?_
    repeat' ((conv => whnf); first | (refine And.intro rfl (At.ls okX6_book 300 ⟨_, _, rfl⟩ ?_)) | (refine And.intro ?_ ?_; (focus (intro h; exfalso; simp [gI, gJ, sI, sJ, vp_in, hs] at h; done)); intro _) | (refine And.intro ?_ ?_; rotate_left; (focus (intro h; exfalso; simp [gI, gJ, sI, sJ, vp_in, hs] at h; done)); intro _) | (refine And.intro (show vp_in _ _ from ?_) ?_; (focus (simp [gI, gJ, sI, sJ, vp_in, hs]; done))) | (refine And.intro (show _ ∨ _ from ?_) ?_; (focus (simp [gI, gJ, sI, sJ, vp_in, hs]; done))) | (refine And.intro (show ¬ _ from ?_) ?_; (focus (simp [gI, gJ, sI, sJ, vp_in, hs]; done))) | (dsimp only [sI_c, sJ_c, sNw_c, sSp_c]))
    refine And.intro ?_ ?_
    · intro _
      conv => whnf
      refine ⟨by simp [hn], _, _, _, rfl, ?_⟩
      intro k; rfl
    · intro q
      conv => whnf
      refine And.intro ?_ ?_
      · intro q2
        exfalso
        apply hn
        have q2 : n ≤ 0 := by rw [← hs]; exact q2
        rw [Int32.lt_iff_toInt_lt] at q
        rw [Int32.le_iff_toInt_le] at q2
        apply Int32.toInt_inj.mp
        have e : (0 : Int32).toInt = 0 := rfl
        omega
      · intro _
        conv => whnf
        refine ⟨by simp [hn], _, _, _, rfl, ?_⟩
        intro k; rfl
set_option maxRecDepth 100000 in
set_option maxHeartbeats 4000000 in
theorem f_load {f : Nat → Nat → Int32} {g : Nat → Nat → Int64} {c : Nat × Nat} (w st : Int32) (hs : f 452 7 = 0) : CV 1 mX1_load [.ref 49, .ref 452, .int w, .int st] (f, g, c) (fun m' => ∃ f', m' = (f', g, c) ∧ f' 49 8 = 0 ∧ (∀ a k, a ≠ 49 → f' a k = f a k)) := by
  refine At.gs okX1_load 300 ?_
  repeat' ((conv => whnf); first | (refine And.intro rfl (At.ls okX1_load 300 ⟨_, _, rfl⟩ ?_)) | (refine And.intro ?_ ?_; (focus (intro h; exfalso; simp [gI, gJ, sI, sJ, vp_in, hs] at h; done)); intro _) | (refine And.intro ?_ ?_; rotate_left; (focus (intro h; exfalso; simp [gI, gJ, sI, sJ, vp_in, hs] at h; done)); intro _) | (refine And.intro (show vp_in _ _ from ?_) ?_; (focus (simp [gI, gJ, sI, sJ, vp_in, hs]; done))) | (refine And.intro (show _ ∨ _ from ?_) ?_; (focus (simp [gI, gJ, sI, sJ, vp_in, hs]; done))) | (refine And.intro (show ¬ _ from ?_) ?_; (focus (simp [gI, gJ, sI, sJ, vp_in, hs]; done))) | (dsimp only [sI_c, sJ_c, sNw_c, sSp_c]))
  refine ⟨_, rfl, ?_, ?_⟩
  · simp [gI, sI, hs]
  · intro a k ha; simp [gI, sI, ha]
set_option maxRecDepth 100000 in
set_option maxHeartbeats 4000000 in
theorem f_link {f : Nat → Nat → Int32} {g : Nat → Nat → Int64} {c : Nat × Nat} (hs : f 49 8 = 0) : CV 1 mX1_linkSales [.ref 49] (f, g, c) (fun m' => m' = (f, g, c)) := by
  refine At.gs okX1_linkSales 300 ?_
  repeat' ((conv => whnf); first | (refine And.intro rfl (At.ls okX1_linkSales 300 ⟨_, _, rfl⟩ ?_)) | (refine And.intro ?_ ?_; (focus (intro h; exfalso; simp [gI, gJ, sI, sJ, vp_in, hs] at h; done)); intro _) | (refine And.intro ?_ ?_; rotate_left; (focus (intro h; exfalso; simp [gI, gJ, sI, sJ, vp_in, hs] at h; done)); intro _) | (refine And.intro (show vp_in _ _ from ?_) ?_; (focus (simp [gI, gJ, sI, sJ, vp_in, hs]; done))) | (refine And.intro (show _ ∨ _ from ?_) ?_; (focus (simp [gI, gJ, sI, sJ, vp_in, hs]; done))) | (refine And.intro (show ¬ _ from ?_) ?_; (focus (simp [gI, gJ, sI, sJ, vp_in, hs]; done))) | (dsimp only [sI_c, sJ_c, sNw_c, sSp_c]))
  rfl
set_option maxRecDepth 100000 in
set_option maxHeartbeats 4000000 in
theorem f_measure {f : Nat → Nat → Int32} {g : Nat → Nat → Int64} {c : Nat × Nat} (j : Int32) (hs : f 49 8 = 0) (hj : j = 0 ∨ j = 1 ∨ j = 2 ∨ j = 3 ∨ j = 4 ∨ j = 5 ∨ j = 6 ∨ j = 7 ∨ j = 8 ∨ j = 9 ∨ j = 10 ∨ j = 11) : CV 1 mX1_measure [.ref 49, .int j] (f, g, c) (fun m' => ∃ g', m' = (f, g', c)) := by
  rcases hj with rfl | rfl | rfl | rfl | rfl | rfl | rfl | rfl | rfl | rfl | rfl | rfl
  all_goals (
    refine At.gs okX1_measure 300 ?_
    repeat' ((conv => whnf); first | (refine And.intro rfl (At.ls okX1_measure 300 ⟨_, _, rfl⟩ ?_)) | (refine And.intro ?_ ?_; (focus (intro h; exfalso; simp [gI, gJ, sI, sJ, vp_in, hs] at h; done)); intro _) | (refine And.intro ?_ ?_; rotate_left; (focus (intro h; exfalso; simp [gI, gJ, sI, sJ, vp_in, hs] at h; done)); intro _) | (refine And.intro (show vp_in _ _ from ?_) ?_; (focus (simp [gI, gJ, sI, sJ, vp_in, hs]; done))) | (refine And.intro (show _ ∨ _ from ?_) ?_; (focus (simp [gI, gJ, sI, sJ, vp_in, hs]; done))) | (refine And.intro (show ¬ _ from ?_) ?_; (focus (simp [gI, gJ, sI, sJ, vp_in, hs]; done))) | (dsimp only [sI_c, sJ_c, sNw_c, sSp_c]) | (refine And.intro ?_ ?_ <;> intro h))
    all_goals (exact ⟨_, rfl⟩))
set_option maxRecDepth 100000 in
set_option maxHeartbeats 4000000 in
theorem f_search {f : Nat → Nat → Int32} {g : Nat → Nat → Int64} {c : Nat × Nat} (k d : Int32) (hs : f 49 8 = 0) : CI 2 mX1_search [.ref 49, .int k, .int d] (f, g, c) (fun r m' => r = 0 ∧ ∃ f' g', m' = (f', g', c) ∧ f' 49 8 = 0 ∧ (∀ a k, a ≠ 49 → f' a k = f a k)) := by
  refine At.gs okX1_search 300 ?_
  repeat' ((conv => whnf); first | (refine And.intro rfl (At.ls okX1_search 300 ⟨_, _, rfl⟩ ?_)) | (refine And.intro ?_ ?_; (focus (intro h; exfalso; simp [gI, gJ, sI, sJ, vp_in, hs] at h; done)); intro _) | (refine And.intro ?_ ?_; rotate_left; (focus (intro h; exfalso; simp [gI, gJ, sI, sJ, vp_in, hs] at h; done)); intro _) | (refine And.intro (show vp_in _ _ from ?_) ?_; (focus (simp [gI, gJ, sI, sJ, vp_in, hs]; done))) | (refine And.intro (show _ ∨ _ from ?_) ?_; (focus (simp [gI, gJ, sI, sJ, vp_in, hs]; done))) | (refine And.intro (show ¬ _ from ?_) ?_; (focus (simp [gI, gJ, sI, sJ, vp_in, hs]; done))) | (refine ⟨1, (by decide), _, f_link ?_, ?_⟩; (focus (simp [gI, sI, hs]; done)); rintro _ rfl) | (refine ⟨1, (by decide), _, f_measure _ ?_ ?_, ?_⟩; (focus (simp [gI, sI, hs]; done)); (focus decide); rintro _ ⟨g1, rfl⟩) | (dsimp only [sI_c, sJ_c, sNw_c, sSp_c]))
  refine ⟨by simp [gI, sI], _, _, rfl, ?_, ?_⟩
  · simp [gI, sI, hs]
  · intro a k ha; simp [gI, sI, ha]
set_option maxRecDepth 100000 in
set_option maxHeartbeats 4000000 in
theorem f_finder {f : Nat → Nat → Int32} {g : Nat → Nat → Int64} {c : Nat × Nat} (w k d st : Int32) (hs : f 452 7 = 0) (h13 : f 49 13 = 0) : CI 3 mX1_find [.ref 49, .ref 452, .int w, .int k, .int d, .int st] (f, g, c) (fun r m' => r = 0 ∧ ∃ f' g', m' = (f', g', c) ∧ FrF f f') := by
  refine At.gs okX1_find 300 ?_
  repeat' ((conv => whnf); first | (refine And.intro rfl (At.ls okX1_find 300 ⟨_, _, rfl⟩ ?_)) | (refine And.intro ?_ ?_; (focus (intro h; exfalso; simp [gI, gJ, sI, sJ, vp_in, hs, h13] at h; done)); intro _) | (refine And.intro ?_ ?_; rotate_left; (focus (intro h; exfalso; simp [gI, gJ, sI, sJ, vp_in, hs, h13] at h; done)); intro _) | (refine And.intro (show vp_in _ _ from ?_) ?_; (focus (simp [gI, gJ, sI, sJ, vp_in, hs, h13]; done))) | (refine And.intro (show _ ∨ _ from ?_) ?_; (focus (simp [gI, gJ, sI, sJ, vp_in, hs, h13]; done))) | (refine And.intro (show ¬ _ from ?_) ?_; (focus (simp [gI, gJ, sI, sJ, vp_in, hs, h13]; done))) | (refine ⟨1, (by decide), _, f_load _ _ hs, ?_⟩; rintro _ ⟨f1, rfl, h8, hF⟩) | (refine ⟨2, (by decide), _, f_search _ _ ?_, ?_⟩; (focus (simp [gI, sI, h8]; done)); rintro _ _ ⟨rfl, f2, g2, rfl, -, hG⟩) | (dsimp only [sI_c, sJ_c, sNw_c, sSp_c]) | (refine And.intro ?_ ?_ <;> intro h))
  all_goals (refine ⟨rfl, _, _, rfl, ?_⟩)
  all_goals (intro a k ha; rw [hG a k ha]; simp [gI, sI, ha, hF a k ha])
set_option maxRecDepth 100000 in
set_option maxHeartbeats 4000000 in
theorem f_gatherY {f : Nat → Nat → Int32} {g : Nat → Nat → Int64} (w k d : Int32) (h : ZC f) (ha : asked w k d) : CI 4 mX6_gather [.ref 6, .int w, .int k, .int d] (f, g, (336, 720)) (fun r m' => r = 0 ∧ ∃ f' g', m' = (f', g', (336, 720)) ∧ FrF f f') := by
  obtain ⟨-, h1, h2, h3, h4, h5, h6, h7, h8, h9⟩ := h
  obtain ⟨a1, a2, a3⟩ := ha
  refine At.gs okX6_gather 300 ?_
  repeat' ((conv => whnf); first | (refine And.intro rfl (At.ls okX6_gather 300 ⟨_, _, rfl⟩ ?_)) | (refine And.intro ?_ ?_; (focus (intro h; exfalso; simp [gI, gJ, sI, sJ, vp_in, a1, a2, a3] at h; done)); intro _) | (refine And.intro ?_ ?_; rotate_left; (focus (intro h; exfalso; simp [gI, gJ, sI, sJ, vp_in, a1, a2, a3] at h; done)); intro _) | (refine And.intro (show vp_in _ _ from ?_) ?_; (focus (simp [gI, gJ, sI, sJ, vp_in, a1, a2, a3]; done))) | (refine And.intro (show _ ∨ _ from ?_) ?_; (focus (simp [gI, gJ, sI, sJ, vp_in, a1, a2, a3]; done))) | (refine And.intro (show ¬ _ from ?_) ?_; (focus (simp [gI, gJ, sI, sJ, vp_in, a1, a2, a3]; done))) | (refine ⟨1, (by decide), _, f_within _ _ _, ?_⟩; rintro _ _ ⟨rfl, rfl⟩) | (refine ⟨3, (by decide), _, f_finder _ _ _ _ h4 h8, ?_⟩; rintro _ _ ⟨rfl, f1, g1, rfl, hF⟩) | (dsimp only [sI_c, sJ_c, sNw_c, sSp_c]))
  exact ⟨rfl, _, _, rfl, hF⟩
set_option maxRecDepth 100000 in
set_option maxHeartbeats 4000000 in
theorem f_gatherN {f : Nat → Nat → Int32} {g : Nat → Nat → Int64} (w k d : Int32) (ha : ¬ asked w k d) : CI 4 mX6_gather [.ref 6, .int w, .int k, .int d] (f, g, (336, 720)) (fun r m' => r = -1 ∧ m' = (f, g, (336, 720))) := by
  unfold asked at ha
  refine At.gs okX6_gather 300 ?_
  by_cases a1 : 0 ≤ w ∧ w ≤ 1
  by_cases a2 : 2 ≤ k ∧ k ≤ 6
  have a3 : ¬ (0 ≤ d ∧ d ≤ 400) := fun q => ha ⟨a1, a2, q⟩
  repeat' ((conv => whnf); first | (refine And.intro rfl (At.ls okX6_gather 300 ⟨_, _, rfl⟩ ?_)) | (refine And.intro ?_ ?_; (focus (intro h; exfalso; simp [gI, gJ, sI, sJ, vp_in, a1, a2, a3] at h; done)); intro _) | (refine And.intro ?_ ?_; rotate_left; (focus (intro h; exfalso; simp [gI, gJ, sI, sJ, vp_in, a1, a2, a3] at h; done)); intro _) | (refine And.intro (show vp_in _ _ from ?_) ?_; (focus (simp [gI, gJ, sI, sJ, vp_in, a1, a2, a3]; done))) | (refine And.intro (show _ ∨ _ from ?_) ?_; (focus (simp [gI, gJ, sI, sJ, vp_in, a1, a2, a3]; done))) | (refine And.intro (show ¬ _ from ?_) ?_; (focus (simp [gI, gJ, sI, sJ, vp_in, a1, a2, a3]; done))) | (refine ⟨1, (by decide), _, f_within _ _ _, ?_⟩; rintro _ _ ⟨rfl, rfl⟩) | (dsimp only [sI_c, sJ_c, sNw_c, sSp_c]))
  exact ⟨rfl, rfl⟩
  repeat' ((conv => whnf); first | (refine And.intro rfl (At.ls okX6_gather 300 ⟨_, _, rfl⟩ ?_)) | (refine And.intro ?_ ?_; (focus (intro h; exfalso; simp [gI, gJ, sI, sJ, vp_in, a1, a2] at h; done)); intro _) | (refine And.intro ?_ ?_; rotate_left; (focus (intro h; exfalso; simp [gI, gJ, sI, sJ, vp_in, a1, a2] at h; done)); intro _) | (refine And.intro (show vp_in _ _ from ?_) ?_; (focus (simp [gI, gJ, sI, sJ, vp_in, a1, a2]; done))) | (refine And.intro (show _ ∨ _ from ?_) ?_; (focus (simp [gI, gJ, sI, sJ, vp_in, a1, a2]; done))) | (refine And.intro (show ¬ _ from ?_) ?_; (focus (simp [gI, gJ, sI, sJ, vp_in, a1, a2]; done))) | (refine ⟨1, (by decide), _, f_within _ _ _, ?_⟩; rintro _ _ ⟨rfl, rfl⟩) | (dsimp only [sI_c, sJ_c, sNw_c, sSp_c]))
  exact ⟨rfl, rfl⟩
  repeat' ((conv => whnf); first | (refine And.intro rfl (At.ls okX6_gather 300 ⟨_, _, rfl⟩ ?_)) | (refine And.intro ?_ ?_; (focus (intro h; exfalso; simp [gI, gJ, sI, sJ, vp_in, a1] at h; done)); intro _) | (refine And.intro ?_ ?_; rotate_left; (focus (intro h; exfalso; simp [gI, gJ, sI, sJ, vp_in, a1] at h; done)); intro _) | (refine And.intro (show vp_in _ _ from ?_) ?_; (focus (simp [gI, gJ, sI, sJ, vp_in, a1]; done))) | (refine And.intro (show _ ∨ _ from ?_) ?_; (focus (simp [gI, gJ, sI, sJ, vp_in, a1]; done))) | (refine And.intro (show ¬ _ from ?_) ?_; (focus (simp [gI, gJ, sI, sJ, vp_in, a1]; done))) | (refine ⟨1, (by decide), _, f_within _ _ _, ?_⟩; rintro _ _ ⟨rfl, rfl⟩) | (dsimp only [sI_c, sJ_c, sNw_c, sSp_c]))
  exact ⟨rfl, rfl⟩
set_option maxRecDepth 100000 in
set_option maxHeartbeats 4000000 in
theorem f_tally {f : Nat → Nat → Int32} {g : Nat → Nat → Int64} {c : Nat × Nat} (r : Int32) (h1 : f 418 1 = 0) (h2 : f 452 7 = 0) : CV 1 mX0_tally [.ref 336, .int r] (f, g, c) (fun m' => m' = (f, g, c)) := by
  refine At.gs okX0_tally 300 ?_
  repeat' ((conv => whnf); first | (refine And.intro rfl (At.ls okX0_tally 300 ⟨_, _, rfl⟩ ?_)) | (refine And.intro ?_ ?_; (focus (intro h; exfalso; simp [gI, gJ, sI, sJ, vp_in, h1, h2] at h; done)); intro _) | (refine And.intro ?_ ?_; rotate_left; (focus (intro h; exfalso; simp [gI, gJ, sI, sJ, vp_in, h1, h2] at h; done)); intro _) | (refine And.intro (show vp_in _ _ from ?_) ?_; (focus (simp [gI, gJ, sI, sJ, vp_in, h1, h2]; done))) | (refine And.intro (show _ ∨ _ from ?_) ?_; (focus (simp [gI, gJ, sI, sJ, vp_in, h1, h2]; done))) | (refine And.intro (show ¬ _ from ?_) ?_; (focus (simp [gI, gJ, sI, sJ, vp_in, h1, h2]; done))) | (dsimp only [sI_c, sJ_c, sNw_c, sSp_c]))
  rfl
set_option maxRecDepth 100000 in
set_option maxHeartbeats 4000000 in
theorem f_missing {f : Nat → Nat → Int32} {g : Nat → Nat → Int64} {c : Nat × Nat} (r : Int32) (h1 : f 418 1 = 0) (h2 : f 452 7 = 0) : CI 2 mX0_missing [.ref 336, .int r] (f, g, c) (fun r m' => r = 0 ∧ m' = (f, g, c)) := by
  refine At.gs okX0_missing 300 ?_
  repeat' ((conv => whnf); first | (refine And.intro rfl (At.ls okX0_missing 300 ⟨_, _, rfl⟩ ?_)) | (refine And.intro ?_ ?_; (focus (intro h; exfalso; simp [gI, gJ, sI, sJ, vp_in, h1, h2] at h; done)); intro _) | (refine And.intro ?_ ?_; rotate_left; (focus (intro h; exfalso; simp [gI, gJ, sI, sJ, vp_in, h1, h2] at h; done)); intro _) | (refine And.intro (show vp_in _ _ from ?_) ?_; (focus (simp [gI, gJ, sI, sJ, vp_in, h1, h2]; done))) | (refine And.intro (show _ ∨ _ from ?_) ?_; (focus (simp [gI, gJ, sI, sJ, vp_in, h1, h2]; done))) | (refine And.intro (show ¬ _ from ?_) ?_; (focus (simp [gI, gJ, sI, sJ, vp_in, h1, h2]; done))) | (refine ⟨1, (by decide), _, f_tally _ h1 h2, ?_⟩; rintro _ rfl) | (dsimp only [sI_c, sJ_c, sNw_c, sSp_c]))
  exact ⟨rfl, rfl⟩
set_option maxRecDepth 100000 in
set_option maxHeartbeats 4000000 in
theorem f_bitCount {m : MM} : CI 1 mJ6_bitCount_0f7a4 [.int 0] m (fun r m' => r = 0 ∧ m' = m) := by
  refine At.gs okJ6_bitCount_0f7a4 300 ?_
  repeat' ((conv => whnf); first | (refine And.intro rfl (At.ls okJ6_bitCount_0f7a4 300 ⟨_, _, rfl⟩ ?_)) | (refine And.intro ?_ ?_; (focus (intro h; exfalso; simp [gI, gJ, sI, sJ, vp_in] at h; done)); intro _) | (refine And.intro ?_ ?_; rotate_left; (focus (intro h; exfalso; simp [gI, gJ, sI, sJ, vp_in] at h; done)); intro _) | (refine And.intro (show vp_in _ _ from ?_) ?_; (focus (simp [gI, gJ, sI, sJ, vp_in]; done))) | (refine And.intro (show _ ∨ _ from ?_) ?_; (focus (simp [gI, gJ, sI, sJ, vp_in]; done))) | (refine And.intro (show ¬ _ from ?_) ?_; (focus (simp [gI, gJ, sI, sJ, vp_in]; done))) | (dsimp only [sI_c, sJ_c, sNw_c, sSp_c]))
  exact ⟨by decide, rfl⟩
set_option maxRecDepth 100000 in
set_option maxHeartbeats 4000000 in
theorem f_firm {f : Nat → Nat → Int32} {g : Nat → Nat → Int64} (x w : Int32) (h : ZC f) : CI 5 mX6_firm [.ref 6, .int x, .int w] (f, g, (336, 720)) (fun r m' => r = -2147483648 ∧ m' = (f, g, (336, 720))) := by
  obtain ⟨⟨hr1, hr2, hr3⟩, h1, h2, h3, h4, h5, h6, h7, h8, h9⟩ := h
  refine At.gs okX6_firm 300 ?_
  repeat' ((conv => whnf); first | (refine And.intro rfl (At.ls okX6_firm 300 ⟨_, _, rfl⟩ ?_)) | (refine And.intro ?_ ?_; (focus (intro h; exfalso; simp [gI, gJ, sI, sJ, vp_in, h1, h2, h3, h4, h5, h6, h7, h8] at h; done)); intro _) | (refine And.intro ?_ ?_; rotate_left; (focus (intro h; exfalso; simp [gI, gJ, sI, sJ, vp_in, h1, h2, h3, h4, h5, h6, h7, h8] at h; done)); intro _) | (refine And.intro (show vp_in _ _ from ?_) ?_; (focus (simp [gI, gJ, sI, sJ, vp_in, h1, h2, h3, h4, h5, h6, h7, h8]; done))) | (refine And.intro (show _ ∨ _ from ?_) ?_; (focus (simp [gI, gJ, sI, sJ, vp_in, h1, h2, h3, h4, h5, h6, h7, h8]; done))) | (refine And.intro (show ¬ _ from ?_) ?_; (focus (simp [gI, gJ, sI, sJ, vp_in, h1, h2, h3, h4, h5, h6, h7, h8]; done))) | (refine ⟨1, (by decide), _, f_has418 _ h3, ?_⟩; rintro _ _ ⟨rfl, rfl⟩) | (dsimp only [sI_c, sJ_c, sNw_c, sSp_c]) | (refine And.intro ?_ ?_ <;> intro h))
  all_goals (first | exact ⟨rfl, rfl⟩ | exact ⟨(by simp_all [gI, sI]), rfl⟩)
set_option maxRecDepth 100000 in
set_option maxHeartbeats 4000000 in
theorem f_sell {f : Nat → Nat → Int32} {g : Nat → Nat → Int64} (a b n gd p dd mk : Int32) (h : ZC f) : CI 5 mX6_sell [.ref 6, .int a, .int b, .int n, .int gd, .int p, .int dd, .int mk] (f, g, (336, 720)) (fun r m' => r = -1 ∧ m' = (f, g, (336, 720))) := by
  obtain ⟨⟨hr1, hr2, hr3⟩, h1, h2, h3, h4, h5, h6, h7, h8, h9⟩ := h
  refine At.gs okX6_sell 300 ?_
  repeat' ((conv => whnf); first | (refine And.intro rfl (At.ls okX6_sell 300 ⟨_, _, rfl⟩ ?_)) | (refine And.intro ?_ ?_; (focus (intro h; exfalso; simp [gI, gJ, sI, sJ, vp_in, h1, h2, h3, h4, h5, h6, h7, h8] at h; done)); intro _) | (refine And.intro ?_ ?_; rotate_left; (focus (intro h; exfalso; simp [gI, gJ, sI, sJ, vp_in, h1, h2, h3, h4, h5, h6, h7, h8] at h; done)); intro _) | (refine And.intro (show vp_in _ _ from ?_) ?_; (focus (simp [gI, gJ, sI, sJ, vp_in, h1, h2, h3, h4, h5, h6, h7, h8]; done))) | (refine And.intro (show _ ∨ _ from ?_) ?_; (focus (simp [gI, gJ, sI, sJ, vp_in, h1, h2, h3, h4, h5, h6, h7, h8]; done))) | (refine And.intro (show ¬ _ from ?_) ?_; (focus (simp [gI, gJ, sI, sJ, vp_in, h1, h2, h3, h4, h5, h6, h7, h8]; done))) | (refine ⟨1, (by decide), _, f_has418 _ h3, ?_⟩; rintro _ _ ⟨rfl, rfl⟩) | (refine ⟨1, (by decide), _, f_has386 _ h2, ?_⟩; rintro _ _ ⟨rfl, rfl⟩) | (refine ⟨1, (by decide), _, f_within _ _ _, ?_⟩; rintro _ _ ⟨rfl, rfl⟩) | (dsimp only [sI_c, sJ_c, sNw_c, sSp_c]))
  all_goals (first | exact ⟨rfl, rfl⟩ | exact ⟨(by simp_all [gI, sI]), rfl⟩)
set_option maxRecDepth 100000 in
set_option maxHeartbeats 4000000 in
theorem f_undo {f : Nat → Nat → Int32} {g : Nat → Nat → Int64} (h : ZC f) : CI 5 mX6_undo [.ref 6] (f, g, (336, 720)) (fun r m' => r = -1 ∧ m' = (f, g, (336, 720))) := by
  obtain ⟨⟨hr1, hr2, hr3⟩, h1, h2, h3, h4, h5, h6, h7, h8, h9⟩ := h
  refine At.gs okX6_undo 300 ?_
  repeat' ((conv => whnf); first | (refine And.intro rfl (At.ls okX6_undo 300 ⟨_, _, rfl⟩ ?_)) | (refine And.intro ?_ ?_; (focus (intro h; exfalso; simp [gI, gJ, sI, sJ, vp_in, h1, h2, h3, h4, h5, h6, h7, h8] at h; done)); intro _) | (refine And.intro ?_ ?_; rotate_left; (focus (intro h; exfalso; simp [gI, gJ, sI, sJ, vp_in, h1, h2, h3, h4, h5, h6, h7, h8] at h; done)); intro _) | (refine And.intro (show vp_in _ _ from ?_) ?_; (focus (simp [gI, gJ, sI, sJ, vp_in, h1, h2, h3, h4, h5, h6, h7, h8]; done))) | (refine And.intro (show _ ∨ _ from ?_) ?_; (focus (simp [gI, gJ, sI, sJ, vp_in, h1, h2, h3, h4, h5, h6, h7, h8]; done))) | (refine And.intro (show ¬ _ from ?_) ?_; (focus (simp [gI, gJ, sI, sJ, vp_in, h1, h2, h3, h4, h5, h6, h7, h8]; done))) | (dsimp only [sI_c, sJ_c, sNw_c, sSp_c]) | (refine And.intro ?_ ?_ <;> intro h))
  all_goals (first | exact ⟨rfl, rfl⟩ | exact ⟨(by simp_all [gI, sI]), rfl⟩)
set_option maxRecDepth 100000 in
set_option maxHeartbeats 4000000 in
theorem f_pay {f : Nat → Nat → Int32} {g : Nat → Nat → Int64} (x s : Int32) (h : ZC f) : CI 5 mX6_pay [.ref 6, .int x, .int s] (f, g, (336, 720)) (fun r m' => r = -1 ∧ m' = (f, g, (336, 720))) := by
  obtain ⟨⟨hr1, hr2, hr3⟩, h1, h2, h3, h4, h5, h6, h7, h8, h9⟩ := h
  refine At.gs okX6_pay 300 ?_
  repeat' ((conv => whnf); first | (refine And.intro rfl (At.ls okX6_pay 300 ⟨_, _, rfl⟩ ?_)) | (refine And.intro ?_ ?_; (focus (intro h; exfalso; simp [gI, gJ, sI, sJ, vp_in, h1, h2, h3, h4, h5, h6, h7, h8] at h; done)); intro _) | (refine And.intro ?_ ?_; rotate_left; (focus (intro h; exfalso; simp [gI, gJ, sI, sJ, vp_in, h1, h2, h3, h4, h5, h6, h7, h8] at h; done)); intro _) | (refine And.intro (show vp_in _ _ from ?_) ?_; (focus (simp [gI, gJ, sI, sJ, vp_in, h1, h2, h3, h4, h5, h6, h7, h8]; done))) | (refine And.intro (show _ ∨ _ from ?_) ?_; (focus (simp [gI, gJ, sI, sJ, vp_in, h1, h2, h3, h4, h5, h6, h7, h8]; done))) | (refine And.intro (show ¬ _ from ?_) ?_; (focus (simp [gI, gJ, sI, sJ, vp_in, h1, h2, h3, h4, h5, h6, h7, h8]; done))) | (refine ⟨1, (by decide), _, f_has418 _ h3, ?_⟩; rintro _ _ ⟨rfl, rfl⟩) | (dsimp only [sI_c, sJ_c, sNw_c, sSp_c]) | (refine And.intro ?_ ?_ <;> intro h))
  all_goals (first | exact ⟨rfl, rfl⟩ | exact ⟨(by simp_all [gI, sI]), rfl⟩)
set_option maxRecDepth 100000 in
set_option maxHeartbeats 4000000 in
theorem f_flow {f : Nat → Nat → Int32} {g : Nat → Nat → Int64} (x gd : Int32) (h : ZC f) : CI 5 mX6_flow [.ref 6, .int x, .int gd] (f, g, (336, 720)) (fun r m' => r = -1 ∧ m' = (f, g, (336, 720))) := by
  obtain ⟨⟨hr1, hr2, hr3⟩, h1, h2, h3, h4, h5, h6, h7, h8, h9⟩ := h
  refine At.gs okX6_flow 300 ?_
  repeat' ((conv => whnf); first | (refine And.intro rfl (At.ls okX6_flow 300 ⟨_, _, rfl⟩ ?_)) | (refine And.intro ?_ ?_; (focus (intro h; exfalso; simp [gI, gJ, sI, sJ, vp_in, h1, h2, h3, h4, h5, h6, h7, h8] at h; done)); intro _) | (refine And.intro ?_ ?_; rotate_left; (focus (intro h; exfalso; simp [gI, gJ, sI, sJ, vp_in, h1, h2, h3, h4, h5, h6, h7, h8] at h; done)); intro _) | (refine And.intro (show vp_in _ _ from ?_) ?_; (focus (simp [gI, gJ, sI, sJ, vp_in, h1, h2, h3, h4, h5, h6, h7, h8]; done))) | (refine And.intro (show _ ∨ _ from ?_) ?_; (focus (simp [gI, gJ, sI, sJ, vp_in, h1, h2, h3, h4, h5, h6, h7, h8]; done))) | (refine And.intro (show ¬ _ from ?_) ?_; (focus (simp [gI, gJ, sI, sJ, vp_in, h1, h2, h3, h4, h5, h6, h7, h8]; done))) | (refine ⟨1, (by decide), _, f_has418 _ h3, ?_⟩; rintro _ _ ⟨rfl, rfl⟩) | (dsimp only [sI_c, sJ_c, sNw_c, sSp_c]) | (refine And.intro ?_ ?_ <;> intro h))
  all_goals (first | exact ⟨rfl, rfl⟩ | exact ⟨(by simp_all [gI, sI]), rfl⟩)
set_option maxRecDepth 100000 in
set_option maxHeartbeats 4000000 in
theorem f_hands {f : Nat → Nat → Int32} {g : Nat → Nat → Int64} (h : ZC f) : CI 5 mX6_hands [.ref 6] (f, g, (336, 720)) (fun r m' => r = 0 ∧ m' = (f, g, (336, 720))) := by
  obtain ⟨⟨hr1, hr2, hr3⟩, h1, h2, h3, h4, h5, h6, h7, h8, h9⟩ := h
  refine At.gs okX6_hands 300 ?_
  repeat' ((conv => whnf); first | (refine And.intro rfl (At.ls okX6_hands 300 ⟨_, _, rfl⟩ ?_)) | (refine And.intro ?_ ?_; (focus (intro h; exfalso; simp [gI, gJ, sI, sJ, vp_in, h1, h2, h3, h4, h5, h6, h7, h8] at h; done)); intro _) | (refine And.intro ?_ ?_; rotate_left; (focus (intro h; exfalso; simp [gI, gJ, sI, sJ, vp_in, h1, h2, h3, h4, h5, h6, h7, h8] at h; done)); intro _) | (refine And.intro (show vp_in _ _ from ?_) ?_; (focus (simp [gI, gJ, sI, sJ, vp_in, h1, h2, h3, h4, h5, h6, h7, h8]; done))) | (refine And.intro (show _ ∨ _ from ?_) ?_; (focus (simp [gI, gJ, sI, sJ, vp_in, h1, h2, h3, h4, h5, h6, h7, h8]; done))) | (refine And.intro (show ¬ _ from ?_) ?_; (focus (simp [gI, gJ, sI, sJ, vp_in, h1, h2, h3, h4, h5, h6, h7, h8]; done))) | (dsimp only [sI_c, sJ_c, sNw_c, sSp_c]))
  all_goals (first | exact ⟨rfl, rfl⟩ | exact ⟨(by simp_all [gI, sI]), rfl⟩)
set_option maxRecDepth 100000 in
set_option maxHeartbeats 4000000 in
theorem f_burden {f : Nat → Nat → Int32} {g : Nat → Nat → Int64} (l : Int32) (h : ZC f) : CI 5 mX6_burden [.ref 6, .int l] (f, g, (336, 720)) (fun r m' => r = -1 ∧ m' = (f, g, (336, 720))) := by
  obtain ⟨⟨hr1, hr2, hr3⟩, h1, h2, h3, h4, h5, h6, h7, h8, h9⟩ := h
  refine At.gs okX6_burden 300 ?_
  repeat' ((conv => whnf); first | (refine And.intro rfl (At.ls okX6_burden 300 ⟨_, _, rfl⟩ ?_)) | (refine And.intro ?_ ?_; (focus (intro h; exfalso; simp [gI, gJ, sI, sJ, vp_in, h1, h2, h3, h4, h5, h6, h7, h8] at h; done)); intro _) | (refine And.intro ?_ ?_; rotate_left; (focus (intro h; exfalso; simp [gI, gJ, sI, sJ, vp_in, h1, h2, h3, h4, h5, h6, h7, h8] at h; done)); intro _) | (refine And.intro (show vp_in _ _ from ?_) ?_; (focus (simp [gI, gJ, sI, sJ, vp_in, h1, h2, h3, h4, h5, h6, h7, h8]; done))) | (refine And.intro (show _ ∨ _ from ?_) ?_; (focus (simp [gI, gJ, sI, sJ, vp_in, h1, h2, h3, h4, h5, h6, h7, h8]; done))) | (refine And.intro (show ¬ _ from ?_) ?_; (focus (simp [gI, gJ, sI, sJ, vp_in, h1, h2, h3, h4, h5, h6, h7, h8]; done))) | (refine ⟨1, (by decide), _, f_has354 _ h1, ?_⟩; rintro _ _ ⟨rfl, rfl⟩) | (dsimp only [sI_c, sJ_c, sNw_c, sSp_c]) | (refine And.intro ?_ ?_ <;> intro h))
  all_goals (first | exact ⟨rfl, rfl⟩ | exact ⟨(by simp_all [gI, sI]), rfl⟩)
