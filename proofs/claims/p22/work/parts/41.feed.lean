/-! feed, of both: what is answered -/
def wF6 : List Nat := [3276842, 8589934611]
def wF7 : List Nat := [3277992, 4294968471, 12884903063]
theorem addc {x c : Int32} {n : Int} (hc : c.toInt = n) (h1 : -2147483648 ≤ x.toInt + n) (h2 : x.toInt + n ≤ 2147483647) : (x + c).toInt = x.toInt + n := by
  have := tI_add (x := x) (y := c) (by rw [hc]; exact h1) (by rw [hc]; exact h2)
  rw [this, hc]
set_option maxRecDepth 100000 in
theorem h_space4 {m : MM} (hM : Mok TYg m) : CI 1 mX3_hasSpace [.ref 19, .int 4] m (fun r m' => m' = m ∧ z1 ((gI m 19 1).toInt + 4 ≤ 800) r) := by
  have q1 : (0 : Int) ≤ (gI m 19 1).toInt ∧ (gI m 19 1).toInt ≤ 800 := hM.1 19 1
  have e := addc (x := gI m 19 1) (c := 4) (n := 4) rfl (by omega) (by omega)
  have e8 : (800 : Int32).toInt = 800 := rfl
  refine At.gs okX3_hasSpace 40 ?_
  (conv => whnf)
  refine And.intro (fun h1 => ?_) (fun h1 => ?_)
  · have h1 : (800 : Int32) < gI m 19 1 + 4 := h1
    rw [lt_i] at h1
    exact ⟨Or.inl rfl, rfl, Or.inr ⟨by omega, rfl⟩⟩
  · have h1 : ¬ (800 : Int32) < gI m 19 1 + 4 := h1
    rw [lt_i] at h1
    exact ⟨Or.inr rfl, rfl, Or.inl ⟨by omega, rfl⟩⟩
set_option maxRecDepth 100000 in
theorem h_space20 {m : MM} (hM : Mok TYg m) : CI 1 mX3_hasSpace [.ref 19, .int 20] m (fun r m' => m' = m ∧ z1 ((gI m 19 1).toInt + 20 ≤ 800) r) := by
  have q1 : (0 : Int) ≤ (gI m 19 1).toInt ∧ (gI m 19 1).toInt ≤ 800 := hM.1 19 1
  have e := addc (x := gI m 19 1) (c := 20) (n := 20) rfl (by omega) (by omega)
  have e8 : (800 : Int32).toInt = 800 := rfl
  refine At.gs okX3_hasSpace 40 ?_
  (conv => whnf)
  refine And.intro (fun h1 => ?_) (fun h1 => ?_)
  · have h1 : (800 : Int32) < gI m 19 1 + 20 := h1
    rw [lt_i] at h1
    exact ⟨Or.inl rfl, rfl, Or.inr ⟨by omega, rfl⟩⟩
  · have h1 : ¬ (800 : Int32) < gI m 19 1 + 20 := h1
    rw [lt_i] at h1
    exact ⟨Or.inr rfl, rfl, Or.inl ⟨by omega, rfl⟩⟩
set_option maxRecDepth 100000 in
set_option maxHeartbeats 4000000 in
theorem h_push {m : MM} {x : Int32} (hM : Mok TYg m) (hs : (gI m 19 1).toInt ≤ 796) : CV 2 mX3_push [.ref 19, .int x] m (fun m' => St wF6 m m' ∧ (gI m' 19 1).toInt = (gI m 19 1).toInt + 4) := by
  have q1 : (0 : Int) ≤ (gI m 19 1).toInt ∧ (gI m 19 1).toInt ≤ 800 := hM.1 19 1
  have e1 := addc (x := gI m 19 1) (c := 1) (n := 1) rfl (by omega) (by omega)
  have e2 := addc (x := gI m 19 1) (c := 2) (n := 2) rfl (by omega) (by omega)
  have e3 := addc (x := gI m 19 1) (c := 3) (n := 3) rfl (by omega) (by omega)
  have e4 := addc (x := gI m 19 1) (c := 4) (n := 4) rfl (by omega) (by omega)
  have st : ∀ (m1 : MM) (k : Nat) (v : Int32), St wF6 m m1 → St wF6 m (sI m1 3276842 k (vp_nar .byte v)) := fun m1 k v h => h.row rfl (by decide) (show (-128 : Int) ≤ _ from (nar_byte v).1) (show _ ≤ (127 : Int) from (nar_byte v).2)
  have fin : ∀ (m1 : MM), St wF6 m m1 → St wF6 m (sI m1 19 1 (gI m 19 1 + 4)) := fun m1 h => h.fld (by decide) (show (0 : Int) ≤ _ by omega) (show _ ≤ (800 : Int) by omega) (fun _ q => by omega)
  refine At.gs okX3_push 90 ?_
  (conv => whnf)
  refine ⟨1, by decide, _, h_space4 hM, ?_⟩
  rintro r m' ⟨hmm, hr⟩
  have hmm := hmm.symm
  subst hmm
  (conv => whnf)
  refine And.intro (fun h0 => ?_) (fun h0 => ?_)
  · rcases hr with ⟨p1, p2⟩ | ⟨p1, p2⟩
    · rw [p2] at h0; exact absurd h0 (by decide)
    · exact absurd (by omega) p1
  · (conv => whnf)
    refine And.intro (vp_in_iff.mpr ⟨show 0 ≤ (gI m 19 1).toInt by omega, show (gI m 19 1).toInt < _ by omega⟩) ?_
    (conv => whnf)
    refine And.intro (vp_in_iff.mpr ⟨show 0 ≤ (gI m 19 1 + 1).toInt by omega, show (gI m 19 1 + 1).toInt < _ by omega⟩) ?_
    (conv => whnf)
    refine And.intro (vp_in_iff.mpr ⟨show 0 ≤ (gI m 19 1 + 2).toInt by omega, show (gI m 19 1 + 2).toInt < _ by omega⟩) ?_
    (conv => whnf)
    refine And.intro (vp_in_iff.mpr ⟨show 0 ≤ (gI m 19 1 + 3).toInt by omega, show (gI m 19 1 + 3).toInt < _ by omega⟩) ?_
    (conv => whnf)
    exact ⟨fin _ (st _ _ _ (st _ _ _ (st _ _ _ (st _ _ _ (St.rf hM))))), e4⟩
set_option maxRecDepth 100000 in
set_option maxHeartbeats 4000000 in
theorem hpFeed6 {m : MM} {a b c d e : Int32} (hM : Mok TYg m) : CI 3 mX6_feed [.ref 6, .int a, .int b, .int c, .int d, .int e] m (fun r m' => St wF6 m m' ∧ (((gI m 19 1).toInt ≤ 780 ∧ r.toInt = (gI m 19 1).toInt + 20 ∧ (gI m' 19 1).toInt = (gI m 19 1).toInt + 20) ∨ (780 < (gI m 19 1).toInt ∧ r = -1 ∧ gI m' 19 1 = gI m 19 1))) := by
  refine At.gs okX6_feed 90 ?_
  (conv => whnf)
  refine ⟨1, by decide, _, h_space20 hM, ?_⟩
  rintro r m' ⟨hmm, hr⟩
  have hmm := hmm.symm
  subst hmm
  (conv => whnf)
  refine And.intro (fun h0 => ?_) (fun h0 => ?_)
  · have hs : (gI m 19 1).toInt + 20 ≤ 800 := by
      rcases hr with ⟨p1, p2⟩ | ⟨p1, p2⟩
      · exact p1
      · exact absurd p2 h0
    (conv => whnf)
    refine ⟨2, by decide, _, h_push hM (by omega), ?_⟩
    rintro m1 ⟨s1, z1⟩
    (conv => whnf)
    refine ⟨2, by decide, _, h_push s1.1 (by omega), ?_⟩
    rintro m2 ⟨s2, z2⟩
    (conv => whnf)
    refine ⟨2, by decide, _, h_push s2.1 (by omega), ?_⟩
    rintro m3 ⟨s3, z3⟩
    (conv => whnf)
    refine ⟨2, by decide, _, h_push s3.1 (by omega), ?_⟩
    rintro m4 ⟨s4, z4⟩
    (conv => whnf)
    refine ⟨2, by decide, _, h_push s4.1 (by omega), ?_⟩
    rintro m5 ⟨s5, z5⟩
    have tr : ∀ {x y w : MM}, St wF6 x y → St wF6 y w → St wF6 x w := fun h1 h2 => ⟨h2.1, h2.2.1.trans h1.2.1, Fr_tr h1.2.2 h2.2.2 (fun _ h => h)⟩
    exact ⟨tr s1 (tr s2 (tr s3 (tr s4 s5))), Or.inl ⟨by omega, show (gI m5 19 1).toInt = _ by omega, by omega⟩⟩
  · have hs : ¬ (gI m 19 1).toInt + 20 ≤ 800 := by
      rcases hr with ⟨p1, p2⟩ | ⟨p1, p2⟩
      · rw [p2] at h0; exact absurd h0 (by decide)
      · exact p1
    exact ⟨St.rf hM, Or.inr ⟨by omega, rfl, rfl⟩⟩
set_option maxRecDepth 100000 in
set_option maxHeartbeats 4000000 in
theorem hpFeed7 {m : MM} {a b c d e : Int32} (hM : Mok TYg m) : CI 1 mX7_feed [.ref 1175, .int a, .int b, .int c, .int d, .int e] m (fun r m' => St wF7 m m' ∧ (((gI m 1175 2).toInt ≤ 780 ∧ r.toInt = (gI m 1175 2).toInt + 20 ∧ (gI m' 1175 2).toInt = (gI m 1175 2).toInt + 20) ∨ (780 < (gI m 1175 2).toInt ∧ r = -1 ∧ gI m' 1175 2 = gI m 1175 2))) := by
  have q2 : (0 : Int) ≤ (gI m 1175 2).toInt ∧ (gI m 1175 2).toInt ≤ 800 := hM.1 1175 2
  have hS0 : St wF7 m (sI m 1175 0 0) := (St.rf hM).fld (by decide) (by decide) (by decide) (fun _ q => by omega)
  have e7 : (780 : Int32).toInt = 780 := rfl
  have e20 : (20 : Int32).toInt = 20 := rfl
  have lp : (gI m 1175 2).toInt ≤ 780 → ∀ (n : Nat) (k : Int32) (m1 : MM) (w : Value), 0 ≤ k.toInt → k.toInt ≤ 20 → (20 - k.toInt).toNat = n → St wF7 m m1 → gI m1 1175 2 = gI m 1175 2 → At (E0 1) mX7_feed (qi (fun r m' => St wF7 m m' ∧ (((gI m 1175 2).toInt ≤ 780 ∧ r.toInt = (gI m 1175 2).toInt + 20 ∧ (gI m' 1175 2).toInt = (gI m 1175 2).toInt + 20) ∨ (780 < (gI m 1175 2).toInt ∧ r = -1 ∧ gI m' 1175 2 = gI m 1175 2)))) 20 [.ref 1175, .int a, .int b, .int c, .int d, .int e, .int k, w] [] m1 := by
    intro hle n
    have ee := addc (x := gI m 1175 2) (c := 20) (n := 20) rfl (by omega) (by omega)
    induction n with
    | zero =>
      intro k m1 w k0 k1 hn hS hz
      refine At.ls okX7_feed 60 ⟨_, _, rfl⟩ ?_
      (conv => whnf)
      refine And.intro (fun h => ?_) (fun h => absurd (le_i.mpr (by omega)) h)
      have hv : (gI m1 1175 2 + 20).toInt = (gI m 1175 2).toInt + 20 := by rw [hz]; exact ee
      exact ⟨hS.fld (by decide) (show (0 : Int) ≤ (gI m1 1175 2 + 20).toInt by omega) (show (gI m1 1175 2 + 20).toInt ≤ (800 : Int) by omega) (fun _ q => by omega), Or.inl ⟨hle, hv, hv⟩⟩
    | succ n ih =>
      intro k m1 w k0 k1 hn hS hz
      refine At.ls okX7_feed 60 ⟨_, _, rfl⟩ ?_
      have ek : (gI m1 1175 2 + k).toInt = (gI m 1175 2).toInt + k.toInt := by
        rw [hz]
        exact addc rfl (by omega) (by omega)
      have leaf : ∀ v s : Int32, St wF7 m (sI m1 3277992 (gI m1 1175 2 + k).toNatClampNeg (v >>> (s &&& 31) &&& 255)) := fun v s => by
        have hr := and_rng (i := v >>> (s &&& 31)) (j := 255) (by decide)
        exact hS.row rfl (by decide) (show (0 : Int) ≤ _ from hr.1) (show _ ≤ (255 : Int) from hr.2)
      have go : ∀ v s w : Int32, At (E0 1) mX7_feed _ 20 [.ref 1175, .int a, .int b, .int c, .int d, .int e, .int (k + 1), .int w] [] (sI m1 3277992 (gI m1 1175 2 + k).toNatClampNeg (v >>> (s &&& 31) &&& 255)) := fun v s w => ih (k + 1) _ (.int w) (by rw [inc1 (by omega)]; omega) (by rw [inc1 (by omega)]; omega) (by rw [inc1 (by omega)]; omega) (leaf v s) hz
      (conv => whnf)
      refine And.intro (fun h => absurd (le_i.mp h) (by omega)) (fun h => ?_)
      (conv => whnf)
      refine And.intro (fun _ => ?_) (fun _ => ?_)
      · skip
        (conv => whnf)
        refine And.intro (fun _ => ?_) (fun _ => ?_)
        · skip
          (conv => whnf)
          refine And.intro (fun _ => ?_) (fun _ => ?_)
          · skip
            (conv => whnf)
            refine And.intro (fun _ => ?_) (fun _ => ?_)
            · skip
              (conv => whnf)
              refine And.intro (by decide) ?_
              (conv => whnf)
              refine And.intro (vp_in_iff.mpr ⟨show 0 ≤ (gI m1 1175 2 + k).toInt by omega, show (gI m1 1175 2 + k).toInt < _ by omega⟩) ?_
              (conv => whnf)
              exact And.intro rfl (go _ _ _)
            · skip
              (conv => whnf)
              refine And.intro (by decide) ?_
              (conv => whnf)
              refine And.intro (vp_in_iff.mpr ⟨show 0 ≤ (gI m1 1175 2 + k).toInt by omega, show (gI m1 1175 2 + k).toInt < _ by omega⟩) ?_
              (conv => whnf)
              exact And.intro rfl (go _ _ _)
          · skip
            (conv => whnf)
            refine And.intro (by decide) ?_
            (conv => whnf)
            refine And.intro (vp_in_iff.mpr ⟨show 0 ≤ (gI m1 1175 2 + k).toInt by omega, show (gI m1 1175 2 + k).toInt < _ by omega⟩) ?_
            (conv => whnf)
            exact And.intro rfl (go _ _ _)
        · skip
          (conv => whnf)
          refine And.intro (by decide) ?_
          (conv => whnf)
          refine And.intro (vp_in_iff.mpr ⟨show 0 ≤ (gI m1 1175 2 + k).toInt by omega, show (gI m1 1175 2 + k).toInt < _ by omega⟩) ?_
          (conv => whnf)
          exact And.intro rfl (go _ _ _)
      · skip
        (conv => whnf)
        refine And.intro (by decide) ?_
        (conv => whnf)
        refine And.intro (vp_in_iff.mpr ⟨show 0 ≤ (gI m1 1175 2 + k).toInt by omega, show (gI m1 1175 2 + k).toInt < _ by omega⟩) ?_
        (conv => whnf)
        exact And.intro rfl (go _ _ _)
  refine At.gs okX7_feed 60 ?_
  (conv => whnf)
  refine And.intro (fun h => ?_) (fun h => ?_)
  · have h : gI m 1175 2 ≤ 780 := h
    rw [le_i] at h
    (conv => whnf)
    exact And.intro rfl (lp (by omega) _ 0 _ .null (by decide) (by decide) rfl hS0 rfl)
  · have h : ¬ gI m 1175 2 ≤ 780 := h
    rw [le_i] at h
    exact ⟨hS0, Or.inr ⟨by omega, rfl, rfl⟩⟩
