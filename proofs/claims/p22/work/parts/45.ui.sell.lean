/-! sell: both sides in full -/
/-- what is told can be a sale -/
def SeP (V : VW) (fr to nu go pr da ma : Int32) : Prop := ((0 ≤ fr.toInt ∧ fr.toInt < V.1 2) ∧ (0 ≤ to.toInt ∧ to.toInt < V.1 2) ∧ fr ≠ to) ∧ ((0 ≤ go.toInt ∧ go.toInt < V.1 1) ∧ (1 ≤ nu.toInt ∧ nu.toInt ≤ 999) ∧ (1 ≤ pr.toInt ∧ pr.toInt ≤ 999)) ∧ (0 ≤ ma.toInt ∧ ma.toInt ≤ 99) ∧ (0 ≤ da.toInt ∧ da.toInt ≤ 400) ∧ (V.2 5 fr.toNatClampNeg).toInt ≤ da.toInt ∧ (V.2 5 to.toNatClampNeg).toInt ≤ da.toInt ∧ V.1 3 < 40
def selM (fr to nu go pr da ma : Int32) : List (Nat × Int32) := [(329048, fr), (329064, to), (329080, nu), (329096, go), (329112, pr), (329128, da), (329144, ma)]
theorem selM_all {fr to nu go pr da ma : Int32} : (selM fr to nu go pr da ma).all (fun q => Nat.ble 8 (q.1 % 16)) = true := by
  unfold selM
  simp only [List.all_cons, List.all_nil]
  rfl
theorem clamp_toNat (x : Int32) : x.toNatClampNeg = x.toInt.toNat := rfl
section SeM
variable {m : MM} {fr to nu go pr da ma : Int32}
set_option maxRecDepth 100000 in
set_option maxHeartbeats 8000000 in
theorem s_sell (hM : Mok TYg m) (hW : Wf (vw m)) : CI 2 mX7_sell [.ref 1175, .int fr, .int to, .int nu, .int go, .int pr, .int da, .int ma] m (fun r m' => (SeP (vw m) fr to nu go pr da ma ∧ r = gI m 1175 6 + 1 - 1 ∧ m' = sI (putL (selM fr to nu go pr da ma) (gI m 1175 6).toNatClampNeg (sI m 1175 0 0)) 1175 6 (gI m 1175 6 + 1)) ∨ (¬ SeP (vw m) fr to nu go pr da ma ∧ r = -1 ∧ m' = sI m 1175 0 0)) := by
  have e0 : (0 : Int32).toInt = 0 := rfl
  have e1 : (1 : Int32).toInt = 1 := rfl
  have e99 : (99 : Int32).toInt = 99 := rfl
  have e400 : (400 : Int32).toInt = 400 := rfl
  have e9 : (999 : Int32).toInt = 999 := rfl
  have e40 : (40 : Int32).toInt = 40 := rfl
  have h12 := hW.1.2.2.1
  have c6 := vw3 hM
  have c4 : (gI m 1175 4).toInt = (vw m).1 1 := vw_n (k := 1) hM
  have h40 := hW.1.2.2.2
  refine At.gs okX7_sell 400 ?_
  (conv => whnf)
  refine ⟨1, by decide, _, s_isFirm (m := sI m 1175 0 0), ?_⟩
  rintro r m' ⟨hmm, hr⟩; have hmm := hmm.symm; subst hmm
  have hr : z1 (0 ≤ fr.toInt ∧ fr.toInt < (gI m 1175 5).toInt) r := hr
  rw [vw2 hM] at hr
  (conv => whnf)
  refine And.intro (fun q => ?_) (fun q => ?_)
  · rcases hr with ⟨p1, p2⟩ | ⟨p1, p2⟩
    · rw [p2] at q; exact absurd q (by decide)
    · exact Or.inr ⟨fun z => p1 z.1.1, rfl, rfl⟩
  rcases hr with ⟨p1, p2⟩ | ⟨p1, p2⟩
  case inr => exact absurd p2 q
  (conv => whnf)
  refine ⟨1, by decide, _, s_isFirm (m := sI m 1175 0 0), ?_⟩
  rintro r2 m' ⟨hmm, hr⟩; have hmm := hmm.symm; subst hmm
  have hr : z1 (0 ≤ to.toInt ∧ to.toInt < (gI m 1175 5).toInt) r2 := hr
  rw [vw2 hM] at hr
  (conv => whnf)
  refine And.intro (fun q => ?_) (fun q => ?_)
  · rcases hr with ⟨y1, y2⟩ | ⟨y1, y2⟩
    · rw [y2] at q; exact absurd q (by decide)
    · exact Or.inr ⟨fun z => y1 z.1.2.1, rfl, rfl⟩
  rcases hr with ⟨y1, y2⟩ | ⟨y1, y2⟩
  case inr => exact absurd y2 q
  have since1 := hW.2.2.1 fr.toNatClampNeg (by rw [clamp_toNat]; omega)
  have since2 := hW.2.2.1 to.toNatClampNeg (by rw [clamp_toNat]; omega)
  (conv => whnf)
  refine And.intro (fun q => Or.inr ⟨fun z => z.1.2.2 q, rfl, rfl⟩) (fun hne => ?_)
  (conv => whnf)
  refine And.intro (fun q => ?_) (fun q1 => ?_)
  · rw [lt_i, e1] at q
    exact Or.inr ⟨fun z => by have := z.2.1.2.1; omega, rfl, rfl⟩
  rw [lt_i, e1] at q1
  (conv => whnf)
  refine And.intro (fun q => ?_) (fun q2 => ?_)
  · rw [lt_i, e9] at q
    exact Or.inr ⟨fun z => by have := z.2.1.2.1; omega, rfl, rfl⟩
  rw [lt_i, e9] at q2
  (conv => whnf)
  refine And.intro (fun q => ?_) (fun q3 => ?_)
  · rw [lt_i, e0] at q
    exact Or.inr ⟨fun z => by have := z.2.1.1; omega, rfl, rfl⟩
  rw [lt_i, e0] at q3
  (conv => whnf)
  refine And.intro (fun q => ?_) (fun q4 => ?_)
  · have q : gI m 1175 4 ≤ go := q
    rw [le_i, c4] at q
    exact Or.inr ⟨fun z => by have := z.2.1.1; omega, rfl, rfl⟩
  have q4 : ¬ gI m 1175 4 ≤ go := q4
  rw [le_i, c4] at q4
  (conv => whnf)
  refine And.intro (fun q => ?_) (fun q5 => ?_)
  · rw [lt_i, e1] at q
    exact Or.inr ⟨fun z => by have := z.2.1.2.2; omega, rfl, rfl⟩
  rw [lt_i, e1] at q5
  (conv => whnf)
  refine And.intro (fun q => ?_) (fun q6 => ?_)
  · rw [lt_i, e9] at q
    exact Or.inr ⟨fun z => by have := z.2.1.2.2; omega, rfl, rfl⟩
  rw [lt_i, e9] at q6
  (conv => whnf)
  refine And.intro (fun q7 => ?_) (fun q => ?_)
  case refine_2 =>
    have q : gI m 1175 6 = 40 := q
    rw [q, e40] at c6
    exact Or.inr ⟨fun z => by have := z.2.2.2.2.2.2; omega, rfl, rfl⟩
  have q7 : ¬ gI m 1175 6 = 40 := q7
  have hlt : (vw m).1 3 < 40 := by
    have : (vw m).1 3 ≠ 40 := fun z => q7 (Int32.toInt_inj.mp (by rw [c6, z]; rfl))
    omega
  have vf : vp_in fr 24 := vp_in_iff.mpr ⟨by omega, show fr.toInt < ((24 : Nat) : Int) by omega⟩
  have vt : vp_in to 24 := vp_in_iff.mpr ⟨by omega, show to.toInt < ((24 : Nat) : Int) by omega⟩
  have vn : vp_in (gI m 1175 6) 80 := vp_in_iff.mpr ⟨by omega, show (gI m 1175 6).toInt < ((80 : Nat) : Int) by omega⟩
  (conv => whnf)
  refine And.intro vf ?_
  (conv => whnf)
  refine And.intro (fun q => ?_) (fun q8 => ?_)
  · have q : da < (vw m).2 5 fr.toNatClampNeg := q
    rw [lt_i] at q
    exact Or.inr ⟨fun z => by have := z.2.2.2.2.1; omega, rfl, rfl⟩
  have q8 : ¬ da < (vw m).2 5 fr.toNatClampNeg := q8
  rw [lt_i] at q8
  (conv => whnf)
  refine And.intro vt ?_
  (conv => whnf)
  refine And.intro (fun q => ?_) (fun q9 => ?_)
  · have q : da < (vw m).2 5 to.toNatClampNeg := q
    rw [lt_i] at q
    exact Or.inr ⟨fun z => by have := z.2.2.2.2.2.1; omega, rfl, rfl⟩
  have q9 : ¬ da < (vw m).2 5 to.toNatClampNeg := q9
  rw [lt_i] at q9
  (conv => whnf)
  refine And.intro (fun q => ?_) (fun q10 => ?_)
  · rw [lt_i, e400] at q
    exact Or.inr ⟨fun z => by have := z.2.2.2.1; omega, rfl, rfl⟩
  rw [lt_i, e400] at q10
  (conv => whnf)
  refine And.intro (fun q => ?_) (fun q11 => ?_)
  · rw [lt_i, e0] at q
    exact Or.inr ⟨fun z => by have := z.2.2.1; omega, rfl, rfl⟩
  rw [lt_i, e0] at q11
  (conv => whnf)
  refine And.intro (fun q12 => ?_) (fun q => ?_)
  case refine_2 =>
    rw [le_i, e99] at q
    exact Or.inr ⟨fun z => by have := z.2.2.1; omega, rfl, rfl⟩
  rw [le_i, e99] at q12
  (conv => whnf)
  refine And.intro vn ?_
  (conv => whnf)
  refine And.intro vn ?_
  (conv => whnf)
  refine And.intro vn ?_
  (conv => whnf)
  refine And.intro vn ?_
  (conv => whnf)
  refine And.intro vn ?_
  (conv => whnf)
  refine And.intro vn ?_
  (conv => whnf)
  refine And.intro vn ?_
  have hSe : SeP (vw m) fr to nu go pr da ma := ⟨⟨p1, y1, hne⟩, ⟨⟨by omega, by omega⟩, ⟨by omega, by omega⟩, ⟨by omega, by omega⟩⟩, ⟨by omega, q12⟩, ⟨by omega, by omega⟩, by omega, by omega, hlt⟩
  exact Or.inl ⟨hSe, rfl, rfl⟩
end SeM
/-! sell of the class -/
def selC336 (fr to nu go pr da ma : Int32) : List (Nat × Int32) := [(164312, fr), (164328, to), (164344, nu), (164360, go), (164376, pr), (164392, da), (164408, ma)]
theorem selC336_all {fr to nu go pr da ma : Int32} : (selC336 fr to nu go pr da ma).all (fun q => Nat.ble 8 (q.1 % 16)) = true := by
  unfold selC336
  simp only [List.all_cons, List.all_nil]
  rfl
section SeC336
variable {m : MM} {fr to nu go pr da ma : Int32}
set_option maxRecDepth 100000 in
set_option maxHeartbeats 4000000 in
theorem r_sadd_336 (h0 : 0 ≤ (gI m 452 7).toInt) : CI 1 mX4_add [.ref 452, .int fr, .int to, .int nu, .int go, .int pr, .int da, .int ma] m (fun r m' => ((gI m 452 7).toInt < 40 ∧ r = 1 ∧ m' = sI (putL (selC336 fr to nu go pr da ma) (gI m 452 7).toNatClampNeg m) 452 7 (gI m 452 7 + 1)) ∨ (¬ (gI m 452 7).toInt < 40 ∧ r = 0 ∧ m' = m)) := by
  have e40 : (40 : Int32).toInt = 40 := rfl
  refine At.gs okX4_add 80 ?_
  (conv => whnf)
  refine And.intro (fun q => ?_) (fun q => ?_)
  · have q : gI m 452 7 < 40 := q
    rw [lt_i, e40] at q
    have vn : vp_in (gI m 452 7) 40 := vp_in_iff.mpr ⟨h0, show (gI m 452 7).toInt < ((40 : Nat) : Int) by omega⟩
    (conv => whnf)
    refine And.intro vn ?_
    (conv => whnf)
    refine And.intro vn ?_
    (conv => whnf)
    refine And.intro vn ?_
    (conv => whnf)
    refine And.intro vn ?_
    (conv => whnf)
    refine And.intro vn ?_
    (conv => whnf)
    refine And.intro vn ?_
    (conv => whnf)
    refine And.intro vn ?_
    exact ⟨Or.inr rfl, Or.inl ⟨q, rfl, rfl⟩⟩
  · have q : ¬ gI m 452 7 < 40 := q
    rw [lt_i, e40] at q
    exact ⟨Or.inl rfl, Or.inr ⟨q, rfl, rfl⟩⟩
set_option maxRecDepth 100000 in
theorem r_sinceB_336 {x y : Int32} (hx : vp_in x 12) (hy : vp_in y 12) : CI 2 mX0_sinceBoth [.ref 336, .int x, .int y] m (fun r m' => m' = m ∧ r = if gI m 49768 x.toNatClampNeg < gI m 49768 y.toNatClampNeg then gI m 49768 y.toNatClampNeg else gI m 49768 x.toNatClampNeg) := by
  refine At.gs okX0_sinceBoth 60 ?_
  (conv => whnf)
  refine And.intro hx ?_
  (conv => whnf)
  refine And.intro hy ?_
  exact ⟨rfl, rfl⟩
def cdSl336 : List CE := stops [38, 83] cdX6_sell
set_option maxRecDepth 20000 in
theorem okSl336 : CodeOk mX6_sell cdSl336 := okX6_sell.st [38, 83] (by rfl)
def SlQ336 (m : MM) (fr to nu go pr da ma : Int32) : QQ := qi (fun r m' => (SeP (vw m) fr to nu go pr da ma ∧ r = gI m 1175 6 + 1 - 1 ∧ m' = sI (sI (sI (putL (selC336 fr to nu go pr da ma) (gI m 1175 6).toNatClampNeg m) 452 7 (gI m 1175 6 + 1)) 452 8 (gI m 452 8 + 1)) 49 13 0) ∨ (¬ SeP (vw m) fr to nu go pr da ma ∧ r = -1 ∧ m' = m))
set_option maxRecDepth 100000 in
set_option maxHeartbeats 8000000 in
theorem sl83_336 {x8 x9 : Int32} {v9 : Value} (hM : Mok TYg m) (h : SB 336 m) (hc : m.2.2 = (336, 720)) (h8 : z1 ((0 ≤ fr.toInt ∧ fr.toInt < (vw m).1 2) ∧ (0 ≤ to.toInt ∧ to.toInt < (vw m).1 2) ∧ fr ≠ to) x8) (h9 : z1 ((0 ≤ go.toInt ∧ go.toInt < (vw m).1 1) ∧ (1 ≤ nu.toInt ∧ nu.toInt ≤ 999) ∧ (1 ≤ pr.toInt ∧ pr.toInt ≤ 999)) x9) : At (E0 3) mX6_sell (SlQ336 m fr to nu go pr da ma) 83 [.ref 6, .int fr, .int to, .int nu, .int go, .int pr, .int da, .int ma, .int x8, v9] [.int x9] m := by
  obtain ⟨ff, g, c⟩ := m
  obtain rfl : c = (336, 720) := hc
  have e0 : (0 : Int32).toInt = 0 := rfl
  have e99 : (99 : Int32).toInt = 99 := rfl
  have e400 : (400 : Int32).toInt = 400 := rfl
  have hW := h.2.2.2.2.2
  have h12 := hW.1.2.2.1
  have h40 := hW.1.2.2.2
  have e7 : gI (ff, g, (336, 720)) 452 7 = gI (ff, g, (336, 720)) 1175 6 := h.1 3 (by decide)
  have c7 : (gI (ff, g, (336, 720)) 452 7).toInt = (vw (ff, g, (336, 720))).1 3 := by rw [e7]; exact vw3 hM
  refine At.ls okSl336 80 ⟨_, _, rfl⟩ ?_
  (conv => whnf)
  refine And.intro (fun q => ?_) (fun q => ?_)
  · rcases h8 with ⟨p1, p2⟩ | ⟨p1, p2⟩
    · rw [p2] at q; exact absurd q (by decide)
    · exact Or.inr ⟨fun z => p1 z.1, rfl, rfl⟩
  rcases h8 with ⟨p1, p2⟩ | ⟨p1, p2⟩
  case inr => exact absurd p2 q
  (conv => whnf)
  refine And.intro (fun q => ?_) (fun q => ?_)
  · rcases h9 with ⟨y1, y2⟩ | ⟨y1, y2⟩
    · rw [y2] at q; exact absurd q (by decide)
    · exact Or.inr ⟨fun z => y1 z.2.1, rfl, rfl⟩
  rcases h9 with ⟨y1, y2⟩ | ⟨y1, y2⟩
  case inr => exact absurd y2 q
  have f1 : fr.toNatClampNeg < (vw (ff, g, (336, 720))).1 2 := by rw [clamp_toNat]; omega
  have f2 : to.toNatClampNeg < (vw (ff, g, (336, 720))).1 2 := by rw [clamp_toNat]; omega
  have since1 := hW.2.2.1 _ f1
  have since2 := hW.2.2.1 _ f2
  have vf : vp_in fr 12 := vp_in_iff.mpr ⟨by omega, show fr.toInt < ((12 : Nat) : Int) by omega⟩
  have vt : vp_in to 12 := vp_in_iff.mpr ⟨by omega, show to.toInt < ((12 : Nat) : Int) by omega⟩
  have s1 : gI (ff, g, (336, 720)) 49768 fr.toNatClampNeg = (vw (ff, g, (336, 720))).2 5 fr.toNatClampNeg := h.2.1 5 (by decide) (by decide) _ f1
  have s2 : gI (ff, g, (336, 720)) 49768 to.toNatClampNeg = (vw (ff, g, (336, 720))).2 5 to.toNatClampNeg := h.2.1 5 (by decide) (by decide) _ f2
  (conv => whnf)
  refine ⟨1, by decide, _, r_within, ?_⟩
  rintro r1 m' ⟨hmm, hr1⟩; have hmm := hmm.symm; subst hmm
  rw [e0, e99] at hr1
  (conv => whnf)
  refine And.intro (fun q => ?_) (fun q => ?_)
  · rcases hr1 with ⟨z1, z2⟩ | ⟨z1, z2⟩
    · rw [z2] at q; exact absurd q (by decide)
    · exact Or.inr ⟨fun z => z1 z.2.2.1, rfl, rfl⟩
  rcases hr1 with ⟨hma, z2⟩ | ⟨z1, z2⟩
  case inr => exact absurd z2 q
  (conv => whnf)
  refine ⟨1, by decide, _, r_within, ?_⟩
  rintro r2 m' ⟨hmm, hr2⟩; have hmm := hmm.symm; subst hmm
  rw [e0, e400] at hr2
  (conv => whnf)
  refine And.intro (fun q => ?_) (fun q => ?_)
  case refine_2 =>
    rcases hr2 with ⟨z1, z2⟩ | ⟨z1, z2⟩
    · rw [z2] at q; exact absurd q (by decide)
    · exact Or.inr ⟨fun z => z1 z.2.2.2.1, rfl, rfl⟩
  rcases hr2 with ⟨hda, z2⟩ | ⟨z1, z2⟩
  case inr => exact absurd z2 q
  (conv => whnf)
  dsimp only
  (conv => whnf)
  refine ⟨2, by decide, _, r_sinceB_336 vf vt, ?_⟩
  rintro r3 m' ⟨hmm, hr3⟩; have hmm := hmm.symm; subst hmm
  rw [s1, s2] at hr3
  have hr3 : r3.toInt = max ((vw (ff, g, (336, 720))).2 5 fr.toNatClampNeg).toInt ((vw (ff, g, (336, 720))).2 5 to.toNatClampNeg).toInt := by
    rw [hr3]
    split
    · rename_i z
      rw [lt_i] at z
      omega
    · rename_i z
      rw [lt_i] at z
      omega
  (conv => whnf)
  refine And.intro (fun q => ?_) (fun q => ?_)
  · rw [lt_i] at q
    exact Or.inr ⟨fun z => by have a1 := z.2.2.2.2.1; have a2 := z.2.2.2.2.2.1; omega, rfl, rfl⟩
  rw [lt_i] at q
  (conv => whnf)
  refine ⟨1, by decide, _, r_sadd_336 (by omega), ?_⟩
  rintro r4 m4 (⟨l40, hr4, hm4⟩ | ⟨l40, hr4, hm4⟩)
  · subst hr4
    rw [e7] at hm4
    have hb4 : m4.2.2 = (336, 720) := by rw [hm4]; exact putL_c _ _
    have g8 : gI m4 452 8 = gI (ff, g, (336, 720)) 452 8 := by
      rw [hm4, gI_if, if_neg (fun z => absurd z.2 (by decide)), putL_f _ _ _ _ selC336_all rfl]
    have g7 : gI m4 452 7 = gI (ff, g, (336, 720)) 1175 6 + 1 := by rw [hm4, gI_if, if_pos ⟨rfl, rfl⟩]
    obtain ⟨f4, g4, c4⟩ := m4
    obtain rfl : c4 = (336, 720) := hb4
    (conv => whnf)
    refine And.intro (fun _ => ?_) (fun z => absurd z (by decide))
    (conv => whnf)
    refine ⟨1, by decide, _, r_forget, ?_⟩
    rintro m5 hm5
    have hb5 : m5.2.2 = (336, 720) := by rw [hm5]; rfl
    have g75 : gI m5 452 7 = gI (ff, g, (336, 720)) 1175 6 + 1 := by
      rw [hm5, gI_if, if_neg (fun z => absurd z.1 (by decide)), gI_if, if_neg (fun z => absurd z.2 (by decide)), g7]
    have hm5 : m5 = sI (sI (f4, g4, (336, 720)) 452 8 (gI (f4, g4, (336, 720)) 452 8 + 1)) 49 13 0 := hm5
    rw [g8, hm4] at hm5
    obtain ⟨f5, g5, c5⟩ := m5
    obtain rfl : c5 = (336, 720) := hb5
    refine Or.inl ⟨⟨p1, y1, hma, hda, by omega, by omega, by omega⟩, ?_, hm5⟩
    show gI (f5, g5, (336, 720)) 452 7 - 1 = _
    rw [g75]
  · subst hr4
    have hm4 := hm4.symm; subst hm4
    (conv => whnf)
    refine And.intro (fun z => absurd rfl z) (fun _ => ?_)
    exact Or.inr ⟨fun z => l40 (by have := z.2.2.2.2.2.2; omega), rfl, rfl⟩
set_option maxRecDepth 100000 in
set_option maxHeartbeats 8000000 in
theorem sl38_336 {x8 : Int32} {v8 v9 : Value} (hM : Mok TYg m) (h : SB 336 m) (hc : m.2.2 = (336, 720)) (h8 : z1 ((0 ≤ fr.toInt ∧ fr.toInt < (vw m).1 2) ∧ (0 ≤ to.toInt ∧ to.toInt < (vw m).1 2) ∧ fr ≠ to) x8) : At (E0 3) mX6_sell (SlQ336 m fr to nu go pr da ma) 38 [.ref 6, .int fr, .int to, .int nu, .int go, .int pr, .int da, .int ma, v8, v9] [.int x8] m := by
  have K := fun {x9 : Int32} {v9 : Value} (h9 : z1 ((0 ≤ go.toInt ∧ go.toInt < (vw m).1 1) ∧ (1 ≤ nu.toInt ∧ nu.toInt ≤ 999) ∧ (1 ≤ pr.toInt ∧ pr.toInt ≤ 999)) x9) => sl83_336 (v9 := v9) (da := da) (ma := ma) hM h hc h8 h9
  obtain ⟨ff, g, c⟩ := m
  obtain rfl : c = (336, 720) := hc
  have e1 : (1 : Int32).toInt = 1 := rfl
  have e9 : (999 : Int32).toInt = 999 := rfl
  have e386 : gI (ff, g, (336, 720)) 386 1 = gI (ff, g, (336, 720)) 1175 4 := h.1 1 (by decide)
  have c4 : (gI (ff, g, (336, 720)) 386 1).toInt = (vw (ff, g, (336, 720))).1 1 := by rw [e386]; exact vw_n (k := 1) hM
  refine At.ls okSl336 80 ⟨_, _, rfl⟩ ?_
  (conv => whnf)
  refine ⟨1, by decide, _, r_has_386, ?_⟩
  rintro r1 m' ⟨hmm, hr1⟩; have hmm := hmm.symm; subst hmm
  rw [c4] at hr1
  (conv => whnf)
  refine And.intro (fun q => ?_) (fun q => ?_)
  · rcases hr1 with ⟨y1, y2⟩ | ⟨y1, y2⟩
    · rw [y2] at q; exact absurd q (by decide)
    · exact And.intro rfl (K (Or.inr ⟨fun z => y1 z.1, rfl⟩))
  rcases hr1 with ⟨a1, y2⟩ | ⟨y1, y2⟩
  case inr => exact absurd y2 q
  (conv => whnf)
  refine ⟨1, by decide, _, r_within, ?_⟩
  rintro r2 m' ⟨hmm, hr2⟩; have hmm := hmm.symm; subst hmm
  rw [e1, e9] at hr2
  (conv => whnf)
  refine And.intro (fun q => ?_) (fun q => ?_)
  · rcases hr2 with ⟨y1, y2⟩ | ⟨y1, y2⟩
    · rw [y2] at q; exact absurd q (by decide)
    · exact And.intro rfl (K (Or.inr ⟨fun z => y1 z.2.1, rfl⟩))
  rcases hr2 with ⟨a2, y2⟩ | ⟨y1, y2⟩
  case inr => exact absurd y2 q
  (conv => whnf)
  refine ⟨1, by decide, _, r_within, ?_⟩
  rintro r3 m' ⟨hmm, hr3⟩; have hmm := hmm.symm; subst hmm
  rw [e1, e9] at hr3
  (conv => whnf)
  refine And.intro (fun q => ?_) (fun q => ?_)
  · rcases hr3 with ⟨y1, y2⟩ | ⟨y1, y2⟩
    · rw [y2] at q; exact absurd q (by decide)
    · exact And.intro rfl (K (Or.inr ⟨fun z => y1 z.2.2, rfl⟩))
  rcases hr3 with ⟨a3, y2⟩ | ⟨y1, y2⟩
  case inr => exact absurd y2 q
  exact And.intro rfl (K (Or.inl ⟨⟨a1, a2, a3⟩, rfl⟩))
set_option maxRecDepth 100000 in
set_option maxHeartbeats 8000000 in
theorem r_sell_336 (hM : Mok TYg m) (h : SB 336 m) (hc : m.2.2 = (336, 720)) : CI 3 mX6_sell [.ref 6, .int fr, .int to, .int nu, .int go, .int pr, .int da, .int ma] m (fun r m' => (SeP (vw m) fr to nu go pr da ma ∧ r = gI m 1175 6 + 1 - 1 ∧ m' = sI (sI (sI (putL (selC336 fr to nu go pr da ma) (gI m 1175 6).toNatClampNeg m) 452 7 (gI m 1175 6 + 1)) 452 8 (gI m 452 8 + 1)) 49 13 0) ∨ (¬ SeP (vw m) fr to nu go pr da ma ∧ r = -1 ∧ m' = m)) := by
  have K := fun {x8 : Int32} {v8 v9 : Value} (h8 : z1 ((0 ≤ fr.toInt ∧ fr.toInt < (vw m).1 2) ∧ (0 ≤ to.toInt ∧ to.toInt < (vw m).1 2) ∧ fr ≠ to) x8) => sl38_336 (v8 := v8) (v9 := v9) (nu := nu) (go := go) (pr := pr) (da := da) (ma := ma) hM h hc h8
  show At (E0 3) mX6_sell (SlQ336 m fr to nu go pr da ma) 0 _ [] m
  obtain ⟨ff, g, c⟩ := m
  obtain rfl : c = (336, 720) := hc
  have e418 : gI (ff, g, (336, 720)) 418 1 = gI (ff, g, (336, 720)) 1175 5 := h.1 2 (by decide)
  have c4 : (gI (ff, g, (336, 720)) 418 1).toInt = (vw (ff, g, (336, 720))).1 2 := by rw [e418]; exact vw_n (k := 2) hM
  refine At.gs okSl336 80 ?_
  (conv => whnf)
  refine ⟨1, by decide, _, r_has_418, ?_⟩
  rintro r1 m' ⟨hmm, hr1⟩; have hmm := hmm.symm; subst hmm
  rw [c4] at hr1
  (conv => whnf)
  refine And.intro (fun q => ?_) (fun q => ?_)
  · rcases hr1 with ⟨y1, y2⟩ | ⟨y1, y2⟩
    · rw [y2] at q; exact absurd q (by decide)
    · exact And.intro rfl (K (Or.inr ⟨fun z => y1 z.1, rfl⟩))
  rcases hr1 with ⟨a1, y2⟩ | ⟨y1, y2⟩
  case inr => exact absurd y2 q
  (conv => whnf)
  refine ⟨1, by decide, _, r_has_418, ?_⟩
  rintro r2 m' ⟨hmm, hr2⟩; have hmm := hmm.symm; subst hmm
  rw [c4] at hr2
  (conv => whnf)
  refine And.intro (fun q => ?_) (fun q => ?_)
  · rcases hr2 with ⟨y1, y2⟩ | ⟨y1, y2⟩
    · rw [y2] at q; exact absurd q (by decide)
    · exact And.intro rfl (K (Or.inr ⟨fun z => y1 z.2.1, rfl⟩))
  rcases hr2 with ⟨a2, y2⟩ | ⟨y1, y2⟩
  case inr => exact absurd y2 q
  (conv => whnf)
  refine And.intro (fun q => ?_) (fun hne => ?_)
  · exact And.intro rfl (K (Or.inr ⟨fun z => z.2.2 q, rfl⟩))
  exact And.intro rfl (K (Or.inl ⟨⟨a1, a2, hne⟩, rfl⟩))
end SeC336

/-! sell of the class -/
def selC720 (fr to nu go pr da ma : Int32) : List (Nat × Int32) := [(164696, fr), (164712, to), (164728, nu), (164744, go), (164760, pr), (164776, da), (164792, ma)]
theorem selC720_all {fr to nu go pr da ma : Int32} : (selC720 fr to nu go pr da ma).all (fun q => Nat.ble 8 (q.1 % 16)) = true := by
  unfold selC720
  simp only [List.all_cons, List.all_nil]
  rfl
section SeC720
variable {m : MM} {fr to nu go pr da ma : Int32}
set_option maxRecDepth 100000 in
set_option maxHeartbeats 4000000 in
theorem r_sadd_720 (h0 : 0 ≤ (gI m 836 7).toInt) : CI 1 mX4_add [.ref 836, .int fr, .int to, .int nu, .int go, .int pr, .int da, .int ma] m (fun r m' => ((gI m 836 7).toInt < 40 ∧ r = 1 ∧ m' = sI (putL (selC720 fr to nu go pr da ma) (gI m 836 7).toNatClampNeg m) 836 7 (gI m 836 7 + 1)) ∨ (¬ (gI m 836 7).toInt < 40 ∧ r = 0 ∧ m' = m)) := by
  have e40 : (40 : Int32).toInt = 40 := rfl
  refine At.gs okX4_add 80 ?_
  (conv => whnf)
  refine And.intro (fun q => ?_) (fun q => ?_)
  · have q : gI m 836 7 < 40 := q
    rw [lt_i, e40] at q
    have vn : vp_in (gI m 836 7) 40 := vp_in_iff.mpr ⟨h0, show (gI m 836 7).toInt < ((40 : Nat) : Int) by omega⟩
    (conv => whnf)
    refine And.intro vn ?_
    (conv => whnf)
    refine And.intro vn ?_
    (conv => whnf)
    refine And.intro vn ?_
    (conv => whnf)
    refine And.intro vn ?_
    (conv => whnf)
    refine And.intro vn ?_
    (conv => whnf)
    refine And.intro vn ?_
    (conv => whnf)
    refine And.intro vn ?_
    exact ⟨Or.inr rfl, Or.inl ⟨q, rfl, rfl⟩⟩
  · have q : ¬ gI m 836 7 < 40 := q
    rw [lt_i, e40] at q
    exact ⟨Or.inl rfl, Or.inr ⟨q, rfl, rfl⟩⟩
set_option maxRecDepth 100000 in
theorem r_sinceB_720 {x y : Int32} (hx : vp_in x 12) (hy : vp_in y 12) : CI 2 mX0_sinceBoth [.ref 720, .int x, .int y] m (fun r m' => m' = m ∧ r = if gI m 50152 x.toNatClampNeg < gI m 50152 y.toNatClampNeg then gI m 50152 y.toNatClampNeg else gI m 50152 x.toNatClampNeg) := by
  refine At.gs okX0_sinceBoth 60 ?_
  (conv => whnf)
  refine And.intro hx ?_
  (conv => whnf)
  refine And.intro hy ?_
  exact ⟨rfl, rfl⟩
def cdSl720 : List CE := stops [38, 83] cdX6_sell
set_option maxRecDepth 20000 in
theorem okSl720 : CodeOk mX6_sell cdSl720 := okX6_sell.st [38, 83] (by rfl)
def SlQ720 (m : MM) (fr to nu go pr da ma : Int32) : QQ := qi (fun r m' => (SeP (vw m) fr to nu go pr da ma ∧ r = gI m 1175 6 + 1 - 1 ∧ m' = sI (sI (sI (putL (selC720 fr to nu go pr da ma) (gI m 1175 6).toNatClampNeg m) 836 7 (gI m 1175 6 + 1)) 836 8 (gI m 836 8 + 1)) 49 13 0) ∨ (¬ SeP (vw m) fr to nu go pr da ma ∧ r = -1 ∧ m' = m))
set_option maxRecDepth 100000 in
set_option maxHeartbeats 8000000 in
theorem sl83_720 {x8 x9 : Int32} {v9 : Value} (hM : Mok TYg m) (h : SB 720 m) (hc : m.2.2 = (720, 336)) (h8 : z1 ((0 ≤ fr.toInt ∧ fr.toInt < (vw m).1 2) ∧ (0 ≤ to.toInt ∧ to.toInt < (vw m).1 2) ∧ fr ≠ to) x8) (h9 : z1 ((0 ≤ go.toInt ∧ go.toInt < (vw m).1 1) ∧ (1 ≤ nu.toInt ∧ nu.toInt ≤ 999) ∧ (1 ≤ pr.toInt ∧ pr.toInt ≤ 999)) x9) : At (E0 3) mX6_sell (SlQ720 m fr to nu go pr da ma) 83 [.ref 6, .int fr, .int to, .int nu, .int go, .int pr, .int da, .int ma, .int x8, v9] [.int x9] m := by
  obtain ⟨ff, g, c⟩ := m
  obtain rfl : c = (720, 336) := hc
  have e0 : (0 : Int32).toInt = 0 := rfl
  have e99 : (99 : Int32).toInt = 99 := rfl
  have e400 : (400 : Int32).toInt = 400 := rfl
  have hW := h.2.2.2.2.2
  have h12 := hW.1.2.2.1
  have h40 := hW.1.2.2.2
  have e7 : gI (ff, g, (720, 336)) 836 7 = gI (ff, g, (720, 336)) 1175 6 := h.1 3 (by decide)
  have c7 : (gI (ff, g, (720, 336)) 836 7).toInt = (vw (ff, g, (720, 336))).1 3 := by rw [e7]; exact vw3 hM
  refine At.ls okSl720 80 ⟨_, _, rfl⟩ ?_
  (conv => whnf)
  refine And.intro (fun q => ?_) (fun q => ?_)
  · rcases h8 with ⟨p1, p2⟩ | ⟨p1, p2⟩
    · rw [p2] at q; exact absurd q (by decide)
    · exact Or.inr ⟨fun z => p1 z.1, rfl, rfl⟩
  rcases h8 with ⟨p1, p2⟩ | ⟨p1, p2⟩
  case inr => exact absurd p2 q
  (conv => whnf)
  refine And.intro (fun q => ?_) (fun q => ?_)
  · rcases h9 with ⟨y1, y2⟩ | ⟨y1, y2⟩
    · rw [y2] at q; exact absurd q (by decide)
    · exact Or.inr ⟨fun z => y1 z.2.1, rfl, rfl⟩
  rcases h9 with ⟨y1, y2⟩ | ⟨y1, y2⟩
  case inr => exact absurd y2 q
  have f1 : fr.toNatClampNeg < (vw (ff, g, (720, 336))).1 2 := by rw [clamp_toNat]; omega
  have f2 : to.toNatClampNeg < (vw (ff, g, (720, 336))).1 2 := by rw [clamp_toNat]; omega
  have since1 := hW.2.2.1 _ f1
  have since2 := hW.2.2.1 _ f2
  have vf : vp_in fr 12 := vp_in_iff.mpr ⟨by omega, show fr.toInt < ((12 : Nat) : Int) by omega⟩
  have vt : vp_in to 12 := vp_in_iff.mpr ⟨by omega, show to.toInt < ((12 : Nat) : Int) by omega⟩
  have s1 : gI (ff, g, (720, 336)) 50152 fr.toNatClampNeg = (vw (ff, g, (720, 336))).2 5 fr.toNatClampNeg := h.2.1 5 (by decide) (by decide) _ f1
  have s2 : gI (ff, g, (720, 336)) 50152 to.toNatClampNeg = (vw (ff, g, (720, 336))).2 5 to.toNatClampNeg := h.2.1 5 (by decide) (by decide) _ f2
  (conv => whnf)
  refine ⟨1, by decide, _, r_within, ?_⟩
  rintro r1 m' ⟨hmm, hr1⟩; have hmm := hmm.symm; subst hmm
  rw [e0, e99] at hr1
  (conv => whnf)
  refine And.intro (fun q => ?_) (fun q => ?_)
  · rcases hr1 with ⟨z1, z2⟩ | ⟨z1, z2⟩
    · rw [z2] at q; exact absurd q (by decide)
    · exact Or.inr ⟨fun z => z1 z.2.2.1, rfl, rfl⟩
  rcases hr1 with ⟨hma, z2⟩ | ⟨z1, z2⟩
  case inr => exact absurd z2 q
  (conv => whnf)
  refine ⟨1, by decide, _, r_within, ?_⟩
  rintro r2 m' ⟨hmm, hr2⟩; have hmm := hmm.symm; subst hmm
  rw [e0, e400] at hr2
  (conv => whnf)
  refine And.intro (fun q => ?_) (fun q => ?_)
  case refine_2 =>
    rcases hr2 with ⟨z1, z2⟩ | ⟨z1, z2⟩
    · rw [z2] at q; exact absurd q (by decide)
    · exact Or.inr ⟨fun z => z1 z.2.2.2.1, rfl, rfl⟩
  rcases hr2 with ⟨hda, z2⟩ | ⟨z1, z2⟩
  case inr => exact absurd z2 q
  (conv => whnf)
  dsimp only
  (conv => whnf)
  refine ⟨2, by decide, _, r_sinceB_720 vf vt, ?_⟩
  rintro r3 m' ⟨hmm, hr3⟩; have hmm := hmm.symm; subst hmm
  rw [s1, s2] at hr3
  have hr3 : r3.toInt = max ((vw (ff, g, (720, 336))).2 5 fr.toNatClampNeg).toInt ((vw (ff, g, (720, 336))).2 5 to.toNatClampNeg).toInt := by
    rw [hr3]
    split
    · rename_i z
      rw [lt_i] at z
      omega
    · rename_i z
      rw [lt_i] at z
      omega
  (conv => whnf)
  refine And.intro (fun q => ?_) (fun q => ?_)
  · rw [lt_i] at q
    exact Or.inr ⟨fun z => by have a1 := z.2.2.2.2.1; have a2 := z.2.2.2.2.2.1; omega, rfl, rfl⟩
  rw [lt_i] at q
  (conv => whnf)
  refine ⟨1, by decide, _, r_sadd_720 (by omega), ?_⟩
  rintro r4 m4 (⟨l40, hr4, hm4⟩ | ⟨l40, hr4, hm4⟩)
  · subst hr4
    rw [e7] at hm4
    have hb4 : m4.2.2 = (720, 336) := by rw [hm4]; exact putL_c _ _
    have g8 : gI m4 836 8 = gI (ff, g, (720, 336)) 836 8 := by
      rw [hm4, gI_if, if_neg (fun z => absurd z.2 (by decide)), putL_f _ _ _ _ selC720_all rfl]
    have g7 : gI m4 836 7 = gI (ff, g, (720, 336)) 1175 6 + 1 := by rw [hm4, gI_if, if_pos ⟨rfl, rfl⟩]
    obtain ⟨f4, g4, c4⟩ := m4
    obtain rfl : c4 = (720, 336) := hb4
    (conv => whnf)
    refine And.intro (fun _ => ?_) (fun z => absurd z (by decide))
    (conv => whnf)
    refine ⟨1, by decide, _, r_forget, ?_⟩
    rintro m5 hm5
    have hb5 : m5.2.2 = (720, 336) := by rw [hm5]; rfl
    have g75 : gI m5 836 7 = gI (ff, g, (720, 336)) 1175 6 + 1 := by
      rw [hm5, gI_if, if_neg (fun z => absurd z.1 (by decide)), gI_if, if_neg (fun z => absurd z.2 (by decide)), g7]
    have hm5 : m5 = sI (sI (f4, g4, (720, 336)) 836 8 (gI (f4, g4, (720, 336)) 836 8 + 1)) 49 13 0 := hm5
    rw [g8, hm4] at hm5
    obtain ⟨f5, g5, c5⟩ := m5
    obtain rfl : c5 = (720, 336) := hb5
    refine Or.inl ⟨⟨p1, y1, hma, hda, by omega, by omega, by omega⟩, ?_, hm5⟩
    show gI (f5, g5, (720, 336)) 836 7 - 1 = _
    rw [g75]
  · subst hr4
    have hm4 := hm4.symm; subst hm4
    (conv => whnf)
    refine And.intro (fun z => absurd rfl z) (fun _ => ?_)
    exact Or.inr ⟨fun z => l40 (by have := z.2.2.2.2.2.2; omega), rfl, rfl⟩
set_option maxRecDepth 100000 in
set_option maxHeartbeats 8000000 in
theorem sl38_720 {x8 : Int32} {v8 v9 : Value} (hM : Mok TYg m) (h : SB 720 m) (hc : m.2.2 = (720, 336)) (h8 : z1 ((0 ≤ fr.toInt ∧ fr.toInt < (vw m).1 2) ∧ (0 ≤ to.toInt ∧ to.toInt < (vw m).1 2) ∧ fr ≠ to) x8) : At (E0 3) mX6_sell (SlQ720 m fr to nu go pr da ma) 38 [.ref 6, .int fr, .int to, .int nu, .int go, .int pr, .int da, .int ma, v8, v9] [.int x8] m := by
  have K := fun {x9 : Int32} {v9 : Value} (h9 : z1 ((0 ≤ go.toInt ∧ go.toInt < (vw m).1 1) ∧ (1 ≤ nu.toInt ∧ nu.toInt ≤ 999) ∧ (1 ≤ pr.toInt ∧ pr.toInt ≤ 999)) x9) => sl83_720 (v9 := v9) (da := da) (ma := ma) hM h hc h8 h9
  obtain ⟨ff, g, c⟩ := m
  obtain rfl : c = (720, 336) := hc
  have e1 : (1 : Int32).toInt = 1 := rfl
  have e9 : (999 : Int32).toInt = 999 := rfl
  have e386 : gI (ff, g, (720, 336)) 770 1 = gI (ff, g, (720, 336)) 1175 4 := h.1 1 (by decide)
  have c4 : (gI (ff, g, (720, 336)) 770 1).toInt = (vw (ff, g, (720, 336))).1 1 := by rw [e386]; exact vw_n (k := 1) hM
  refine At.ls okSl720 80 ⟨_, _, rfl⟩ ?_
  (conv => whnf)
  refine ⟨1, by decide, _, r_has_770, ?_⟩
  rintro r1 m' ⟨hmm, hr1⟩; have hmm := hmm.symm; subst hmm
  rw [c4] at hr1
  (conv => whnf)
  refine And.intro (fun q => ?_) (fun q => ?_)
  · rcases hr1 with ⟨y1, y2⟩ | ⟨y1, y2⟩
    · rw [y2] at q; exact absurd q (by decide)
    · exact And.intro rfl (K (Or.inr ⟨fun z => y1 z.1, rfl⟩))
  rcases hr1 with ⟨a1, y2⟩ | ⟨y1, y2⟩
  case inr => exact absurd y2 q
  (conv => whnf)
  refine ⟨1, by decide, _, r_within, ?_⟩
  rintro r2 m' ⟨hmm, hr2⟩; have hmm := hmm.symm; subst hmm
  rw [e1, e9] at hr2
  (conv => whnf)
  refine And.intro (fun q => ?_) (fun q => ?_)
  · rcases hr2 with ⟨y1, y2⟩ | ⟨y1, y2⟩
    · rw [y2] at q; exact absurd q (by decide)
    · exact And.intro rfl (K (Or.inr ⟨fun z => y1 z.2.1, rfl⟩))
  rcases hr2 with ⟨a2, y2⟩ | ⟨y1, y2⟩
  case inr => exact absurd y2 q
  (conv => whnf)
  refine ⟨1, by decide, _, r_within, ?_⟩
  rintro r3 m' ⟨hmm, hr3⟩; have hmm := hmm.symm; subst hmm
  rw [e1, e9] at hr3
  (conv => whnf)
  refine And.intro (fun q => ?_) (fun q => ?_)
  · rcases hr3 with ⟨y1, y2⟩ | ⟨y1, y2⟩
    · rw [y2] at q; exact absurd q (by decide)
    · exact And.intro rfl (K (Or.inr ⟨fun z => y1 z.2.2, rfl⟩))
  rcases hr3 with ⟨a3, y2⟩ | ⟨y1, y2⟩
  case inr => exact absurd y2 q
  exact And.intro rfl (K (Or.inl ⟨⟨a1, a2, a3⟩, rfl⟩))
set_option maxRecDepth 100000 in
set_option maxHeartbeats 8000000 in
theorem r_sell_720 (hM : Mok TYg m) (h : SB 720 m) (hc : m.2.2 = (720, 336)) : CI 3 mX6_sell [.ref 6, .int fr, .int to, .int nu, .int go, .int pr, .int da, .int ma] m (fun r m' => (SeP (vw m) fr to nu go pr da ma ∧ r = gI m 1175 6 + 1 - 1 ∧ m' = sI (sI (sI (putL (selC720 fr to nu go pr da ma) (gI m 1175 6).toNatClampNeg m) 836 7 (gI m 1175 6 + 1)) 836 8 (gI m 836 8 + 1)) 49 13 0) ∨ (¬ SeP (vw m) fr to nu go pr da ma ∧ r = -1 ∧ m' = m)) := by
  have K := fun {x8 : Int32} {v8 v9 : Value} (h8 : z1 ((0 ≤ fr.toInt ∧ fr.toInt < (vw m).1 2) ∧ (0 ≤ to.toInt ∧ to.toInt < (vw m).1 2) ∧ fr ≠ to) x8) => sl38_720 (v8 := v8) (v9 := v9) (nu := nu) (go := go) (pr := pr) (da := da) (ma := ma) hM h hc h8
  show At (E0 3) mX6_sell (SlQ720 m fr to nu go pr da ma) 0 _ [] m
  obtain ⟨ff, g, c⟩ := m
  obtain rfl : c = (720, 336) := hc
  have e418 : gI (ff, g, (720, 336)) 802 1 = gI (ff, g, (720, 336)) 1175 5 := h.1 2 (by decide)
  have c4 : (gI (ff, g, (720, 336)) 802 1).toInt = (vw (ff, g, (720, 336))).1 2 := by rw [e418]; exact vw_n (k := 2) hM
  refine At.gs okSl720 80 ?_
  (conv => whnf)
  refine ⟨1, by decide, _, r_has_802, ?_⟩
  rintro r1 m' ⟨hmm, hr1⟩; have hmm := hmm.symm; subst hmm
  rw [c4] at hr1
  (conv => whnf)
  refine And.intro (fun q => ?_) (fun q => ?_)
  · rcases hr1 with ⟨y1, y2⟩ | ⟨y1, y2⟩
    · rw [y2] at q; exact absurd q (by decide)
    · exact And.intro rfl (K (Or.inr ⟨fun z => y1 z.1, rfl⟩))
  rcases hr1 with ⟨a1, y2⟩ | ⟨y1, y2⟩
  case inr => exact absurd y2 q
  (conv => whnf)
  refine ⟨1, by decide, _, r_has_802, ?_⟩
  rintro r2 m' ⟨hmm, hr2⟩; have hmm := hmm.symm; subst hmm
  rw [c4] at hr2
  (conv => whnf)
  refine And.intro (fun q => ?_) (fun q => ?_)
  · rcases hr2 with ⟨y1, y2⟩ | ⟨y1, y2⟩
    · rw [y2] at q; exact absurd q (by decide)
    · exact And.intro rfl (K (Or.inr ⟨fun z => y1 z.2.1, rfl⟩))
  rcases hr2 with ⟨a2, y2⟩ | ⟨y1, y2⟩
  case inr => exact absurd y2 q
  (conv => whnf)
  refine And.intro (fun q => ?_) (fun hne => ?_)
  · exact And.intro rfl (K (Or.inr ⟨fun z => z.2.2 q, rfl⟩))
  exact And.intro rfl (K (Or.inl ⟨⟨a1, a2, hne⟩, rfl⟩))
end SeC720

def selL (fr to nu go pr da ma : Int32) : Nat → Option Int32 := fun r => if r = 10 then some fr else if r = 11 then some to else if r = 12 then some nu else if r = 13 then some go else if r = 14 then some pr else if r = 15 then some da else if r = 16 then some ma else none

set_option maxHeartbeats 4000000 in
theorem sel_up_336 {m : MM} {n : Nat} {a1 a2 a3 : Int32} {fr to nu go pr da ma : Int32} : UpR 336 (selL fr to nu go pr da ma) n m (sI (putL (selM fr to nu go pr da ma) n (sI (sI (sI (sI (putL (selC336 fr to nu go pr da ma) n m) 452 7 a1) 452 8 a2) 49 13 0) 1175 0 0)) 1175 6 a3) := by
  intro r hr i
  have b1 : Nat.ble 8 (rowC 336 r % 16) = true := rowC_8 (by unfold isBk; omega) r hr
  have b2 : Nat.ble 8 (rowM r % 16) = true := rowM_8 r hr
  have k1 : lkp (rowC 336 r) (selM fr to nu go pr da ma) = none ∧ lkp (rowC 336 r) (selC336 fr to nu go pr da ma) = selL fr to nu go pr da ma r ∧ lkp (rowM r) (selM fr to nu go pr da ma) = selL fr to nu go pr da ma r ∧ lkp (rowM r) (selC336 fr to nu go pr da ma) = none := by
    rcases (by omega : r = 0 ∨ r = 1 ∨ r = 2 ∨ r = 3 ∨ r = 4 ∨ r = 5 ∨ r = 6 ∨ r = 7 ∨ r = 8 ∨ r = 9 ∨ r = 10 ∨ r = 11 ∨ r = 12 ∨ r = 13 ∨ r = 14 ∨ r = 15 ∨ r = 16) with rfl | rfl | rfl | rfl | rfl | rfl | rfl | rfl | rfl | rfl | rfl | rfl | rfl | rfl | rfl | rfl | rfl <;> exact ⟨rfl, rfl, rfl, rfl⟩
  obtain ⟨y1, y2, y3, y4⟩ := k1
  have nM : ((selM fr to nu go pr da ma).map (fun q => q.1)).Nodup := show [329048, 329064, 329080, 329096, 329112, 329128, 329144].Nodup by decide
  have nC : ((selC336 fr to nu go pr da ma).map (fun q => q.1)).Nodup := show [164312, 164328, 164344, 164360, 164376, 164392, 164408].Nodup by decide
  refine ⟨?_, ?_⟩
  · rw [gI_rf b1 (by decide), putL_g _ _ _ _ nM, gI_rf b1 (by decide), gI_rf b1 (by decide), gI_rf b1 (by decide), gI_rf b1 (by decide), putL_g _ _ _ _ nC, y1, y2]
    by_cases q : i = n
    · rw [if_pos q, if_pos q]; rfl
    · rw [if_neg q, if_neg q]
  · rw [gI_rf b2 (by decide), putL_g _ _ _ _ nM, gI_rf b2 (by decide), gI_rf b2 (by decide), gI_rf b2 (by decide), gI_rf b2 (by decide), putL_g _ _ _ _ nC, y3, y4]
    by_cases q : i = n
    · rw [if_pos q, if_pos q, if_pos q]; rfl
    · rw [if_neg q, if_neg q, if_neg q]
set_option maxRecDepth 20000 in
set_option maxHeartbeats 4000000 in
theorem sel_sb_336 {m : MM} {fr to nu go pr da ma : Int32} (hM : Mok TYg m) (h : SB 336 m) (hS : SeP (vw m) fr to nu go pr da ma) : SB 336 (sI (putL (selM fr to nu go pr da ma) (gI m 1175 6).toNatClampNeg (sI (sI (sI (sI (putL (selC336 fr to nu go pr da ma) (gI m 1175 6).toNatClampNeg m) 452 7 (gI m 1175 6 + 1)) 452 8 (gI m 452 8 + 1)) 49 13 0) 1175 0 0)) 1175 6 (gI m 1175 6 + 1)) := by
  have c6 := vw3 hM
  have hn : (gI m 1175 6).toNatClampNeg = (vw m).1 3 := by rw [clamp_toNat, c6]; omega
  rw [hn]
  generalize hm' : sI (putL (selM fr to nu go pr da ma) ((vw m).1 3) (sI (sI (sI (sI (putL (selC336 fr to nu go pr da ma) ((vw m).1 3) m) 452 7 (gI m 1175 6 + 1)) 452 8 (gI m 452 8 + 1)) 49 13 0) 1175 0 0)) 1175 6 (gI m 1175 6 + 1) = m'
  have hU : UpR 336 (selL fr to nu go pr da ma) ((vw m).1 3) m m' := by rw [← hm']; exact sel_up_336
  obtain ⟨⟨s1, s2, s3⟩, ⟨s4, s5, s6⟩, s7, s8, s9, s10, s11⟩ := hS
  have fM : ∀ c k, Nat.ble 8 (c % 16) = false → ¬ (c = 1175 ∧ (k = 0 ∨ k = 6)) → ¬ (c = 452 ∧ (k = 7 ∨ k = 8)) → ¬ (c = 49 ∧ k = 13) → gI m' c k = gI m c k := fun c k hc n1 n2 n3 => by
    rw [← hm', gI_if, if_neg (fun z => n1 ⟨z.1, Or.inr z.2⟩), putL_f _ _ _ _ selM_all hc, gI_if, if_neg (fun z => n1 ⟨z.1, Or.inl z.2⟩), gI_if, if_neg (fun z => n3 z), gI_if, if_neg (fun z => n2 ⟨z.1, Or.inr z.2⟩), gI_if, if_neg (fun z => n2 ⟨z.1, Or.inl z.2⟩), putL_f _ _ _ _ selC336_all hc]
  have g6 : gI m' 1175 6 = gI m 1175 6 + 1 := by rw [← hm', gI_if, if_pos ⟨rfl, rfl⟩]
  have g7 : gI m' 452 7 = gI m 1175 6 + 1 := by
    rw [← hm', gI_if, if_neg (fun z => absurd z.1 (by decide)), putL_f _ _ _ _ selM_all rfl, gI_if, if_neg (fun z => absurd z.1 (by decide)), gI_if, if_neg (fun z => absurd z.1 (by decide)), gI_if, if_neg (fun z => absurd z.2 (by decide)), gI_if, if_pos ⟨rfl, rfl⟩]
  have g8 : gI m' 452 8 = gI m 452 8 + 1 := by
    rw [← hm', gI_if, if_neg (fun z => absurd z.1 (by decide)), putL_f _ _ _ _ selM_all rfl, gI_if, if_neg (fun z => absurd z.1 (by decide)), gI_if, if_neg (fun z => absurd z.1 (by decide)), gI_if, if_pos ⟨rfl, rfl⟩]
  have t6 : (gI m 1175 6 + 1).toInt = (vw m).1 3 + 1 := by rw [inc1 (by omega), c6]
  have cc : ∀ k, k < 3 → (vw m').1 k = (vw m).1 k := fun k hk => by
    show (gI m' 1175 (cntM k)).toInt.toNat = (gI m 1175 (cntM k)).toInt.toNat
    rcases (by omega : k = 0 ∨ k = 1 ∨ k = 2) with rfl | rfl | rfl
    · rw [fM 1175 _ rfl (by decide) (by decide) (by decide)]
    · rw [fM 1175 _ rfl (by decide) (by decide) (by decide)]
    · rw [fM 1175 _ rfl (by decide) (by decide) (by decide)]
  have c3 : (vw m').1 3 = (vw m).1 3 + 1 := by
    show (gI m' 1175 6).toInt.toNat = _
    rw [g6, t6]; omega
  obtain ⟨w1, w2, w3, w4⟩ := h.2.2.2.2.2
  have hr : ∀ r, r < 10 → ∀ i, (vw m').2 r i = (vw m).2 r i := fun r hr i => by
    rw [hU.vw (by omega) i]
    have : selL fr to nu go pr da ma r = none := by
      unfold selL
      rw [if_neg (by omega), if_neg (by omega), if_neg (by omega), if_neg (by omega), if_neg (by omega), if_neg (by omega), if_neg (by omega)]
    rw [this]
    show (if i = (vw m).1 3 then (vw m).2 r i else (vw m).2 r i) = _
    split <;> rfl
  have hs : ∀ r, r < 17 → ∀ i, i ≠ (vw m).1 3 → (vw m').2 r i = (vw m).2 r i := fun r hr i hi => by
    rw [hU.vw hr i, if_neg hi]
  have hz : ∀ r, r < 17 → (vw m').2 r ((vw m).1 3) = lkv (selL fr to nu go pr da ma r) ((vw m).2 r ((vw m).1 3)) := fun r hr => by
    rw [hU.vw hr, if_pos rfl]
  refine SB.up h hU (fun k hk => ?_) (fun r hr h9 i hi => ?_) ?_ ?_ ?_ ⟨?_, fun l hl => ?_, fun f hf => ?_, fun s hs' => ?_⟩
  · rcases (by omega : k = 0 ∨ k = 1 ∨ k = 2 ∨ k = 3) with rfl | rfl | rfl | rfl
    · show gI m' 354 1 = gI m' 1175 3
      rw [fM _ _ rfl (by decide) (by decide) (by decide), fM _ _ rfl (by decide) (by decide) (by decide)]; exact h.1 0 hk
    · show gI m' 386 1 = gI m' 1175 4
      rw [fM _ _ rfl (by decide) (by decide) (by decide), fM _ _ rfl (by decide) (by decide) (by decide)]; exact h.1 1 hk
    · show gI m' 418 1 = gI m' 1175 5
      rw [fM _ _ rfl (by decide) (by decide) (by decide), fM _ _ rfl (by decide) (by decide) (by decide)]; exact h.1 2 hk
    · show gI m' 452 7 = gI m' 1175 6
      rw [g7, g6]
  · by_cases q : own r = 3
    · rw [q, c3] at hi
      rw [q]
      by_cases q2 : i = (vw m).1 3
      · right
        refine ⟨q2, ?_⟩
        have h10 : 10 ≤ r := by unfold own at q; split at q <;> (try split at q) <;> (try split at q) <;> omega
        rcases (by omega : r = 10 ∨ r = 11 ∨ r = 12 ∨ r = 13 ∨ r = 14 ∨ r = 15 ∨ r = 16) with rfl | rfl | rfl | rfl | rfl | rfl | rfl <;> rfl
      · left; omega
    · left
      have := own_4 r
      rw [cc _ (by omega)] at hi
      exact hi
  · show (gI m' 452 8).toInt = (gI m' 1175 6).toInt - (gI m' 1175 7).toInt
    have y := h.2.2.1
    have y : (gI m 452 8).toInt = (gI m 1175 6).toInt - (gI m 1175 7).toInt := y
    have b7 : (0 : Int) ≤ (gI m 1175 7).toInt := (hM.1 1175 7).1
    rw [g8, g6, fM 1175 7 rfl (by decide) (by decide) (by decide), inc1 (by omega), t6, y, c6]; omega
  · rw [fM 6 5 rfl (by decide) (by decide) (by decide), fM 1175 39 rfl (by decide) (by decide) (by decide)]; exact h.2.2.2.1
  · rw [fM 6 6 rfl (by decide) (by decide) (by decide), fM 1175 40 rfl (by decide) (by decide) (by decide)]; exact h.2.2.2.2.1
  · rw [cc 0 (by decide), cc 1 (by decide), cc 2 (by decide), c3]
    omega
  · rw [cc 0 (by decide)] at hl
    rw [hr 1 (by decide)]
    exact w2 l hl
  · rw [cc 2 (by decide)] at hf
    rw [hr 4 (by decide), hr 5 (by decide), hr 8 (by decide), cc 0 (by decide)]
    exact w3 f hf
  · rw [c3] at hs'
    rw [cc 1 (by decide), cc 2 (by decide)]
    by_cases q : s = (vw m).1 3
    · subst q
      rw [hz 10 (by decide), hz 11 (by decide), hz 12 (by decide), hz 13 (by decide), hz 14 (by decide), hz 15 (by decide), hz 16 (by decide)]
      exact ⟨s1, s2, s3, s5, s4, s6, s8, s7⟩
    · rw [hs 10 (by decide) s q, hs 11 (by decide) s q, hs 12 (by decide) s q, hs 13 (by decide) s q, hs 14 (by decide) s q, hs 15 (by decide) s q, hs 16 (by decide) s q]
      exact w4 s (by omega)
set_option maxHeartbeats 4000000 in
theorem sel_up_720 {m : MM} {n : Nat} {a1 a2 a3 : Int32} {fr to nu go pr da ma : Int32} : UpR 720 (selL fr to nu go pr da ma) n m (sI (putL (selM fr to nu go pr da ma) n (sI (sI (sI (sI (putL (selC720 fr to nu go pr da ma) n m) 836 7 a1) 836 8 a2) 49 13 0) 1175 0 0)) 1175 6 a3) := by
  intro r hr i
  have b1 : Nat.ble 8 (rowC 720 r % 16) = true := rowC_8 (by unfold isBk; omega) r hr
  have b2 : Nat.ble 8 (rowM r % 16) = true := rowM_8 r hr
  have k1 : lkp (rowC 720 r) (selM fr to nu go pr da ma) = none ∧ lkp (rowC 720 r) (selC720 fr to nu go pr da ma) = selL fr to nu go pr da ma r ∧ lkp (rowM r) (selM fr to nu go pr da ma) = selL fr to nu go pr da ma r ∧ lkp (rowM r) (selC720 fr to nu go pr da ma) = none := by
    rcases (by omega : r = 0 ∨ r = 1 ∨ r = 2 ∨ r = 3 ∨ r = 4 ∨ r = 5 ∨ r = 6 ∨ r = 7 ∨ r = 8 ∨ r = 9 ∨ r = 10 ∨ r = 11 ∨ r = 12 ∨ r = 13 ∨ r = 14 ∨ r = 15 ∨ r = 16) with rfl | rfl | rfl | rfl | rfl | rfl | rfl | rfl | rfl | rfl | rfl | rfl | rfl | rfl | rfl | rfl | rfl <;> exact ⟨rfl, rfl, rfl, rfl⟩
  obtain ⟨y1, y2, y3, y4⟩ := k1
  have nM : ((selM fr to nu go pr da ma).map (fun q => q.1)).Nodup := show [329048, 329064, 329080, 329096, 329112, 329128, 329144].Nodup by decide
  have nC : ((selC720 fr to nu go pr da ma).map (fun q => q.1)).Nodup := show [164696, 164712, 164728, 164744, 164760, 164776, 164792].Nodup by decide
  refine ⟨?_, ?_⟩
  · rw [gI_rf b1 (by decide), putL_g _ _ _ _ nM, gI_rf b1 (by decide), gI_rf b1 (by decide), gI_rf b1 (by decide), gI_rf b1 (by decide), putL_g _ _ _ _ nC, y1, y2]
    by_cases q : i = n
    · rw [if_pos q, if_pos q]; rfl
    · rw [if_neg q, if_neg q]
  · rw [gI_rf b2 (by decide), putL_g _ _ _ _ nM, gI_rf b2 (by decide), gI_rf b2 (by decide), gI_rf b2 (by decide), gI_rf b2 (by decide), putL_g _ _ _ _ nC, y3, y4]
    by_cases q : i = n
    · rw [if_pos q, if_pos q, if_pos q]; rfl
    · rw [if_neg q, if_neg q, if_neg q]
set_option maxRecDepth 20000 in
set_option maxHeartbeats 4000000 in
theorem sel_sb_720 {m : MM} {fr to nu go pr da ma : Int32} (hM : Mok TYg m) (h : SB 720 m) (hS : SeP (vw m) fr to nu go pr da ma) : SB 720 (sI (putL (selM fr to nu go pr da ma) (gI m 1175 6).toNatClampNeg (sI (sI (sI (sI (putL (selC720 fr to nu go pr da ma) (gI m 1175 6).toNatClampNeg m) 836 7 (gI m 1175 6 + 1)) 836 8 (gI m 836 8 + 1)) 49 13 0) 1175 0 0)) 1175 6 (gI m 1175 6 + 1)) := by
  have c6 := vw3 hM
  have hn : (gI m 1175 6).toNatClampNeg = (vw m).1 3 := by rw [clamp_toNat, c6]; omega
  rw [hn]
  generalize hm' : sI (putL (selM fr to nu go pr da ma) ((vw m).1 3) (sI (sI (sI (sI (putL (selC720 fr to nu go pr da ma) ((vw m).1 3) m) 836 7 (gI m 1175 6 + 1)) 836 8 (gI m 836 8 + 1)) 49 13 0) 1175 0 0)) 1175 6 (gI m 1175 6 + 1) = m'
  have hU : UpR 720 (selL fr to nu go pr da ma) ((vw m).1 3) m m' := by rw [← hm']; exact sel_up_720
  obtain ⟨⟨s1, s2, s3⟩, ⟨s4, s5, s6⟩, s7, s8, s9, s10, s11⟩ := hS
  have fM : ∀ c k, Nat.ble 8 (c % 16) = false → ¬ (c = 1175 ∧ (k = 0 ∨ k = 6)) → ¬ (c = 836 ∧ (k = 7 ∨ k = 8)) → ¬ (c = 49 ∧ k = 13) → gI m' c k = gI m c k := fun c k hc n1 n2 n3 => by
    rw [← hm', gI_if, if_neg (fun z => n1 ⟨z.1, Or.inr z.2⟩), putL_f _ _ _ _ selM_all hc, gI_if, if_neg (fun z => n1 ⟨z.1, Or.inl z.2⟩), gI_if, if_neg (fun z => n3 z), gI_if, if_neg (fun z => n2 ⟨z.1, Or.inr z.2⟩), gI_if, if_neg (fun z => n2 ⟨z.1, Or.inl z.2⟩), putL_f _ _ _ _ selC720_all hc]
  have g6 : gI m' 1175 6 = gI m 1175 6 + 1 := by rw [← hm', gI_if, if_pos ⟨rfl, rfl⟩]
  have g7 : gI m' 836 7 = gI m 1175 6 + 1 := by
    rw [← hm', gI_if, if_neg (fun z => absurd z.1 (by decide)), putL_f _ _ _ _ selM_all rfl, gI_if, if_neg (fun z => absurd z.1 (by decide)), gI_if, if_neg (fun z => absurd z.1 (by decide)), gI_if, if_neg (fun z => absurd z.2 (by decide)), gI_if, if_pos ⟨rfl, rfl⟩]
  have g8 : gI m' 836 8 = gI m 836 8 + 1 := by
    rw [← hm', gI_if, if_neg (fun z => absurd z.1 (by decide)), putL_f _ _ _ _ selM_all rfl, gI_if, if_neg (fun z => absurd z.1 (by decide)), gI_if, if_neg (fun z => absurd z.1 (by decide)), gI_if, if_pos ⟨rfl, rfl⟩]
  have t6 : (gI m 1175 6 + 1).toInt = (vw m).1 3 + 1 := by rw [inc1 (by omega), c6]
  have cc : ∀ k, k < 3 → (vw m').1 k = (vw m).1 k := fun k hk => by
    show (gI m' 1175 (cntM k)).toInt.toNat = (gI m 1175 (cntM k)).toInt.toNat
    rcases (by omega : k = 0 ∨ k = 1 ∨ k = 2) with rfl | rfl | rfl
    · rw [fM 1175 _ rfl (by decide) (by decide) (by decide)]
    · rw [fM 1175 _ rfl (by decide) (by decide) (by decide)]
    · rw [fM 1175 _ rfl (by decide) (by decide) (by decide)]
  have c3 : (vw m').1 3 = (vw m).1 3 + 1 := by
    show (gI m' 1175 6).toInt.toNat = _
    rw [g6, t6]; omega
  obtain ⟨w1, w2, w3, w4⟩ := h.2.2.2.2.2
  have hr : ∀ r, r < 10 → ∀ i, (vw m').2 r i = (vw m).2 r i := fun r hr i => by
    rw [hU.vw (by omega) i]
    have : selL fr to nu go pr da ma r = none := by
      unfold selL
      rw [if_neg (by omega), if_neg (by omega), if_neg (by omega), if_neg (by omega), if_neg (by omega), if_neg (by omega), if_neg (by omega)]
    rw [this]
    show (if i = (vw m).1 3 then (vw m).2 r i else (vw m).2 r i) = _
    split <;> rfl
  have hs : ∀ r, r < 17 → ∀ i, i ≠ (vw m).1 3 → (vw m').2 r i = (vw m).2 r i := fun r hr i hi => by
    rw [hU.vw hr i, if_neg hi]
  have hz : ∀ r, r < 17 → (vw m').2 r ((vw m).1 3) = lkv (selL fr to nu go pr da ma r) ((vw m).2 r ((vw m).1 3)) := fun r hr => by
    rw [hU.vw hr, if_pos rfl]
  refine SB.up h hU (fun k hk => ?_) (fun r hr h9 i hi => ?_) ?_ ?_ ?_ ⟨?_, fun l hl => ?_, fun f hf => ?_, fun s hs' => ?_⟩
  · rcases (by omega : k = 0 ∨ k = 1 ∨ k = 2 ∨ k = 3) with rfl | rfl | rfl | rfl
    · show gI m' 738 1 = gI m' 1175 3
      rw [fM _ _ rfl (by decide) (by decide) (by decide), fM _ _ rfl (by decide) (by decide) (by decide)]; exact h.1 0 hk
    · show gI m' 770 1 = gI m' 1175 4
      rw [fM _ _ rfl (by decide) (by decide) (by decide), fM _ _ rfl (by decide) (by decide) (by decide)]; exact h.1 1 hk
    · show gI m' 802 1 = gI m' 1175 5
      rw [fM _ _ rfl (by decide) (by decide) (by decide), fM _ _ rfl (by decide) (by decide) (by decide)]; exact h.1 2 hk
    · show gI m' 836 7 = gI m' 1175 6
      rw [g7, g6]
  · by_cases q : own r = 3
    · rw [q, c3] at hi
      rw [q]
      by_cases q2 : i = (vw m).1 3
      · right
        refine ⟨q2, ?_⟩
        have h10 : 10 ≤ r := by unfold own at q; split at q <;> (try split at q) <;> (try split at q) <;> omega
        rcases (by omega : r = 10 ∨ r = 11 ∨ r = 12 ∨ r = 13 ∨ r = 14 ∨ r = 15 ∨ r = 16) with rfl | rfl | rfl | rfl | rfl | rfl | rfl <;> rfl
      · left; omega
    · left
      have := own_4 r
      rw [cc _ (by omega)] at hi
      exact hi
  · show (gI m' 836 8).toInt = (gI m' 1175 6).toInt - (gI m' 1175 7).toInt
    have y := h.2.2.1
    have y : (gI m 836 8).toInt = (gI m 1175 6).toInt - (gI m 1175 7).toInt := y
    have b7 : (0 : Int) ≤ (gI m 1175 7).toInt := (hM.1 1175 7).1
    rw [g8, g6, fM 1175 7 rfl (by decide) (by decide) (by decide), inc1 (by omega), t6, y, c6]; omega
  · rw [fM 6 5 rfl (by decide) (by decide) (by decide), fM 1175 39 rfl (by decide) (by decide) (by decide)]; exact h.2.2.2.1
  · rw [fM 6 6 rfl (by decide) (by decide) (by decide), fM 1175 40 rfl (by decide) (by decide) (by decide)]; exact h.2.2.2.2.1
  · rw [cc 0 (by decide), cc 1 (by decide), cc 2 (by decide), c3]
    omega
  · rw [cc 0 (by decide)] at hl
    rw [hr 1 (by decide)]
    exact w2 l hl
  · rw [cc 2 (by decide)] at hf
    rw [hr 4 (by decide), hr 5 (by decide), hr 8 (by decide), cc 0 (by decide)]
    exact w3 f hf
  · rw [c3] at hs'
    rw [cc 1 (by decide), cc 2 (by decide)]
    by_cases q : s = (vw m).1 3
    · subst q
      rw [hz 10 (by decide), hz 11 (by decide), hz 12 (by decide), hz 13 (by decide), hz 14 (by decide), hz 15 (by decide), hz 16 (by decide)]
      exact ⟨s1, s2, s3, s5, s4, s6, s8, s7⟩
    · rw [hs 10 (by decide) s q, hs 11 (by decide) s q, hs 12 (by decide) s q, hs 13 (by decide) s q, hs 14 (by decide) s q, hs 15 (by decide) s q, hs 16 (by decide) s q]
      exact w4 s (by omega)
