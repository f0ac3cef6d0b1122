/-! the class: a land, a good -/
section Ln
variable {b : BT} {e : Nat} {t : TK} {m : MM} {B : TB}
theorem ct_336 {k : Nat} (h : BkI 336 B m) (hk : k < 4) : (gI m (cntC 336 k) (cntF k)).toInt = B.1 k := h.1 k hk
set_option maxRecDepth 100000 in
set_option maxHeartbeats 4000000 in
theorem r_land_336 (h : CR b e t m) (hB : BkI 336 B m) : CI 5 mX3_readLand [.ref 19, .ref 336] m (fun r m' => St wRdB m m' ∧ OC m m' (landS b e B t) (r = 0) (fun x => r = 1 ∧ CR b e x.2 m' ∧ BkI 336 x.1 m')) := by
  have e0 : (0 : Int32).toInt = 0 := rfl
  have e5 : (5 : Int32).toInt = 5 := rfl
  have e40 : (40 : Int32).toInt = 40 := rfl
  have hb : isBk 336 := by unfold isBk; omega
  refine At.gs okX3_readLand 80 ?_
  (conv => whnf)
  refine ⟨4, by decide, _, r_new_354 (B := B) h (hB.1 0 (by omega)) hB.2.2.1 (hB.2.1 0 (by omega)), ?_⟩
  rintro r1 m1 ⟨S1, o1⟩
  have T1 : St wRdB m m1 := ⟨S1.1, S1.2.1, Fr_tr (Fr_rfl _ _) S1.2.2 (by decide)⟩
  (conv => whnf)
  rcases OC_c o1 with ⟨er, ex, hbad, f1, f2⟩ | ⟨x, ex, ⟨g1, g2, g3, g4⟩, f1, f2⟩
  · subst hbad
    refine And.intro (fun q => absurd q (by decide)) (fun _ => ?_)
    refine ⟨Or.inl rfl, T1, ?_⟩
    unfold landS
    rw [ex]
    exact ⟨rfl, f1, f2⟩
  · refine And.intro (fun _ => ?_) (fun q => absurd (le_i.mpr (by omega)) q)
    have hB1 := hB.fr hb S1.2.2 (by decide)
    have hn5 : B.1 0 < 5 := by
      have := hB.2.2.1
      rcases Nat.lt_or_ge (B.1 0) 5 with q | q
      · exact q
      · unfold newL at ex
        rw [if_pos (show B.1 (own 0) = 5 by show B.1 0 = 5; omega)] at ex
        cases ex
    (conv => whnf)
    refine ⟨4, by decide, _, r_num g4, ?_⟩
    rintro r2 m2 ⟨S2, o2⟩
    have T2 : St wRdB m m2 := T1.tr S2 (by decide)
    rw [e0, e40] at o2
    (conv => whnf)
    rcases OC_c o2 with ⟨er, ey, hbad, f3, f4⟩ | ⟨y, ey, ⟨j1, j2, j3, j4⟩, f3, f4⟩
    · subst hbad
      refine And.intro (fun q => absurd q (by decide)) (fun _ => ?_)
      refine ⟨Or.inl rfl, T2, ?_⟩
      unfold landS
      rw [ex]
      show OC m m2 (bd (numS b e 0 40 x.2) _) _ _
      rw [ey]
      exact ⟨rfl, f3, f4⟩
    · refine And.intro (fun _ => ?_) (fun q => absurd (le_i.mpr (by omega)) q)
      have hB2 := hB1.fr hb S2.2.2 (by decide)
      have hN2 : (gI m2 354 1).toInt = B.1 0 := hB2.1 0 (by omega)
      (conv => whnf)
      refine ⟨1, by decide, _, r_add_354 hN2 (by omega), ?_⟩
      rintro r3 m3 ⟨q1, q2⟩
      subst q2
      have a1 := inc1 (k := gI m2 354 1) (by omega)
      (conv => whnf)
      refine And.intro (fun q => by rw [lt_i] at q; omega) (fun _ => ?_)
      (conv => whnf)
      refine And.intro (fun q => by rw [le_i] at q; omega) (fun _ => ?_)
      (conv => whnf)
      refine And.intro (vp_in_iff.mpr ⟨by omega, show r3.toInt < ((5 : Nat) : Int) by omega⟩) ?_
      have S3 : St [49528, 4294967296 * 2 + 354, 21064] m2 (sI (sI (sI m2 49528 (B.1 0) r1) 354 1 (gI m2 354 1 + 1)) 21064 r3.toNatClampNeg r2) :=
        (((St.rf S2.1).row (a := 49528) (k := B.1 0) (v := r1) rfl (by decide) (tI_lo _) (tI_hi _)).fld (a := 354) (k := 1) (v := gI m2 354 1 + 1) (by decide) (show (0 : Int) ≤ _ by omega) (show _ ≤ (5 : Int) by omega) (fun _ q => by omega)).row (a := 21064) (k := r3.toNatClampNeg) (v := r2) rfl (by decide) (tI_lo _) (tI_hi _)
      obtain ⟨c1, c2, c3⟩ := j4.fr S3 (by decide)
      refine ⟨Or.inr rfl, T2.tr S3 (by decide), ?_⟩
      unfold landS
      rw [ex]
      show OC m _ (bd (numS b e 0 40 x.2) _) _ _
      rw [ey]
      refine ⟨⟨rfl, c1, ?_⟩, c2.trans (f3.trans f1), c3.trans (f4.trans f2)⟩
      rw [nat_c q1, ← g1, ← j1]
      have R1 : BkR 336 (B.1, setR (setR B.2 0 (B.1 0) r1.toInt) 1 (B.1 0) r2.toInt) (sI (sI (sI m2 49528 (B.1 0) r1) 354 1 (gI m2 354 1 + 1)) 21064 (B.1 0) r2) :=
        BkR.row (r := 1) (BkR.fld (BkR.row (r := 0) hB2.2 hb (by omega) (fun q => by omega)) hb rfl) hb (by omega) (fun q => by omega)
      refine BkI.mk' R1 (by omega) (fun r hr hq => ?_) (fun j hj => ?_) ?_
      · rcases (by unfold own at hq; split at hq <;> (try split at hq) <;> (try split at hq) <;> omega : r = 0 ∨ r = 1) with rfl | rfl
        · simp [rowC, gI, sI, setR]
        · simp [rowC, gI, sI, setR]
      · rcases (by omega : j = 0 ∨ j = 1 ∨ j = 2 ∨ j = 3) with rfl | rfl | rfl | rfl
        · show (gI m2 354 1 + 1).toInt = ((B.1 0 + 1 : Nat) : Int)
          omega
        · exact hB2.1 1 (by omega)
        · exact hB2.1 2 (by omega)
        · exact hB2.1 3 (by omega)
      · obtain ⟨z1, z2, z3, z4, z5⟩ := R1.2
        exact ⟨by show B.1 0 + 1 ≤ 5; omega, z2, z3, z4, z5⟩
set_option maxRecDepth 100000 in
set_option maxHeartbeats 4000000 in
theorem r_good_336 (h : CR b e t m) (hB : BkI 336 B m) : CI 5 mX3_readGood [.ref 19, .ref 336] m (fun r m' => St wRdB m m' ∧ OC m m' (goodS b e B t) (r = 0) (fun x => r = 1 ∧ CR b e x.2 m' ∧ BkI 336 x.1 m')) := by
  have e0 : (0 : Int32).toInt = 0 := rfl
  have hb : isBk 336 := by unfold isBk; omega
  refine At.gs okX3_readGood 80 ?_
  (conv => whnf)
  refine ⟨4, by decide, _, r_new_386 (B := B) h (hB.1 1 (by omega)) hB.2.2.2.1 (hB.2.1 2 (by omega)), ?_⟩
  rintro r1 m1 ⟨S1, o1⟩
  have T1 : St wRdB m m1 := ⟨S1.1, S1.2.1, Fr_tr (Fr_rfl _ _) S1.2.2 (by decide)⟩
  (conv => whnf)
  rcases OC_c o1 with ⟨er, ex, hbad, f1, f2⟩ | ⟨x, ex, ⟨g1, g2, g3, g4⟩, f1, f2⟩
  · subst hbad
    refine And.intro (fun _ => ?_) (fun q => absurd (by decide) q)
    refine ⟨Or.inl rfl, T1, ?_⟩
    unfold goodS
    rw [ex]
    exact ⟨rfl, f1, f2⟩
  · refine And.intro (fun q => by rw [lt_i] at q; omega) (fun _ => ?_)
    have hB1 := hB.fr hb S1.2.2 (by decide)
    have hn5 : B.1 1 < 4 := by
      have := hB.2.2.2.1
      rcases Nat.lt_or_ge (B.1 1) 4 with q | q
      · exact q
      · unfold newL at ex
        rw [if_pos (show B.1 (own 2) = 4 by show B.1 1 = 4; omega)] at ex
        cases ex
    have hN2 : (gI m1 386 1).toInt = B.1 1 := hB1.1 1 (by omega)
    (conv => whnf)
    refine ⟨1, by decide, _, r_add_386 hN2 (by omega), ?_⟩
    rintro r3 m3 ⟨q1, q2⟩
    subst q2
    have a1 := inc1 (k := gI m1 386 1) (by omega)
    (conv => whnf)
    refine And.intro (fun q => by rw [lt_i] at q; omega) (fun _ => ?_)
    have S3 : St [49560, 4294967296 * 2 + 386] m1 (sI (sI m1 49560 (B.1 1) r1) 386 1 (gI m1 386 1 + 1)) :=
      ((St.rf S1.1).row (a := 49560) (k := B.1 1) (v := r1) rfl (by decide) (tI_lo _) (tI_hi _)).fld (a := 386) (k := 1) (v := gI m1 386 1 + 1) (by decide) (show (0 : Int) ≤ _ by omega) (show _ ≤ (12 : Int) by omega) (fun _ q => by omega)
    obtain ⟨c1, c2, c3⟩ := g4.fr S3 (by decide)
    refine ⟨Or.inr rfl, T1.tr S3 (by decide), ?_⟩
    unfold goodS
    rw [ex]
    refine ⟨⟨rfl, c1, ?_⟩, c2.trans f1, c3.trans f2⟩
    rw [← g1]
    have R1 : BkR 336 (B.1, setR B.2 2 (B.1 1) r1.toInt) (sI (sI m1 49560 (B.1 1) r1) 386 1 (gI m1 386 1 + 1)) :=
      BkR.fld (BkR.row (r := 2) hB1.2 hb (by omega) (fun q => by omega)) hb rfl
    refine BkI.mk' R1 (by omega) (fun r hr hq => ?_) (fun j hj => ?_) ?_
    · obtain rfl : r = 2 := by unfold own at hq; split at hq <;> (try split at hq) <;> (try split at hq) <;> omega
      simp [rowC, gI, sI, setR]
    · rcases (by omega : j = 0 ∨ j = 1 ∨ j = 2 ∨ j = 3) with rfl | rfl | rfl | rfl
      · exact hB1.1 0 (by omega)
      · show (gI m1 386 1 + 1).toInt = ((B.1 1 + 1 : Nat) : Int)
        omega
      · exact hB1.1 2 (by omega)
      · exact hB1.1 3 (by omega)
    · obtain ⟨z1, z2, z3, z4, z5⟩ := R1.2
      exact ⟨z1, by show B.1 1 + 1 ≤ 4; omega, z3, z4, z5⟩
theorem ct_720 {k : Nat} (h : BkI 720 B m) (hk : k < 4) : (gI m (cntC 720 k) (cntF k)).toInt = B.1 k := h.1 k hk
set_option maxRecDepth 100000 in
set_option maxHeartbeats 4000000 in
theorem r_land_720 (h : CR b e t m) (hB : BkI 720 B m) : CI 5 mX3_readLand [.ref 19, .ref 720] m (fun r m' => St wRdA m m' ∧ OC m m' (landS b e B t) (r = 0) (fun x => r = 1 ∧ CR b e x.2 m' ∧ BkI 720 x.1 m')) := by
  have e0 : (0 : Int32).toInt = 0 := rfl
  have e5 : (5 : Int32).toInt = 5 := rfl
  have e40 : (40 : Int32).toInt = 40 := rfl
  have hb : isBk 720 := by unfold isBk; omega
  refine At.gs okX3_readLand 80 ?_
  (conv => whnf)
  refine ⟨4, by decide, _, r_new_738 (B := B) h (hB.1 0 (by omega)) hB.2.2.1 (hB.2.1 0 (by omega)), ?_⟩
  rintro r1 m1 ⟨S1, o1⟩
  have T1 : St wRdA m m1 := ⟨S1.1, S1.2.1, Fr_tr (Fr_rfl _ _) S1.2.2 (by decide)⟩
  (conv => whnf)
  rcases OC_c o1 with ⟨er, ex, hbad, f1, f2⟩ | ⟨x, ex, ⟨g1, g2, g3, g4⟩, f1, f2⟩
  · subst hbad
    refine And.intro (fun q => absurd q (by decide)) (fun _ => ?_)
    refine ⟨Or.inl rfl, T1, ?_⟩
    unfold landS
    rw [ex]
    exact ⟨rfl, f1, f2⟩
  · refine And.intro (fun _ => ?_) (fun q => absurd (le_i.mpr (by omega)) q)
    have hB1 := hB.fr hb S1.2.2 (by decide)
    have hn5 : B.1 0 < 5 := by
      have := hB.2.2.1
      rcases Nat.lt_or_ge (B.1 0) 5 with q | q
      · exact q
      · unfold newL at ex
        rw [if_pos (show B.1 (own 0) = 5 by show B.1 0 = 5; omega)] at ex
        cases ex
    (conv => whnf)
    refine ⟨4, by decide, _, r_num g4, ?_⟩
    rintro r2 m2 ⟨S2, o2⟩
    have T2 : St wRdA m m2 := T1.tr S2 (by decide)
    rw [e0, e40] at o2
    (conv => whnf)
    rcases OC_c o2 with ⟨er, ey, hbad, f3, f4⟩ | ⟨y, ey, ⟨j1, j2, j3, j4⟩, f3, f4⟩
    · subst hbad
      refine And.intro (fun q => absurd q (by decide)) (fun _ => ?_)
      refine ⟨Or.inl rfl, T2, ?_⟩
      unfold landS
      rw [ex]
      show OC m m2 (bd (numS b e 0 40 x.2) _) _ _
      rw [ey]
      exact ⟨rfl, f3, f4⟩
    · refine And.intro (fun _ => ?_) (fun q => absurd (le_i.mpr (by omega)) q)
      have hB2 := hB1.fr hb S2.2.2 (by decide)
      have hN2 : (gI m2 738 1).toInt = B.1 0 := hB2.1 0 (by omega)
      (conv => whnf)
      refine ⟨1, by decide, _, r_add_738 hN2 (by omega), ?_⟩
      rintro r3 m3 ⟨q1, q2⟩
      subst q2
      have a1 := inc1 (k := gI m2 738 1) (by omega)
      (conv => whnf)
      refine And.intro (fun q => by rw [lt_i] at q; omega) (fun _ => ?_)
      (conv => whnf)
      refine And.intro (fun q => by rw [le_i] at q; omega) (fun _ => ?_)
      (conv => whnf)
      refine And.intro (vp_in_iff.mpr ⟨by omega, show r3.toInt < ((5 : Nat) : Int) by omega⟩) ?_
      have S3 : St [49912, 4294967296 * 2 + 738, 21448] m2 (sI (sI (sI m2 49912 (B.1 0) r1) 738 1 (gI m2 738 1 + 1)) 21448 r3.toNatClampNeg r2) :=
        (((St.rf S2.1).row (a := 49912) (k := B.1 0) (v := r1) rfl (by decide) (tI_lo _) (tI_hi _)).fld (a := 738) (k := 1) (v := gI m2 738 1 + 1) (by decide) (show (0 : Int) ≤ _ by omega) (show _ ≤ (5 : Int) by omega) (fun _ q => by omega)).row (a := 21448) (k := r3.toNatClampNeg) (v := r2) rfl (by decide) (tI_lo _) (tI_hi _)
      obtain ⟨c1, c2, c3⟩ := j4.fr S3 (by decide)
      refine ⟨Or.inr rfl, T2.tr S3 (by decide), ?_⟩
      unfold landS
      rw [ex]
      show OC m _ (bd (numS b e 0 40 x.2) _) _ _
      rw [ey]
      refine ⟨⟨rfl, c1, ?_⟩, c2.trans (f3.trans f1), c3.trans (f4.trans f2)⟩
      rw [nat_c q1, ← g1, ← j1]
      have R1 : BkR 720 (B.1, setR (setR B.2 0 (B.1 0) r1.toInt) 1 (B.1 0) r2.toInt) (sI (sI (sI m2 49912 (B.1 0) r1) 738 1 (gI m2 738 1 + 1)) 21448 (B.1 0) r2) :=
        BkR.row (r := 1) (BkR.fld (BkR.row (r := 0) hB2.2 hb (by omega) (fun q => by omega)) hb rfl) hb (by omega) (fun q => by omega)
      refine BkI.mk' R1 (by omega) (fun r hr hq => ?_) (fun j hj => ?_) ?_
      · rcases (by unfold own at hq; split at hq <;> (try split at hq) <;> (try split at hq) <;> omega : r = 0 ∨ r = 1) with rfl | rfl
        · simp [rowC, gI, sI, setR]
        · simp [rowC, gI, sI, setR]
      · rcases (by omega : j = 0 ∨ j = 1 ∨ j = 2 ∨ j = 3) with rfl | rfl | rfl | rfl
        · show (gI m2 738 1 + 1).toInt = ((B.1 0 + 1 : Nat) : Int)
          omega
        · exact hB2.1 1 (by omega)
        · exact hB2.1 2 (by omega)
        · exact hB2.1 3 (by omega)
      · obtain ⟨z1, z2, z3, z4, z5⟩ := R1.2
        exact ⟨by show B.1 0 + 1 ≤ 5; omega, z2, z3, z4, z5⟩
set_option maxRecDepth 100000 in
set_option maxHeartbeats 4000000 in
theorem r_good_720 (h : CR b e t m) (hB : BkI 720 B m) : CI 5 mX3_readGood [.ref 19, .ref 720] m (fun r m' => St wRdA m m' ∧ OC m m' (goodS b e B t) (r = 0) (fun x => r = 1 ∧ CR b e x.2 m' ∧ BkI 720 x.1 m')) := by
  have e0 : (0 : Int32).toInt = 0 := rfl
  have hb : isBk 720 := by unfold isBk; omega
  refine At.gs okX3_readGood 80 ?_
  (conv => whnf)
  refine ⟨4, by decide, _, r_new_770 (B := B) h (hB.1 1 (by omega)) hB.2.2.2.1 (hB.2.1 2 (by omega)), ?_⟩
  rintro r1 m1 ⟨S1, o1⟩
  have T1 : St wRdA m m1 := ⟨S1.1, S1.2.1, Fr_tr (Fr_rfl _ _) S1.2.2 (by decide)⟩
  (conv => whnf)
  rcases OC_c o1 with ⟨er, ex, hbad, f1, f2⟩ | ⟨x, ex, ⟨g1, g2, g3, g4⟩, f1, f2⟩
  · subst hbad
    refine And.intro (fun _ => ?_) (fun q => absurd (by decide) q)
    refine ⟨Or.inl rfl, T1, ?_⟩
    unfold goodS
    rw [ex]
    exact ⟨rfl, f1, f2⟩
  · refine And.intro (fun q => by rw [lt_i] at q; omega) (fun _ => ?_)
    have hB1 := hB.fr hb S1.2.2 (by decide)
    have hn5 : B.1 1 < 4 := by
      have := hB.2.2.2.1
      rcases Nat.lt_or_ge (B.1 1) 4 with q | q
      · exact q
      · unfold newL at ex
        rw [if_pos (show B.1 (own 2) = 4 by show B.1 1 = 4; omega)] at ex
        cases ex
    have hN2 : (gI m1 770 1).toInt = B.1 1 := hB1.1 1 (by omega)
    (conv => whnf)
    refine ⟨1, by decide, _, r_add_770 hN2 (by omega), ?_⟩
    rintro r3 m3 ⟨q1, q2⟩
    subst q2
    have a1 := inc1 (k := gI m1 770 1) (by omega)
    (conv => whnf)
    refine And.intro (fun q => by rw [lt_i] at q; omega) (fun _ => ?_)
    have S3 : St [49944, 4294967296 * 2 + 770] m1 (sI (sI m1 49944 (B.1 1) r1) 770 1 (gI m1 770 1 + 1)) :=
      ((St.rf S1.1).row (a := 49944) (k := B.1 1) (v := r1) rfl (by decide) (tI_lo _) (tI_hi _)).fld (a := 770) (k := 1) (v := gI m1 770 1 + 1) (by decide) (show (0 : Int) ≤ _ by omega) (show _ ≤ (12 : Int) by omega) (fun _ q => by omega)
    obtain ⟨c1, c2, c3⟩ := g4.fr S3 (by decide)
    refine ⟨Or.inr rfl, T1.tr S3 (by decide), ?_⟩
    unfold goodS
    rw [ex]
    refine ⟨⟨rfl, c1, ?_⟩, c2.trans f1, c3.trans f2⟩
    rw [← g1]
    have R1 : BkR 720 (B.1, setR B.2 2 (B.1 1) r1.toInt) (sI (sI m1 49944 (B.1 1) r1) 770 1 (gI m1 770 1 + 1)) :=
      BkR.fld (BkR.row (r := 2) hB1.2 hb (by omega) (fun q => by omega)) hb rfl
    refine BkI.mk' R1 (by omega) (fun r hr hq => ?_) (fun j hj => ?_) ?_
    · obtain rfl : r = 2 := by unfold own at hq; split at hq <;> (try split at hq) <;> (try split at hq) <;> omega
      simp [rowC, gI, sI, setR]
    · rcases (by omega : j = 0 ∨ j = 1 ∨ j = 2 ∨ j = 3) with rfl | rfl | rfl | rfl
      · exact hB1.1 0 (by omega)
      · show (gI m1 770 1 + 1).toInt = ((B.1 1 + 1 : Nat) : Int)
        omega
      · exact hB1.1 2 (by omega)
      · exact hB1.1 3 (by omega)
    · obtain ⟨z1, z2, z3, z4, z5⟩ := R1.2
      exact ⟨z1, by show B.1 1 + 1 ≤ 4; omega, z3, z4, z5⟩
end Ln
