/-! the class: the line of a firm; day, mark, a sale's row -/
section Fl
variable {b : BT} {e : Nat} {t : TK} {m : MM} {B : TB}
set_option maxRecDepth 100000 in
set_option maxHeartbeats 4000000 in
theorem r_firm_336 (h : CR b e t m) (hB : BkI 336 B m) : CI 6 mX3_readFirm [.ref 19, .ref 336] m (fun r m' => St wRdB m m' ∧ OC m m' (firmS b e B t) (r = 0) (fun x => r = 1 ∧ CR b e x.2 m' ∧ BkI 336 x.1 m')) := by
  have e0 : (0 : Int32).toInt = 0 := rfl
  have e400 : (400 : Int32).toInt = 400 := rfl
  have hb : isBk 336 := by unfold isBk; omega
  refine At.gs okX3_readFirm 100 ?_
  (conv => whnf)
  refine ⟨4, by decide, _, r_new_418 (B := B) h (hB.1 2 (by omega)) hB.2.2.2.2.1 (hB.2.1 3 (by omega)), ?_⟩
  rintro r1 m1 ⟨S1, o1⟩
  have T1 : St wRdB m m1 := ⟨S1.1, S1.2.1, Fr_tr (Fr_rfl _ _) S1.2.2 (by decide)⟩
  (conv => whnf)
  rcases OC_c o1 with ⟨er, ex, hbad, f1, f2⟩ | ⟨x, ex, ⟨g1, g2, g3, g4⟩, f1, f2⟩
  · subst hbad
    refine And.intro (fun q => absurd q (by decide)) (fun _ => ?_)
    refine ⟨Or.inl rfl, T1, ?_⟩
    unfold firmS
    rw [ex]
    exact ⟨rfl, f1, f2⟩
  · refine And.intro (fun _ => ?_) (fun q => absurd (le_i.mpr (by omega)) q)
    have hB1 := hB.fr hb S1.2.2 (by decide)
    have hn5 : B.1 2 < 12 := by
      have := hB.2.2.2.2.1
      rcases Nat.lt_or_ge (B.1 2) 12 with q | q
      · exact q
      · unfold newL at ex
        rw [if_pos (show B.1 (own 3) = 12 by show B.1 2 = 12; omega)] at ex
        cases ex
    (conv => whnf)
    refine ⟨4, by decide, _, r_told_354 (B := B) g4 (hB1.1 0 (by omega)) (by have := hB1.2.2.1; omega) (hB1.2.1 0 (by omega)), ?_⟩
    rintro r2 m2 ⟨S2, o2⟩
    have T2 : St wRdB m m2 := T1.tr S2 (by decide)
    (conv => whnf)
    rcases OC_c o2 with ⟨er, ey, hbad, f3, f4⟩ | ⟨l, ey, ⟨j1, j2, j3, j4, j5⟩, f3, f4⟩
    · subst hbad
      refine And.intro (fun q => absurd q (by decide)) (fun _ => ?_)
      refine ⟨Or.inl rfl, T2, ?_⟩
      unfold firmS
      rw [ex]
      show OC m m2 (bd (tolS B 0 x.2) _) _ _
      rw [ey]
      exact ⟨rfl, f3, f4⟩
    · refine And.intro (fun _ => ?_) (fun q => absurd (le_i.mpr (by omega)) q)
      have hB2 := hB1.fr hb S2.2.2 (by decide)
      (conv => whnf)
      refine ⟨4, by decide, _, r_num j5, ?_⟩
      rintro r3 m3 ⟨S3, o3⟩
      have T3 : St wRdB m m3 := T2.tr S3 (by decide)
      rw [e0, e400] at o3
      (conv => whnf)
      rcases OC_c o3 with ⟨er, ez, hbad, f5, f6⟩ | ⟨y, ez, ⟨i1, i2, i3, i4⟩, f5, f6⟩
      · subst hbad
        refine And.intro (fun q => absurd q (by decide)) (fun _ => ?_)
        refine ⟨Or.inl rfl, T3, ?_⟩
        unfold firmS
        rw [ex]
        show OC m m3 (bd (tolS B 0 x.2) _) _ _
        rw [ey]
        show OC m m3 (bd (numS b e 0 400 (nx b e x.2)) _) _ _
        rw [ez]
        exact ⟨rfl, f5, f6⟩
      · refine And.intro (fun _ => ?_) (fun q => absurd (le_i.mpr (by omega)) q)
        have hB3 := hB2.fr hb S3.2.2 (by decide)
        have hN3 : (gI m3 418 1).toInt = B.1 2 := hB3.1 2 (by omega)
        have eS : firmS b e B t = bd (tieS b e (B.1 2) (firmR B x.1 l y.1) y.2) fun u => bd (tieS b e (B.1 2) u.1 u.2) fun v => bd (tieS b e (B.1 2) v.1 v.2) fun w => .inr ((setN B.1 2 (B.1 2 + 1), w.1), w.2) := by
          unfold firmS
          rw [ex]
          show bd (tolS B 0 x.2) _ = _
          rw [ey]
          show bd (numS b e 0 400 (nx b e x.2)) _ = _
          rw [ez]
          rfl
        (conv => whnf)
        refine ⟨2, by decide, _, r_addF_336 hN3 hn5, ?_⟩
        rintro r4 m4 ⟨q1, q2⟩
        have a1 := inc1 (k := gI m3 418 1) (by omega)
        have hl5 := hB3.2.2.1
        have S4 : St [49592, 4294967296 * 2 + 418, 49752, 49768, 49784, 49800, 49816, 49835] m3 m4 := by
          rw [q2]
          exact ((((((((St.rf S3.1).row (a := 49592) (k := B.1 2) (v := r1) rfl (by decide) (tI_lo _) (tI_hi _)).fld (a := 418) (k := 1) (v := gI m3 418 1 + 1) (by decide) (show (0 : Int) ≤ _ by omega) (show _ ≤ (12 : Int) by omega) (fun _ q => by omega)).row (a := 49752) (k := B.1 2) (v := r2) rfl (by decide) (show (0 : Int) ≤ _ by omega) (show _ ≤ (4 : Int) by omega)).row (a := 49768) (k := B.1 2) (v := r3) rfl (by decide) (tI_lo _) (tI_hi _)).row (a := 49784) (k := B.1 2) (v := 0) rfl (by decide) (by decide) (by decide)).row (a := 49800) (k := B.1 2) (v := 0) rfl (by decide) (by decide) (by decide)).row (a := 49816) (k := B.1 2) (v := 0) rfl (by decide) (by decide) (by decide)).row (a := 49835) (k := B.1 2) (v := 0) rfl (by decide) (by decide) (by decide)
        have T4 : St wRdB m m4 := T3.tr S4 (by decide)
        obtain ⟨c1, c2, c3⟩ := i4.fr S4 (by decide)
        have R1 : BkR 336 (B.1, firmR B x.1 l y.1) m4 := by
          rw [q2, ← g1, ← j1, ← i1]
          exact BkR.row (r := 9) (BkR.row (r := 8) (BkR.row (r := 7) (BkR.row (r := 6) (BkR.row (r := 5) (BkR.row (r := 4) (BkR.fld (BkR.row (r := 3) hB3.2 hb (by omega) (fun q => Nat.le_refl _)) hb rfl) hb (by omega) (fun q => by omega)) hb (by omega) (fun q => by omega)) hb (by omega) (fun q => by omega)) hb (by omega) (fun q => by omega)) hb (by omega) (fun q => by omega)) hb (by omega) (fun q => by omega)
        have hB4 : BkI 336 (setN B.1 2 (B.1 2 + 1), firmR B x.1 l y.1) m4 := by
          refine BkI.mk' R1 (by omega) (fun r hr hq => ?_) (fun j hj => ?_) ?_
          · rw [q2, ← g1, ← j1, ← i1]
            rcases (by unfold own at hq; split at hq <;> (try split at hq) <;> (try split at hq) <;> omega : r = 3 ∨ r = 4 ∨ r = 5 ∨ r = 6 ∨ r = 7 ∨ r = 8 ∨ r = 9) with rfl | rfl | rfl | rfl | rfl | rfl | rfl
            · simp [rowC, gI, sI, setR, firmR]
            · simp [rowC, gI, sI, setR, firmR]
            · simp [rowC, gI, sI, setR, firmR]
            · simp [rowC, gI, sI, setR, firmR]
            · simp [rowC, gI, sI, setR, firmR]
            · simp [rowC, gI, sI, setR, firmR]
            · simp [rowC, gI, sI, setR, firmR]
          · rw [q2]
            rcases (by omega : j = 0 ∨ j = 1 ∨ j = 2 ∨ j = 3) with rfl | rfl | rfl | rfl
            · exact hB3.1 0 (by omega)
            · exact hB3.1 1 (by omega)
            · show (gI m3 418 1 + 1).toInt = ((B.1 2 + 1 : Nat) : Int)
              omega
            · exact hB3.1 3 (by omega)
          · obtain ⟨z1, z2, z3, z4, z5⟩ := R1.2
            refine ⟨z1, z2, by show B.1 2 + 1 ≤ 12; omega, z4, fun i hi => ?_⟩
            have hi : i < B.1 2 + 1 := hi
            by_cases q : i = B.1 2
            · rw [q]
              show lg (firmR B x.1 l y.1 3 (B.1 2)) = -1
              have : firmR B x.1 l y.1 3 (B.1 2) = x.1 := by simp [firmR, setR]
              rw [this]; exact g3
            · exact z5 i (by show i < B.1 2; omega)
        have k2 : gI m4 19 2 = gI m 19 2 := c2.trans (f5.trans (f3.trans f1))
        have k3 : gI m4 19 3 = gI m 19 3 := c3.trans (f6.trans (f4.trans f2))
        have hlt : B.1 2 < setN B.1 2 (B.1 2 + 1) 2 := by show B.1 2 < B.1 2 + 1; omega
        (conv => whnf)
        refine And.intro (fun q => by rw [lt_i] at q; omega) (fun _ => ?_)
        (conv => whnf)
        refine ⟨5, by decide, _, r_tie_336 c1 hB4 q1 hlt, ?_⟩
        rintro r5 m5 ⟨S5, o5⟩
        have T5 := T4.tr S5 (fun x hx => hx)
        (conv => whnf)
        rcases OC_c o5 with ⟨er, eu, hbad, u3, u4⟩ | ⟨u, eu, ⟨u1, u2, u5⟩, u3, u4⟩
        · subst hbad
          refine And.intro (fun _ => ?_) (fun q => absurd rfl q)
          refine ⟨Or.inl rfl, T5, ?_⟩
          rw [eS, eu]
          exact ⟨rfl, u3, u4⟩
        · subst u1
          refine And.intro (fun q => absurd q (by decide)) (fun _ => ?_)
          (conv => whnf)
          refine ⟨5, by decide, _, r_tie_336 u2 u5 q1 hlt, ?_⟩
          rintro r6 m6 ⟨S6, o6⟩
          have T6 := T5.tr S6 (fun x hx => hx)
          (conv => whnf)
          rcases OC_c o6 with ⟨er, ew, hbad, w3, w4⟩ | ⟨w, ew, ⟨w1, w2, w5⟩, w3, w4⟩
          · subst hbad
            refine And.intro (fun _ => ?_) (fun q => absurd rfl q)
            refine ⟨Or.inl rfl, T6, ?_⟩
            rw [eS, eu]
            show OC m m6 (bd (tieS b e (B.1 2) u.1 u.2) _) _ _
            rw [ew]
            exact ⟨rfl, w3, w4⟩
          · subst w1
            refine And.intro (fun q => absurd q (by decide)) (fun _ => ?_)
            (conv => whnf)
            refine ⟨5, by decide, _, r_tie_336 w2 w5 q1 hlt, ?_⟩
            rintro r7 m7 ⟨S7, o7⟩
            have T7 := T6.tr S7 (fun x hx => hx)
            (conv => whnf)
            rcases OC_c o7 with ⟨er, ev, hbad, v3, v4⟩ | ⟨v, ev, ⟨v1, v2, v5⟩, v3, v4⟩
            · subst hbad
              refine And.intro (fun _ => ?_) (fun q => absurd rfl q)
              refine ⟨Or.inl rfl, T7, ?_⟩
              rw [eS, eu]
              show OC m m7 (bd (tieS b e (B.1 2) u.1 u.2) _) _ _
              rw [ew]
              show OC m m7 (bd (tieS b e (B.1 2) w.1 w.2) _) _ _
              rw [ev]
              exact ⟨rfl, v3, v4⟩
            · subst v1
              refine And.intro (fun q => absurd q (by decide)) (fun _ => ?_)
              refine ⟨Or.inr rfl, T7, ?_⟩
              rw [eS, eu]
              show OC m m7 (bd (tieS b e (B.1 2) u.1 u.2) _) _ _
              rw [ew]
              show OC m m7 (bd (tieS b e (B.1 2) w.1 w.2) _) _ _
              rw [ev]
              exact ⟨⟨rfl, v2, v5⟩, v3.trans (w3.trans (u3.trans k2)), v4.trans (w4.trans (u4.trans k3))⟩
set_option maxRecDepth 100000 in
theorem r_since_336 {x y : Int32} (hx : 0 ≤ x.toInt ∧ x.toInt < 12) (hy : 0 ≤ y.toInt ∧ y.toInt < 12) : CI 1 mX0_sinceBoth [.ref 336, .int x, .int y] m (fun r m' => m' = m ∧ r = if gI m 49768 x.toNatClampNeg < gI m 49768 y.toNatClampNeg then gI m 49768 y.toNatClampNeg else gI m 49768 x.toNatClampNeg) := by
  refine At.gs okX0_sinceBoth 40 ?_
  (conv => whnf)
  refine And.intro (vp_in_iff.mpr ⟨hx.1, hx.2⟩) ?_
  (conv => whnf)
  refine And.intro (vp_in_iff.mpr ⟨hy.1, hy.2⟩) ?_
  exact ⟨rfl, rfl⟩
set_option maxRecDepth 100000 in
set_option maxHeartbeats 4000000 in
theorem r_addS_336 {v1 v2 v3 v4 v5 v6 v7 : Int32} {n : Nat} (hN : (gI m 452 7).toInt = n) (hn : n < 40) : CI 1 mX4_add [.ref 452, .int v1, .int v2, .int v3, .int v4, .int v5, .int v6, .int v7] m (fun r m' => r = 1 ∧ m' = sI (sI (sI (sI (sI (sI (sI (sI m 164312 n v1) 164328 n v2) 164344 n v3) 164360 n v4) 164376 n v5) 164392 n v6) 164408 n v7) 452 7 (gI m 452 7 + 1)) := by
  have hv : vp_in (gI m 452 7) 40 := vp_in_iff.mpr ⟨by omega, show (gI m 452 7).toInt < ((40 : Nat) : Int) by omega⟩
  have e40 : (40 : Int32).toInt = 40 := rfl
  refine At.gs okX4_add 80 ?_
  (conv => whnf)
  refine And.intro (fun h => ?_) (fun h => ?_)
  · (conv => whnf)
    refine And.intro hv ?_
    (conv => whnf)
    refine And.intro hv ?_
    (conv => whnf)
    refine And.intro hv ?_
    (conv => whnf)
    refine And.intro hv ?_
    (conv => whnf)
    refine And.intro hv ?_
    (conv => whnf)
    refine And.intro hv ?_
    (conv => whnf)
    refine And.intro hv ?_
    refine ⟨Or.inr rfl, rfl, ?_⟩
    show sI (sI (sI (sI (sI (sI (sI (sI m 164312 (gI m 452 7).toNatClampNeg v1) 164328 (gI m 452 7).toNatClampNeg v2) 164344 (gI m 452 7).toNatClampNeg v3) 164360 (gI m 452 7).toNatClampNeg v4) 164376 (gI m 452 7).toNatClampNeg v5) 164392 (gI m 452 7).toNatClampNeg v6) 164408 (gI m 452 7).toNatClampNeg v7) 452 7 (gI m 452 7 + 1) = _
    rw [nat_c hN]
  · have h : ¬ gI m 452 7 < 40 := h
    rw [lt_i] at h
    omega
set_option maxRecDepth 100000 in
set_option maxHeartbeats 4000000 in
theorem r_firm_720 (h : CR b e t m) (hB : BkI 720 B m) : CI 6 mX3_readFirm [.ref 19, .ref 720] m (fun r m' => St wRdA m m' ∧ OC m m' (firmS b e B t) (r = 0) (fun x => r = 1 ∧ CR b e x.2 m' ∧ BkI 720 x.1 m')) := by
  have e0 : (0 : Int32).toInt = 0 := rfl
  have e400 : (400 : Int32).toInt = 400 := rfl
  have hb : isBk 720 := by unfold isBk; omega
  refine At.gs okX3_readFirm 100 ?_
  (conv => whnf)
  refine ⟨4, by decide, _, r_new_802 (B := B) h (hB.1 2 (by omega)) hB.2.2.2.2.1 (hB.2.1 3 (by omega)), ?_⟩
  rintro r1 m1 ⟨S1, o1⟩
  have T1 : St wRdA m m1 := ⟨S1.1, S1.2.1, Fr_tr (Fr_rfl _ _) S1.2.2 (by decide)⟩
  (conv => whnf)
  rcases OC_c o1 with ⟨er, ex, hbad, f1, f2⟩ | ⟨x, ex, ⟨g1, g2, g3, g4⟩, f1, f2⟩
  · subst hbad
    refine And.intro (fun q => absurd q (by decide)) (fun _ => ?_)
    refine ⟨Or.inl rfl, T1, ?_⟩
    unfold firmS
    rw [ex]
    exact ⟨rfl, f1, f2⟩
  · refine And.intro (fun _ => ?_) (fun q => absurd (le_i.mpr (by omega)) q)
    have hB1 := hB.fr hb S1.2.2 (by decide)
    have hn5 : B.1 2 < 12 := by
      have := hB.2.2.2.2.1
      rcases Nat.lt_or_ge (B.1 2) 12 with q | q
      · exact q
      · unfold newL at ex
        rw [if_pos (show B.1 (own 3) = 12 by show B.1 2 = 12; omega)] at ex
        cases ex
    (conv => whnf)
    refine ⟨4, by decide, _, r_told_738 (B := B) g4 (hB1.1 0 (by omega)) (by have := hB1.2.2.1; omega) (hB1.2.1 0 (by omega)), ?_⟩
    rintro r2 m2 ⟨S2, o2⟩
    have T2 : St wRdA m m2 := T1.tr S2 (by decide)
    (conv => whnf)
    rcases OC_c o2 with ⟨er, ey, hbad, f3, f4⟩ | ⟨l, ey, ⟨j1, j2, j3, j4, j5⟩, f3, f4⟩
    · subst hbad
      refine And.intro (fun q => absurd q (by decide)) (fun _ => ?_)
      refine ⟨Or.inl rfl, T2, ?_⟩
      unfold firmS
      rw [ex]
      show OC m m2 (bd (tolS B 0 x.2) _) _ _
      rw [ey]
      exact ⟨rfl, f3, f4⟩
    · refine And.intro (fun _ => ?_) (fun q => absurd (le_i.mpr (by omega)) q)
      have hB2 := hB1.fr hb S2.2.2 (by decide)
      (conv => whnf)
      refine ⟨4, by decide, _, r_num j5, ?_⟩
      rintro r3 m3 ⟨S3, o3⟩
      have T3 : St wRdA m m3 := T2.tr S3 (by decide)
      rw [e0, e400] at o3
      (conv => whnf)
      rcases OC_c o3 with ⟨er, ez, hbad, f5, f6⟩ | ⟨y, ez, ⟨i1, i2, i3, i4⟩, f5, f6⟩
      · subst hbad
        refine And.intro (fun q => absurd q (by decide)) (fun _ => ?_)
        refine ⟨Or.inl rfl, T3, ?_⟩
        unfold firmS
        rw [ex]
        show OC m m3 (bd (tolS B 0 x.2) _) _ _
        rw [ey]
        show OC m m3 (bd (numS b e 0 400 (nx b e x.2)) _) _ _
        rw [ez]
        exact ⟨rfl, f5, f6⟩
      · refine And.intro (fun _ => ?_) (fun q => absurd (le_i.mpr (by omega)) q)
        have hB3 := hB2.fr hb S3.2.2 (by decide)
        have hN3 : (gI m3 802 1).toInt = B.1 2 := hB3.1 2 (by omega)
        have eS : firmS b e B t = bd (tieS b e (B.1 2) (firmR B x.1 l y.1) y.2) fun u => bd (tieS b e (B.1 2) u.1 u.2) fun v => bd (tieS b e (B.1 2) v.1 v.2) fun w => .inr ((setN B.1 2 (B.1 2 + 1), w.1), w.2) := by
          unfold firmS
          rw [ex]
          show bd (tolS B 0 x.2) _ = _
          rw [ey]
          show bd (numS b e 0 400 (nx b e x.2)) _ = _
          rw [ez]
          rfl
        (conv => whnf)
        refine ⟨2, by decide, _, r_addF_720 hN3 hn5, ?_⟩
        rintro r4 m4 ⟨q1, q2⟩
        have a1 := inc1 (k := gI m3 802 1) (by omega)
        have hl5 := hB3.2.2.1
        have S4 : St [49976, 4294967296 * 2 + 802, 50136, 50152, 50168, 50184, 50200, 50219] m3 m4 := by
          rw [q2]
          exact ((((((((St.rf S3.1).row (a := 49976) (k := B.1 2) (v := r1) rfl (by decide) (tI_lo _) (tI_hi _)).fld (a := 802) (k := 1) (v := gI m3 802 1 + 1) (by decide) (show (0 : Int) ≤ _ by omega) (show _ ≤ (12 : Int) by omega) (fun _ q => by omega)).row (a := 50136) (k := B.1 2) (v := r2) rfl (by decide) (show (0 : Int) ≤ _ by omega) (show _ ≤ (4 : Int) by omega)).row (a := 50152) (k := B.1 2) (v := r3) rfl (by decide) (tI_lo _) (tI_hi _)).row (a := 50168) (k := B.1 2) (v := 0) rfl (by decide) (by decide) (by decide)).row (a := 50184) (k := B.1 2) (v := 0) rfl (by decide) (by decide) (by decide)).row (a := 50200) (k := B.1 2) (v := 0) rfl (by decide) (by decide) (by decide)).row (a := 50219) (k := B.1 2) (v := 0) rfl (by decide) (by decide) (by decide)
        have T4 : St wRdA m m4 := T3.tr S4 (by decide)
        obtain ⟨c1, c2, c3⟩ := i4.fr S4 (by decide)
        have R1 : BkR 720 (B.1, firmR B x.1 l y.1) m4 := by
          rw [q2, ← g1, ← j1, ← i1]
          exact BkR.row (r := 9) (BkR.row (r := 8) (BkR.row (r := 7) (BkR.row (r := 6) (BkR.row (r := 5) (BkR.row (r := 4) (BkR.fld (BkR.row (r := 3) hB3.2 hb (by omega) (fun q => Nat.le_refl _)) hb rfl) hb (by omega) (fun q => by omega)) hb (by omega) (fun q => by omega)) hb (by omega) (fun q => by omega)) hb (by omega) (fun q => by omega)) hb (by omega) (fun q => by omega)) hb (by omega) (fun q => by omega)
        have hB4 : BkI 720 (setN B.1 2 (B.1 2 + 1), firmR B x.1 l y.1) m4 := by
          refine BkI.mk' R1 (by omega) (fun r hr hq => ?_) (fun j hj => ?_) ?_
          · rw [q2, ← g1, ← j1, ← i1]
            rcases (by unfold own at hq; split at hq <;> (try split at hq) <;> (try split at hq) <;> omega : r = 3 ∨ r = 4 ∨ r = 5 ∨ r = 6 ∨ r = 7 ∨ r = 8 ∨ r = 9) with rfl | rfl | rfl | rfl | rfl | rfl | rfl
            · simp [rowC, gI, sI, setR, firmR]
            · simp [rowC, gI, sI, setR, firmR]
            · simp [rowC, gI, sI, setR, firmR]
            · simp [rowC, gI, sI, setR, firmR]
            · simp [rowC, gI, sI, setR, firmR]
            · simp [rowC, gI, sI, setR, firmR]
            · simp [rowC, gI, sI, setR, firmR]
          · rw [q2]
            rcases (by omega : j = 0 ∨ j = 1 ∨ j = 2 ∨ j = 3) with rfl | rfl | rfl | rfl
            · exact hB3.1 0 (by omega)
            · exact hB3.1 1 (by omega)
            · show (gI m3 802 1 + 1).toInt = ((B.1 2 + 1 : Nat) : Int)
              omega
            · exact hB3.1 3 (by omega)
          · obtain ⟨z1, z2, z3, z4, z5⟩ := R1.2
            refine ⟨z1, z2, by show B.1 2 + 1 ≤ 12; omega, z4, fun i hi => ?_⟩
            have hi : i < B.1 2 + 1 := hi
            by_cases q : i = B.1 2
            · rw [q]
              show lg (firmR B x.1 l y.1 3 (B.1 2)) = -1
              have : firmR B x.1 l y.1 3 (B.1 2) = x.1 := by simp [firmR, setR]
              rw [this]; exact g3
            · exact z5 i (by show i < B.1 2; omega)
        have k2 : gI m4 19 2 = gI m 19 2 := c2.trans (f5.trans (f3.trans f1))
        have k3 : gI m4 19 3 = gI m 19 3 := c3.trans (f6.trans (f4.trans f2))
        have hlt : B.1 2 < setN B.1 2 (B.1 2 + 1) 2 := by show B.1 2 < B.1 2 + 1; omega
        (conv => whnf)
        refine And.intro (fun q => by rw [lt_i] at q; omega) (fun _ => ?_)
        (conv => whnf)
        refine ⟨5, by decide, _, r_tie_720 c1 hB4 q1 hlt, ?_⟩
        rintro r5 m5 ⟨S5, o5⟩
        have T5 := T4.tr S5 (fun x hx => hx)
        (conv => whnf)
        rcases OC_c o5 with ⟨er, eu, hbad, u3, u4⟩ | ⟨u, eu, ⟨u1, u2, u5⟩, u3, u4⟩
        · subst hbad
          refine And.intro (fun _ => ?_) (fun q => absurd rfl q)
          refine ⟨Or.inl rfl, T5, ?_⟩
          rw [eS, eu]
          exact ⟨rfl, u3, u4⟩
        · subst u1
          refine And.intro (fun q => absurd q (by decide)) (fun _ => ?_)
          (conv => whnf)
          refine ⟨5, by decide, _, r_tie_720 u2 u5 q1 hlt, ?_⟩
          rintro r6 m6 ⟨S6, o6⟩
          have T6 := T5.tr S6 (fun x hx => hx)
          (conv => whnf)
          rcases OC_c o6 with ⟨er, ew, hbad, w3, w4⟩ | ⟨w, ew, ⟨w1, w2, w5⟩, w3, w4⟩
          · subst hbad
            refine And.intro (fun _ => ?_) (fun q => absurd rfl q)
            refine ⟨Or.inl rfl, T6, ?_⟩
            rw [eS, eu]
            show OC m m6 (bd (tieS b e (B.1 2) u.1 u.2) _) _ _
            rw [ew]
            exact ⟨rfl, w3, w4⟩
          · subst w1
            refine And.intro (fun q => absurd q (by decide)) (fun _ => ?_)
            (conv => whnf)
            refine ⟨5, by decide, _, r_tie_720 w2 w5 q1 hlt, ?_⟩
            rintro r7 m7 ⟨S7, o7⟩
            have T7 := T6.tr S7 (fun x hx => hx)
            (conv => whnf)
            rcases OC_c o7 with ⟨er, ev, hbad, v3, v4⟩ | ⟨v, ev, ⟨v1, v2, v5⟩, v3, v4⟩
            · subst hbad
              refine And.intro (fun _ => ?_) (fun q => absurd rfl q)
              refine ⟨Or.inl rfl, T7, ?_⟩
              rw [eS, eu]
              show OC m m7 (bd (tieS b e (B.1 2) u.1 u.2) _) _ _
              rw [ew]
              show OC m m7 (bd (tieS b e (B.1 2) w.1 w.2) _) _ _
              rw [ev]
              exact ⟨rfl, v3, v4⟩
            · subst v1
              refine And.intro (fun q => absurd q (by decide)) (fun _ => ?_)
              refine ⟨Or.inr rfl, T7, ?_⟩
              rw [eS, eu]
              show OC m m7 (bd (tieS b e (B.1 2) u.1 u.2) _) _ _
              rw [ew]
              show OC m m7 (bd (tieS b e (B.1 2) w.1 w.2) _) _ _
              rw [ev]
              exact ⟨⟨rfl, v2, v5⟩, v3.trans (w3.trans (u3.trans k2)), v4.trans (w4.trans (u4.trans k3))⟩
set_option maxRecDepth 100000 in
theorem r_since_720 {x y : Int32} (hx : 0 ≤ x.toInt ∧ x.toInt < 12) (hy : 0 ≤ y.toInt ∧ y.toInt < 12) : CI 1 mX0_sinceBoth [.ref 720, .int x, .int y] m (fun r m' => m' = m ∧ r = if gI m 50152 x.toNatClampNeg < gI m 50152 y.toNatClampNeg then gI m 50152 y.toNatClampNeg else gI m 50152 x.toNatClampNeg) := by
  refine At.gs okX0_sinceBoth 40 ?_
  (conv => whnf)
  refine And.intro (vp_in_iff.mpr ⟨hx.1, hx.2⟩) ?_
  (conv => whnf)
  refine And.intro (vp_in_iff.mpr ⟨hy.1, hy.2⟩) ?_
  exact ⟨rfl, rfl⟩
set_option maxRecDepth 100000 in
set_option maxHeartbeats 4000000 in
theorem r_addS_720 {v1 v2 v3 v4 v5 v6 v7 : Int32} {n : Nat} (hN : (gI m 836 7).toInt = n) (hn : n < 40) : CI 1 mX4_add [.ref 836, .int v1, .int v2, .int v3, .int v4, .int v5, .int v6, .int v7] m (fun r m' => r = 1 ∧ m' = sI (sI (sI (sI (sI (sI (sI (sI m 164696 n v1) 164712 n v2) 164728 n v3) 164744 n v4) 164760 n v5) 164776 n v6) 164792 n v7) 836 7 (gI m 836 7 + 1)) := by
  have hv : vp_in (gI m 836 7) 40 := vp_in_iff.mpr ⟨by omega, show (gI m 836 7).toInt < ((40 : Nat) : Int) by omega⟩
  have e40 : (40 : Int32).toInt = 40 := rfl
  refine At.gs okX4_add 80 ?_
  (conv => whnf)
  refine And.intro (fun h => ?_) (fun h => ?_)
  · (conv => whnf)
    refine And.intro hv ?_
    (conv => whnf)
    refine And.intro hv ?_
    (conv => whnf)
    refine And.intro hv ?_
    (conv => whnf)
    refine And.intro hv ?_
    (conv => whnf)
    refine And.intro hv ?_
    (conv => whnf)
    refine And.intro hv ?_
    (conv => whnf)
    refine And.intro hv ?_
    refine ⟨Or.inr rfl, rfl, ?_⟩
    show sI (sI (sI (sI (sI (sI (sI (sI m 164696 (gI m 836 7).toNatClampNeg v1) 164712 (gI m 836 7).toNatClampNeg v2) 164728 (gI m 836 7).toNatClampNeg v3) 164744 (gI m 836 7).toNatClampNeg v4) 164760 (gI m 836 7).toNatClampNeg v5) 164776 (gI m 836 7).toNatClampNeg v6) 164792 (gI m 836 7).toNatClampNeg v7) 836 7 (gI m 836 7 + 1) = _
    rw [nat_c hN]
  · have h : ¬ gI m 836 7 < 40 := h
    rw [lt_i] at h
    omega
set_option maxRecDepth 100000 in
set_option maxHeartbeats 4000000 in
theorem r_mark (h : CR b e t m) : CI 5 mX3_readMark [.ref 19] m (fun r m' => St wNu m m' ∧ OC m m' (markS b e t) (r = -1) (fun x => r.toInt = x.1 ∧ 0 ≤ x.1 ∧ x.1 ≤ 99 ∧ CR b e x.2 m')) := by
  have e1 : (1 : Int32).toInt = 1 := rfl
  have e99 : (99 : Int32).toInt = 99 := rfl
  have eM : (437857280 : Int32).toInt = 437857280 := rfl
  obtain ⟨k1, k2, k3, k4⟩ := h.2.2.2.2.1
  have no : ¬ (t.1 = 1 ∧ lg t.2.2.1 = 8) → St wNu m m ∧ OC m m (markS b e t) ((0 : Int32) = -1) (fun x => (0 : Int32).toInt = x.1 ∧ 0 ≤ x.1 ∧ x.1 ≤ 99 ∧ CR b e x.2 m) := fun q => by
    refine ⟨St.rf h.1, ?_⟩
    unfold markS
    rw [if_neg q]
    exact ⟨⟨rfl, by show (0 : Int) ≤ 0; omega, by show (0 : Int) ≤ 99; omega, h⟩, rfl, rfl⟩
  refine At.gs okX3_readMark 60 ?_
  (conv => whnf)
  refine And.intro (fun h1 => ?_) (fun h1 => ?_)
  · have h1 : ¬ gI m 19 6 = 1 := h1
    exact no (fun q => h1 (Int32.toInt_inj.mp (by rw [k1, q.1]; rfl)))
  · have h1 : gI m 19 6 = 1 := h1
    have et : t.1 = 1 := by rw [h1] at k1; omega
    (conv => whnf)
    refine And.intro (fun h2 => ?_) (fun h2 => ?_)
    · have h2 : gI m 19 8 = 437857280 := h2
      have ev : lg t.2.2.1 = 8 := lg_8.mpr (by rw [← k3, h2, eM])
      (conv => whnf)
      refine ⟨3, by decide, _, r_adv h, ?_⟩
      rintro m1 ⟨S1, c1, f1, f2⟩
      (conv => whnf)
      refine ⟨4, by decide, _, r_num c1, ?_⟩
      rintro r2 m2 ⟨S2, o2⟩
      rw [e1, e99] at o2
      refine ⟨St.tr (W := wNu) ⟨S1.1, S1.2.1, Fr_tr (Fr_rfl _ _) S1.2.2 (by decide)⟩ S2 (fun x hx => hx), ?_⟩
      unfold markS
      rw [if_pos ⟨et, ev⟩]
      rcases OC_c o2 with ⟨er, ey, hbad, f3, f4⟩ | ⟨y, ey, ⟨j1, j2, j3, j4⟩, f3, f4⟩
      · rw [ey]
        exact ⟨hbad, f3, f4⟩
      · rw [ey]
        exact ⟨⟨j1, by omega, j3, j4⟩, f3.trans f1, f4.trans f2⟩
    · have h2 : ¬ gI m 19 8 = 437857280 := h2
      exact no (fun q => h2 (Int32.toInt_inj.mp (by rw [k3, eM]; exact lg_8.mp q.2)))
set_option maxRecDepth 100000 in
set_option maxHeartbeats 4000000 in
theorem r_day {since : Int32} (h : CR b e t m) : CI 5 mX3_readDay [.ref 19, .int since] m (fun r m' => St wNu m m' ∧ OC m m' (dayS b e since.toInt t) (r = -1) (fun x => r.toInt = x.1 ∧ 0 ≤ x.1 ∧ x.1 ≤ 400 ∧ CR b e x.2 m')) := by
  have e0 : (0 : Int32).toInt = 0 := rfl
  have e400 : (400 : Int32).toInt = 400 := rfl
  have eM : (136085504 : Int32).toInt = 136085504 := rfl
  obtain ⟨k1, k2, k3, k4⟩ := h.2.2.2.2.1
  have no : ¬ (t.1 = 1 ∧ lg t.2.2.1 = 7) → St wNu m (sI (sI m 19 2 1) 19 3 (gI m 19 7)) ∧ OC m (sI (sI m 19 2 1) 19 3 (gI m 19 7)) (dayS b e since.toInt t) ((-1 : Int32) = -1) (fun x => (-1 : Int32).toInt = x.1 ∧ 0 ≤ x.1 ∧ x.1 ≤ 400 ∧ CR b e x.2 (sI (sI m 19 2 1) 19 3 (gI m 19 7))) := fun q => by
    refine ⟨St_fail (St.rf h.1) (by decide) (by decide), ?_⟩
    unfold dayS
    rw [if_neg q]
    exact OC_fail h rfl rfl
  refine At.gs okX3_readDay 60 ?_
  (conv => whnf)
  refine And.intro (fun h1 => ?_) (fun h1 => ?_)
  · have h1 : ¬ gI m 19 6 = 1 := h1
    (conv => whnf)
    refine ⟨1, by decide, _, r_fail, ?_⟩
    rintro r2 m2 ⟨q1, q2⟩
    subst q2
    exact no (fun q => h1 (Int32.toInt_inj.mp (by rw [k1, q.1]; rfl)))
  · have h1 : gI m 19 6 = 1 := h1
    have et : t.1 = 1 := by have : (1 : Int32).toInt = 1 := rfl; rw [h1] at k1; omega
    (conv => whnf)
    refine And.intro (fun h2 => ?_) (fun h2 => ?_)
    · have h2 : gI m 19 8 = 136085504 := h2
      have ev : lg t.2.2.1 = 7 := lg_7.mpr (by rw [← k3, h2, eM])
      (conv => whnf)
      refine ⟨3, by decide, _, r_adv h, ?_⟩
      rintro m1 ⟨S1, c1, f1, f2⟩
      (conv => whnf)
      refine ⟨4, by decide, _, r_num c1, ?_⟩
      rintro r2 m2 ⟨S2, o2⟩
      rw [e0, e400] at o2
      have T2 : St wNu m m2 := St.tr (W := wNu) ⟨S1.1, S1.2.1, Fr_tr (Fr_rfl _ _) S1.2.2 (by decide)⟩ S2 (fun x hx => hx)
      have eS : dayS b e since.toInt t = bd (numS b e 0 400 (nx b e t)) fun x => if x.1 < since.toInt then .inl (5, (nx b e t).2.1) else .inr x := by
        unfold dayS
        rw [if_pos ⟨et, ev⟩]
      (conv => whnf)
      rcases OC_c o2 with ⟨er, ey, hbad, f3, f4⟩ | ⟨y, ey, ⟨j1, j2, j3, j4⟩, f3, f4⟩
      · subst hbad
        refine And.intro (fun _ => ?_) (fun q => absurd (by decide) q)
        refine ⟨T2, ?_⟩
        rw [eS, ey]
        exact ⟨rfl, f3, f4⟩
      · refine And.intro (fun q => by rw [lt_i] at q; omega) (fun _ => ?_)
        (conv => whnf)
        refine And.intro (fun q => ?_) (fun q => ?_)
        · rw [le_i] at q
          refine ⟨T2, ?_⟩
          rw [eS, ey]
          show OC m m2 (if y.1 < since.toInt then .inl (5, (nx b e t).2.1) else .inr y) _ _
          rw [if_neg (by omega)]
          exact ⟨⟨j1, j2, j3, j4⟩, f3.trans f1, f4.trans f2⟩
        · rw [le_i] at q
          refine ⟨(T2.fld (a := 19) (k := 2) (v := 5) (by decide) (by decide) (by decide) (fun _ q => by omega)).fld (a := 19) (k := 3) (v := gI m1 19 7) (by decide) (tI_lo _) (tI_hi _) (fun _ q => by omega), ?_⟩
          rw [eS, ey]
          show OC m _ (if y.1 < since.toInt then .inl (5, (nx b e t).2.1) else .inr y) _ _
          rw [if_pos (by omega)]
          exact ⟨rfl, rfl, c1.2.2.2.2.1.2.1⟩
    · have h2 : ¬ gI m 19 8 = 136085504 := h2
      (conv => whnf)
      refine ⟨1, by decide, _, r_fail, ?_⟩
      rintro r2 m2 ⟨q1, q2⟩
      subst q2
      exact no (fun q => h2 (Int32.toInt_inj.mp (by rw [k3, eM]; exact lg_7.mp q.2)))
end Fl
