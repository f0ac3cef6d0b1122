/-! the class: the lines of a sale, of a sum paid -/
def cdSl : List CE := stops [66] cdX3_readSale
theorem okSl : CodeOk mX3_readSale cdSl := okX3_readSale.st [66] (by rfl)
def cdPd : List CE := stops [43] cdX3_readPaid
theorem okPd : CodeOk mX3_readPaid cdPd := okX3_readPaid.st [43] (by rfl)
theorem tolS_in {B : TB} {r : Nat} {t : TK} {x : Int} (h : tolS B r t = .inr x) : t.1 = 1 ∧ lg t.2.2.1 = -1 ∧ x = fIx (B.2 r) t.2.2.1 (B.1 (own r)) 0 ∧ x ≠ -1 := by
  unfold tolS at h
  split at h
  · rename_i q
    split at h
    · cases h
    · rename_i q2
      cases h
      exact ⟨q.1, q.2, rfl, q2⟩
  · cases h
section Sl
variable {b : BT} {e : Nat} {t : TK} {m : MM} {B : TB}
set_option maxRecDepth 100000 in
set_option maxHeartbeats 8000000 in
theorem r_sale66_336 {r2 : Int32} {m2 : MM} {t2 : TK} {fr : Int} (c2 : CR b e t2 m2) (hB2 : BkI 336 B m2) (T2 : St wRdB m m2) (k2 : gI m2 19 2 = gI m 19 2) (k3 : gI m2 19 3 = gI m 19 3) (hr2 : r2.toInt = fr) (hfr : 0 ≤ fr ∧ fr < B.1 2) (hn : B.1 3 < 30) (hne : ∀ to, tolS B 3 t2 = .inr to → to ≠ fr)
    (eS : saleS b e B t = bd (tolS B 3 t2) fun to => if to = fr then .inl (3, t2.2.1) else bd (numS b e 1 999 (nx b e t2)) fun x => bd (tolS B 2 x.2) fun go => bd (numS b e 1 999 (nx b e x.2)) fun y => bd (dayS b e (if B.2 5 fr.toNat < B.2 5 to.toNat then B.2 5 to.toNat else B.2 5 fr.toNat) y.2) fun d => bd (markS b e d.2) fun k => .inr ((setN B.1 3 (B.1 3 + 1), saleR B fr to x.1 go y.1 d.1 k.1), k.2)) :
    At (E0 6) mX3_readSale (qi (fun r m' => St wRdB m m' ∧ OC m m' (saleS b e B t) (r = 0) (fun x => r = 1 ∧ CR b e x.2 m' ∧ BkI 336 x.1 m'))) 66 [.ref 19, .ref 336, .int r2, .null, .null, .null, .null, .null, .null] [] m2 := by
  have e0 : (0 : Int32).toInt = 0 := rfl
  have e1 : (1 : Int32).toInt = 1 := rfl
  have e999 : (999 : Int32).toInt = 999 := rfl
  have hb : isBk 336 := by unfold isBk; omega
  have h12 := hB2.2.2.2.2.1
  refine At.ls okSl 100 ⟨_, _, rfl⟩ ?_
  (conv => whnf)
  refine ⟨4, by decide, _, r_told_418 (B := B) c2 (hB2.1 2 (by omega)) (by omega) (hB2.2.1 3 (by omega)), ?_⟩
  rintro r3 m3 ⟨S3, o3⟩
  have T3 : St wRdB m m3 := T2.tr S3 (by decide)
  (conv => whnf)
  rcases OC_c o3 with ⟨er, ex, hbad, f1, f2⟩ | ⟨to, ex, ⟨g1, g2, g3, g4, g5⟩, f1, f2⟩
  · subst hbad
    refine And.intro (fun q => absurd q (by decide)) (fun _ => ?_)
    refine ⟨Or.inl rfl, T3, ?_⟩
    rw [eS, ex]
    exact ⟨rfl, f1, f2⟩
  · refine And.intro (fun _ => ?_) (fun q => absurd (le_i.mpr (by omega)) q)
    have hB3 := hB2.fr hb S3.2.2 (by decide)
    have htf : ¬ to = fr := hne to ex
    have eS : saleS b e B t = bd (numS b e 1 999 (nx b e t2)) fun x => bd (tolS B 2 x.2) fun go => bd (numS b e 1 999 (nx b e x.2)) fun y => bd (dayS b e (if B.2 5 fr.toNat < B.2 5 to.toNat then B.2 5 to.toNat else B.2 5 fr.toNat) y.2) fun d => bd (markS b e d.2) fun k => .inr ((setN B.1 3 (B.1 3 + 1), saleR B fr to x.1 go y.1 d.1 k.1), k.2) := by
      rw [eS, ex]
      show (if to = fr then _ else _) = _
      rw [if_neg htf]
    (conv => whnf)
    refine ⟨4, by decide, _, r_num g5, ?_⟩
    rintro r4 m4 ⟨S4, o4⟩
    have T4 : St wRdB m m4 := T3.tr S4 (by decide)
    rw [e1, e999] at o4
    (conv => whnf)
    rcases OC_c o4 with ⟨er, ey, hbad, f3, f4⟩ | ⟨x, ey, ⟨j1, j2, j3, j4⟩, f3, f4⟩
    · subst hbad
      refine And.intro (fun q => absurd q (by decide)) (fun _ => ?_)
      refine ⟨Or.inl rfl, T4, ?_⟩
      rw [eS, ey]
      exact ⟨rfl, f3, f4⟩
    · refine And.intro (fun _ => ?_) (fun q => absurd (le_i.mpr (by omega)) q)
      have hB4 := hB3.fr hb S4.2.2 (by decide)
      have eS : saleS b e B t = bd (tolS B 2 x.2) fun go => bd (numS b e 1 999 (nx b e x.2)) fun y => bd (dayS b e (if B.2 5 fr.toNat < B.2 5 to.toNat then B.2 5 to.toNat else B.2 5 fr.toNat) y.2) fun d => bd (markS b e d.2) fun k => .inr ((setN B.1 3 (B.1 3 + 1), saleR B fr to x.1 go y.1 d.1 k.1), k.2) := by
        rw [eS, ey]; rfl
      (conv => whnf)
      refine ⟨4, by decide, _, r_told_386 (B := B) j4 (hB4.1 1 (by omega)) (by have := hB4.2.2.2.1; omega) (hB4.2.1 2 (by omega)), ?_⟩
      rintro r5 m5 ⟨S5, o5⟩
      have T5 : St wRdB m m5 := T4.tr S5 (by decide)
      (conv => whnf)
      rcases OC_c o5 with ⟨er, ez, hbad, f5, f6⟩ | ⟨go, ez, ⟨i1, i2, i3, i4, i5⟩, f5, f6⟩
      · subst hbad
        refine And.intro (fun q => absurd q (by decide)) (fun _ => ?_)
        refine ⟨Or.inl rfl, T5, ?_⟩
        rw [eS, ez]
        exact ⟨rfl, f5, f6⟩
      · refine And.intro (fun _ => ?_) (fun q => absurd (le_i.mpr (by omega)) q)
        have hB5 := hB4.fr hb S5.2.2 (by decide)
        have eS : saleS b e B t = bd (numS b e 1 999 (nx b e x.2)) fun y => bd (dayS b e (if B.2 5 fr.toNat < B.2 5 to.toNat then B.2 5 to.toNat else B.2 5 fr.toNat) y.2) fun d => bd (markS b e d.2) fun k => .inr ((setN B.1 3 (B.1 3 + 1), saleR B fr to x.1 go y.1 d.1 k.1), k.2) := by
          rw [eS, ez]; rfl
        (conv => whnf)
        refine ⟨4, by decide, _, r_num i5, ?_⟩
        rintro r6 m6 ⟨S6, o6⟩
        have T6 : St wRdB m m6 := T5.tr S6 (by decide)
        rw [e1, e999] at o6
        (conv => whnf)
        rcases OC_c o6 with ⟨er, eu, hbad, f7, f8⟩ | ⟨y, eu, ⟨u1, u2, u3, u4⟩, f7, f8⟩
        · subst hbad
          refine And.intro (fun q => absurd q (by decide)) (fun _ => ?_)
          refine ⟨Or.inl rfl, T6, ?_⟩
          rw [eS, eu]
          exact ⟨rfl, f7, f8⟩
        · refine And.intro (fun _ => ?_) (fun q => absurd (le_i.mpr (by omega)) q)
          have hB6 := hB5.fr hb S6.2.2 (by decide)
          have eS : saleS b e B t = bd (dayS b e (if B.2 5 fr.toNat < B.2 5 to.toNat then B.2 5 to.toNat else B.2 5 fr.toNat) y.2) fun d => bd (markS b e d.2) fun k => .inr ((setN B.1 3 (B.1 3 + 1), saleR B fr to x.1 go y.1 d.1 k.1), k.2) := by
            rw [eS, eu]; rfl
          (conv => whnf)
          refine ⟨1, by decide, _, r_since_336 ⟨by omega, by omega⟩ ⟨by omega, by omega⟩, ?_⟩
          rintro r7 m' ⟨hmm, hs⟩; have hmm := hmm.symm; subst hmm
          have es : r7.toInt = (if B.2 5 fr.toNat < B.2 5 to.toNat then B.2 5 to.toNat else B.2 5 fr.toNat) := by
            have n1 : r2.toNatClampNeg = fr.toNat := by show r2.toInt.toNat = _; rw [hr2]
            have n2 : r3.toNatClampNeg = to.toNat := by show r3.toInt.toNat = _; rw [g1]
            have v1 : (gI m6 49768 fr.toNat).toInt = B.2 5 fr.toNat := hB6.2.1 5 (by omega) fr.toNat (by show fr.toNat < B.1 2; omega)
            have v2 : (gI m6 49768 to.toNat).toInt = B.2 5 to.toNat := hB6.2.1 5 (by omega) to.toNat (by show to.toNat < B.1 2; omega)
            rw [hs, n1, n2]
            by_cases q : gI m6 49768 fr.toNat < gI m6 49768 to.toNat
            · rw [if_pos q]
              rw [lt_i, v1, v2] at q
              rw [if_pos q, v2]
            · rw [if_neg q]
              rw [lt_i, v1, v2] at q
              rw [if_neg q, v1]
          (conv => whnf)
          refine ⟨5, by decide, _, r_day u4, ?_⟩
          rintro r8 m8 ⟨S8, o8⟩
          have T8 : St wRdB m m8 := T6.tr S8 (by decide)
          rw [es] at o8
          (conv => whnf)
          rcases OC_c o8 with ⟨er, ew, hbad, f9, f10⟩ | ⟨dd, ew, ⟨w1, w2, w3, w4⟩, f9, f10⟩
          · subst hbad
            refine And.intro (fun q => absurd q (by decide)) (fun _ => ?_)
            refine ⟨Or.inl rfl, T8, ?_⟩
            rw [eS, ew]
            exact ⟨rfl, f9, f10⟩
          · refine And.intro (fun _ => ?_) (fun q => absurd (le_i.mpr (by omega)) q)
            have hB8 := hB6.fr hb S8.2.2 (by decide)
            have eS : saleS b e B t = bd (markS b e dd.2) fun k => .inr ((setN B.1 3 (B.1 3 + 1), saleR B fr to x.1 go y.1 dd.1 k.1), k.2) := by
              rw [eS, ew]; rfl
            (conv => whnf)
            refine ⟨5, by decide, _, r_mark w4, ?_⟩
            rintro r9 m9 ⟨S9, o9⟩
            have T9 : St wRdB m m9 := T8.tr S9 (by decide)
            (conv => whnf)
            rcases OC_c o9 with ⟨er, ev, hbad, f11, f12⟩ | ⟨kk, ev, ⟨v1, v2, v3, v4⟩, f11, f12⟩
            · subst hbad
              refine And.intro (fun _ => ?_) (fun q => absurd (by decide) q)
              refine ⟨Or.inl rfl, T9, ?_⟩
              rw [eS, ev]
              exact ⟨rfl, f11, f12⟩
            · refine And.intro (fun q => by rw [lt_i] at q; omega) (fun _ => ?_)
              have hB9 := hB8.fr hb S9.2.2 (by decide)
              have hN9 : (gI m9 452 7).toInt = B.1 3 := hB9.1 3 (by omega)
              have a1 := inc1 (k := gI m9 452 7) (by omega)
              (conv => whnf)
              refine ⟨1, by decide, _, r_addS_336 hN9 (by omega), ?_⟩
              rintro r10 m10 ⟨q1, q2⟩
              subst q1
              have S10 : St [164312, 164328, 164344, 164360, 164376, 164392, 164408, 4294967296 * 8 + 452] m9 m10 := by
                rw [q2]
                exact ((((((((St.rf S9.1).row (a := 164312) (k := B.1 3) (v := r2) rfl (by decide) (show (0 : Int) ≤ _ by omega) (show _ ≤ (11 : Int) by omega)).row (a := 164328) (k := B.1 3) (v := r3) rfl (by decide) (show (0 : Int) ≤ _ by omega) (show _ ≤ (11 : Int) by omega)).row (a := 164344) (k := B.1 3) (v := r4) rfl (by decide) (tI_lo _) (tI_hi _)).row (a := 164360) (k := B.1 3) (v := r5) rfl (by decide) (tI_lo _) (tI_hi _)).row (a := 164376) (k := B.1 3) (v := r6) rfl (by decide) (tI_lo _) (tI_hi _)).row (a := 164392) (k := B.1 3) (v := r8) rfl (by decide) (tI_lo _) (tI_hi _)).row (a := 164408) (k := B.1 3) (v := r9) rfl (by decide) (tI_lo _) (tI_hi _)).fld (a := 452) (k := 7) (v := gI m9 452 7 + 1) (by decide) (show (0 : Int) ≤ _ by omega) (show _ ≤ (40 : Int) by omega) (fun _ q => by omega)
              obtain ⟨c1, c2', c3⟩ := v4.fr S10 (by decide)
              (conv => whnf)
              refine And.intro (fun q => absurd q (by decide)) (fun _ => ?_)
              refine ⟨Or.inr rfl, T9.tr S10 (by decide), ?_⟩
              rw [eS, ev]
              refine ⟨⟨rfl, c1, ?_⟩, c2'.trans (f11.trans (f9.trans (f7.trans (f5.trans (f3.trans (f1.trans k2)))))), c3.trans (f12.trans (f10.trans (f8.trans (f6.trans (f4.trans (f2.trans k3))))))⟩
              rw [q2, ← hr2, ← g1, ← j1, ← i1, ← u1, ← w1, ← v1]
              have R1 : BkR 336 (B.1, saleR B r2.toInt r3.toInt r4.toInt r5.toInt r6.toInt r8.toInt r9.toInt) (sI (sI (sI (sI (sI (sI (sI (sI m9 164312 (B.1 3) r2) 164328 (B.1 3) r3) 164344 (B.1 3) r4) 164360 (B.1 3) r5) 164376 (B.1 3) r6) 164392 (B.1 3) r8) 164408 (B.1 3) r9) 452 7 (gI m9 452 7 + 1)) :=
                BkR.fld (BkR.row (r := 16) (BkR.row (r := 15) (BkR.row (r := 14) (BkR.row (r := 13) (BkR.row (r := 12) (BkR.row (r := 11) (BkR.row (r := 10) hB9.2 hb (by omega) (fun q => by omega)) hb (by omega) (fun q => by omega)) hb (by omega) (fun q => by omega)) hb (by omega) (fun q => by omega)) hb (by omega) (fun q => by omega)) hb (by omega) (fun q => by omega)) hb (by omega) (fun q => by omega)) hb rfl
              refine BkI.mk' R1 (by omega) (fun r hr hq => ?_) (fun j hj => ?_) ?_
              · rcases (by unfold own at hq; split at hq <;> (try split at hq) <;> (try split at hq) <;> omega : r = 10 ∨ r = 11 ∨ r = 12 ∨ r = 13 ∨ r = 14 ∨ r = 15 ∨ r = 16) with rfl | rfl | rfl | rfl | rfl | rfl | rfl
                · simp [rowC, gI, sI, setR, saleR]
                · simp [rowC, gI, sI, setR, saleR]
                · simp [rowC, gI, sI, setR, saleR]
                · simp [rowC, gI, sI, setR, saleR]
                · simp [rowC, gI, sI, setR, saleR]
                · simp [rowC, gI, sI, setR, saleR]
                · simp [rowC, gI, sI, setR, saleR]
              · rcases (by omega : j = 0 ∨ j = 1 ∨ j = 2 ∨ j = 3) with rfl | rfl | rfl | rfl
                · exact hB9.1 0 (by omega)
                · exact hB9.1 1 (by omega)
                · exact hB9.1 2 (by omega)
                · show (gI m9 452 7 + 1).toInt = ((B.1 3 + 1 : Nat) : Int)
                  omega
              · obtain ⟨z1, z2, z3, z4, z5⟩ := R1.2
                exact ⟨z1, z2, z3, by show B.1 3 + 1 ≤ 30; omega, z5⟩
set_option maxRecDepth 100000 in
set_option maxHeartbeats 8000000 in
theorem r_sale_336 (h : CR b e t m) (hB : BkI 336 B m) : CI 6 mX3_readSale [.ref 19, .ref 336] m (fun r m' => St wRdB m m' ∧ OC m m' (saleS b e B t) (r = 0) (fun x => r = 1 ∧ CR b e x.2 m' ∧ BkI 336 x.1 m')) := by
  have e0 : (0 : Int32).toInt = 0 := rfl
  have e30 : (30 : Int32).toInt = 30 := rfl
  have hb : isBk 336 := by unfold isBk; omega
  have h12 := hB.2.2.2.2.1
  have hN : (gI m 452 7).toInt = B.1 3 := hB.1 3 (by omega)
  have h30 := hB.2.2.2.2.2.1
  refine At.gs okSl 100 ?_
  (conv => whnf)
  refine And.intro (fun h0 => ?_) (fun h0 => ?_)
  · have h0 : gI m 452 7 < 30 := h0
    rw [lt_i] at h0
    have eS : saleS b e B t = bd (tolS B 3 (nx b e t)) fun fr => bd (tolS B 3 (nx b e (nx b e t))) fun to => if to = fr then .inl (3, (nx b e (nx b e t)).2.1) else bd (numS b e 1 999 (nx b e (nx b e (nx b e t)))) fun x => bd (tolS B 2 x.2) fun go => bd (numS b e 1 999 (nx b e x.2)) fun y => bd (dayS b e (if B.2 5 fr.toNat < B.2 5 to.toNat then B.2 5 to.toNat else B.2 5 fr.toNat) y.2) fun d => bd (markS b e d.2) fun k => .inr ((setN B.1 3 (B.1 3 + 1), saleR B fr to x.1 go y.1 d.1 k.1), k.2) := by
      unfold saleS
      rw [if_neg (by omega)]
    (conv => whnf)
    refine ⟨3, by decide, _, r_adv h, ?_⟩
    rintro m1 ⟨S1, c1, f1, f2⟩
    have T1 : St wRdB m m1 := ⟨S1.1, S1.2.1, Fr_tr (Fr_rfl _ _) S1.2.2 (by decide)⟩
    have hB1 := hB.fr hb S1.2.2 (by decide)
    (conv => whnf)
    refine ⟨4, by decide, _, r_told_418 (B := B) c1 (hB1.1 2 (by omega)) (by omega) (hB1.2.1 3 (by omega)), ?_⟩
    rintro r2 m2 ⟨S2, o2⟩
    have T2 : St wRdB m m2 := T1.tr S2 (by decide)
    (conv => whnf)
    rcases OC_c o2 with ⟨er, ex, hbad, f3, f4⟩ | ⟨fr, ex, ⟨g1, g2, g3, g4, g5⟩, f3, f4⟩
    · subst hbad
      refine And.intro (fun q => absurd q (by decide)) (fun _ => ?_)
      refine ⟨Or.inl rfl, T2, ?_⟩
      rw [eS, ex]
      exact ⟨rfl, f3, f4⟩
    · refine And.intro (fun _ => ?_) (fun q => absurd (le_i.mpr (by omega)) q)
      have hB2 := hB1.fr hb S2.2.2 (by decide)
      obtain ⟨k1, k2, k3, k4⟩ := g5.2.2.2.2.1
      have eS' : saleS b e B t = bd (tolS B 3 (nx b e (nx b e t))) fun to => if to = fr then .inl (3, (nx b e (nx b e t)).2.1) else bd (numS b e 1 999 (nx b e (nx b e (nx b e t)))) fun x => bd (tolS B 2 x.2) fun go => bd (numS b e 1 999 (nx b e x.2)) fun y => bd (dayS b e (if B.2 5 fr.toNat < B.2 5 to.toNat then B.2 5 to.toNat else B.2 5 fr.toNat) y.2) fun d => bd (markS b e d.2) fun k => .inr ((setN B.1 3 (B.1 3 + 1), saleR B fr to x.1 go y.1 d.1 k.1), k.2) := by
        rw [eS, ex]; rfl
      (conv => whnf)
      refine And.intro (fun h1 => ?_) (fun h1 => ?_)
      · have h1 : ¬ gI m2 19 6 = 1 := h1
        (conv => whnf)
        exact And.intro rfl (r_sale66_336 g5 hB2 T2 (f3.trans f1) (f4.trans f2) g1 ⟨g2, g3⟩ (by omega) (fun to q => absurd (Int32.toInt_inj.mp (by rw [k1, (tolS_in q).1]; rfl)) h1) eS')
      · have h1 : gI m2 19 6 = 1 := h1
        have et : (nx b e (nx b e t)).1 = 1 := by have : (1 : Int32).toInt = 1 := rfl; rw [h1] at k1; omega
        have hN2 : (gI m2 418 1).toInt = B.1 2 := hB2.1 2 (by omega)
        have ix : fIx (fun i => (gI m2 49592 i).toInt) (gI m2 19 8).toInt (gI m2 418 1).toInt.toNat 0 = fIx (B.2 3) (nx b e (nx b e t)).2.2.1 (B.1 2) 0 := by
          rw [k3, hN2, Int.toNat_natCast]
          exact fIx_cg _ _ (fun i hi => hB2.2.1 3 (by omega) i (by show i < B.1 2; omega))
        (conv => whnf)
        refine ⟨1, by decide, _, r_find_418 (by omega) (by omega), ?_⟩
        rintro r3 m' ⟨hmm, hf⟩; have hmm := hmm.symm; subst hmm
        have hf : r3.toInt = fIx (fun i => (gI m2 49592 i).toInt) (gI m2 19 8).toInt (gI m2 418 1).toInt.toNat 0 := hf
        rw [ix] at hf
        (conv => whnf)
        refine And.intro (fun h3 => ?_) (fun h3 => ?_)
        · have h3 : ¬ r3 = r2 := h3
          (conv => whnf)
          exact And.intro rfl (r_sale66_336 g5 hB2 T2 (f3.trans f1) (f4.trans f2) g1 ⟨g2, g3⟩ (by omega) (fun to q z => h3 (Int32.toInt_inj.mp (by rw [hf, g1, ← z]; exact (tolS_in q).2.2.1.symm))) eS')
        · have h3 : r3 = r2 := h3
          have hi := (fIx_in (f := B.2 3) (v := (nx b e (nx b e t)).2.2.1) (B.1 2) 0).resolve_left (by rw [← hf, h3, g1]; omega)
          have hl : lg (nx b e (nx b e t)).2.2.1 = -1 := by
            rw [← hi.2.2]
            exact hB2.2.2.2.2.2.2 _ (by omega)
          have et' : tolS B 3 (nx b e (nx b e t)) = .inr fr := by
            unfold tolS
            rw [if_pos ⟨et, hl⟩, show own 3 = 2 from rfl, ← hf, h3, g1, if_neg (by omega)]
          (conv => whnf)
          refine ⟨1, by decide, _, r_fail, ?_⟩
          rintro r4 m4 ⟨q1, q2⟩
          subst q1
          subst q2
          refine ⟨Or.inl rfl, St_fail T2 (by decide) (by decide), ?_⟩
          rw [eS', et']
          show OC m _ (if fr = fr then _ else _) _ _
          rw [if_pos rfl]
          exact OC_fail g5 rfl rfl
  · have h0 : ¬ gI m 452 7 < 30 := h0
    rw [lt_i] at h0
    (conv => whnf)
    refine ⟨1, by decide, _, r_fail, ?_⟩
    rintro r4 m4 ⟨q1, q2⟩
    subst q1
    subst q2
    refine ⟨Or.inl rfl, St_fail (St.rf h.1) (by decide) (by decide), ?_⟩
    unfold saleS
    rw [if_pos (by omega)]
    exact OC_fail h rfl rfl
set_option maxRecDepth 100000 in
set_option maxHeartbeats 8000000 in
theorem r_sale66_720 {r2 : Int32} {m2 : MM} {t2 : TK} {fr : Int} (c2 : CR b e t2 m2) (hB2 : BkI 720 B m2) (T2 : St wRdA m m2) (k2 : gI m2 19 2 = gI m 19 2) (k3 : gI m2 19 3 = gI m 19 3) (hr2 : r2.toInt = fr) (hfr : 0 ≤ fr ∧ fr < B.1 2) (hn : B.1 3 < 30) (hne : ∀ to, tolS B 3 t2 = .inr to → to ≠ fr)
    (eS : saleS b e B t = bd (tolS B 3 t2) fun to => if to = fr then .inl (3, t2.2.1) else bd (numS b e 1 999 (nx b e t2)) fun x => bd (tolS B 2 x.2) fun go => bd (numS b e 1 999 (nx b e x.2)) fun y => bd (dayS b e (if B.2 5 fr.toNat < B.2 5 to.toNat then B.2 5 to.toNat else B.2 5 fr.toNat) y.2) fun d => bd (markS b e d.2) fun k => .inr ((setN B.1 3 (B.1 3 + 1), saleR B fr to x.1 go y.1 d.1 k.1), k.2)) :
    At (E0 6) mX3_readSale (qi (fun r m' => St wRdA m m' ∧ OC m m' (saleS b e B t) (r = 0) (fun x => r = 1 ∧ CR b e x.2 m' ∧ BkI 720 x.1 m'))) 66 [.ref 19, .ref 720, .int r2, .null, .null, .null, .null, .null, .null] [] m2 := by
  have e0 : (0 : Int32).toInt = 0 := rfl
  have e1 : (1 : Int32).toInt = 1 := rfl
  have e999 : (999 : Int32).toInt = 999 := rfl
  have hb : isBk 720 := by unfold isBk; omega
  have h12 := hB2.2.2.2.2.1
  refine At.ls okSl 100 ⟨_, _, rfl⟩ ?_
  (conv => whnf)
  refine ⟨4, by decide, _, r_told_802 (B := B) c2 (hB2.1 2 (by omega)) (by omega) (hB2.2.1 3 (by omega)), ?_⟩
  rintro r3 m3 ⟨S3, o3⟩
  have T3 : St wRdA m m3 := T2.tr S3 (by decide)
  (conv => whnf)
  rcases OC_c o3 with ⟨er, ex, hbad, f1, f2⟩ | ⟨to, ex, ⟨g1, g2, g3, g4, g5⟩, f1, f2⟩
  · subst hbad
    refine And.intro (fun q => absurd q (by decide)) (fun _ => ?_)
    refine ⟨Or.inl rfl, T3, ?_⟩
    rw [eS, ex]
    exact ⟨rfl, f1, f2⟩
  · refine And.intro (fun _ => ?_) (fun q => absurd (le_i.mpr (by omega)) q)
    have hB3 := hB2.fr hb S3.2.2 (by decide)
    have htf : ¬ to = fr := hne to ex
    have eS : saleS b e B t = bd (numS b e 1 999 (nx b e t2)) fun x => bd (tolS B 2 x.2) fun go => bd (numS b e 1 999 (nx b e x.2)) fun y => bd (dayS b e (if B.2 5 fr.toNat < B.2 5 to.toNat then B.2 5 to.toNat else B.2 5 fr.toNat) y.2) fun d => bd (markS b e d.2) fun k => .inr ((setN B.1 3 (B.1 3 + 1), saleR B fr to x.1 go y.1 d.1 k.1), k.2) := by
      rw [eS, ex]
      show (if to = fr then _ else _) = _
      rw [if_neg htf]
    (conv => whnf)
    refine ⟨4, by decide, _, r_num g5, ?_⟩
    rintro r4 m4 ⟨S4, o4⟩
    have T4 : St wRdA m m4 := T3.tr S4 (by decide)
    rw [e1, e999] at o4
    (conv => whnf)
    rcases OC_c o4 with ⟨er, ey, hbad, f3, f4⟩ | ⟨x, ey, ⟨j1, j2, j3, j4⟩, f3, f4⟩
    · subst hbad
      refine And.intro (fun q => absurd q (by decide)) (fun _ => ?_)
      refine ⟨Or.inl rfl, T4, ?_⟩
      rw [eS, ey]
      exact ⟨rfl, f3, f4⟩
    · refine And.intro (fun _ => ?_) (fun q => absurd (le_i.mpr (by omega)) q)
      have hB4 := hB3.fr hb S4.2.2 (by decide)
      have eS : saleS b e B t = bd (tolS B 2 x.2) fun go => bd (numS b e 1 999 (nx b e x.2)) fun y => bd (dayS b e (if B.2 5 fr.toNat < B.2 5 to.toNat then B.2 5 to.toNat else B.2 5 fr.toNat) y.2) fun d => bd (markS b e d.2) fun k => .inr ((setN B.1 3 (B.1 3 + 1), saleR B fr to x.1 go y.1 d.1 k.1), k.2) := by
        rw [eS, ey]; rfl
      (conv => whnf)
      refine ⟨4, by decide, _, r_told_770 (B := B) j4 (hB4.1 1 (by omega)) (by have := hB4.2.2.2.1; omega) (hB4.2.1 2 (by omega)), ?_⟩
      rintro r5 m5 ⟨S5, o5⟩
      have T5 : St wRdA m m5 := T4.tr S5 (by decide)
      (conv => whnf)
      rcases OC_c o5 with ⟨er, ez, hbad, f5, f6⟩ | ⟨go, ez, ⟨i1, i2, i3, i4, i5⟩, f5, f6⟩
      · subst hbad
        refine And.intro (fun q => absurd q (by decide)) (fun _ => ?_)
        refine ⟨Or.inl rfl, T5, ?_⟩
        rw [eS, ez]
        exact ⟨rfl, f5, f6⟩
      · refine And.intro (fun _ => ?_) (fun q => absurd (le_i.mpr (by omega)) q)
        have hB5 := hB4.fr hb S5.2.2 (by decide)
        have eS : saleS b e B t = bd (numS b e 1 999 (nx b e x.2)) fun y => bd (dayS b e (if B.2 5 fr.toNat < B.2 5 to.toNat then B.2 5 to.toNat else B.2 5 fr.toNat) y.2) fun d => bd (markS b e d.2) fun k => .inr ((setN B.1 3 (B.1 3 + 1), saleR B fr to x.1 go y.1 d.1 k.1), k.2) := by
          rw [eS, ez]; rfl
        (conv => whnf)
        refine ⟨4, by decide, _, r_num i5, ?_⟩
        rintro r6 m6 ⟨S6, o6⟩
        have T6 : St wRdA m m6 := T5.tr S6 (by decide)
        rw [e1, e999] at o6
        (conv => whnf)
        rcases OC_c o6 with ⟨er, eu, hbad, f7, f8⟩ | ⟨y, eu, ⟨u1, u2, u3, u4⟩, f7, f8⟩
        · subst hbad
          refine And.intro (fun q => absurd q (by decide)) (fun _ => ?_)
          refine ⟨Or.inl rfl, T6, ?_⟩
          rw [eS, eu]
          exact ⟨rfl, f7, f8⟩
        · refine And.intro (fun _ => ?_) (fun q => absurd (le_i.mpr (by omega)) q)
          have hB6 := hB5.fr hb S6.2.2 (by decide)
          have eS : saleS b e B t = bd (dayS b e (if B.2 5 fr.toNat < B.2 5 to.toNat then B.2 5 to.toNat else B.2 5 fr.toNat) y.2) fun d => bd (markS b e d.2) fun k => .inr ((setN B.1 3 (B.1 3 + 1), saleR B fr to x.1 go y.1 d.1 k.1), k.2) := by
            rw [eS, eu]; rfl
          (conv => whnf)
          refine ⟨1, by decide, _, r_since_720 ⟨by omega, by omega⟩ ⟨by omega, by omega⟩, ?_⟩
          rintro r7 m' ⟨hmm, hs⟩; have hmm := hmm.symm; subst hmm
          have es : r7.toInt = (if B.2 5 fr.toNat < B.2 5 to.toNat then B.2 5 to.toNat else B.2 5 fr.toNat) := by
            have n1 : r2.toNatClampNeg = fr.toNat := by show r2.toInt.toNat = _; rw [hr2]
            have n2 : r3.toNatClampNeg = to.toNat := by show r3.toInt.toNat = _; rw [g1]
            have v1 : (gI m6 50152 fr.toNat).toInt = B.2 5 fr.toNat := hB6.2.1 5 (by omega) fr.toNat (by show fr.toNat < B.1 2; omega)
            have v2 : (gI m6 50152 to.toNat).toInt = B.2 5 to.toNat := hB6.2.1 5 (by omega) to.toNat (by show to.toNat < B.1 2; omega)
            rw [hs, n1, n2]
            by_cases q : gI m6 50152 fr.toNat < gI m6 50152 to.toNat
            · rw [if_pos q]
              rw [lt_i, v1, v2] at q
              rw [if_pos q, v2]
            · rw [if_neg q]
              rw [lt_i, v1, v2] at q
              rw [if_neg q, v1]
          (conv => whnf)
          refine ⟨5, by decide, _, r_day u4, ?_⟩
          rintro r8 m8 ⟨S8, o8⟩
          have T8 : St wRdA m m8 := T6.tr S8 (by decide)
          rw [es] at o8
          (conv => whnf)
          rcases OC_c o8 with ⟨er, ew, hbad, f9, f10⟩ | ⟨dd, ew, ⟨w1, w2, w3, w4⟩, f9, f10⟩
          · subst hbad
            refine And.intro (fun q => absurd q (by decide)) (fun _ => ?_)
            refine ⟨Or.inl rfl, T8, ?_⟩
            rw [eS, ew]
            exact ⟨rfl, f9, f10⟩
          · refine And.intro (fun _ => ?_) (fun q => absurd (le_i.mpr (by omega)) q)
            have hB8 := hB6.fr hb S8.2.2 (by decide)
            have eS : saleS b e B t = bd (markS b e dd.2) fun k => .inr ((setN B.1 3 (B.1 3 + 1), saleR B fr to x.1 go y.1 dd.1 k.1), k.2) := by
              rw [eS, ew]; rfl
            (conv => whnf)
            refine ⟨5, by decide, _, r_mark w4, ?_⟩
            rintro r9 m9 ⟨S9, o9⟩
            have T9 : St wRdA m m9 := T8.tr S9 (by decide)
            (conv => whnf)
            rcases OC_c o9 with ⟨er, ev, hbad, f11, f12⟩ | ⟨kk, ev, ⟨v1, v2, v3, v4⟩, f11, f12⟩
            · subst hbad
              refine And.intro (fun _ => ?_) (fun q => absurd (by decide) q)
              refine ⟨Or.inl rfl, T9, ?_⟩
              rw [eS, ev]
              exact ⟨rfl, f11, f12⟩
            · refine And.intro (fun q => by rw [lt_i] at q; omega) (fun _ => ?_)
              have hB9 := hB8.fr hb S9.2.2 (by decide)
              have hN9 : (gI m9 836 7).toInt = B.1 3 := hB9.1 3 (by omega)
              have a1 := inc1 (k := gI m9 836 7) (by omega)
              (conv => whnf)
              refine ⟨1, by decide, _, r_addS_720 hN9 (by omega), ?_⟩
              rintro r10 m10 ⟨q1, q2⟩
              subst q1
              have S10 : St [164696, 164712, 164728, 164744, 164760, 164776, 164792, 4294967296 * 8 + 836] m9 m10 := by
                rw [q2]
                exact ((((((((St.rf S9.1).row (a := 164696) (k := B.1 3) (v := r2) rfl (by decide) (show (0 : Int) ≤ _ by omega) (show _ ≤ (11 : Int) by omega)).row (a := 164712) (k := B.1 3) (v := r3) rfl (by decide) (show (0 : Int) ≤ _ by omega) (show _ ≤ (11 : Int) by omega)).row (a := 164728) (k := B.1 3) (v := r4) rfl (by decide) (tI_lo _) (tI_hi _)).row (a := 164744) (k := B.1 3) (v := r5) rfl (by decide) (tI_lo _) (tI_hi _)).row (a := 164760) (k := B.1 3) (v := r6) rfl (by decide) (tI_lo _) (tI_hi _)).row (a := 164776) (k := B.1 3) (v := r8) rfl (by decide) (tI_lo _) (tI_hi _)).row (a := 164792) (k := B.1 3) (v := r9) rfl (by decide) (tI_lo _) (tI_hi _)).fld (a := 836) (k := 7) (v := gI m9 836 7 + 1) (by decide) (show (0 : Int) ≤ _ by omega) (show _ ≤ (40 : Int) by omega) (fun _ q => by omega)
              obtain ⟨c1, c2', c3⟩ := v4.fr S10 (by decide)
              (conv => whnf)
              refine And.intro (fun q => absurd q (by decide)) (fun _ => ?_)
              refine ⟨Or.inr rfl, T9.tr S10 (by decide), ?_⟩
              rw [eS, ev]
              refine ⟨⟨rfl, c1, ?_⟩, c2'.trans (f11.trans (f9.trans (f7.trans (f5.trans (f3.trans (f1.trans k2)))))), c3.trans (f12.trans (f10.trans (f8.trans (f6.trans (f4.trans (f2.trans k3))))))⟩
              rw [q2, ← hr2, ← g1, ← j1, ← i1, ← u1, ← w1, ← v1]
              have R1 : BkR 720 (B.1, saleR B r2.toInt r3.toInt r4.toInt r5.toInt r6.toInt r8.toInt r9.toInt) (sI (sI (sI (sI (sI (sI (sI (sI m9 164696 (B.1 3) r2) 164712 (B.1 3) r3) 164728 (B.1 3) r4) 164744 (B.1 3) r5) 164760 (B.1 3) r6) 164776 (B.1 3) r8) 164792 (B.1 3) r9) 836 7 (gI m9 836 7 + 1)) :=
                BkR.fld (BkR.row (r := 16) (BkR.row (r := 15) (BkR.row (r := 14) (BkR.row (r := 13) (BkR.row (r := 12) (BkR.row (r := 11) (BkR.row (r := 10) hB9.2 hb (by omega) (fun q => by omega)) hb (by omega) (fun q => by omega)) hb (by omega) (fun q => by omega)) hb (by omega) (fun q => by omega)) hb (by omega) (fun q => by omega)) hb (by omega) (fun q => by omega)) hb (by omega) (fun q => by omega)) hb rfl
              refine BkI.mk' R1 (by omega) (fun r hr hq => ?_) (fun j hj => ?_) ?_
              · rcases (by unfold own at hq; split at hq <;> (try split at hq) <;> (try split at hq) <;> omega : r = 10 ∨ r = 11 ∨ r = 12 ∨ r = 13 ∨ r = 14 ∨ r = 15 ∨ r = 16) with rfl | rfl | rfl | rfl | rfl | rfl | rfl
                · simp [rowC, gI, sI, setR, saleR]
                · simp [rowC, gI, sI, setR, saleR]
                · simp [rowC, gI, sI, setR, saleR]
                · simp [rowC, gI, sI, setR, saleR]
                · simp [rowC, gI, sI, setR, saleR]
                · simp [rowC, gI, sI, setR, saleR]
                · simp [rowC, gI, sI, setR, saleR]
              · rcases (by omega : j = 0 ∨ j = 1 ∨ j = 2 ∨ j = 3) with rfl | rfl | rfl | rfl
                · exact hB9.1 0 (by omega)
                · exact hB9.1 1 (by omega)
                · exact hB9.1 2 (by omega)
                · show (gI m9 836 7 + 1).toInt = ((B.1 3 + 1 : Nat) : Int)
                  omega
              · obtain ⟨z1, z2, z3, z4, z5⟩ := R1.2
                exact ⟨z1, z2, z3, by show B.1 3 + 1 ≤ 30; omega, z5⟩
set_option maxRecDepth 100000 in
set_option maxHeartbeats 8000000 in
theorem r_sale_720 (h : CR b e t m) (hB : BkI 720 B m) : CI 6 mX3_readSale [.ref 19, .ref 720] m (fun r m' => St wRdA m m' ∧ OC m m' (saleS b e B t) (r = 0) (fun x => r = 1 ∧ CR b e x.2 m' ∧ BkI 720 x.1 m')) := by
  have e0 : (0 : Int32).toInt = 0 := rfl
  have e30 : (30 : Int32).toInt = 30 := rfl
  have hb : isBk 720 := by unfold isBk; omega
  have h12 := hB.2.2.2.2.1
  have hN : (gI m 836 7).toInt = B.1 3 := hB.1 3 (by omega)
  have h30 := hB.2.2.2.2.2.1
  refine At.gs okSl 100 ?_
  (conv => whnf)
  refine And.intro (fun h0 => ?_) (fun h0 => ?_)
  · have h0 : gI m 836 7 < 30 := h0
    rw [lt_i] at h0
    have eS : saleS b e B t = bd (tolS B 3 (nx b e t)) fun fr => bd (tolS B 3 (nx b e (nx b e t))) fun to => if to = fr then .inl (3, (nx b e (nx b e t)).2.1) else bd (numS b e 1 999 (nx b e (nx b e (nx b e t)))) fun x => bd (tolS B 2 x.2) fun go => bd (numS b e 1 999 (nx b e x.2)) fun y => bd (dayS b e (if B.2 5 fr.toNat < B.2 5 to.toNat then B.2 5 to.toNat else B.2 5 fr.toNat) y.2) fun d => bd (markS b e d.2) fun k => .inr ((setN B.1 3 (B.1 3 + 1), saleR B fr to x.1 go y.1 d.1 k.1), k.2) := by
      unfold saleS
      rw [if_neg (by omega)]
    (conv => whnf)
    refine ⟨3, by decide, _, r_adv h, ?_⟩
    rintro m1 ⟨S1, c1, f1, f2⟩
    have T1 : St wRdA m m1 := ⟨S1.1, S1.2.1, Fr_tr (Fr_rfl _ _) S1.2.2 (by decide)⟩
    have hB1 := hB.fr hb S1.2.2 (by decide)
    (conv => whnf)
    refine ⟨4, by decide, _, r_told_802 (B := B) c1 (hB1.1 2 (by omega)) (by omega) (hB1.2.1 3 (by omega)), ?_⟩
    rintro r2 m2 ⟨S2, o2⟩
    have T2 : St wRdA m m2 := T1.tr S2 (by decide)
    (conv => whnf)
    rcases OC_c o2 with ⟨er, ex, hbad, f3, f4⟩ | ⟨fr, ex, ⟨g1, g2, g3, g4, g5⟩, f3, f4⟩
    · subst hbad
      refine And.intro (fun q => absurd q (by decide)) (fun _ => ?_)
      refine ⟨Or.inl rfl, T2, ?_⟩
      rw [eS, ex]
      exact ⟨rfl, f3, f4⟩
    · refine And.intro (fun _ => ?_) (fun q => absurd (le_i.mpr (by omega)) q)
      have hB2 := hB1.fr hb S2.2.2 (by decide)
      obtain ⟨k1, k2, k3, k4⟩ := g5.2.2.2.2.1
      have eS' : saleS b e B t = bd (tolS B 3 (nx b e (nx b e t))) fun to => if to = fr then .inl (3, (nx b e (nx b e t)).2.1) else bd (numS b e 1 999 (nx b e (nx b e (nx b e t)))) fun x => bd (tolS B 2 x.2) fun go => bd (numS b e 1 999 (nx b e x.2)) fun y => bd (dayS b e (if B.2 5 fr.toNat < B.2 5 to.toNat then B.2 5 to.toNat else B.2 5 fr.toNat) y.2) fun d => bd (markS b e d.2) fun k => .inr ((setN B.1 3 (B.1 3 + 1), saleR B fr to x.1 go y.1 d.1 k.1), k.2) := by
        rw [eS, ex]; rfl
      (conv => whnf)
      refine And.intro (fun h1 => ?_) (fun h1 => ?_)
      · have h1 : ¬ gI m2 19 6 = 1 := h1
        (conv => whnf)
        exact And.intro rfl (r_sale66_720 g5 hB2 T2 (f3.trans f1) (f4.trans f2) g1 ⟨g2, g3⟩ (by omega) (fun to q => absurd (Int32.toInt_inj.mp (by rw [k1, (tolS_in q).1]; rfl)) h1) eS')
      · have h1 : gI m2 19 6 = 1 := h1
        have et : (nx b e (nx b e t)).1 = 1 := by have : (1 : Int32).toInt = 1 := rfl; rw [h1] at k1; omega
        have hN2 : (gI m2 802 1).toInt = B.1 2 := hB2.1 2 (by omega)
        have ix : fIx (fun i => (gI m2 49976 i).toInt) (gI m2 19 8).toInt (gI m2 802 1).toInt.toNat 0 = fIx (B.2 3) (nx b e (nx b e t)).2.2.1 (B.1 2) 0 := by
          rw [k3, hN2, Int.toNat_natCast]
          exact fIx_cg _ _ (fun i hi => hB2.2.1 3 (by omega) i (by show i < B.1 2; omega))
        (conv => whnf)
        refine ⟨1, by decide, _, r_find_802 (by omega) (by omega), ?_⟩
        rintro r3 m' ⟨hmm, hf⟩; have hmm := hmm.symm; subst hmm
        have hf : r3.toInt = fIx (fun i => (gI m2 49976 i).toInt) (gI m2 19 8).toInt (gI m2 802 1).toInt.toNat 0 := hf
        rw [ix] at hf
        (conv => whnf)
        refine And.intro (fun h3 => ?_) (fun h3 => ?_)
        · have h3 : ¬ r3 = r2 := h3
          (conv => whnf)
          exact And.intro rfl (r_sale66_720 g5 hB2 T2 (f3.trans f1) (f4.trans f2) g1 ⟨g2, g3⟩ (by omega) (fun to q z => h3 (Int32.toInt_inj.mp (by rw [hf, g1, ← z]; exact (tolS_in q).2.2.1.symm))) eS')
        · have h3 : r3 = r2 := h3
          have hi := (fIx_in (f := B.2 3) (v := (nx b e (nx b e t)).2.2.1) (B.1 2) 0).resolve_left (by rw [← hf, h3, g1]; omega)
          have hl : lg (nx b e (nx b e t)).2.2.1 = -1 := by
            rw [← hi.2.2]
            exact hB2.2.2.2.2.2.2 _ (by omega)
          have et' : tolS B 3 (nx b e (nx b e t)) = .inr fr := by
            unfold tolS
            rw [if_pos ⟨et, hl⟩, show own 3 = 2 from rfl, ← hf, h3, g1, if_neg (by omega)]
          (conv => whnf)
          refine ⟨1, by decide, _, r_fail, ?_⟩
          rintro r4 m4 ⟨q1, q2⟩
          subst q1
          subst q2
          refine ⟨Or.inl rfl, St_fail T2 (by decide) (by decide), ?_⟩
          rw [eS', et']
          show OC m _ (if fr = fr then _ else _) _ _
          rw [if_pos rfl]
          exact OC_fail g5 rfl rfl
  · have h0 : ¬ gI m 836 7 < 30 := h0
    rw [lt_i] at h0
    (conv => whnf)
    refine ⟨1, by decide, _, r_fail, ?_⟩
    rintro r4 m4 ⟨q1, q2⟩
    subst q1
    subst q2
    refine ⟨Or.inl rfl, St_fail (St.rf h.1) (by decide) (by decide), ?_⟩
    unfold saleS
    rw [if_pos (by omega)]
    exact OC_fail h rfl rfl
end Sl
