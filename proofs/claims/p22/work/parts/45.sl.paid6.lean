/-! the class: a sum paid, the end of a line; tokens go on -/
section Pd
variable {b : BT} {e : Nat} {t : TK} {m : MM} {B : TB}
set_option maxRecDepth 100000 in
set_option maxHeartbeats 8000000 in
theorem r_paid43_336 {v2 v3 : Value} {m1 : MM} {t1 : TK} (c1 : CR b e t1 m1) (hB1 : BkI 336 B m1) (T1 : St wRdB m m1) (k2 : gI m1 19 2 = gI m 19 2) (k3 : gI m1 19 3 = gI m 19 3) (hne : ∀ f, tolS B 3 t1 = .inr f → B.2 9 f.toNat = 0)
    (eS : paidS b e B t = bd (tolS B 3 t1) fun f => if B.2 9 f.toNat ≠ 0 then .inl (3, t1.2.1) else bd (numS b e 0 999999 (nx b e t1)) fun x => .inr ((B.1, setR (setR B.2 8 f.toNat x.1) 9 f.toNat 1), x.2)) :
    At (E0 5) mX3_readPaid (qi (fun r m' => St wRdB m m' ∧ OC m m' (paidS b e B t) (r = 0) (fun x => r = 1 ∧ CR b e x.2 m' ∧ BkI 336 x.1 m'))) 43 [.ref 19, .ref 336, v2, v3] [] m1 := by
  have e0 : (0 : Int32).toInt = 0 := rfl
  have e9 : (999999 : Int32).toInt = 999999 := rfl
  have hb : isBk 336 := by unfold isBk; omega
  have h12 := hB1.2.2.2.2.1
  refine At.ls okPd 100 ⟨_, _, rfl⟩ ?_
  (conv => whnf)
  refine ⟨4, by decide, _, r_told_418 (B := B) c1 (hB1.1 2 (by omega)) (by omega) (hB1.2.1 3 (by omega)), ?_⟩
  rintro r2 m2 ⟨S2, o2⟩
  have T2 : St wRdB m m2 := T1.tr S2 (by decide)
  (conv => whnf)
  rcases OC_c o2 with ⟨er, ex, hbad, f1, f2⟩ | ⟨f, ex, ⟨g1, g2, g3, g4, g5⟩, f1, f2⟩
  · subst hbad
    refine And.intro (fun q => absurd q (by decide)) (fun _ => ?_)
    refine ⟨Or.inl rfl, T2, ?_⟩
    rw [eS, ex]
    exact ⟨rfl, f1, f2⟩
  · refine And.intro (fun _ => ?_) (fun q => absurd (le_i.mpr (by omega)) q)
    have hB2 := hB1.fr hb S2.2.2 (by decide)
    have eS : paidS b e B t = bd (numS b e 0 999999 (nx b e t1)) fun x => .inr ((B.1, setR (setR B.2 8 f.toNat x.1) 9 f.toNat 1), x.2) := by
      rw [eS, ex]
      show (if B.2 9 f.toNat ≠ 0 then _ else _) = _
      rw [if_neg (fun z => z (hne f ex))]
    have hv : vp_in r2 12 := vp_in_iff.mpr ⟨by omega, show r2.toInt < ((12 : Nat) : Int) by omega⟩
    have n1 : r2.toNatClampNeg = f.toNat := by show r2.toInt.toNat = _; rw [g1]
    (conv => whnf)
    refine ⟨4, by decide, _, r_num g5, ?_⟩
    rintro r4 m4 ⟨S4, o4⟩
    have T4 : St wRdB m m4 := T2.tr S4 (by decide)
    rw [e0, e9] at o4
    (conv => whnf)
    rcases OC_c o4 with ⟨er, ey, hbad, f3, f4⟩ | ⟨x, ey, ⟨j1, j2, j3, j4⟩, f3, f4⟩
    · subst hbad
      refine And.intro (fun q => absurd q (by decide)) (fun _ => ?_)
      refine ⟨Or.inl rfl, T4, ?_⟩
      rw [eS, ey]
      exact ⟨rfl, f3, f4⟩
    · refine And.intro (fun _ => ?_) (fun q => absurd (le_i.mpr (by omega)) q)
      have hB4 := hB2.fr hb S4.2.2 (by decide)
      (conv => whnf)
      refine And.intro hv ?_
      (conv => whnf)
      refine And.intro hv ?_
      rw [n1]
      have S5 : St [49816, 49835] m4 (sI (sI m4 49816 f.toNat r4) 49835 f.toNat 1) :=
        ((St.rf S4.1).row (a := 49816) (k := f.toNat) (v := r4) rfl (by decide) (tI_lo _) (tI_hi _)).row (a := 49835) (k := f.toNat) (v := 1) rfl (by decide) (by decide) (by decide)
      obtain ⟨c1', c2, c3⟩ := j4.fr S5 (by decide)
      refine ⟨Or.inr rfl, T4.tr S5 (by decide), ?_⟩
      rw [eS, ey]
      refine ⟨⟨rfl, c1', fun k hk => ?_, ?_⟩, c2.trans (f3.trans (f1.trans k2)), c3.trans (f4.trans (f2.trans k3))⟩
      · rcases (by omega : k = 0 ∨ k = 1 ∨ k = 2 ∨ k = 3) with rfl | rfl | rfl | rfl
        · exact hB4.1 0 (by omega)
        · exact hB4.1 1 (by omega)
        · exact hB4.1 2 (by omega)
        · exact hB4.1 3 (by omega)
      · rw [← j1]
        exact BkR.row (r := 9) (v := 1) (BkR.row (r := 8) hB4.2 hb (by omega) (fun q => by omega)) hb (by omega) (fun q => by omega)
set_option maxRecDepth 100000 in
set_option maxHeartbeats 8000000 in
theorem r_paid_336 (h : CR b e t m) (hB : BkI 336 B m) : CI 5 mX3_readPaid [.ref 19, .ref 336] m (fun r m' => St wRdB m m' ∧ OC m m' (paidS b e B t) (r = 0) (fun x => r = 1 ∧ CR b e x.2 m' ∧ BkI 336 x.1 m')) := by
  have e0 : (0 : Int32).toInt = 0 := rfl
  have hb : isBk 336 := by unfold isBk; omega
  have h12 := hB.2.2.2.2.1
  refine At.gs okPd 100 ?_
  (conv => whnf)
  refine ⟨3, by decide, _, r_adv h, ?_⟩
  rintro m1 ⟨S1, c1, f1, f2⟩
  have T1 : St wRdB m m1 := ⟨S1.1, S1.2.1, Fr_tr (Fr_rfl _ _) S1.2.2 (by decide)⟩
  have hB1 := hB.fr hb S1.2.2 (by decide)
  obtain ⟨k1, k2, k3, k4⟩ := c1.2.2.2.2.1
  have eS : paidS b e B t = bd (tolS B 3 (nx b e t)) fun f => if B.2 9 f.toNat ≠ 0 then .inl (3, (nx b e t).2.1) else bd (numS b e 0 999999 (nx b e (nx b e t))) fun x => .inr ((B.1, setR (setR B.2 8 f.toNat x.1) 9 f.toNat 1), x.2) := rfl
  (conv => whnf)
  refine And.intro (fun h1 => ?_) (fun h1 => ?_)
  · have h1 : ¬ gI m1 19 6 = 1 := h1
    (conv => whnf)
    exact And.intro rfl (r_paid43_336 c1 hB1 T1 f1 f2 (fun f q => absurd (Int32.toInt_inj.mp (by rw [k1, (tolS_in q).1]; rfl)) h1) eS)
  · have h1 : gI m1 19 6 = 1 := h1
    have et : (nx b e t).1 = 1 := by have : (1 : Int32).toInt = 1 := rfl; rw [h1] at k1; omega
    have hN1 : (gI m1 418 1).toInt = B.1 2 := hB1.1 2 (by omega)
    have ix : fIx (fun i => (gI m1 49592 i).toInt) (gI m1 19 8).toInt (gI m1 418 1).toInt.toNat 0 = fIx (B.2 3) (nx b e t).2.2.1 (B.1 2) 0 := by
      rw [k3, hN1, Int.toNat_natCast]
      exact fIx_cg _ _ (fun i hi => hB1.2.1 3 (by omega) i (by show i < B.1 2; omega))
    (conv => whnf)
    refine ⟨1, by decide, _, r_find_418 (by omega) (by omega), ?_⟩
    rintro r3 m' ⟨hmm, hf⟩; have hmm := hmm.symm; subst hmm
    have hf : r3.toInt = fIx (fun i => (gI m1 49592 i).toInt) (gI m1 19 8).toInt (gI m1 418 1).toInt.toNat 0 := hf
    rw [ix] at hf
    (conv => whnf)
    refine And.intro (fun h3 => ?_) (fun h3 => ?_)
    · rw [lt_i] at h3
      (conv => whnf)
      exact And.intro rfl (r_paid43_336 c1 hB1 T1 f1 f2 (fun f q => by
        have z := tolS_in q
        have z2 : f = fIx (B.2 3) (nx b e t).2.2.1 (B.1 2) 0 := z.2.2.1
        have hi := (fIx_in (f := B.2 3) (v := (nx b e t).2.2.1) (B.1 2) 0).resolve_left (by rw [← z2]; exact z.2.2.2)
        omega) eS)
    · rw [lt_i] at h3
      have hi := (fIx_in (f := B.2 3) (v := (nx b e t).2.2.1) (B.1 2) 0).resolve_left (by rw [← hf]; omega)
      have hv : vp_in r3 12 := vp_in_iff.mpr ⟨by omega, show r3.toInt < ((12 : Nat) : Int) by omega⟩
      have n1 : r3.toNatClampNeg = r3.toInt.toNat := rfl
      have v9 : (gI m1 49835 r3.toInt.toNat).toInt = B.2 9 r3.toInt.toNat := hB1.2.1 9 (by omega) _ (by show r3.toInt.toNat < B.1 2; omega)
      (conv => whnf)
      refine And.intro hv ?_
      (conv => whnf)
      refine And.intro (fun h4 => ?_) (fun h4 => ?_)
      · have h4 : gI m1 49835 r3.toNatClampNeg = 0 := h4
        (conv => whnf)
        exact And.intro rfl (r_paid43_336 c1 hB1 T1 f1 f2 (fun f q => by
          have z2 : f = fIx (B.2 3) (nx b e t).2.2.1 (B.1 2) 0 := (tolS_in q).2.2.1
          rw [z2, ← hf, ← v9, ← n1, h4]; rfl) eS)
      · have h4 : ¬ gI m1 49835 r3.toNatClampNeg = 0 := h4
        have hl : lg (nx b e t).2.2.1 = -1 := by
          rw [← hi.2.2]
          exact hB1.2.2.2.2.2.2 _ (by omega)
        have et' : tolS B 3 (nx b e t) = .inr r3.toInt := by
          unfold tolS
          rw [if_pos ⟨et, hl⟩, show own 3 = 2 from rfl, ← hf, if_neg (by omega)]
        (conv => whnf)
        refine ⟨1, by decide, _, r_fail, ?_⟩
        rintro r4 m4 ⟨q1, q2⟩
        subst q1
        subst q2
        refine ⟨Or.inl rfl, St_fail T1 (by decide) (by decide), ?_⟩
        rw [eS, et']
        show OC m _ (if B.2 9 r3.toInt.toNat ≠ 0 then _ else _) _ _
        rw [if_pos (fun z => h4 (Int32.toInt_inj.mp (by rw [n1, v9, z]; rfl)))]
        exact OC_fail c1 rfl rfl
set_option maxRecDepth 100000 in
set_option maxHeartbeats 8000000 in
theorem r_paid43_720 {v2 v3 : Value} {m1 : MM} {t1 : TK} (c1 : CR b e t1 m1) (hB1 : BkI 720 B m1) (T1 : St wRdA m m1) (k2 : gI m1 19 2 = gI m 19 2) (k3 : gI m1 19 3 = gI m 19 3) (hne : ∀ f, tolS B 3 t1 = .inr f → B.2 9 f.toNat = 0)
    (eS : paidS b e B t = bd (tolS B 3 t1) fun f => if B.2 9 f.toNat ≠ 0 then .inl (3, t1.2.1) else bd (numS b e 0 999999 (nx b e t1)) fun x => .inr ((B.1, setR (setR B.2 8 f.toNat x.1) 9 f.toNat 1), x.2)) :
    At (E0 5) mX3_readPaid (qi (fun r m' => St wRdA m m' ∧ OC m m' (paidS b e B t) (r = 0) (fun x => r = 1 ∧ CR b e x.2 m' ∧ BkI 720 x.1 m'))) 43 [.ref 19, .ref 720, v2, v3] [] m1 := by
  have e0 : (0 : Int32).toInt = 0 := rfl
  have e9 : (999999 : Int32).toInt = 999999 := rfl
  have hb : isBk 720 := by unfold isBk; omega
  have h12 := hB1.2.2.2.2.1
  refine At.ls okPd 100 ⟨_, _, rfl⟩ ?_
  (conv => whnf)
  refine ⟨4, by decide, _, r_told_802 (B := B) c1 (hB1.1 2 (by omega)) (by omega) (hB1.2.1 3 (by omega)), ?_⟩
  rintro r2 m2 ⟨S2, o2⟩
  have T2 : St wRdA m m2 := T1.tr S2 (by decide)
  (conv => whnf)
  rcases OC_c o2 with ⟨er, ex, hbad, f1, f2⟩ | ⟨f, ex, ⟨g1, g2, g3, g4, g5⟩, f1, f2⟩
  · subst hbad
    refine And.intro (fun q => absurd q (by decide)) (fun _ => ?_)
    refine ⟨Or.inl rfl, T2, ?_⟩
    rw [eS, ex]
    exact ⟨rfl, f1, f2⟩
  · refine And.intro (fun _ => ?_) (fun q => absurd (le_i.mpr (by omega)) q)
    have hB2 := hB1.fr hb S2.2.2 (by decide)
    have eS : paidS b e B t = bd (numS b e 0 999999 (nx b e t1)) fun x => .inr ((B.1, setR (setR B.2 8 f.toNat x.1) 9 f.toNat 1), x.2) := by
      rw [eS, ex]
      show (if B.2 9 f.toNat ≠ 0 then _ else _) = _
      rw [if_neg (fun z => z (hne f ex))]
    have hv : vp_in r2 12 := vp_in_iff.mpr ⟨by omega, show r2.toInt < ((12 : Nat) : Int) by omega⟩
    have n1 : r2.toNatClampNeg = f.toNat := by show r2.toInt.toNat = _; rw [g1]
    (conv => whnf)
    refine ⟨4, by decide, _, r_num g5, ?_⟩
    rintro r4 m4 ⟨S4, o4⟩
    have T4 : St wRdA m m4 := T2.tr S4 (by decide)
    rw [e0, e9] at o4
    (conv => whnf)
    rcases OC_c o4 with ⟨er, ey, hbad, f3, f4⟩ | ⟨x, ey, ⟨j1, j2, j3, j4⟩, f3, f4⟩
    · subst hbad
      refine And.intro (fun q => absurd q (by decide)) (fun _ => ?_)
      refine ⟨Or.inl rfl, T4, ?_⟩
      rw [eS, ey]
      exact ⟨rfl, f3, f4⟩
    · refine And.intro (fun _ => ?_) (fun q => absurd (le_i.mpr (by omega)) q)
      have hB4 := hB2.fr hb S4.2.2 (by decide)
      (conv => whnf)
      refine And.intro hv ?_
      (conv => whnf)
      refine And.intro hv ?_
      rw [n1]
      have S5 : St [50200, 50219] m4 (sI (sI m4 50200 f.toNat r4) 50219 f.toNat 1) :=
        ((St.rf S4.1).row (a := 50200) (k := f.toNat) (v := r4) rfl (by decide) (tI_lo _) (tI_hi _)).row (a := 50219) (k := f.toNat) (v := 1) rfl (by decide) (by decide) (by decide)
      obtain ⟨c1', c2, c3⟩ := j4.fr S5 (by decide)
      refine ⟨Or.inr rfl, T4.tr S5 (by decide), ?_⟩
      rw [eS, ey]
      refine ⟨⟨rfl, c1', fun k hk => ?_, ?_⟩, c2.trans (f3.trans (f1.trans k2)), c3.trans (f4.trans (f2.trans k3))⟩
      · rcases (by omega : k = 0 ∨ k = 1 ∨ k = 2 ∨ k = 3) with rfl | rfl | rfl | rfl
        · exact hB4.1 0 (by omega)
        · exact hB4.1 1 (by omega)
        · exact hB4.1 2 (by omega)
        · exact hB4.1 3 (by omega)
      · rw [← j1]
        exact BkR.row (r := 9) (v := 1) (BkR.row (r := 8) hB4.2 hb (by omega) (fun q => by omega)) hb (by omega) (fun q => by omega)
set_option maxRecDepth 100000 in
set_option maxHeartbeats 8000000 in
theorem r_paid_720 (h : CR b e t m) (hB : BkI 720 B m) : CI 5 mX3_readPaid [.ref 19, .ref 720] m (fun r m' => St wRdA m m' ∧ OC m m' (paidS b e B t) (r = 0) (fun x => r = 1 ∧ CR b e x.2 m' ∧ BkI 720 x.1 m')) := by
  have e0 : (0 : Int32).toInt = 0 := rfl
  have hb : isBk 720 := by unfold isBk; omega
  have h12 := hB.2.2.2.2.1
  refine At.gs okPd 100 ?_
  (conv => whnf)
  refine ⟨3, by decide, _, r_adv h, ?_⟩
  rintro m1 ⟨S1, c1, f1, f2⟩
  have T1 : St wRdA m m1 := ⟨S1.1, S1.2.1, Fr_tr (Fr_rfl _ _) S1.2.2 (by decide)⟩
  have hB1 := hB.fr hb S1.2.2 (by decide)
  obtain ⟨k1, k2, k3, k4⟩ := c1.2.2.2.2.1
  have eS : paidS b e B t = bd (tolS B 3 (nx b e t)) fun f => if B.2 9 f.toNat ≠ 0 then .inl (3, (nx b e t).2.1) else bd (numS b e 0 999999 (nx b e (nx b e t))) fun x => .inr ((B.1, setR (setR B.2 8 f.toNat x.1) 9 f.toNat 1), x.2) := rfl
  (conv => whnf)
  refine And.intro (fun h1 => ?_) (fun h1 => ?_)
  · have h1 : ¬ gI m1 19 6 = 1 := h1
    (conv => whnf)
    exact And.intro rfl (r_paid43_720 c1 hB1 T1 f1 f2 (fun f q => absurd (Int32.toInt_inj.mp (by rw [k1, (tolS_in q).1]; rfl)) h1) eS)
  · have h1 : gI m1 19 6 = 1 := h1
    have et : (nx b e t).1 = 1 := by have : (1 : Int32).toInt = 1 := rfl; rw [h1] at k1; omega
    have hN1 : (gI m1 802 1).toInt = B.1 2 := hB1.1 2 (by omega)
    have ix : fIx (fun i => (gI m1 49976 i).toInt) (gI m1 19 8).toInt (gI m1 802 1).toInt.toNat 0 = fIx (B.2 3) (nx b e t).2.2.1 (B.1 2) 0 := by
      rw [k3, hN1, Int.toNat_natCast]
      exact fIx_cg _ _ (fun i hi => hB1.2.1 3 (by omega) i (by show i < B.1 2; omega))
    (conv => whnf)
    refine ⟨1, by decide, _, r_find_802 (by omega) (by omega), ?_⟩
    rintro r3 m' ⟨hmm, hf⟩; have hmm := hmm.symm; subst hmm
    have hf : r3.toInt = fIx (fun i => (gI m1 49976 i).toInt) (gI m1 19 8).toInt (gI m1 802 1).toInt.toNat 0 := hf
    rw [ix] at hf
    (conv => whnf)
    refine And.intro (fun h3 => ?_) (fun h3 => ?_)
    · rw [lt_i] at h3
      (conv => whnf)
      exact And.intro rfl (r_paid43_720 c1 hB1 T1 f1 f2 (fun f q => by
        have z := tolS_in q
        have z2 : f = fIx (B.2 3) (nx b e t).2.2.1 (B.1 2) 0 := z.2.2.1
        have hi := (fIx_in (f := B.2 3) (v := (nx b e t).2.2.1) (B.1 2) 0).resolve_left (by rw [← z2]; exact z.2.2.2)
        omega) eS)
    · rw [lt_i] at h3
      have hi := (fIx_in (f := B.2 3) (v := (nx b e t).2.2.1) (B.1 2) 0).resolve_left (by rw [← hf]; omega)
      have hv : vp_in r3 12 := vp_in_iff.mpr ⟨by omega, show r3.toInt < ((12 : Nat) : Int) by omega⟩
      have n1 : r3.toNatClampNeg = r3.toInt.toNat := rfl
      have v9 : (gI m1 50219 r3.toInt.toNat).toInt = B.2 9 r3.toInt.toNat := hB1.2.1 9 (by omega) _ (by show r3.toInt.toNat < B.1 2; omega)
      (conv => whnf)
      refine And.intro hv ?_
      (conv => whnf)
      refine And.intro (fun h4 => ?_) (fun h4 => ?_)
      · have h4 : gI m1 50219 r3.toNatClampNeg = 0 := h4
        (conv => whnf)
        exact And.intro rfl (r_paid43_720 c1 hB1 T1 f1 f2 (fun f q => by
          have z2 : f = fIx (B.2 3) (nx b e t).2.2.1 (B.1 2) 0 := (tolS_in q).2.2.1
          rw [z2, ← hf, ← v9, ← n1, h4]; rfl) eS)
      · have h4 : ¬ gI m1 50219 r3.toNatClampNeg = 0 := h4
        have hl : lg (nx b e t).2.2.1 = -1 := by
          rw [← hi.2.2]
          exact hB1.2.2.2.2.2.2 _ (by omega)
        have et' : tolS B 3 (nx b e t) = .inr r3.toInt := by
          unfold tolS
          rw [if_pos ⟨et, hl⟩, show own 3 = 2 from rfl, ← hf, if_neg (by omega)]
        (conv => whnf)
        refine ⟨1, by decide, _, r_fail, ?_⟩
        rintro r4 m4 ⟨q1, q2⟩
        subst q1
        subst q2
        refine ⟨Or.inl rfl, St_fail T1 (by decide) (by decide), ?_⟩
        rw [eS, et']
        show OC m _ (if B.2 9 r3.toInt.toNat ≠ 0 then _ else _) _ _
        rw [if_pos (fun z => h4 (Int32.toInt_inj.mp (by rw [n1, v9, z]; rfl)))]
        exact OC_fail c1 rfl rfl
set_option maxRecDepth 100000 in
theorem r_ends (h : CR b e t m) : CI 4 mX3_lineEnds [.ref 19] m (fun r m' => St wNu m m' ∧ OC m m' (if t.1 = 3 then .inr (nx b e t) else .inl (1, t.2.1)) (r = 0) (fun x => r = 1 ∧ CR b e x m')) := by
  obtain ⟨k1, k2, k3, k4⟩ := h.2.2.2.2.1
  refine At.gs okX3_lineEnds 60 ?_
  (conv => whnf)
  refine And.intro (fun h1 => ?_) (fun h1 => ?_)
  · have h1 : gI m 19 6 = 3 := h1
    have et : t.1 = 3 := by have : (3 : Int32).toInt = 3 := rfl; rw [h1] at k1; omega
    (conv => whnf)
    refine ⟨3, by decide, _, r_adv h, ?_⟩
    rintro m1 ⟨S1, c1, f1, f2⟩
    refine ⟨Or.inr rfl, ⟨S1.1, S1.2.1, Fr_tr (Fr_rfl _ _) S1.2.2 (by decide)⟩, ?_⟩
    rw [if_pos et]
    exact ⟨⟨rfl, c1⟩, f1, f2⟩
  · have h1 : ¬ gI m 19 6 = 3 := h1
    (conv => whnf)
    refine ⟨1, by decide, _, r_fail, ?_⟩
    rintro r4 m4 ⟨q1, q2⟩
    subst q1
    subst q2
    refine ⟨Or.inl rfl, St_fail (St.rf h.1) (by decide) (by decide), ?_⟩
    rw [if_neg (fun q => h1 (Int32.toInt_inj.mp (by rw [k1, q]; rfl)))]
    exact OC_fail h rfl rfl
end Pd
/-! tokens go on -/
def TO (b : BT) (e : Nat) (t : TK) : Prop := ∃ p, p ≤ e ∧ t = tok b e p
/-- t2 is t, or stands behind it -/
def GO (b : BT) (e : Nat) (t t2 : TK) : Prop := TO b e t2 ∧ t.2.1 ≤ t2.2.1
section Go
variable {b : BT} {e : Nat}
theorem TO.s {t : TK} (h : TO b e t) : t.2.1 ≤ t.2.2.2 ∧ t.2.2.2 ≤ e ∧ (t.1 ≠ 0 → t.2.1 < t.2.2.2) := by
  obtain ⟨p, hp, rfl⟩ := h
  have := tok_s (b := b) hp
  exact ⟨this.2.2.1, this.2.2.2.1, this.2.2.2.2⟩
theorem TO.nx {t : TK} (h : TO b e t) : GO b e t (nx b e t) ∧ t.2.2.2 ≤ (nx b e t).2.1 := by
  have h1 := h.s
  have h2 := tok_s (b := b) h1.2.1
  exact ⟨⟨⟨_, h1.2.1, rfl⟩, Nat.le_trans h1.1 h2.1⟩, h2.1⟩
theorem GO.tr {t t1 t2 : TK} (h : GO b e t t1) (h2 : GO b e t1 t2) : GO b e t t2 := ⟨h2.1, Nat.le_trans h.2 h2.2⟩
theorem GO.nx {t t1 : TK} (h : GO b e t t1) : GO b e t (nx b e t1) := h.tr h.1.nx.1
theorem bd_r {α β : Type} {x : ER α} {f : α → ER β} {y : β} (h : bd x f = .inr y) : ∃ a, x = .inr a ∧ f a = .inr y := by
  cases x with
  | inl er => cases h
  | inr a => exact ⟨a, rfl, h⟩
theorem numS_go {t t0 : TK} {lo hi : Int} {x : Int × TK} (hT : GO b e t0 t) (h : numS b e lo hi t = .inr x) : GO b e t0 x.2 := by
  unfold numS at h
  split at h
  · split at h
    · cases h; exact hT.nx
    · cases h
  · cases h
theorem newS_go {t t0 : TK} {B : TB} {r : Nat} {x : Int × TK} (hT : GO b e t0 t) (h : newS b e B r t = .inr x) : GO b e t0 x.2 := by
  unfold newS at h
  split at h
  · split at h
    · cases h; exact hT.nx
    · cases h
  · cases h
theorem newL_go {t t0 : TK} {B : TB} {r mo : Nat} {x : Int × TK} (hT : GO b e t0 t) (h : newL b e B r mo t = .inr x) : GO b e t0 x.2 := by
  unfold newL at h
  split at h
  · cases h
  · exact newS_go hT.nx h
theorem tieS_go {t t0 : TK} {f : Nat} {T : Nat → Nat → Int} {x : (Nat → Nat → Int) × TK} (hT : GO b e t0 t) (h : tieS b e f T t = .inr x) : GO b e t0 x.2 := by
  unfold tieS at h
  split at h
  · split at h
    · obtain ⟨a, h1, h2⟩ := bd_r h
      cases h2
      exact numS_go hT.nx h1
    · cases h
  · cases h; exact hT
theorem dayS_go {t t0 : TK} {since : Int} {x : Int × TK} (hT : GO b e t0 t) (h : dayS b e since t = .inr x) : GO b e t0 x.2 := by
  unfold dayS at h
  split at h
  · obtain ⟨z, z1, z2⟩ := bd_r h
    split at z2
    · cases z2
    · cases z2; exact numS_go hT.nx z1
  · cases h
theorem bodyS_go {t : TK} {B : TB} {x : TB × TK} (hT : GO b e t t) (h : bodyS b e B t = .inr x) : GO b e t x.2 := by
  unfold bodyS at h
  split at h
  · split at h
    · unfold landS at h
      obtain ⟨a, h1, h2⟩ := bd_r h
      obtain ⟨c, h3, h4⟩ := bd_r h2
      cases h4
      exact numS_go (newL_go hT h1) h3
    · split at h
      · unfold goodS at h
        obtain ⟨a, h1, h2⟩ := bd_r h
        cases h2
        exact newL_go hT h1
      · split at h
        · unfold firmS at h
          obtain ⟨a, h1, h2⟩ := bd_r h
          obtain ⟨c, h3, h4⟩ := bd_r h2
          obtain ⟨d, h5, h6⟩ := bd_r h4
          obtain ⟨u, h7, h8⟩ := bd_r h6
          obtain ⟨v, h9, h10⟩ := bd_r h8
          obtain ⟨w, h11, h12⟩ := bd_r h10
          cases h12
          exact tieS_go (tieS_go (tieS_go (numS_go (newL_go hT h1).nx h5) h7) h9) h11
        · split at h
          · unfold saleS at h
            split at h
            · cases h
            · obtain ⟨a, h1, h2⟩ := bd_r h
              obtain ⟨c, h3, h4⟩ := bd_r h2
              split at h4
              · cases h4
              · obtain ⟨d, h5, h6⟩ := bd_r h4
                obtain ⟨u, h7, h8⟩ := bd_r h6
                obtain ⟨v, h9, h10⟩ := bd_r h8
                obtain ⟨w, h11, h12⟩ := bd_r h10
                obtain ⟨k, h13, h14⟩ := bd_r h12
                cases h14
                have g1 := numS_go (numS_go hT.nx.nx.nx h5).nx h9
                have g2 : GO b e t w.2 := dayS_go g1 h11
                unfold markS at h13
                split at h13
                · exact numS_go g2.nx h13
                · cases h13; exact g2
          · split at h
            · unfold paidS at h
              obtain ⟨a, h1, h2⟩ := bd_r h
              split at h2
              · cases h2
              · obtain ⟨c, h3, h4⟩ := bd_r h2
                cases h4
                exact numS_go hT.nx.nx h3
            · cases h
  · cases h
theorem lineS_go {t : TK} {B : TB} {x : TB × TK} (hT : TO b e t) (h : lineS b e B t = .inr x) : TO b e x.2 ∧ t.2.1 < x.2.2.1 := by
  unfold lineS at h
  obtain ⟨a, h1, h2⟩ := bd_r h
  have g := bodyS_go ⟨hT, Nat.le_refl _⟩ h1
  split at h2
  · rename_i q
    cases h2
    have s := g.1.s
    have n := g.1.nx
    refine ⟨n.1.1, ?_⟩
    have := s.2.2 (by rw [q]; omega)
    have g2 := g.2
    have n2 := n.2
    show t.2.1 < (nx b e a.2).2.1
    omega
  · cases h2
end Go
