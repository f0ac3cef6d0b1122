/-! signs and knew of both: the methods -/
def cdKn : List CE := stops [117] cdX6_knew
set_option maxRecDepth 20000 in
theorem okKn : CodeOk mX6_knew cdKn := okX6_knew.st [117] (by rfl)
def cdKm : List CE := stops [118] cdX7_knew
set_option maxRecDepth 20000 in
theorem okKm : CodeOk mX7_knew cdKm := okX7_knew.st [118] (by rfl)
set_option maxRecDepth 100000 in
set_option maxHeartbeats 8000000 in
theorem r_signs_336 {m : MM} {f wy k d : Int32} (hM : Mok TYg m) (h : SB 336 m) (hc : m.2.2 = (336, 720)) (hF : FM (vw m) m) (hP : PTb 336 m) : CI 11 mX6_signs [.ref 6, .int f, .int wy, .int k, .int d] m (fun r m' => FmP m m' ∧ SnR m f wy k d r) := by
  obtain ⟨ff, g, c⟩ := m
  obtain rfl : c = (336, 720) := hc
  obtain ⟨p, hpl, hpp⟩ := hP
  have hW := h.2.2.2.2.2
  have h12 := hW.1.2.2.1
  have e0 : (0 : Int32).toInt = 0 := rfl
  have ee2 : gI (ff, g, (336, 720)) 418 1 = gI (ff, g, (336, 720)) 1175 5 := h.1 2 (by decide)
  have c2 : (gI (ff, g, (336, 720)) 418 1).toInt = (vw (ff, g, (336, 720))).1 2 := by rw [ee2]; exact vw2 hM
  refine At.gs okX6_signs 80 ?_
  (conv => whnf)
  refine ⟨1, by decide, _, r_has_418, ?_⟩
  rintro rh mh ⟨hmm, hz⟩; have hmm := hmm.symm; subst hmm
  rw [c2] at hz
  (conv => whnf)
  refine And.intro (fun qh => ?_) (fun qh => ?_)
  case refine_2 =>
    have qh : rh = 0 := qh
    rcases hz with ⟨y1, y2⟩ | ⟨y1, y2⟩
    · rw [y2] at qh; exact absurd qh (by decide)
    · exact ⟨FmP.rf hM hF, Or.inl ⟨fun z => y1 z.1, rfl⟩⟩
  rcases hz with ⟨y1, y2⟩ | ⟨y1, y2⟩
  case inr => exact absurd y2 qh
  (conv => whnf)
  refine ⟨10, by decide, _, r_gather_336 hM h rfl hF, ?_⟩
  rintro r m1 hq
  obtain ⟨P1, A1⟩ := ga_cs hM hF hq
  clear hq
  (conv => whnf)
  rcases A1 with ⟨a1, a2⟩ | ⟨a1, a2, a3⟩ | ⟨hA, hl, hr, hS, S1⟩
  · subst a2
    refine And.intro (fun q => absurd q (by decide)) (fun _ => ?_)
    (conv => whnf)
    exact ⟨P1, Or.inl ⟨fun z => a1 z.2, rfl⟩⟩
  · subst a3
    refine And.intro (fun q => absurd q (by decide)) (fun _ => ?_)
    (conv => whnf)
    exact ⟨P1, Or.inr ⟨⟨y1, a1⟩, Or.inl ⟨a2, rfl⟩⟩⟩
  subst hr
  refine And.intro (fun _ => ?_) (fun q => absurd (show (0 : Int32) ≤ nI (rnL7 (ff, g, (336, 720)) wy k d).length by rw [le_i, e0, nI_toInt (by omega)]; omega) q)
  have h1 : SB 336 m1 := h.fr (by unfold isBk; omega) S1.2.2 (by decide +kernel)
  have hv1 : vw m1 = vw (ff, g, (336, 720)) := vw_fr S1.2.2 (by decide +kernel)
  have hc1 : m1.2.2 = (336, 720) := P1.1.2.1
  obtain ⟨f1, g1, c1⟩ := m1
  obtain rfl : c1 = (336, 720) := hc1
  have ru1 : gI (f1, g1, (336, 720)) 6 6 = gI (ff, g, (336, 720)) 1175 40 := (h1.2.2.2.2.1).trans (fr1 S1.2.2 (by decide))
  (conv => whnf)
  dsimp only
  (conv => whnf)
  refine ⟨4, by decide, _, r_missing_336 S1.1 h1, ?_⟩
  rintro mi m2 ⟨S2, hmi⟩
  rw [hv1, ru1] at hmi
  have P2 : FmP (ff, g, (336, 720)) m2 := P1.sc S2 (by decide) (by decide)
  have hS2 : FS (rnL7 (ff, g, (336, 720)) wy k d) m2 := hS.fr S2.2.2 (by decide)
  have h2 : SB 336 m2 := h1.fr (by unfold isBk; omega) S2.2.2 (by decide +kernel)
  have hv2 : vw m2 = vw (ff, g, (336, 720)) := (vw_fr S2.2.2 (by decide +kernel)).trans hv1
  have hp2 : ∀ f, f < (vw (ff, g, (336, 720))).1 2 → gI m2 49848 f = nI (p f) := fun f hf => by
    rw [row1 S2.2.2 rfl (by decide), row1 S1.2.2 rfl (by decide)]
    exact hpp f hf
  have hc2 : m2.2.2 = (336, 720) := P2.1.2.1
  clear hS h1 hv1 P1 S1 S2
  obtain ⟨f2, g2, c2⟩ := m2
  obtain rfl : c2 = (336, 720) := hc2
  have bits : ∀ t : Nat, t < (vw (ff, g, (336, 720))).1 2 → CI 4 mX6_signBits [.ref 6, .int (nI t), .int mi, .int (nI (rnL7 (ff, g, (336, 720)) wy k d).length)] (f2, g2, (336, 720)) (fun r m' => m' = (f2, g2, (336, 720)) ∧ SgL (ff, g, (336, 720)) wy k d t r) := by
    intro t ht
    rw [hmi]
    have z := r_signBits_336 (m := (f2, g2, (336, 720))) (f := t) (p := p) (ru := gI (ff, g, (336, 720)) 1175 40) P2.1.1 h2 rfl hS2 hl (fun i hi => by rw [hv2]; exact ⟨(L_row (m := (ff, g, (336, 720))) hA hi).2.1, (L_row (m := (ff, g, (336, 720))) hA hi).2.2⟩) (by rw [hv2]; exact hp2) (by rw [hv2]; exact hpl.1) (by rw [hv2]; exact ht)
    rw [hv2] at z
    exact CI.mono z (fun r m' hq => ⟨hq.1, p, hpl, hq.2⟩)
  have ef : f = nI f.toNatClampNeg := nI_back (by rw [clamp_toNat]; omega)
  have hb := bits f.toNatClampNeg (by rw [clamp_toNat]; omega)
  rw [← ef] at hb
  (conv => whnf)
  refine ⟨4, by decide, _, hb, ?_⟩
  rintro r3 m3 ⟨hmm, hq⟩; have hmm := hmm.symm; subst hmm
  exact ⟨P2, Or.inr ⟨⟨y1, hA⟩, Or.inr ⟨hl, hq⟩⟩⟩
set_option maxRecDepth 100000 in
set_option maxHeartbeats 8000000 in
theorem r_knew_336 {m : MM} {sg wy k d wt : Int32} (hM : Mok TYg m) (h : SB 336 m) (hc : m.2.2 = (336, 720)) (hF : FM (vw m) m) (hP : PTb 336 m) : CI 11 mX6_knew [.ref 6, .int sg, .int wy, .int k, .int d, .int wt] m (fun r m' => FmP m m' ∧ KwR m sg wy k d wt r) := by
  obtain ⟨ff, g, c⟩ := m
  obtain rfl : c = (336, 720) := hc
  obtain ⟨p, hpl, hpp⟩ := hP
  have hW := h.2.2.2.2.2
  have h12 := hW.1.2.2.1
  have e0 : (0 : Int32).toInt = 0 := rfl
  have e1 : (1 : Int32).toInt = 1 := rfl
  have e15 : (15 : Int32).toInt = 15 := rfl
  refine At.gs okKn 100 ?_
  (conv => whnf)
  refine ⟨1, by decide, _, r_within, ?_⟩
  rintro w1 mw ⟨hmm, hw1⟩; have hmm := hmm.symm; subst hmm
  rw [e1, e15] at hw1
  (conv => whnf)
  refine And.intro (fun zw => ?_) (fun zw => ?_)
  · have zw : w1 = 0 := zw
    rcases hw1 with ⟨y1, y2⟩ | ⟨y1, y2⟩
    · rw [y2] at zw; exact absurd zw (by decide)
    · exact ⟨FmP.rf hM hF, Or.inl ⟨fun z => y1 z.1.1, rfl⟩⟩
  rcases hw1 with ⟨y1, y2⟩ | ⟨y1, y2⟩
  case inr => exact absurd y2 zw
  (conv => whnf)
  refine ⟨1, by decide, _, r_within, ?_⟩
  rintro w2 mw ⟨hmm, hw2⟩; have hmm := hmm.symm; subst hmm
  rw [e0, e1] at hw2
  (conv => whnf)
  refine And.intro (fun z2 => ?_) (fun z2 => ?_)
  case refine_2 =>
    have z2 : w2 = 0 := z2
    rcases hw2 with ⟨y3, y4⟩ | ⟨y3, y4⟩
    · rw [y4] at z2; exact absurd z2 (by decide)
    · exact ⟨FmP.rf hM hF, Or.inl ⟨fun z => y3 z.1.2, rfl⟩⟩
  rcases hw2 with ⟨y3, y4⟩ | ⟨y3, y4⟩
  case inr => exact absurd y4 z2
  (conv => whnf)
  refine ⟨10, by decide, _, r_gather_336 hM h rfl hF, ?_⟩
  rintro r m1 hq
  obtain ⟨P1, A1⟩ := ga_cs hM hF hq
  clear hq
  (conv => whnf)
  rcases A1 with ⟨a1, a2⟩ | ⟨a1, a2, a3⟩ | ⟨hA, hl, hr, hS, S1⟩
  · subst a2
    refine And.intro (fun q => absurd q (by decide)) (fun _ => ?_)
    exact ⟨P1, Or.inl ⟨fun z => a1 z.2, rfl⟩⟩
  · subst a3
    refine And.intro (fun q => absurd q (by decide)) (fun _ => ?_)
    exact ⟨P1, Or.inr ⟨⟨⟨y1, y3⟩, a1⟩, Or.inl ⟨a2, rfl⟩⟩⟩
  subst hr
  refine And.intro (fun _ => ?_) (fun q => absurd (show (0 : Int32) ≤ nI (rnL7 (ff, g, (336, 720)) wy k d).length by rw [le_i, e0, nI_toInt (by omega)]; omega) q)
  have h1 : SB 336 m1 := h.fr (by unfold isBk; omega) S1.2.2 (by decide +kernel)
  have hv1 : vw m1 = vw (ff, g, (336, 720)) := vw_fr S1.2.2 (by decide +kernel)
  have hc1 : m1.2.2 = (336, 720) := P1.1.2.1
  obtain ⟨f1, g1, c1⟩ := m1
  obtain rfl : c1 = (336, 720) := hc1
  have ru1 : gI (f1, g1, (336, 720)) 6 6 = gI (ff, g, (336, 720)) 1175 40 := (h1.2.2.2.2.1).trans (fr1 S1.2.2 (by decide))
  (conv => whnf)
  dsimp only
  (conv => whnf)
  refine ⟨4, by decide, _, r_missing_336 S1.1 h1, ?_⟩
  rintro mi m2 ⟨S2, hmi⟩
  rw [hv1, ru1] at hmi
  have P2 : FmP (ff, g, (336, 720)) m2 := P1.sc S2 (by decide) (by decide)
  have hS2 : FS (rnL7 (ff, g, (336, 720)) wy k d) m2 := hS.fr S2.2.2 (by decide)
  have h2 : SB 336 m2 := h1.fr (by unfold isBk; omega) S2.2.2 (by decide +kernel)
  have hv2 : vw m2 = vw (ff, g, (336, 720)) := (vw_fr S2.2.2 (by decide +kernel)).trans hv1
  have hp2 : ∀ f, f < (vw (ff, g, (336, 720))).1 2 → gI m2 49848 f = nI (p f) := fun f hf => by
    rw [row1 S2.2.2 rfl (by decide), row1 S1.2.2 rfl (by decide)]
    exact hpp f hf
  have hc2 : m2.2.2 = (336, 720) := P2.1.2.1
  clear hS h1 hv1 P1 S1 S2
  obtain ⟨f2, g2, c2⟩ := m2
  obtain rfl : c2 = (336, 720) := hc2
  have bits : ∀ t : Nat, t < (vw (ff, g, (336, 720))).1 2 → CI 4 mX6_signBits [.ref 6, .int (nI t), .int mi, .int (nI (rnL7 (ff, g, (336, 720)) wy k d).length)] (f2, g2, (336, 720)) (fun r m' => m' = (f2, g2, (336, 720)) ∧ SgL (ff, g, (336, 720)) wy k d t r) := by
    intro t ht
    rw [hmi]
    have z := r_signBits_336 (m := (f2, g2, (336, 720))) (f := t) (p := p) (ru := gI (ff, g, (336, 720)) 1175 40) P2.1.1 h2 rfl hS2 hl (fun i hi => by rw [hv2]; exact ⟨(L_row (m := (ff, g, (336, 720))) hA hi).2.1, (L_row (m := (ff, g, (336, 720))) hA hi).2.2⟩) (by rw [hv2]; exact hp2) (by rw [hv2]; exact hpl.1) (by rw [hv2]; exact ht)
    rw [hv2] at z
    exact CI.mono z (fun r m' hq => ⟨hq.1, p, hpl, hq.2⟩)
  have ec5 : gI (f2, g2, (336, 720)) 418 1 = nI ((vw (ff, g, (336, 720))).1 2) := by
    have e : gI (f2, g2, (336, 720)) 418 1 = gI (f2, g2, (336, 720)) 1175 5 := h2.1 2 (by decide)
    rw [e, nI_back (vw2 P2.1.1), hv2]
  have mB := StX.bs (p := misB (vw (ff, g, (336, 720))) (gI (ff, g, (336, 720)) 1175 40)) h12
  have lp : ∀ (dd t : Nat) (v10 v11 : Value), t + dd = (vw (ff, g, (336, 720))).1 2 → At (E0 11) mX6_knew (qi (fun r m' => FmP (ff, g, (336, 720)) m' ∧ KwR (ff, g, (336, 720)) sg wy k d wt r)) 59 [.ref 6, .int sg, .int wy, .int k, .int d, .int wt, .int (nI (rnL7 (ff, g, (336, 720)) wy k d).length), .int mi, .int (kbF (kwC (ff, g, (336, 720)) sg wt wy k d) t), .int (nI t), v10, v11] [] (f2, g2, (336, 720)) := by
    intro dd
    induction dd with
    | zero =>
      intro t v10 v11 ht
      refine At.ls okKn 60 ⟨_, _, rfl⟩ ?_
      (conv => whnf)
      dsimp only
      (conv => whnf)
      refine And.intro (fun q => ?_) (fun q => ?_)
      · exact ⟨P2, Or.inr ⟨⟨⟨y1, y3⟩, hA⟩, Or.inr ⟨hl, by rw [show t = (vw (ff, g, (336, 720))).1 2 by omega]⟩⟩⟩
      · have q : ¬ gI (f2, g2, (336, 720)) 418 1 ≤ nI t := q
        rw [ec5, le_i, nI_toInt (by omega), nI_toInt (by omega)] at q
        omega
    | succ dd ih =>
      intro t v10 v11 ht
      have tl : t < (vw (ff, g, (336, 720))).1 2 := by omega
      refine At.ls okKn 80 ⟨_, _, rfl⟩ ?_
      (conv => whnf)
      dsimp only
      (conv => whnf)
      refine And.intro (fun q => ?_) (fun q => ?_)
      · have q : gI (f2, g2, (336, 720)) 418 1 ≤ nI t := q
        rw [ec5, le_i, nI_toInt (by omega), nI_toInt (by omega)] at q
        omega
      (conv => whnf)
      refine ⟨4, by decide, _, bits t tl, ?_⟩
      rintro x m3 ⟨hmm, hx⟩; have hmm := hmm.symm; subst hmm
      have next : ∀ (v10 v11 : Value) (a : Int32), a = kbF (kwC (ff, g, (336, 720)) sg wt wy k d) (t + 1) → At (E0 11) mX6_knew (qi (fun r m' => FmP (ff, g, (336, 720)) m' ∧ KwR (ff, g, (336, 720)) sg wy k d wt r)) 59 [.ref 6, .int sg, .int wy, .int k, .int d, .int wt, .int (nI (rnL7 (ff, g, (336, 720)) wy k d).length), .int mi, .int a, .int (nI t + 1), v10, v11] [] (f2, g2, (336, 720)) := by
        intro v10 v11 a ha
        have z := ih (t + 1) v10 v11 (by omega)
        rw [← ha, ← nI_1] at z
        exact z
      have at117 : ∀ b : Int32, z1 (kwG sg wt x) b → At (E0 11) mX6_knew (qi (fun r m' => FmP (ff, g, (336, 720)) m' ∧ KwR (ff, g, (336, 720)) sg wy k d wt r)) 117 [.ref 6, .int sg, .int wy, .int k, .int d, .int wt, .int (nI (rnL7 (ff, g, (336, 720)) wy k d).length), .int mi, .int (kbF (kwC (ff, g, (336, 720)) sg wt wy k d) t), .int (nI t), .int (x &&& sg), v11] [.int b] (f2, g2, (336, 720)) := by
        intro b hb
        refine At.ls okKn 80 ⟨_, _, rfl⟩ ?_
        (conv => whnf)
        refine And.intro (fun q => ?_) (fun q => ?_)
        · have q : b = 0 := q
          rcases hb with ⟨u1, u2⟩ | ⟨u1, u2⟩
          · rw [u2] at q; exact absurd q (by decide)
          · (conv => whnf)
            refine And.intro rfl (next _ _ _ (kbF_n (fun z => ?_)).symm)
            obtain ⟨⟨x', x1, x2⟩, -⟩ := z
            rw [SgL_1 tl x1 hx] at x2
            exact u1 x2
        rcases hb with ⟨u1, u2⟩ | ⟨u1, u2⟩
        case inr => exact absurd u2 q
        have mt : ¬ bt mi (nI t) = 0 ↔ misB (vw (ff, g, (336, 720))) (gI (ff, g, (336, 720)) 1175 40) t = true := by
          rw [hmi, mB.bt (show t < 12 by omega)]
          exact ⟨fun z => z.2, fun z => ⟨tl, z⟩⟩
        (conv => whnf)
        refine And.intro (fun q2 => ?_) (fun q2 => ?_)
        · have q2 : ¬ bt mi (nI t) = 0 := q2
          rw [mt] at q2
          (conv => whnf)
          exact And.intro rfl (next _ _ _ (kbF_n (fun z => z.2 q2)).symm)
        · have q2 : bt mi (nI t) = 0 := q2
          have nm : ¬ misB (vw (ff, g, (336, 720))) (gI (ff, g, (336, 720)) 1175 40) t = true := fun z => (mt.mpr z) q2
          (conv => whnf)
          exact And.intro rfl (next _ _ _ (kbF_y ⟨⟨x, hx, u1⟩, nm⟩).symm)
      (conv => whnf)
      refine And.intro (fun q => ?_) (fun q => ?_)
      · have q : ¬ wt = 0 := q
        (conv => whnf)
        refine And.intro (fun q2 => ?_) (fun q2 => ?_)
        · have q2 : x &&& sg = 0 := q2
          exact And.intro rfl (at117 0 (Or.inr ⟨fun z => Or.elim z (fun u => q u.1) (fun u => u.2 q2), rfl⟩))
        · have q2 : ¬ x &&& sg = 0 := q2
          (conv => whnf)
          exact And.intro rfl (at117 1 (Or.inl ⟨Or.inr ⟨q, q2⟩, rfl⟩))
      · have q : wt = 0 := q
        (conv => whnf)
        refine And.intro (fun q2 => ?_) (fun q2 => ?_)
        · have q2 : ¬ x &&& sg = sg := q2
          (conv => whnf)
          exact And.intro rfl (at117 0 (Or.inr ⟨fun z => Or.elim z (fun u => q2 u.2) (fun u => u.1 q), rfl⟩))
        · have q2 : x &&& sg = sg := q2
          (conv => whnf)
          exact And.intro rfl (at117 1 (Or.inl ⟨Or.inl ⟨q, q2⟩, rfl⟩))
  (conv => whnf)
  exact And.intro rfl (lp ((vw (ff, g, (336, 720))).1 2) 0 _ _ (by omega))
set_option maxRecDepth 100000 in
set_option maxHeartbeats 8000000 in
theorem r_signs_720 {m : MM} {f wy k d : Int32} (hM : Mok TYg m) (h : SB 720 m) (hc : m.2.2 = (720, 336)) (hF : FM (vw m) m) (hP : PTb 720 m) : CI 11 mX6_signs [.ref 6, .int f, .int wy, .int k, .int d] m (fun r m' => FmP m m' ∧ SnR m f wy k d r) := by
  obtain ⟨ff, g, c⟩ := m
  obtain rfl : c = (720, 336) := hc
  obtain ⟨p, hpl, hpp⟩ := hP
  have hW := h.2.2.2.2.2
  have h12 := hW.1.2.2.1
  have e0 : (0 : Int32).toInt = 0 := rfl
  have ee2 : gI (ff, g, (720, 336)) 802 1 = gI (ff, g, (720, 336)) 1175 5 := h.1 2 (by decide)
  have c2 : (gI (ff, g, (720, 336)) 802 1).toInt = (vw (ff, g, (720, 336))).1 2 := by rw [ee2]; exact vw2 hM
  refine At.gs okX6_signs 80 ?_
  (conv => whnf)
  refine ⟨1, by decide, _, r_has_802, ?_⟩
  rintro rh mh ⟨hmm, hz⟩; have hmm := hmm.symm; subst hmm
  rw [c2] at hz
  (conv => whnf)
  refine And.intro (fun qh => ?_) (fun qh => ?_)
  case refine_2 =>
    have qh : rh = 0 := qh
    rcases hz with ⟨y1, y2⟩ | ⟨y1, y2⟩
    · rw [y2] at qh; exact absurd qh (by decide)
    · exact ⟨FmP.rf hM hF, Or.inl ⟨fun z => y1 z.1, rfl⟩⟩
  rcases hz with ⟨y1, y2⟩ | ⟨y1, y2⟩
  case inr => exact absurd y2 qh
  (conv => whnf)
  refine ⟨10, by decide, _, r_gather_720 hM h rfl hF, ?_⟩
  rintro r m1 hq
  obtain ⟨P1, A1⟩ := ga_cs hM hF hq
  clear hq
  (conv => whnf)
  rcases A1 with ⟨a1, a2⟩ | ⟨a1, a2, a3⟩ | ⟨hA, hl, hr, hS, S1⟩
  · subst a2
    refine And.intro (fun q => absurd q (by decide)) (fun _ => ?_)
    (conv => whnf)
    exact ⟨P1, Or.inl ⟨fun z => a1 z.2, rfl⟩⟩
  · subst a3
    refine And.intro (fun q => absurd q (by decide)) (fun _ => ?_)
    (conv => whnf)
    exact ⟨P1, Or.inr ⟨⟨y1, a1⟩, Or.inl ⟨a2, rfl⟩⟩⟩
  subst hr
  refine And.intro (fun _ => ?_) (fun q => absurd (show (0 : Int32) ≤ nI (rnL7 (ff, g, (720, 336)) wy k d).length by rw [le_i, e0, nI_toInt (by omega)]; omega) q)
  have h1 : SB 720 m1 := h.fr (by unfold isBk; omega) S1.2.2 (by decide +kernel)
  have hv1 : vw m1 = vw (ff, g, (720, 336)) := vw_fr S1.2.2 (by decide +kernel)
  have hc1 : m1.2.2 = (720, 336) := P1.1.2.1
  obtain ⟨f1, g1, c1⟩ := m1
  obtain rfl : c1 = (720, 336) := hc1
  have ru1 : gI (f1, g1, (720, 336)) 6 6 = gI (ff, g, (720, 336)) 1175 40 := (h1.2.2.2.2.1).trans (fr1 S1.2.2 (by decide))
  (conv => whnf)
  dsimp only
  (conv => whnf)
  refine ⟨4, by decide, _, r_missing_720 S1.1 h1, ?_⟩
  rintro mi m2 ⟨S2, hmi⟩
  rw [hv1, ru1] at hmi
  have P2 : FmP (ff, g, (720, 336)) m2 := P1.sc S2 (by decide) (by decide)
  have hS2 : FS (rnL7 (ff, g, (720, 336)) wy k d) m2 := hS.fr S2.2.2 (by decide)
  have h2 : SB 720 m2 := h1.fr (by unfold isBk; omega) S2.2.2 (by decide +kernel)
  have hv2 : vw m2 = vw (ff, g, (720, 336)) := (vw_fr S2.2.2 (by decide +kernel)).trans hv1
  have hp2 : ∀ f, f < (vw (ff, g, (720, 336))).1 2 → gI m2 50232 f = nI (p f) := fun f hf => by
    rw [row1 S2.2.2 rfl (by decide), row1 S1.2.2 rfl (by decide)]
    exact hpp f hf
  have hc2 : m2.2.2 = (720, 336) := P2.1.2.1
  clear hS h1 hv1 P1 S1 S2
  obtain ⟨f2, g2, c2⟩ := m2
  obtain rfl : c2 = (720, 336) := hc2
  have bits : ∀ t : Nat, t < (vw (ff, g, (720, 336))).1 2 → CI 4 mX6_signBits [.ref 6, .int (nI t), .int mi, .int (nI (rnL7 (ff, g, (720, 336)) wy k d).length)] (f2, g2, (720, 336)) (fun r m' => m' = (f2, g2, (720, 336)) ∧ SgL (ff, g, (720, 336)) wy k d t r) := by
    intro t ht
    rw [hmi]
    have z := r_signBits_720 (m := (f2, g2, (720, 336))) (f := t) (p := p) (ru := gI (ff, g, (720, 336)) 1175 40) P2.1.1 h2 rfl hS2 hl (fun i hi => by rw [hv2]; exact ⟨(L_row (m := (ff, g, (720, 336))) hA hi).2.1, (L_row (m := (ff, g, (720, 336))) hA hi).2.2⟩) (by rw [hv2]; exact hp2) (by rw [hv2]; exact hpl.1) (by rw [hv2]; exact ht)
    rw [hv2] at z
    exact CI.mono z (fun r m' hq => ⟨hq.1, p, hpl, hq.2⟩)
  have ef : f = nI f.toNatClampNeg := nI_back (by rw [clamp_toNat]; omega)
  have hb := bits f.toNatClampNeg (by rw [clamp_toNat]; omega)
  rw [← ef] at hb
  (conv => whnf)
  refine ⟨4, by decide, _, hb, ?_⟩
  rintro r3 m3 ⟨hmm, hq⟩; have hmm := hmm.symm; subst hmm
  exact ⟨P2, Or.inr ⟨⟨y1, hA⟩, Or.inr ⟨hl, hq⟩⟩⟩
set_option maxRecDepth 100000 in
set_option maxHeartbeats 8000000 in
theorem r_knew_720 {m : MM} {sg wy k d wt : Int32} (hM : Mok TYg m) (h : SB 720 m) (hc : m.2.2 = (720, 336)) (hF : FM (vw m) m) (hP : PTb 720 m) : CI 11 mX6_knew [.ref 6, .int sg, .int wy, .int k, .int d, .int wt] m (fun r m' => FmP m m' ∧ KwR m sg wy k d wt r) := by
  obtain ⟨ff, g, c⟩ := m
  obtain rfl : c = (720, 336) := hc
  obtain ⟨p, hpl, hpp⟩ := hP
  have hW := h.2.2.2.2.2
  have h12 := hW.1.2.2.1
  have e0 : (0 : Int32).toInt = 0 := rfl
  have e1 : (1 : Int32).toInt = 1 := rfl
  have e15 : (15 : Int32).toInt = 15 := rfl
  refine At.gs okKn 100 ?_
  (conv => whnf)
  refine ⟨1, by decide, _, r_within, ?_⟩
  rintro w1 mw ⟨hmm, hw1⟩; have hmm := hmm.symm; subst hmm
  rw [e1, e15] at hw1
  (conv => whnf)
  refine And.intro (fun zw => ?_) (fun zw => ?_)
  · have zw : w1 = 0 := zw
    rcases hw1 with ⟨y1, y2⟩ | ⟨y1, y2⟩
    · rw [y2] at zw; exact absurd zw (by decide)
    · exact ⟨FmP.rf hM hF, Or.inl ⟨fun z => y1 z.1.1, rfl⟩⟩
  rcases hw1 with ⟨y1, y2⟩ | ⟨y1, y2⟩
  case inr => exact absurd y2 zw
  (conv => whnf)
  refine ⟨1, by decide, _, r_within, ?_⟩
  rintro w2 mw ⟨hmm, hw2⟩; have hmm := hmm.symm; subst hmm
  rw [e0, e1] at hw2
  (conv => whnf)
  refine And.intro (fun z2 => ?_) (fun z2 => ?_)
  case refine_2 =>
    have z2 : w2 = 0 := z2
    rcases hw2 with ⟨y3, y4⟩ | ⟨y3, y4⟩
    · rw [y4] at z2; exact absurd z2 (by decide)
    · exact ⟨FmP.rf hM hF, Or.inl ⟨fun z => y3 z.1.2, rfl⟩⟩
  rcases hw2 with ⟨y3, y4⟩ | ⟨y3, y4⟩
  case inr => exact absurd y4 z2
  (conv => whnf)
  refine ⟨10, by decide, _, r_gather_720 hM h rfl hF, ?_⟩
  rintro r m1 hq
  obtain ⟨P1, A1⟩ := ga_cs hM hF hq
  clear hq
  (conv => whnf)
  rcases A1 with ⟨a1, a2⟩ | ⟨a1, a2, a3⟩ | ⟨hA, hl, hr, hS, S1⟩
  · subst a2
    refine And.intro (fun q => absurd q (by decide)) (fun _ => ?_)
    exact ⟨P1, Or.inl ⟨fun z => a1 z.2, rfl⟩⟩
  · subst a3
    refine And.intro (fun q => absurd q (by decide)) (fun _ => ?_)
    exact ⟨P1, Or.inr ⟨⟨⟨y1, y3⟩, a1⟩, Or.inl ⟨a2, rfl⟩⟩⟩
  subst hr
  refine And.intro (fun _ => ?_) (fun q => absurd (show (0 : Int32) ≤ nI (rnL7 (ff, g, (720, 336)) wy k d).length by rw [le_i, e0, nI_toInt (by omega)]; omega) q)
  have h1 : SB 720 m1 := h.fr (by unfold isBk; omega) S1.2.2 (by decide +kernel)
  have hv1 : vw m1 = vw (ff, g, (720, 336)) := vw_fr S1.2.2 (by decide +kernel)
  have hc1 : m1.2.2 = (720, 336) := P1.1.2.1
  obtain ⟨f1, g1, c1⟩ := m1
  obtain rfl : c1 = (720, 336) := hc1
  have ru1 : gI (f1, g1, (720, 336)) 6 6 = gI (ff, g, (720, 336)) 1175 40 := (h1.2.2.2.2.1).trans (fr1 S1.2.2 (by decide))
  (conv => whnf)
  dsimp only
  (conv => whnf)
  refine ⟨4, by decide, _, r_missing_720 S1.1 h1, ?_⟩
  rintro mi m2 ⟨S2, hmi⟩
  rw [hv1, ru1] at hmi
  have P2 : FmP (ff, g, (720, 336)) m2 := P1.sc S2 (by decide) (by decide)
  have hS2 : FS (rnL7 (ff, g, (720, 336)) wy k d) m2 := hS.fr S2.2.2 (by decide)
  have h2 : SB 720 m2 := h1.fr (by unfold isBk; omega) S2.2.2 (by decide +kernel)
  have hv2 : vw m2 = vw (ff, g, (720, 336)) := (vw_fr S2.2.2 (by decide +kernel)).trans hv1
  have hp2 : ∀ f, f < (vw (ff, g, (720, 336))).1 2 → gI m2 50232 f = nI (p f) := fun f hf => by
    rw [row1 S2.2.2 rfl (by decide), row1 S1.2.2 rfl (by decide)]
    exact hpp f hf
  have hc2 : m2.2.2 = (720, 336) := P2.1.2.1
  clear hS h1 hv1 P1 S1 S2
  obtain ⟨f2, g2, c2⟩ := m2
  obtain rfl : c2 = (720, 336) := hc2
  have bits : ∀ t : Nat, t < (vw (ff, g, (720, 336))).1 2 → CI 4 mX6_signBits [.ref 6, .int (nI t), .int mi, .int (nI (rnL7 (ff, g, (720, 336)) wy k d).length)] (f2, g2, (720, 336)) (fun r m' => m' = (f2, g2, (720, 336)) ∧ SgL (ff, g, (720, 336)) wy k d t r) := by
    intro t ht
    rw [hmi]
    have z := r_signBits_720 (m := (f2, g2, (720, 336))) (f := t) (p := p) (ru := gI (ff, g, (720, 336)) 1175 40) P2.1.1 h2 rfl hS2 hl (fun i hi => by rw [hv2]; exact ⟨(L_row (m := (ff, g, (720, 336))) hA hi).2.1, (L_row (m := (ff, g, (720, 336))) hA hi).2.2⟩) (by rw [hv2]; exact hp2) (by rw [hv2]; exact hpl.1) (by rw [hv2]; exact ht)
    rw [hv2] at z
    exact CI.mono z (fun r m' hq => ⟨hq.1, p, hpl, hq.2⟩)
  have ec5 : gI (f2, g2, (720, 336)) 802 1 = nI ((vw (ff, g, (720, 336))).1 2) := by
    have e : gI (f2, g2, (720, 336)) 802 1 = gI (f2, g2, (720, 336)) 1175 5 := h2.1 2 (by decide)
    rw [e, nI_back (vw2 P2.1.1), hv2]
  have mB := StX.bs (p := misB (vw (ff, g, (720, 336))) (gI (ff, g, (720, 336)) 1175 40)) h12
  have lp : ∀ (dd t : Nat) (v10 v11 : Value), t + dd = (vw (ff, g, (720, 336))).1 2 → At (E0 11) mX6_knew (qi (fun r m' => FmP (ff, g, (720, 336)) m' ∧ KwR (ff, g, (720, 336)) sg wy k d wt r)) 59 [.ref 6, .int sg, .int wy, .int k, .int d, .int wt, .int (nI (rnL7 (ff, g, (720, 336)) wy k d).length), .int mi, .int (kbF (kwC (ff, g, (720, 336)) sg wt wy k d) t), .int (nI t), v10, v11] [] (f2, g2, (720, 336)) := by
    intro dd
    induction dd with
    | zero =>
      intro t v10 v11 ht
      refine At.ls okKn 60 ⟨_, _, rfl⟩ ?_
      (conv => whnf)
      dsimp only
      (conv => whnf)
      refine And.intro (fun q => ?_) (fun q => ?_)
      · exact ⟨P2, Or.inr ⟨⟨⟨y1, y3⟩, hA⟩, Or.inr ⟨hl, by rw [show t = (vw (ff, g, (720, 336))).1 2 by omega]⟩⟩⟩
      · have q : ¬ gI (f2, g2, (720, 336)) 802 1 ≤ nI t := q
        rw [ec5, le_i, nI_toInt (by omega), nI_toInt (by omega)] at q
        omega
    | succ dd ih =>
      intro t v10 v11 ht
      have tl : t < (vw (ff, g, (720, 336))).1 2 := by omega
      refine At.ls okKn 80 ⟨_, _, rfl⟩ ?_
      (conv => whnf)
      dsimp only
      (conv => whnf)
      refine And.intro (fun q => ?_) (fun q => ?_)
      · have q : gI (f2, g2, (720, 336)) 802 1 ≤ nI t := q
        rw [ec5, le_i, nI_toInt (by omega), nI_toInt (by omega)] at q
        omega
      (conv => whnf)
      refine ⟨4, by decide, _, bits t tl, ?_⟩
      rintro x m3 ⟨hmm, hx⟩; have hmm := hmm.symm; subst hmm
      have next : ∀ (v10 v11 : Value) (a : Int32), a = kbF (kwC (ff, g, (720, 336)) sg wt wy k d) (t + 1) → At (E0 11) mX6_knew (qi (fun r m' => FmP (ff, g, (720, 336)) m' ∧ KwR (ff, g, (720, 336)) sg wy k d wt r)) 59 [.ref 6, .int sg, .int wy, .int k, .int d, .int wt, .int (nI (rnL7 (ff, g, (720, 336)) wy k d).length), .int mi, .int a, .int (nI t + 1), v10, v11] [] (f2, g2, (720, 336)) := by
        intro v10 v11 a ha
        have z := ih (t + 1) v10 v11 (by omega)
        rw [← ha, ← nI_1] at z
        exact z
      have at117 : ∀ b : Int32, z1 (kwG sg wt x) b → At (E0 11) mX6_knew (qi (fun r m' => FmP (ff, g, (720, 336)) m' ∧ KwR (ff, g, (720, 336)) sg wy k d wt r)) 117 [.ref 6, .int sg, .int wy, .int k, .int d, .int wt, .int (nI (rnL7 (ff, g, (720, 336)) wy k d).length), .int mi, .int (kbF (kwC (ff, g, (720, 336)) sg wt wy k d) t), .int (nI t), .int (x &&& sg), v11] [.int b] (f2, g2, (720, 336)) := by
        intro b hb
        refine At.ls okKn 80 ⟨_, _, rfl⟩ ?_
        (conv => whnf)
        refine And.intro (fun q => ?_) (fun q => ?_)
        · have q : b = 0 := q
          rcases hb with ⟨u1, u2⟩ | ⟨u1, u2⟩
          · rw [u2] at q; exact absurd q (by decide)
          · (conv => whnf)
            refine And.intro rfl (next _ _ _ (kbF_n (fun z => ?_)).symm)
            obtain ⟨⟨x', x1, x2⟩, -⟩ := z
            rw [SgL_1 tl x1 hx] at x2
            exact u1 x2
        rcases hb with ⟨u1, u2⟩ | ⟨u1, u2⟩
        case inr => exact absurd u2 q
        have mt : ¬ bt mi (nI t) = 0 ↔ misB (vw (ff, g, (720, 336))) (gI (ff, g, (720, 336)) 1175 40) t = true := by
          rw [hmi, mB.bt (show t < 12 by omega)]
          exact ⟨fun z => z.2, fun z => ⟨tl, z⟩⟩
        (conv => whnf)
        refine And.intro (fun q2 => ?_) (fun q2 => ?_)
        · have q2 : ¬ bt mi (nI t) = 0 := q2
          rw [mt] at q2
          (conv => whnf)
          exact And.intro rfl (next _ _ _ (kbF_n (fun z => z.2 q2)).symm)
        · have q2 : bt mi (nI t) = 0 := q2
          have nm : ¬ misB (vw (ff, g, (720, 336))) (gI (ff, g, (720, 336)) 1175 40) t = true := fun z => (mt.mpr z) q2
          (conv => whnf)
          exact And.intro rfl (next _ _ _ (kbF_y ⟨⟨x, hx, u1⟩, nm⟩).symm)
      (conv => whnf)
      refine And.intro (fun q => ?_) (fun q => ?_)
      · have q : ¬ wt = 0 := q
        (conv => whnf)
        refine And.intro (fun q2 => ?_) (fun q2 => ?_)
        · have q2 : x &&& sg = 0 := q2
          exact And.intro rfl (at117 0 (Or.inr ⟨fun z => Or.elim z (fun u => q u.1) (fun u => u.2 q2), rfl⟩))
        · have q2 : ¬ x &&& sg = 0 := q2
          (conv => whnf)
          exact And.intro rfl (at117 1 (Or.inl ⟨Or.inr ⟨q, q2⟩, rfl⟩))
      · have q : wt = 0 := q
        (conv => whnf)
        refine And.intro (fun q2 => ?_) (fun q2 => ?_)
        · have q2 : ¬ x &&& sg = sg := q2
          (conv => whnf)
          exact And.intro rfl (at117 0 (Or.inr ⟨fun z => Or.elim z (fun u => q2 u.2) (fun u => u.1 q), rfl⟩))
        · have q2 : x &&& sg = sg := q2
          (conv => whnf)
          exact And.intro rfl (at117 1 (Or.inl ⟨Or.inl ⟨q, q2⟩, rfl⟩))
  (conv => whnf)
  exact And.intro rfl (lp ((vw (ff, g, (720, 336))).1 2) 0 _ _ (by omega))
def wSi : List Nat := [26104, 4916696, 820712, 184683594903, 206158431383, 210453398679, 214748365975, 219043333271, 165384, 4294968471, 50632]
/-- what the model holds behind seeksNow and parties -/
theorem pa_of {m m2 : MM} {wy k d : Int32} {p : Nat → Nat} (hA : AsP wy k d) (T2 : St wRo m m2) (F2 : MdS (rnL7 m wy k d) m2) (hpl : LabOn (joV (vw m)) ((vw m).1 2) p) : CV 1 mX7_parties [.ref 1175] m2 (fun m' => St wSi m m' ∧ MdS (rnL7 m wy k d) m' ∧ vw m' = vw m ∧ gI m' 1175 40 = gI m 1175 40 ∧ gI m' 1175 47 = gI m2 1175 47 ∧ ∀ f, f < (vw m).1 2 → gI m' 50632 f = nI (p f)) := by
  have hv2 : vw m2 = vw m := vw_fr T2.2.2 (by decide +kernel)
  have z := s_parties (m := m2) (p := p) T2.1 (by rw [hv2]; exact hpl)
  refine CV.mono z (fun m' hq => ?_)
  obtain ⟨S3, g3⟩ := hq
  rw [hv2] at g3
  have T3 : St wSi m m' := St.tr (St.wd T2 (by decide)) S3 (by decide)
  exact ⟨T3, F2.fr S3.2.2 (by decide), vw_fr T3.2.2 (by decide +kernel), fr1 T3.2.2 (by decide), fr1 S3.2.2 (by decide), g3⟩
set_option maxRecDepth 100000 in
set_option maxHeartbeats 4000000 in
theorem s_signs {m : MM} {f wy k d : Int32} {p : Nat → Nat} (hM : Mok TYg m) (hW : Wf (vw m)) (hpl : LabOn (joV (vw m)) ((vw m).1 2) p) : CI 10 mX7_signs [.ref 1175, .int f, .int wy, .int k, .int d] m (fun r m' => St wSi m m' ∧ SnR m f wy k d r) := by
  have S0 := St_z7 hM
  have h12 := hW.1.2.2.1
  have h40 := hW.1.2.2.2
  refine At.gs okX7_signs 80 ?_
  (conv => whnf)
  refine ⟨1, by decide, _, s_isFirm (m := sI m 1175 0 0), ?_⟩
  rintro rf mf ⟨hmm, hz⟩; have hmm := hmm.symm; subst hmm
  have hz : z1 (0 ≤ f.toInt ∧ f.toInt < (gI m 1175 5).toInt) rf := hz
  rw [vw2 hM] at hz
  (conv => whnf)
  refine And.intro (fun q => ?_) (fun q => ?_)
  · have q : rf = 0 := q
    rcases hz with ⟨y1, y2⟩ | ⟨y1, y2⟩
    · rw [y2] at q; exact absurd q (by decide)
    · exact ⟨S0.wd (by decide), Or.inl ⟨fun z => y1 z.1, rfl⟩⟩
  rcases hz with ⟨y1, y2⟩ | ⟨y1, y2⟩
  case inr => exact absurd y2 q
  (conv => whnf)
  refine ⟨1, by decide, _, s_isAsked (m := sI m 1175 0 0), ?_⟩
  rintro r m1 ⟨hmm, hz⟩; have hmm := hmm.symm; subst hmm
  (conv => whnf)
  refine And.intro (fun q => ?_) (fun q => ?_)
  case refine_2 =>
    have q : r = 0 := q
    rcases hz with ⟨y3, y4⟩ | ⟨y3, y4⟩
    · rw [y4] at q; exact absurd q (by decide)
    · exact ⟨S0.wd (by decide), Or.inl ⟨fun z => y3 z.2, rfl⟩⟩
  have q : ¬ r = 0 := q
  rcases hz with ⟨hA, y4⟩ | ⟨y3, y4⟩
  case inr => exact absurd y4 q
  (conv => whnf)
  refine ⟨9, by decide, _, sk_of (m := m) (m1 := sI m 1175 0 0) hA S0.1 vw_z rfl hW, ?_⟩
  rintro m2 ⟨S2, F2⟩
  have T2 : St wRo m m2 := S0.tr S2 (by decide)
  have sp := spM F2
  (conv => whnf)
  refine ⟨1, by decide, _, pa_of hA T2 F2 hpl, ?_⟩
  rintro m3 ⟨T3, F3, hv3, r40, r47, hp3⟩
  rw [← r47] at sp
  (conv => whnf)
  refine And.intro (fun p => ?_) (fun p => ?_)
  · have p : gI m3 1175 47 = 0 := p
    rcases sp with ⟨a, b, c⟩ | ⟨a, b, c⟩
    · have ef : f = nI f.toNatClampNeg := nI_back (by rw [clamp_toNat]; omega)
      have hc := s_signsOf (m := m3) (f := f.toNatClampNeg) (L := rnL7 m wy k d) T3.1 (by rw [hv3]; exact hW) F3 c (fun i hi j hj => by have := (L_row (m := m) hA hi).2.2 j hj; omega) (by rw [hv3]; exact hp3) (by rw [hv3]; exact hpl.1) (by rw [hv3, clamp_toNat]; omega)
      rw [hv3, ← ef, r40] at hc
      (conv => whnf)
      refine ⟨7, by decide, _, hc, ?_⟩
      rintro r4 m4 ⟨hmm, hq⟩; have hmm := hmm.symm; subst hmm
      exact ⟨T3, Or.inr ⟨⟨y1, hA⟩, Or.inr ⟨c, _, hpl, hq⟩⟩⟩
    · rw [a] at p; exact absurd p (by decide)
  · have p : ¬ gI m3 1175 47 = 0 := p
    rcases sp with ⟨a, b, c⟩ | ⟨a, b, c⟩
    · exact absurd a p
    · (conv => whnf)
      exact ⟨T3, Or.inr ⟨⟨y1, hA⟩, Or.inl ⟨c, rfl⟩⟩⟩
set_option maxRecDepth 100000 in
set_option maxHeartbeats 8000000 in
theorem s_knew {m : MM} {sg wy k d wt : Int32} {p : Nat → Nat} (hM : Mok TYg m) (hW : Wf (vw m)) (hpl : LabOn (joV (vw m)) ((vw m).1 2) p) : CI 10 mX7_knew [.ref 1175, .int sg, .int wy, .int k, .int d, .int wt] m (fun r m' => St wSi m m' ∧ KwR m sg wy k d wt r) := by
  have S0 := St_z7 hM
  have h12 := hW.1.2.2.1
  have h40 := hW.1.2.2.2
  have e0 : (0 : Int32).toInt = 0 := rfl
  have e1 : (1 : Int32).toInt = 1 := rfl
  have e15 : (15 : Int32).toInt = 15 := rfl
  refine At.gs okKm 100 ?_
  (conv => whnf)
  refine And.intro (fun q => ?_) (fun q => ?_)
  · have q : sg < (1 : Int32) := q
    rw [lt_i, e1] at q
    exact ⟨S0.wd (by decide), Or.inl ⟨fun z => by have := z.1.1.1; omega, rfl⟩⟩
  have q : ¬ sg < (1 : Int32) := q
  rw [lt_i, e1] at q
  (conv => whnf)
  refine And.intro (fun q2 => ?_) (fun q2 => ?_)
  · have q2 : (15 : Int32) < sg := q2
    rw [lt_i, e15] at q2
    exact ⟨S0.wd (by decide), Or.inl ⟨fun z => by have := z.1.1.2; omega, rfl⟩⟩
  have q2 : ¬ (15 : Int32) < sg := q2
  rw [lt_i, e15] at q2
  (conv => whnf)
  refine ⟨1, by decide, _, s_isAsked (m := sI m 1175 0 0), ?_⟩
  rintro r m1 ⟨hmm, hz⟩; have hmm := hmm.symm; subst hmm
  (conv => whnf)
  refine And.intro (fun q3 => ?_) (fun q3 => ?_)
  · have q3 : r = 0 := q3
    rcases hz with ⟨y3, y4⟩ | ⟨y3, y4⟩
    · rw [y4] at q3; exact absurd q3 (by decide)
    · exact ⟨S0.wd (by decide), Or.inl ⟨fun z => y3 z.2, rfl⟩⟩
  rcases hz with ⟨hA, y4⟩ | ⟨y3, y4⟩
  case inr => exact absurd y4 q3
  (conv => whnf)
  refine And.intro (fun q4 => ?_) (fun q4 => ?_)
  · have q4 : wt < (0 : Int32) := q4
    rw [lt_i, e0] at q4
    exact ⟨S0.wd (by decide), Or.inl ⟨fun z => by have := z.1.2.1; omega, rfl⟩⟩
  have q4 : ¬ wt < (0 : Int32) := q4
  rw [lt_i, e0] at q4
  (conv => whnf)
  refine And.intro (fun q5 => ?_) (fun q5 => ?_)
  case refine_2 =>
    have q5 : ¬ wt ≤ (1 : Int32) := q5
    rw [le_i, e1] at q5
    exact ⟨S0.wd (by decide), Or.inl ⟨fun z => by have := z.1.2.2; omega, rfl⟩⟩
  have q5 : wt ≤ (1 : Int32) := q5
  rw [le_i, e1] at q5
  have ok : (1 ≤ sg.toInt ∧ sg.toInt ≤ 15) ∧ (0 ≤ wt.toInt ∧ wt.toInt ≤ 1) := ⟨⟨by omega, by omega⟩, by omega, by omega⟩
  (conv => whnf)
  refine ⟨9, by decide, _, sk_of (m := m) (m1 := sI m 1175 0 0) hA S0.1 vw_z rfl hW, ?_⟩
  rintro m2 ⟨S2, F2⟩
  have T2 : St wRo m m2 := S0.tr S2 (by decide)
  have sp := spM F2
  (conv => whnf)
  refine And.intro (fun p => ?_) (fun p => ?_)
  case refine_2 =>
    have p : ¬ gI m2 1175 47 = 0 := p
    rcases sp with ⟨a, b, c⟩ | ⟨a, b, c⟩
    · exact absurd a p
    · exact ⟨T2.wd (by decide), Or.inr ⟨⟨ok, hA⟩, Or.inl ⟨c, rfl⟩⟩⟩
  have p : gI m2 1175 47 = 0 := p
  have hl : (rnL7 m wy k d).length ≤ 200 := by
    rcases sp with ⟨a, b, c⟩ | ⟨a, b, c⟩
    · exact c
    · rw [a] at p; exact absurd p (by decide)
  (conv => whnf)
  refine ⟨1, by decide, _, pa_of hA T2 F2 hpl, ?_⟩
  rintro m3 ⟨T3, F3, hv3, r40, r47, hp3⟩
  have n5 : gI m3 1175 5 = nI ((vw m).1 2) := by rw [nI_back (vw2 T3.1), hv3]
  have bits : ∀ t : Nat, t < (vw m).1 2 → CI 7 mX7_signsOf [.ref 1175, .int (nI t)] m3 (fun r m' => m' = m3 ∧ SgL m wy k d t r) := by
    intro t ht
    have hc := s_signsOf (m := m3) (f := t) (L := rnL7 m wy k d) T3.1 (by rw [hv3]; exact hW) F3 hl (fun i hi j hj => by have := (L_row (m := m) hA hi).2.2 j hj; omega) (by rw [hv3]; exact hp3) (by rw [hv3]; exact hpl.1) (by rw [hv3]; exact ht)
    rw [hv3, r40] at hc
    exact CI.mono hc (fun r m' hq => ⟨hq.1, _, hpl, hq.2⟩)
  have lp : ∀ (dd t : Nat) (v8 : Value), t + dd = (vw m).1 2 → At (E0 10) mX7_knew (qi (fun r m' => St wSi m m' ∧ KwR m sg wy k d wt r)) 67 [.ref 1175, .int sg, .int wy, .int k, .int d, .int wt, .int (kbF (kwC m sg wt wy k d) t), .int (nI t), v8] [] m3 := by
    intro dd
    induction dd with
    | zero =>
      intro t v8 ht
      refine At.ls okKm 60 ⟨_, _, rfl⟩ ?_
      (conv => whnf)
      refine And.intro (fun q => ?_) (fun q => ?_)
      · exact ⟨T3, Or.inr ⟨⟨ok, hA⟩, Or.inr ⟨hl, by rw [show t = (vw m).1 2 by omega]⟩⟩⟩
      · have q : ¬ gI m3 1175 5 ≤ nI t := q
        rw [n5, le_i, nI_toInt (by omega), nI_toInt (by omega)] at q
        omega
    | succ dd ih =>
      intro t v8 ht
      have tl : t < (vw m).1 2 := by omega
      have next : ∀ (v8 : Value) (a : Int32), a = kbF (kwC m sg wt wy k d) (t + 1) → At (E0 10) mX7_knew (qi (fun r m' => St wSi m m' ∧ KwR m sg wy k d wt r)) 67 [.ref 1175, .int sg, .int wy, .int k, .int d, .int wt, .int a, .int (nI t + 1), v8] [] m3 := by
        intro v8 a ha
        have z := ih (t + 1) v8 (by omega)
        rw [← ha, ← nI_1] at z
        exact z
      refine At.ls okKm 80 ⟨_, _, rfl⟩ ?_
      (conv => whnf)
      refine And.intro (fun q => ?_) (fun q => ?_)
      · have q : gI m3 1175 5 ≤ nI t := q
        rw [n5, le_i, nI_toInt (by omega), nI_toInt (by omega)] at q
        omega
      (conv => whnf)
      refine ⟨7, by decide, _, bits t tl, ?_⟩
      rintro x m4 ⟨hmm, hx⟩; have hmm := hmm.symm; subst hmm
      have hmc := s_missing (m := m3) (f := t) (ru := gI m3 1175 40) T3.1 (by omega)
      rw [hv3] at hmc
      (conv => whnf)
      refine ⟨4, by decide, _, hmc, ?_⟩
      rintro y m5 ⟨hmm, hq⟩; have hmm := hmm.symm; subst hmm
      rw [r40] at hq
      have hz := if_z1 hq
      (conv => whnf)
      refine And.intro (fun q6 => ?_) (fun q6 => ?_)
      · rcases hz with ⟨u1, u2⟩ | ⟨u1, u2⟩
        · (conv => whnf)
          exact And.intro rfl (next _ _ (kbF_n (fun z => z.2 u1)).symm)
        · exact absurd u2 q6
      have q6 : y = 0 := q6
      have nm : ¬ misB (vw m) (gI m 1175 40) t = true := by
        rcases hz with ⟨u1, u2⟩ | ⟨u1, u2⟩
        · rw [u2] at q6; exact absurd q6 (by decide)
        · exact u1
      have no : ¬ kwG sg wt x → ∀ v8 : Value, At (E0 10) mX7_knew (qi (fun r m' => St wSi m m' ∧ KwR m sg wy k d wt r)) 67 [.ref 1175, .int sg, .int wy, .int k, .int d, .int wt, .int (kbF (kwC m sg wt wy k d) t), .int (nI t + 1), v8] [] m3 := by
        intro hn v8
        refine next _ _ (kbF_n (fun z => ?_)).symm
        obtain ⟨⟨x', x1, x2⟩, -⟩ := z
        rw [SgL_1 tl x1 hx] at x2
        exact hn x2
      have at118 : kwG sg wt x → At (E0 10) mX7_knew (qi (fun r m' => St wSi m m' ∧ KwR m sg wy k d wt r)) 118 [.ref 1175, .int sg, .int wy, .int k, .int d, .int wt, .int (kbF (kwC m sg wt wy k d) t), .int (nI t), .int (x &&& sg)] [] m3 := by
        intro hg
        refine At.ls okKm 60 ⟨_, _, rfl⟩ ?_
        (conv => whnf)
        exact And.intro rfl (next _ _ (kbF_y ⟨⟨x, hx, hg⟩, nm⟩).symm)
      (conv => whnf)
      refine And.intro (fun q7 => ?_) (fun q7 => ?_)
      · have q7 : ¬ wt = 0 := q7
        (conv => whnf)
        refine And.intro (fun q8 => ?_) (fun q8 => ?_)
        · have q8 : x &&& sg = 0 := q8
          (conv => whnf)
          exact And.intro rfl (no (fun z => Or.elim z (fun u => q7 u.1) (fun u => u.2 q8)) _)
        · have q8 : ¬ x &&& sg = 0 := q8
          exact And.intro rfl (at118 (Or.inr ⟨q7, q8⟩))
      · have q7 : wt = 0 := q7
        (conv => whnf)
        refine And.intro (fun q8 => ?_) (fun q8 => ?_)
        · have q8 : ¬ x &&& sg = sg := q8
          (conv => whnf)
          exact And.intro rfl (no (fun z => Or.elim z (fun u => q8 u.2) (fun u => u.1 q7)) _)
        · have q8 : x &&& sg = sg := q8
          (conv => whnf)
          exact And.intro rfl (at118 (Or.inl ⟨q7, q8⟩))
  (conv => whnf)
  exact And.intro rfl (lp ((vw m).1 2) 0 _ (by omega))
