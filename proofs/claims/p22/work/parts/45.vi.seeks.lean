/-! the model: seeks, seeksNow, isAsked, rounds -/
def wSk : List Nat := [26104, 4916696, 820712, 184683594903, 206158431383, 210453398679, 214748365975, 219043333271]
def cdSk : List CE := stops [80] cdX7_seeks
set_option maxRecDepth 20000 in
theorem okSk : CodeOk mX7_seeks cdSk := okX7_seeks.st [80] (by rfl)
/-- what rows that begin with sale s give, as the model has it -/
noncomputable def rnA2 (V : VW) (g : Nat → Int32) (st wy : Int32) (k : Nat) (d : Int) (s : Nat) : List (List Nat) := rnP (rnB V g st wy s) (rnM (V.1 3) g (V.2 10 s) (rnT V g st wy d) (k - 1) [s] s)
theorem rnA2_n {V : VW} {g : Nat → Int32} {st wy : Int32} {k : Nat} {d : Int} {s : Nat} (h : ¬ rnB V g st wy s) : rnA2 V g st wy k d s = [] := rnP_n h
theorem rnA2_y {V : VW} {g : Nat → Int32} {st wy : Int32} {k : Nat} {d : Int} {s : Nat} (h : rnB V g st wy s) : rnA2 V g st wy k d s = rnM (V.1 3) g (V.2 10 s) (rnT V g st wy d) (k - 1) [s] s := rnP_y h
section Sk
variable {V : VW} {g : Nat → Int32} {st wy d : Int32} {k : Nat} {m0 : MM}
set_option maxRecDepth 100000 in
set_option maxHeartbeats 8000000 in
theorem s_seeks (hM : Mok TYg m0) (hv : vw m0 = V) (hst : gI m0 1175 39 = st) (hg : ∀ s, s < V.1 3 → gI m0 165384 s = g s) (hW : Wf V) (hG : GW (V.1 3) g) (k2 : 2 ≤ k) (k6 : k ≤ 6) (d0 : 0 ≤ d.toInt) (d4 : d.toInt ≤ 400) : CV 8 mX7_seeks [.ref 1175, .int wy, .int (nI k), .int d] m0 (fun m' => St wSk m0 m' ∧ MdS (rnAM V g st wy k d.toInt) m') := by
  have h40 := hW.1.2.2.2
  have e0 : (0 : Int32).toInt = 0 := rfl
  obtain ⟨mB, hB⟩ : ∃ x, x = sI (sI (sI (sI (sI m0 1175 48 wy) 1175 49 (nI k)) 1175 50 d) 1175 42 0) 1175 47 0 := ⟨_, rfl⟩
  have SB : St wSk m0 mB := by
    rw [hB]
    exact (((((St.rf hM).fld (a := 1175) (k := 48) (v := wy) (by decide) (tI_lo _) (tI_hi _) (fun _ z => by omega)).fld (a := 1175) (k := 49) (v := nI k) (by decide) (show (0 : Int) ≤ _ by rw [nI_toInt (by omega)]; omega) (show _ ≤ (6 : Int) by rw [nI_toInt (by omega)]; omega) (fun _ z => by omega)).fld (a := 1175) (k := 50) (v := d) (by decide) (tI_lo _) (tI_hi _) (fun _ z => by omega)).fld (a := 1175) (k := 42) (v := 0) (by decide) (by decide) (by decide) (fun _ z => by omega)).fld (a := 1175) (k := 47) (v := 0) (by decide) (by decide) (by decide) (fun _ z => by omega)
  have hvB : vw mB = V := by rw [vw_fr SB.2.2 (by decide +kernel)]; exact hv
  have n6 : gI mB 1175 6 = nI (V.1 3) := by
    have := vw3 SB.1
    rw [hvB] at this
    exact nI_back this
  have hX0 : GX V g st wy k d mB := by
    refine ⟨n6, ?_, by rw [hB]; rfl, by rw [hB]; rfl, by rw [hB]; rfl, hvB, fun s hs => ?_⟩
    · rw [fr1 SB.2.2 (by decide)]; exact hst
    · rw [row1 SB.2.2 rfl (by decide)]; exact hg s hs
  have hM0 : MdS [] mB := ⟨Or.inl ⟨Nat.zero_le _, by rw [hB]; rfl, by rw [hB]; rfl⟩, fun i _ hi => absurd hi (Nat.not_lt_zero _)⟩
  have lp : ∀ (j s : Nat) (m1 : MM), s + j = V.1 3 → St wGr mB m1 → MdS (rnF (rnA2 V g st wy k d.toInt) s) m1 → At (E0 8) mX7_seeks (qv (fun m' => St wSk m0 m' ∧ MdS (rnAM V g st wy k d.toInt) m')) 28 [.ref 1175, .int wy, .int (nI k), .int d, .int (nI s)] [] m1 := by
    intro j
    induction j with
    | zero =>
      intro s m1 hs hS hF
      have hX := hX0.fr hS.2.2 (by decide +kernel)
      refine At.ls okSk 60 ⟨_, _, rfl⟩ ?_
      (conv => whnf)
      refine And.intro (fun p => ?_) (fun p => ?_)
      · have key : St wSk m0 m1 ∧ MdS (rnAM V g st wy k d.toInt) m1 := by
          refine ⟨SB.tr hS (by decide), ?_⟩
          rw [show s = V.1 3 by omega] at hF
          exact hF
        exact key
      · have p : ¬ gI m1 1175 6 ≤ nI s := p
        rw [hX.1, le_i, nI_toInt (by omega), nI_toInt (by omega)] at p
        omega
    | succ j ih =>
      intro s m1 hs hS hF
      have hX := hX0.fr hS.2.2 (by decide +kernel)
      have hv1 : vw m1 = V := hX.2.2.2.2.2.1
      have vs : vp_in (nI s) 80 := vp_in_nI (by omega) (by decide)
      have vs4 : vp_in (nI s) 40 := vp_in_nI (by omega) (by decide)
      have sc : (nI s).toNatClampNeg = s := nI_clamp (by omega)
      have r10 : gI m1 329048 (nI s).toNatClampNeg = V.2 10 s := by rw [sc, ← hv1]; rfl
      have r16 : gI m1 329144 (nI s).toNatClampNeg = V.2 16 s := by rw [sc, ← hv1]; rfl
      have rg : gI m1 165384 (nI s).toNatClampNeg = g s := by rw [sc]; exact hX.2.2.2.2.2.2 s (by omega)
      have next : ∀ m3, St wGr mB m3 → MdS (rnF (rnA2 V g st wy k d.toInt) s ++ rnA2 V g st wy k d.toInt s) m3 → At (E0 8) mX7_seeks (qv (fun m' => St wSk m0 m' ∧ MdS (rnAM V g st wy k d.toInt) m')) 28 [.ref 1175, .int wy, .int (nI k), .int d, .int (nI s + 1)] [] m3 := by
        intro m3 hS3 hF3
        have z := ih (s + 1) m3 (by omega) hS3 hF3
        rw [← nI_1] at z
        exact z
      have skip : ¬ rnB V g st wy s → At (E0 8) mX7_seeks (qv (fun m' => St wSk m0 m' ∧ MdS (rnAM V g st wy k d.toInt) m')) 28 [.ref 1175, .int wy, .int (nI k), .int d, .int (nI s + 1)] [] m1 := fun hn => next m1 hS (by rw [rnA2_n hn, List.append_nil]; exact hF)
      have at80 : rnB V g st wy s → At (E0 8) mX7_seeks (qv (fun m' => St wSk m0 m' ∧ MdS (rnAM V g st wy k d.toInt) m')) 80 [.ref 1175, .int wy, .int (nI k), .int d, .int (nI s)] [] m1 := by
        intro hb
        have SR : St wGr mB (sI m1 26104 0 (nI s)) := hS.row (a := 26104) rfl (by decide) (show (0 : Int) ≤ _ by rw [nI_toInt (by omega)]; omega) (show _ ≤ (39 : Int) by rw [nI_toInt (by omega)]; omega)
        have FR : Fr [26104] m1 (sI m1 26104 0 (nI s)) := Fr_sI (Fr_rfl _ _) (by decide) (fun _ z => by omega)
        have hc : CV (k - 1 + 2) mX7_grows [.ref 1175, .int 1] (sI m1 26104 0 (nI s)) (GrQ V g st wy d.toInt mB (rnF (rnA2 V g st wy k d.toInt) s) (k - 1) [s] s) := by
          have z := s_grows hX0 hW hG k6 d0 d4 (k - 1) [s] s _ _ SR (hF.fr FR (by decide)) (by show 1 + (k - 1) = k; omega) (Nat.le_refl _) (fun i hi => by
            have hi : i < 1 := hi
            rw [show i = 0 by omega, gI_if, if_pos ⟨rfl, rfl⟩]
            exact ⟨rfl, by show s < V.1 3; omega⟩) rfl
          exact z
        refine At.ls okSk 60 ⟨_, _, rfl⟩ ?_
        (conv => whnf)
        refine And.intro (show vp_in (nI 0) 6 from vp_in_nI (by decide) (by decide)) ?_
        (conv => whnf)
        refine ⟨k - 1 + 2, (show k - 1 + 2 < 8 by omega), _, hc, ?_⟩
        rintro m3 ⟨S3, F3, -⟩
        (conv => whnf)
        refine And.intro rfl (next m3 S3 ?_)
        rw [rnA2_y hb]
        exact F3
      refine At.ls okSk 100 ⟨_, _, rfl⟩ ?_
      (conv => whnf)
      refine And.intro (fun p => ?_) (fun p => ?_)
      · have p : gI m1 1175 6 ≤ nI s := p
        rw [hX.1, le_i, nI_toInt (by omega), nI_toInt (by omega)] at p
        omega
      (conv => whnf)
      refine And.intro vs ?_
      (conv => whnf)
      refine And.intro vs4 ?_
      (conv => whnf)
      refine And.intro (fun p1 => ?_) (fun p1 => ?_)
      · have p1 : gI m1 329048 (nI s).toNatClampNeg = gI m1 165384 (nI s).toNatClampNeg := p1
        rw [r10, rg] at p1
        (conv => whnf)
        exact And.intro rfl (skip (fun z => z.1 p1))
      have p1 : ¬ gI m1 329048 (nI s).toNatClampNeg = gI m1 165384 (nI s).toNatClampNeg := p1
      rw [r10, rg] at p1
      (conv => whnf)
      refine ⟨1, by decide, _, s_isStopped (m := m1) (s := s) (by omega), ?_⟩
      rintro r m2 ⟨hmm, hz⟩; have hmm := hmm.symm; subst hmm
      rw [sc] at r10 rg
      rw [r10, rg, hX.2.1] at hz
      (conv => whnf)
      refine And.intro (fun q => ?_) (fun q => ?_)
      · have q : ¬ r = 0 := q
        rcases hz with ⟨y1, y2⟩ | ⟨y1, y2⟩
        · (conv => whnf)
          exact And.intro rfl (skip (fun z => y1 z.2.1))
        · exact absurd y2 q
      have q : r = 0 := q
      rcases hz with ⟨y1, y2⟩ | ⟨y1, y2⟩
      · rw [y2] at q; exact absurd q (by decide)
      have y1 := Classical.not_not.mp y1
      (conv => whnf)
      refine And.intro (fun q2 => ?_) (fun q2 => ?_)
      · have q2 : ¬ wy = 0 := q2
        exact And.intro rfl (at80 ⟨p1, y1, fun z => absurd z q2⟩)
      have q2 : wy = 0 := q2
      (conv => whnf)
      refine And.intro vs ?_
      (conv => whnf)
      refine And.intro (fun q3 => ?_) (fun q3 => ?_)
      · have q3 : ¬ gI m1 329144 (nI s).toNatClampNeg = 0 := q3
        rw [r16] at q3
        exact And.intro rfl (at80 ⟨p1, y1, fun _ => q3⟩)
      · have q3 : gI m1 329144 (nI s).toNatClampNeg = 0 := q3
        rw [r16] at q3
        (conv => whnf)
        exact And.intro rfl (skip (fun z => z.2.2 q2 q3))
  have z := lp (V.1 3) 0 mB (by omega) (St.rf SB.1) hM0
  rw [hB] at z
  refine At.gs okSk 100 ?_
  (conv => whnf)
  refine And.intro (Or.inl rfl) ?_
  (conv => whnf)
  exact And.intro rfl z
end Sk
def wSn : List Nat := [26104, 4916696, 820712, 184683594903, 206158431383, 210453398679, 214748365975, 219043333271, 165384]
set_option maxRecDepth 100000 in
set_option maxHeartbeats 4000000 in
theorem s_seeksNow {m : MM} {wy d : Int32} {k : Nat} (hM : Mok TYg m) (hW : Wf (vw m)) (k2 : 2 ≤ k) (k6 : k ≤ 6) (d0 : 0 ≤ d.toInt) (d4 : d.toInt ≤ 400) : CV 9 mX7_seeksNow [.ref 1175, .int wy, .int (nI k), .int d] m (fun m' => St wSn m m' ∧ MdS (rnAM (vw m) ((vw m).2 11) (gI m 1175 39) wy k d.toInt) m') := by
  have h40 := hW.1.2.2.2
  have h12 := hW.1.2.2.1
  have n6 : gI m 1175 6 = nI ((vw m).1 3) := nI_back (vw3 hM)
  have lp : ∀ (j s : Nat) (m1 : MM), s + j = (vw m).1 3 → St [165384] m m1 → (∀ i, i < s → gI m1 165384 i = (vw m).2 11 i) → At (E0 9) mX7_seeksNow (qv (fun m' => St wSn m m' ∧ MdS (rnAM (vw m) ((vw m).2 11) (gI m 1175 39) wy k d.toInt) m')) 3 [.ref 1175, .int wy, .int (nI k), .int d, .int (nI s)] [] m1 := by
    intro j
    induction j with
    | zero =>
      intro s m1 hs hS hI
      have e6 : gI m1 1175 6 = nI ((vw m).1 3) := by rw [fr1 hS.2.2 (by decide)]; exact n6
      have hv : vw m1 = vw m := vw_fr hS.2.2 (by decide +kernel)
      refine At.ls okX7_seeksNow 60 ⟨_, _, rfl⟩ ?_
      (conv => whnf)
      refine And.intro (fun p => ?_) (fun p => ?_)
      · (conv => whnf)
        refine ⟨8, by decide, _, s_seeks (g := (vw m).2 11) (st := gI m 1175 39) hS.1 hv (fr1 hS.2.2 (by decide)) (fun i hi => hI i (by omega)) hW (GW_of hW) k2 k6 d0 d4, ?_⟩
        rintro m2 ⟨S2, F2⟩
        exact ⟨(St.tr (W := wSn) (St.tr (St.rf hM) hS (by decide)) S2 (by decide)), F2⟩
      · have p : ¬ gI m1 1175 6 ≤ nI s := p
        rw [e6, le_i, nI_toInt (by omega), nI_toInt (by omega)] at p
        omega
    | succ j ih =>
      intro s m1 hs hS hI
      have e6 : gI m1 1175 6 = nI ((vw m).1 3) := by rw [fr1 hS.2.2 (by decide)]; exact n6
      have vs : vp_in (nI s) 80 := vp_in_nI (by omega) (by decide)
      have vs4 : vp_in (nI s) 40 := vp_in_nI (by omega) (by decide)
      have sc : (nI s).toNatClampNeg = s := nI_clamp (by omega)
      obtain ⟨t, t1, t2, -⟩ := hW.tom (s := s) (by omega)
      have r11 : gI m1 329064 (nI s).toNatClampNeg = (vw m).2 11 s := by rw [sc]; exact row1 hS.2.2 rfl (by decide)
      have SR : St [165384] m (sI m1 165384 (nI s).toNatClampNeg (gI m1 329064 (nI s).toNatClampNeg)) := hS.row (a := 165384) rfl (by decide) (show (0 : Int) ≤ _ by rw [r11, t2, nI_toInt (by omega)]; omega) (show _ ≤ (11 : Int) by rw [r11, t2, nI_toInt (by omega)]; omega)
      refine At.ls okX7_seeksNow 60 ⟨_, _, rfl⟩ ?_
      (conv => whnf)
      refine And.intro (fun p => ?_) (fun p => ?_)
      · have p : gI m1 1175 6 ≤ nI s := p
        rw [e6, le_i, nI_toInt (by omega), nI_toInt (by omega)] at p
        omega
      (conv => whnf)
      refine And.intro vs ?_
      (conv => whnf)
      refine And.intro vs4 ?_
      (conv => whnf)
      have z := ih (s + 1) _ (by omega) SR (fun i hi => by
        rw [gI_if, sc]
        by_cases q : i = s
        · rw [if_pos ⟨rfl, q⟩, q]
          rw [sc] at r11
          exact r11
        · rw [if_neg (fun y => q y.2)]
          exact hI i (by omega))
      rw [← nI_1] at z
      exact And.intro rfl z
  refine At.gs okX7_seeksNow 60 ?_
  (conv => whnf)
  exact And.intro rfl (lp ((vw m).1 3) 0 m (by omega) (St.rf hM) (fun i hi => absurd hi (Nat.not_lt_zero _)))
set_option maxRecDepth 100000 in
theorem s_isAsked {m : MM} {wy k d : Int32} : CI 1 mX7_isAsked [.int wy, .int k, .int d] m (fun r m' => m' = m ∧ z1 (AsP wy k d) r) := by
  have e0 : (0 : Int32).toInt = 0 := rfl
  have e1 : (1 : Int32).toInt = 1 := rfl
  have e2 : (2 : Int32).toInt = 2 := rfl
  have e6 : (6 : Int32).toInt = 6 := rfl
  have e4 : (400 : Int32).toInt = 400 := rfl
  have no : ¬ AsP wy k d → (0 : Int32) = 0 ∨ (0 : Int32) = 1 := fun _ => Or.inl rfl
  refine At.gs okX7_isAsked 60 ?_
  (conv => whnf)
  refine And.intro (fun q1 => ?_) (fun q1 => ?_)
  · rw [lt_i, e0] at q1
    exact ⟨Or.inl rfl, rfl, Or.inr ⟨fun z => by have := z.1.1; omega, rfl⟩⟩
  rw [lt_i, e0] at q1
  (conv => whnf)
  refine And.intro (fun q2 => ?_) (fun q2 => ?_)
  · have q2 : (1 : Int32) < wy := q2
    rw [lt_i, e1] at q2
    exact ⟨Or.inl rfl, rfl, Or.inr ⟨fun z => by have := z.1.2; omega, rfl⟩⟩
  have q2 : ¬ (1 : Int32) < wy := q2
  rw [lt_i, e1] at q2
  (conv => whnf)
  refine And.intro (fun q3 => ?_) (fun q3 => ?_)
  · have q3 : k < (2 : Int32) := q3
    rw [lt_i, e2] at q3
    exact ⟨Or.inl rfl, rfl, Or.inr ⟨fun z => by have := z.2.1.1; omega, rfl⟩⟩
  have q3 : ¬ k < (2 : Int32) := q3
  rw [lt_i, e2] at q3
  (conv => whnf)
  refine And.intro (fun q4 => ?_) (fun q4 => ?_)
  · have q4 : (6 : Int32) < k := q4
    rw [lt_i, e6] at q4
    exact ⟨Or.inl rfl, rfl, Or.inr ⟨fun z => by have := z.2.1.2; omega, rfl⟩⟩
  have q4 : ¬ (6 : Int32) < k := q4
  rw [lt_i, e6] at q4
  (conv => whnf)
  refine And.intro (fun q5 => ?_) (fun q5 => ?_)
  · have q5 : d < (0 : Int32) := q5
    rw [lt_i, e0] at q5
    exact ⟨Or.inl rfl, rfl, Or.inr ⟨fun z => by have := z.2.2.1; omega, rfl⟩⟩
  have q5 : ¬ d < (0 : Int32) := q5
  rw [lt_i, e0] at q5
  (conv => whnf)
  refine And.intro (fun q6 => ?_) (fun q6 => ?_)
  · have q6 : (400 : Int32) < d := q6
    rw [lt_i, e4] at q6
    exact ⟨Or.inl rfl, rfl, Or.inr ⟨fun z => by have := z.2.2.2; omega, rfl⟩⟩
  have q6 : ¬ (400 : Int32) < d := q6
  rw [lt_i, e4] at q6
  exact ⟨Or.inr rfl, rfl, Or.inl ⟨⟨⟨by omega, by omega⟩, ⟨by omega, by omega⟩, by omega, by omega⟩, rfl⟩⟩
/-- what is answered to rounds -/
def AsR (V : VW) (st wy k d r : Int32) : Prop := (¬ AsP wy k d ∧ r = -1) ∨ (AsP wy k d ∧ r = spR (rnAC V (V.2 11) st wy k.toNatClampNeg d.toInt))
theorem AsR_1 {V : VW} {st wy k d r1 r2 : Int32} (h1 : AsR V st wy k d r1) (h2 : AsR V st wy k d r2) : r1 = r2 := by
  rcases h1 with ⟨a, b⟩ | ⟨a, b⟩
  · rcases h2 with ⟨c, e⟩ | ⟨c, e⟩
    · rw [b, e]
    · exact absurd c a
  · rcases h2 with ⟨c, e⟩ | ⟨c, e⟩
    · exact absurd a c
    · rw [b, e]
def wRo : List Nat := [26104, 4916696, 820712, 184683594903, 206158431383, 210453398679, 214748365975, 219043333271, 165384, 4294968471]
theorem St_z7 {m : MM} (hM : Mok TYg m) : St wRo m (sI m 1175 0 0) := (St.rf hM).fld (a := 1175) (k := 0) (v := 0) (by decide) (by decide) (by decide) (fun _ z => by omega)
theorem spM {L : List (List Nat)} {m : MM} (h : MdS L m) : (gI m 1175 47 = 0 ∧ gI m 1175 42 = spR L ∧ L.length ≤ 200) ∨ (gI m 1175 47 = 1 ∧ spR L = -2 ∧ 200 < L.length) := by
  unfold spR
  rcases h.1 with ⟨a, b, c⟩ | ⟨a, b, c⟩
  · exact Or.inl ⟨c, by rw [if_neg (by omega)]; exact b, a⟩
  · exact Or.inr ⟨c, if_pos a, a⟩
set_option maxRecDepth 100000 in
set_option maxHeartbeats 4000000 in
theorem s_rounds {m : MM} {wy k d : Int32} (hM : Mok TYg m) (hW : Wf (vw m)) : CI 10 mX7_rounds [.ref 1175, .int wy, .int k, .int d] m (fun r m' => St wRo m m' ∧ AsR (vw m) (gI m 1175 39) wy k d r) := by
  have S0 := St_z7 hM
  have hv0 : vw (sI m 1175 0 0) = vw m := vw_z
  refine At.gs okX7_rounds 60 ?_
  (conv => whnf)
  refine ⟨1, by decide, _, s_isAsked (m := sI m 1175 0 0), ?_⟩
  rintro r m1 ⟨hmm, hz⟩; have hmm := hmm.symm; subst hmm
  (conv => whnf)
  refine And.intro (fun q => ?_) (fun q => ?_)
  case refine_2 =>
    have q : r = 0 := q
    rcases hz with ⟨y1, y2⟩ | ⟨y1, y2⟩
    · rw [y2] at q; exact absurd q (by decide)
    · exact ⟨S0, Or.inl ⟨y1, rfl⟩⟩
  have q : ¬ r = 0 := q
  rcases hz with ⟨hA, y2⟩ | ⟨y1, y2⟩
  case inr => exact absurd y2 q
  have ek : k = nI k.toNatClampNeg := nI_back (by rw [clamp_toNat]; have := hA.2.1; omega)
  have hc := s_seeksNow (m := sI m 1175 0 0) (wy := wy) (d := d) (k := k.toNatClampNeg) S0.1 (by rw [hv0]; exact hW) (by rw [clamp_toNat]; have := hA.2.1; omega) (by rw [clamp_toNat]; have := hA.2.1; omega) hA.2.2.1 hA.2.2.2
  rw [← ek, hv0] at hc
  (conv => whnf)
  refine ⟨9, by decide, _, hc, ?_⟩
  rintro m2 ⟨S2, F2⟩
  have T2 : St wRo m m2 := S0.tr S2 (by decide)
  rw [← rn_all] at F2
  have sp := spM F2
  (conv => whnf)
  refine And.intro (fun p => ?_) (fun p => ?_)
  · have p : gI m2 1175 47 = 0 := p
    rcases sp with ⟨a, b, c⟩ | ⟨a, b, c⟩
    · (conv => whnf)
      exact ⟨T2, Or.inr ⟨hA, b⟩⟩
    · rw [a] at p; exact absurd p (by decide)
  · have p : ¬ gI m2 1175 47 = 0 := p
    rcases sp with ⟨a, b, c⟩ | ⟨a, b, c⟩
    · exact absurd a p
    · (conv => whnf)
      exact ⟨T2, Or.inr ⟨hA, b.symm⟩⟩
