/-! search of the class: all rounds -/
def wSe : List Nat := [164009, 295097, 819273, 819288, 42949673009, 47244640305, 51539607601, 55834574897]
/-- what is answered: how many, or that they are too many -/
def spR (L : List (List Nat)) : Int32 := if 200 < L.length then -2 else nI L.length
section Se
variable {V : VW} {g : Nat → Int32} {st wy : Int32} {k : Nat} {d : Int32} {m0 : MM}
def SeQ (V : VW) (g : Nat → Int32) (st wy : Int32) (k : Nat) (d : Int) (m0 : MM) (r : Int32) (m' : MM) : Prop := St wSe m0 m' ∧ gI m' 49 10 = nI k ∧ FS (rnAC V g st wy k d) m' ∧ r = spR (rnAC V g st wy k d)
/-- what a row that begins with sale s gives -/
noncomputable def rnA1 (V : VW) (g : Nat → Int32) (st wy : Int32) (k : Nat) (d : Int) (s : Nat) : List (List Nat) := rnP (rnK V st wy s) (rnO (V.1 3) (V.2 10) g (V.2 10 s) (rnC V g st wy (V.2 10 s) ((V.2 15 s).toInt + d)) (k - 1) [s] s)
def cdSe : List CE := stops [104] cdX1_search
set_option maxRecDepth 20000 in
theorem okSe : CodeOk mX1_search cdSe := okX1_search.st [104] (by rfl)
set_option maxRecDepth 100000 in
set_option maxHeartbeats 8000000 in
theorem se_fin {L : List (List Nat)} {m1 : MM} {v3 : Value} (hS : St wSe m0 m1) (h10 : gI m1 49 10 = nI k) (hF : FS L m1) (e : L = rnAC V g st wy k d.toInt ∨ 200 < L.length ∧ ∃ r, rnAC V g st wy k d.toInt = L ++ r) : At (E0 8) mX1_search (qi (SeQ V g st wy k d.toInt m0)) 104 [.ref 49, .int (nI k), .int d, v3] [] m1 := by
  have e200 : (200 : Int32).toInt = 200 := rfl
  have hF2 : FS (rnAC V g st wy k d.toInt) m1 := by
    rcases e with e | ⟨e1, r, e2⟩
    · rw [← e]; exact hF
    · rw [e2]; exact hF.more e1
  have e9 := hF2.1
  refine At.ls okSe 60 ⟨_, _, rfl⟩ ?_
  (conv => whnf)
  refine And.intro (fun p => ?_) (fun p => ?_)
  · have p : gI m1 49 9 ≤ 200 := p
    rw [e9, le_i, nI_toInt (by omega), e200] at p
    (conv => whnf)
    refine ⟨hS, h10, hF2, ?_⟩
    rw [e9]
    unfold spR
    rw [if_neg (by omega), show min (rnAC V g st wy k d.toInt).length 201 = (rnAC V g st wy k d.toInt).length by omega]
  · have p : ¬ gI m1 49 9 ≤ 200 := p
    rw [e9, le_i, nI_toInt (by omega), e200] at p
    (conv => whnf)
    refine ⟨hS, h10, hF2, ?_⟩
    unfold spR
    rw [if_pos (by omega)]
set_option maxRecDepth 100000 in
set_option maxHeartbeats 8000000 in
theorem se_lp (hW : Wf V) (hG : GW (V.1 3) g) (k2 : 2 ≤ k) (k6 : k ≤ 6) (d0 : 0 ≤ d.toInt) (d4 : d.toInt ≤ 400) (hY0 : FY V g st wy m0) :
    ∀ (j s : Nat) (m1 : MM), s + j = V.1 3 → St wSe m0 m1 → gI m1 49 10 = nI k → LnkI V g st wy (V.1 3) m1 → (∀ f, f < 12 → NrI V g st wy f k m1) → FS (rnF (rnA1 V g st wy k d.toInt) s) m1 → At (E0 8) mX1_search (qi (SeQ V g st wy k d.toInt m0)) 35 [.ref 49, .int (nI k), .int d, .int (nI s)] [] m1 := by
  have h40 := hW.1.2.2.2
  have e0 : (0 : Int32).toInt = 0 := rfl
  have e200 : (200 : Int32).toInt = 200 := rfl
  intro j
  induction j with
  | zero =>
    intro s m1 hs hS h10 hL hN hF
    have hY := hY0.fr hS.2.2 (by decide)
    refine At.ls okSe 60 ⟨_, _, rfl⟩ ?_
    (conv => whnf)
    refine And.intro (fun p => ?_) (fun p => ?_)
    · (conv => whnf)
      exact And.intro rfl (se_fin hS h10 hF (Or.inl (by rw [show s = V.1 3 by omega]; rfl)))
    · have p : ¬ gI m1 49 8 ≤ nI s := p
      rw [hY.1, le_i, nI_toInt (by omega), nI_toInt (by omega)] at p
      omega
  | succ j ih =>
    intro s m1 hs hS h10 hL hN hF
    have hY := hY0.fr hS.2.2 (by decide)
    have vs : vp_in (nI s) 40 := vp_in_nI (by omega) (by decide)
    have sc : (nI s).toNatClampNeg = s := nI_clamp (by omega)
    obtain ⟨y1, y2, y3, y4⟩ := hY.2.1 s (by omega)
    obtain ⟨f, f1, f2, f3⟩ := hW.frm (s := s) (by omega)
    have h12 := hW.1.2.2.1
    have day := (hW.2.2.2 s (by omega)).2.2.2.2.2.2.1
    refine At.ls okSe 120 ⟨_, _, rfl⟩ ?_
    (conv => whnf)
    refine And.intro (fun p => ?_) (fun p => ?_)
    · have p : gI m1 49 8 ≤ nI s := p
      rw [hY.1, le_i, nI_toInt (by omega), nI_toInt (by omega)] at p
      omega
    (conv => whnf)
    refine And.intro (fun p1 => ?_) (fun p1 => ?_)
    · have p1 : (200 : Int32) < gI m1 49 9 := p1
      rw [hF.1, lt_i, e200, nI_toInt (by omega)] at p1
      obtain ⟨r, hr⟩ := rnF_pre (f := rnA1 V g st wy k d.toInt) (V.1 3) (show s ≤ V.1 3 by omega)
      (conv => whnf)
      exact And.intro rfl (se_fin hS h10 hF (Or.inr ⟨by omega, r, hr⟩))
    have p1 : ¬ (200 : Int32) < gI m1 49 9 := p1
    rw [hF.1, lt_i, e200, nI_toInt (by omega)] at p1
    (conv => whnf)
    refine And.intro vs ?_
    (conv => whnf)
    refine And.intro (fun p2 => ?_) (fun p2 => ?_)
    · have p2 : gI m1 163992 (nI s).toNatClampNeg < 0 := p2
      rw [sc, lt_i, e0] at p2
      (conv => whnf)
      have z := ih (s + 1) m1 (by omega) hS h10 hL hN (by
        show FS (rnF _ s ++ rnA1 V g st wy k d.toInt s) m1
        rw [show rnA1 V g st wy k d.toInt s = [] from rnP_n (fun u => by have := y4.mpr u; omega), List.append_nil]
        exact hF)
      rw [← nI_1] at z
      exact And.intro rfl z
    have p2 : ¬ gI m1 163992 (nI s).toNatClampNeg < 0 := p2
    rw [sc, lt_i, e0] at p2
    have ks : rnK V st wy s := y4.mp (by omega)
    (conv => whnf)
    refine And.intro vs ?_
    (conv => whnf)
    refine And.intro vs ?_
    (conv => whnf)
    have eh : gI m1 163944 (nI s).toNatClampNeg = nI f := by rw [sc, y1, f2]
    have ed : gI m1 163976 (nI s).toNatClampNeg = V.2 15 s := by rw [sc, y3]
    have tl : (V.2 15 s + d).toInt = (V.2 15 s).toInt + d.toInt := tI_add (by unfold i32lo; omega) (by unfold i32hi; omega)
    obtain ⟨mB, hB⟩ : ∃ x, x = sI (sI m1 49 11 (nI f)) 49 12 (V.2 15 s + d) := ⟨_, rfl⟩
    have eM : sI (sI m1 49 11 (gI m1 163944 (nI s).toNatClampNeg)) 49 12 (gI (sI m1 49 11 (gI m1 163944 (nI s).toNatClampNeg)) 163976 (nI s).toNatClampNeg + d) = mB := by
      rw [hB, eh, show gI (sI m1 49 11 (nI f)) 163976 (nI s).toNatClampNeg = V.2 15 s from ed]
    have SB : St wSe m0 mB := by
      rw [hB]
      exact (hS.fld (a := 49) (k := 11) (v := nI f) (by decide) (show (0 : Int) ≤ _ by rw [nI_toInt (by omega)]; omega) (show _ ≤ (11 : Int) by rw [nI_toInt (by omega)]; omega) (fun _ z => by omega)).fld (a := 49) (k := 12) (by decide) (tI_lo _) (tI_hi _) (fun _ z => by omega)
    have F2 : Fr [51539607601, 55834574897] m1 mB := by
      rw [hB]
      exact Fr_sI (Fr_sI (Fr_rfl _ _) (by decide) (fun _ z => by omega)) (by decide) (fun _ z => by omega)
    have hYB := hY0.fr SB.2.2 (by decide)
    have hLB := hL.fr F2 (by decide)
    have hNB : ∀ f, f < 12 → NrI V g st wy f k mB := fun f' hf' => (hN f' hf').fr F2 (by decide)
    have hFB := hF.fr F2 (by decide)
    have h10B : gI mB 49 10 = nI k := by rw [fr1 F2 (by decide)]; exact h10
    have e11 : gI mB 49 11 = nI f := by rw [hB]; rfl
    have e12 : gI mB 49 12 = V.2 15 s + d := by rw [hB]; rfl
    have hX : FX V g st wy k f ((V.2 15 s).toInt + d.toInt) mB := ⟨⟨hYB.1, h10B, e11, by rw [e12]; exact tl⟩, fun s hs => ⟨(hYB.2.1 s hs).2.1, (hYB.2.1 s hs).2.2.1⟩, hLB, hNB f (by omega)⟩
    have hx : ((nI s).toInt64).toInt = encN [s] := by
      rw [Int32.toInt_toInt64, nI_toInt (by omega)]
      show (s : Int) = ((s + 64 * 0 : Nat) : Int)
      omega
    have h1s : ∀ i, i < [s].length → [s].getD i 0 = s := fun i hi => by
      have hi : i < 1 := hi
      rw [show i = 0 by omega]
      rfl
    have sv1 : SvX V [s] (2 ^ f) := by
      refine ⟨?_, fun t ht => ⟨fun u i hi => ?_, fun u => ?_⟩⟩
      · have : 2 ^ f < 2 ^ 12 := Nat.pow_lt_pow_right (by decide) (by omega)
        omega
      · rw [h1s i hi, f2]
        intro w
        have := nI_inj (by omega) (by omega) w
        rw [this, Nat.testBit_two_pow_self] at u
        cases u
      · have := u 0 Nat.one_pos
        rw [h1s 0 Nat.one_pos, f2] at this
        rw [Nat.testBit_two_pow]
        exact decide_eq_false (fun w => this (by rw [w]))
    have hc : CV (k - 1 + 2) mX1_extend [.ref 49, .long (nI s).toInt64, .int 1, .int (nI s), .int ((1 : Int32) <<< (gI (sI (sI m1 49 11 (gI m1 163944 (nI s).toNatClampNeg)) 49 12 (gI (sI m1 49 11 (gI m1 163944 (nI s).toNatClampNeg)) 163976 (nI s).toNatClampNeg + d)) 49 11 &&& 31))] (sI (sI m1 49 11 (gI m1 163944 (nI s).toNatClampNeg)) 49 12 (gI (sI m1 49 11 (gI m1 163944 (nI s).toNatClampNeg)) 163976 (nI s).toNatClampNeg + d)) (fun m' => St wKe mB m' ∧ FS (rnF (rnA1 V g st wy k d.toInt) s ++ rnA1 V g st wy k d.toInt s) m') := by
      rw [eM, e11, shl1 (by omega)]
      have z := r_extend hX hW hG k6 (by omega) (k - 1) [s] s (nI s).toInt64 _ (2 ^ f) mB (St.rf SB.1) hFB (by omega) (by show 1 + (k - 1) = k; omega) (Nat.le_refl _) hx (fun i hi => by rw [h1s i hi]; omega) (by omega) sv1
      rw [show rnA1 V g st wy k d.toInt s = rnO (V.1 3) (V.2 10) g (nI f) (rnC V g st wy (nI f) ((V.2 15 s).toInt + d.toInt)) (k - 1) [s] s by
        rw [← f2]
        exact rnP_y ks]
      exact z
    (conv => whnf)
    refine ⟨k - 1 + 2, (show k - 1 + 2 < 8 by omega), _, hc, ?_⟩
    rintro m3 ⟨S3, F3⟩
    (conv => whnf)
    have z := ih (s + 1) m3 (by omega) (SB.tr S3 (by decide)) (by rw [fr1 S3.2.2 (by decide)]; exact h10B) (hLB.fr S3.2.2 (by decide)) (fun f' hf' => (hNB f' hf').fr S3.2.2 (by decide)) F3
    rw [← nI_1] at z
    exact And.intro rfl z
set_option maxRecDepth 100000 in
set_option maxHeartbeats 8000000 in
theorem r_search (hM : Mok TYg m0) (hW : Wf V) (hG : GW (V.1 3) g) (k2 : 2 ≤ k) (k6 : k ≤ 6) (d0 : 0 ≤ d.toInt) (d4 : d.toInt ≤ 400) (hY0 : FY V g st wy m0) : CI 8 mX1_search [.ref 49, .int (nI k), .int d] m0 (SeQ V g st wy k d.toInt m0) := by
  have h40 := hW.1.2.2.2
  have e12 : (12 : Int32).toInt = 12 := rfl
  have SA : St wSe m0 (sI (sI m0 49 9 0) 49 10 (nI k)) := ((St.rf hM).fld (a := 49) (k := 9) (v := 0) (by decide) (by decide) (by decide) (fun _ z => by omega)).fld (a := 49) (k := 10) (v := nI k) (by decide) (show (0 : Int) ≤ _ by rw [nI_toInt (by omega)]; omega) (show _ ≤ (6 : Int) by rw [nI_toInt (by omega)]; omega) (fun _ z => by omega)
  have a9 : gI (sI (sI m0 49 9 0) 49 10 (nI k)) 49 9 = 0 := rfl
  have a10 : gI (sI (sI m0 49 9 0) 49 10 (nI k)) 49 10 = nI k := rfl
  refine At.gs okSe 100 ?_
  (conv => whnf)
  refine ⟨1, by decide, _, r_link (m0 := sI (sI m0 49 9 0) 49 10 (nI k)) SA.1 (hY0.fr SA.2.2 (by decide)) hW, ?_⟩
  rintro m1 ⟨S1, L1⟩
  have T1 : St wSe m0 m1 := SA.tr S1 (by decide)
  have b9 : gI m1 49 9 = 0 := by rw [fr1 S1.2.2 (by decide)]; exact a9
  have b10 : gI m1 49 10 = nI k := by rw [fr1 S1.2.2 (by decide)]; exact a10
  have lpF : ∀ (j f : Nat) (m2 : MM), f + j = 12 → St wSe m0 m2 → gI m2 49 9 = 0 → gI m2 49 10 = nI k → LnkI V g st wy (V.1 3) m2 → (∀ f', f' < f → NrI V g st wy f' k m2) → At (E0 8) mX1_search (qi (SeQ V g st wy k d.toInt m0)) 16 [.ref 49, .int (nI k), .int d, .int (nI f)] [] m2 := by
    intro j
    induction j with
    | zero =>
      intro f m2 hf hS c9 c10 hL hN
      have hf : f = 12 := by omega
      subst hf
      refine At.ls okSe 60 ⟨_, _, rfl⟩ ?_
      (conv => whnf)
      refine And.intro (fun p => ?_) (fun p => ?_)
      · (conv => whnf)
        exact And.intro rfl (se_lp hW hG k2 k6 d0 d4 hY0 (V.1 3) 0 m2 (by omega) hS c10 hL hN ⟨c9, fun i _ hi => absurd hi (Nat.not_lt_zero _)⟩)
      · have p : ¬ (12 : Int32) ≤ nI 12 := p
        exact absurd (by decide) p
    | succ j ih =>
      intro f m2 hf hS c9 c10 hL hN
      refine At.ls okSe 60 ⟨_, _, rfl⟩ ?_
      (conv => whnf)
      refine And.intro (fun p => ?_) (fun p => ?_)
      · have p : (12 : Int32) ≤ nI f := p
        rw [le_i, nI_toInt (by omega), e12] at p
        omega
      (conv => whnf)
      refine ⟨1, by decide, _, r_measure (f := f) hS.1 (hY0.fr hS.2.2 (by decide)) hL hW hG (by omega) k2 k6 c10, ?_⟩
      rintro m3 ⟨S3, N3, O3⟩
      (conv => whnf)
      have z := ih (f + 1) m3 (by omega) (hS.tr S3 (by decide)) (by rw [fr1 S3.2.2 (by decide)]; exact c9) (by rw [fr1 S3.2.2 (by decide)]; exact c10) (hL.fr S3.2.2 (by decide)) (fun f' hf' => by
        by_cases q : f' = f
        · rw [q]; exact N3
        · intro t t1 t2 b hb
          rw [O3 (f' * 6 + t) (fun u hu => by omega)]
          exact hN f' (by omega) t t1 t2 b hb)
      rw [← nI_1] at z
      exact And.intro rfl z
  (conv => whnf)
  exact And.intro rfl (lpF 12 0 m1 (by omega) T1 b9 b10 L1 (fun f' hf' => absurd hf' (Nat.not_lt_zero _)))
end Se
