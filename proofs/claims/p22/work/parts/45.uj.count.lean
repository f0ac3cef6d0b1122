/-! count: both sides in full -/
def couP (m : MM) (a : Int32) : Int32 := if a = 0 then gI m 1175 3 else if a = 1 then gI m 1175 4 else if a = 2 then gI m 1175 5 else if a = 3 then gI m 1175 6 else if a = 4 then gI m 1175 6 - gI m 1175 7 else if a = 5 then nI (popS (gI m 1175 39).toNatClampNeg 31) else if a = 6 then nI (popS (gI m 1175 40).toNatClampNeg 31) else if a = 7 then nI (cntB (misB (vw m) (gI m 1175 40)) ((vw m).1 2)) else -1
theorem couP_fr {W : List Nat} {m m' : MM} {a : Int32} (hF : Fr W m m') (hW : (vFree W && !(elm (wk 1175 7) W) && !(elm (wk 1175 39) W) && !(elm (wk 1175 40) W)) = true) : couP m' a = couP m a := by
  simp only [Bool.and_eq_true] at hW
  obtain ⟨⟨⟨w1, w2⟩, w3⟩, w4⟩ := hW
  have hv := vw_fr hF w1
  unfold vFree at w1
  rw [Bool.and_eq_true, List.all_eq_true, List.all_eq_true] at w1
  unfold couP
  rw [hv, fr1 hF (nelm6 (w1.2 3 (by decide))), fr1 hF (nelm6 (w1.2 4 (by decide))), fr1 hF (nelm6 (w1.2 5 (by decide))), fr1 hF (nelm6 (w1.2 6 (by decide))), fr1 hF (nelm6 w2 : ¬ wk 1175 7 ∈ W), fr1 hF (nelm6 w3 : ¬ wk 1175 39 ∈ W), fr1 hF (nelm6 w4 : ¬ wk 1175 40 ∈ W)]
theorem bc_are {x : Int32} {n : Nat} (h : areP x n) (hn : n < 13) : bcE x = nI (popS x.toNatClampNeg 31) := by
  obtain ⟨N, N1, N2, rfl⟩ := areP_nI h hn
  rw [bc_ok N1, nI_clamp (by omega)]
theorem areP_lt {x : Int32} {n : Nat} (h : areP x n) (hn : n < 13) : x = nI x.toNatClampNeg ∧ x.toNatClampNeg < 2 ^ 31 := by
  obtain ⟨N, N1, N2, rfl⟩ := areP_nI h hn
  rw [nI_clamp (by omega)]
  exact ⟨rfl, by omega⟩
set_option maxRecDepth 100000 in
set_option maxHeartbeats 8000000 in
theorem s_count {m : MM} {a : Int32} (hM : Mok TYg m) (hT : ST m) (hW : Wf (vw m)) : CI 5 mX7_count [.ref 1175, .int a] m (fun r m' => m' = sI m 1175 0 0 ∧ r = couP m a) := by
  have h12 := hW.1.2.2.1
  have h5 := hW.1.1
  have S0 : St [4294968471] m (sI m 1175 0 0) := (St.rf hM).fld (a := 1175) (k := 0) (v := 0) (by decide) (by decide) (by decide) (fun _ z => by omega)
  have hv : vw (sI m 1175 0 0) = vw m := vw_fr S0.2.2 (by decide +kernel)
  have lp : a = 7 → ∀ (n k : Nat) (kI c : Int32), kI = nI k → k + n = (vw m).1 2 → c = nI (cntB (misB (vw m) (gI m 1175 40)) k) → At (E0 5) mX7_count (qi (fun r m' => m' = sI m 1175 0 0 ∧ r = couP m a)) 104 [.ref 1175, .int a, .int c, .int kI] [] (sI m 1175 0 0) := by
    intro ha n
    induction n with
    | zero =>
      intro k kI c hk hn hc
      refine At.ls okX7_count 60 ⟨_, _, rfl⟩ ?_
      (conv => whnf)
      refine And.intro (fun q => ?_) (fun q => ?_)
      · refine ⟨rfl, ?_⟩
        subst ha
        show c = nI (cntB (misB (vw m) (gI m 1175 40)) ((vw m).1 2))
        rw [hc, show k = (vw m).1 2 by omega]
      · have q : ¬ gI m 1175 5 ≤ kI := q
        rw [hk, le_i, nI_toInt (by omega), vw2 hM] at q
        omega
    | succ n ih =>
      intro k kI c hk hn hc
      have e1 : cntB (misB (vw m) (gI m 1175 40)) (k + 1) = cntB (misB (vw m) (gI m 1175 40)) k + (if misB (vw m) (gI m 1175 40) k = true then 1 else 0) := rfl
      have sm := s_missing (m := sI m 1175 0 0) (f := k) (ru := gI m 1175 40) S0.1 (by omega)
      rw [hv] at sm
      rw [hk]
      refine At.ls okX7_count 80 ⟨_, _, rfl⟩ ?_
      (conv => whnf)
      refine And.intro (fun q => ?_) (fun q => ?_)
      · have q : gI m 1175 5 ≤ nI k := q
        rw [le_i, nI_toInt (by omega), vw2 hM] at q
        omega
      · (conv => whnf)
        refine ⟨4, by decide, _, sm, ?_⟩
        rintro r m' ⟨hmm, hr⟩; have hmm := hmm.symm; subst hmm
        (conv => whnf)
        refine And.intro (fun q2 => ?_) (fun q2 => ?_)
        · have hb : ¬ misB (vw m) (gI m 1175 40) k = true := fun z => by
            rw [if_pos z] at hr
            rw [hr] at q2
            exact absurd q2 (by decide)
          rw [if_neg hb] at e1
          (conv => whnf)
          refine And.intro rfl (ih (k + 1) (nI k + 1) _ (by rw [nI_1]) (by omega) ?_)
          rw [e1, hc, Int32.add_zero, Nat.add_zero]
        · have hb : misB (vw m) (gI m 1175 40) k = true := Decidable.byContradiction (fun z => by
            rw [if_neg z] at hr
            exact q2 hr)
          rw [if_pos hb] at e1
          (conv => whnf)
          refine And.intro rfl (ih (k + 1) (nI k + 1) _ (by rw [nI_1]) (by omega) ?_)
          rw [e1, hc, nI_1]
  refine At.gs okX7_count 80 ?_
  (conv => whnf)
  refine And.intro (fun q => ?_) (fun q => ?_)
  · exact ⟨rfl, by subst q; rfl⟩
  refine And.intro (fun q1 => ?_) (fun q1 => ?_)
  · exact ⟨rfl, by subst q1; rfl⟩
  refine And.intro (fun q2 => ?_) (fun q2 => ?_)
  · exact ⟨rfl, by subst q2; rfl⟩
  refine And.intro (fun q3 => ?_) (fun q3 => ?_)
  · exact ⟨rfl, by subst q3; rfl⟩
  refine And.intro (fun q4 => ?_) (fun q4 => ?_)
  · exact ⟨rfl, by subst q4; rfl⟩
  refine And.intro (fun q5 => ?_) (fun q5 => ?_)
  · obtain ⟨x1, x2⟩ := areP_lt hT.1 (by omega)
    (conv => whnf)
    refine ⟨1, by decide, _, (show CI 1 mX7_bits [.int (gI m 1175 39)] (sI m 1175 0 0) (fun r m' => m' = sI m 1175 0 0 ∧ r = nI (popS (gI m 1175 39).toNatClampNeg 31)) by
      have y := s_bits (m := sI m 1175 0 0) x2
      rw [← x1] at y
      exact y), ?_⟩
    rintro r m' ⟨hmm, hr⟩; have hmm := hmm.symm; subst hmm
    exact ⟨rfl, by subst q5; exact hr⟩
  refine And.intro (fun q6 => ?_) (fun q6 => ?_)
  · obtain ⟨x1, x2⟩ := areP_lt hT.2 (by omega)
    (conv => whnf)
    refine ⟨1, by decide, _, (show CI 1 mX7_bits [.int (gI m 1175 40)] (sI m 1175 0 0) (fun r m' => m' = sI m 1175 0 0 ∧ r = nI (popS (gI m 1175 40).toNatClampNeg 31)) by
      have y := s_bits (m := sI m 1175 0 0) x2
      rw [← x1] at y
      exact y), ?_⟩
    rintro r m' ⟨hmm, hr⟩; have hmm := hmm.symm; subst hmm
    exact ⟨rfl, by subst q6; exact hr⟩
  refine And.intro (fun q7 => ?_) (fun q7 => ?_)
  · (conv => whnf)
    exact And.intro rfl (lp q7 _ 0 0 0 rfl (Nat.zero_add _) rfl)
  · refine ⟨rfl, ?_⟩
    unfold couP
    rw [if_neg q, if_neg q1, if_neg q2, if_neg q3, if_neg q4, if_neg q5, if_neg q6, if_neg q7]
set_option maxRecDepth 100000 in
set_option maxHeartbeats 8000000 in
theorem r_count_336 {m : MM} {a : Int32} (hM : Mok TYg m) (h : SB 336 m) (hT : ST m) (hc : m.2.2 = (336, 720)) : CI 5 mX6_count [.ref 6, .int a] m (fun r m' => St [49864] m m' ∧ r = couP m a) := by
  obtain ⟨f, g, c⟩ := m
  obtain rfl : c = (336, 720) := hc
  have hW := h.2.2.2.2.2
  have h12 := hW.1.2.2.1
  have h5 := hW.1.1
  have e4 : gI (f, g, (336, 720)) 452 8 = gI (f, g, (336, 720)) 1175 6 - gI (f, g, (336, 720)) 1175 7 := by
    have b6 : (0 : Int) ≤ (gI (f, g, (336, 720)) 1175 6).toInt ∧ (gI (f, g, (336, 720)) 1175 6).toInt ≤ 40 := hM.1 1175 6
    have b7 : (0 : Int) ≤ (gI (f, g, (336, 720)) 1175 7).toInt ∧ (gI (f, g, (336, 720)) 1175 7).toInt ≤ 40 := hM.1 1175 7
    refine Int32.toInt_inj.mp ?_
    rw [tI_sub (by unfold i32lo; omega) (by unfold i32hi; omega)]
    exact h.2.2.1
  refine At.gs okX6_count 80 ?_
  (conv => whnf)
  refine And.intro (fun q => ?_) (fun q => ?_)
  · exact ⟨St.rf hM, by subst q; exact h.1 0 (by decide)⟩
  refine And.intro (fun q1 => ?_) (fun q1 => ?_)
  · exact ⟨St.rf hM, by subst q1; exact h.1 1 (by decide)⟩
  refine And.intro (fun q2 => ?_) (fun q2 => ?_)
  · exact ⟨St.rf hM, by subst q2; exact h.1 2 (by decide)⟩
  refine And.intro (fun q3 => ?_) (fun q3 => ?_)
  · exact ⟨St.rf hM, by subst q3; exact h.1 3 (by decide)⟩
  refine And.intro (fun q4 => ?_) (fun q4 => ?_)
  · exact ⟨St.rf hM, by subst q4; exact e4⟩
  refine And.intro (fun q5 => ?_) (fun q5 => ?_)
  · (conv => whnf)
    refine ⟨1, by decide, _, r_bitC, ?_⟩
    rintro r m' ⟨hmm, hr⟩; have hmm := hmm.symm; subst hmm
    refine ⟨St.rf hM, ?_⟩
    subst q5
    have hr : r = bcE (gI (f, g, (336, 720)) 6 5) := hr
    rw [hr, h.2.2.2.1, bc_are hT.1 (by omega)]
    rfl
  refine And.intro (fun q6 => ?_) (fun q6 => ?_)
  · (conv => whnf)
    refine ⟨1, by decide, _, r_bitC, ?_⟩
    rintro r m' ⟨hmm, hr⟩; have hmm := hmm.symm; subst hmm
    refine ⟨St.rf hM, ?_⟩
    subst q6
    have hr : r = bcE (gI (f, g, (336, 720)) 6 6) := hr
    rw [hr, h.2.2.2.2.1, bc_are hT.2 (by omega)]
    rfl
  refine And.intro (fun q7 => ?_) (fun q7 => ?_)
  · (conv => whnf)
    dsimp only
    (conv => whnf)
    refine ⟨4, by decide, _, r_missing_336 hM h, ?_⟩
    rintro r m1 ⟨S1, hr⟩
    have hr : r = nI (bsN (misB (vw (f, g, (336, 720))) (gI (f, g, (336, 720)) 6 6)) ((vw (f, g, (336, 720))).1 2)) := hr
    rw [h.2.2.2.2.1] at hr
    (conv => whnf)
    refine ⟨1, by decide, _, r_bitC, ?_⟩
    rintro r2 m' ⟨hmm, hr2⟩; have hmm := hmm.symm; subst hmm
    refine ⟨S1, ?_⟩
    subst q7
    have hlt := bsN_lt (misB (vw (f, g, (336, 720))) (gI (f, g, (336, 720)) 1175 40)) ((vw (f, g, (336, 720))).1 2)
    have hp : 2 ^ (vw (f, g, (336, 720))).1 2 ≤ 2 ^ 12 := Nat.pow_le_pow_right (by decide) (by omega)
    rw [hr2, hr, bc_ok (by omega), popS_bs, show min 31 ((vw (f, g, (336, 720))).1 2) = (vw (f, g, (336, 720))).1 2 by omega]
    rfl
  · refine ⟨St.rf hM, ?_⟩
    unfold couP
    rw [if_neg q, if_neg q1, if_neg q2, if_neg q3, if_neg q4, if_neg q5, if_neg q6, if_neg q7]
set_option maxRecDepth 100000 in
set_option maxHeartbeats 8000000 in
theorem r_count_720 {m : MM} {a : Int32} (hM : Mok TYg m) (h : SB 720 m) (hT : ST m) (hc : m.2.2 = (720, 336)) : CI 5 mX6_count [.ref 6, .int a] m (fun r m' => St [50248] m m' ∧ r = couP m a) := by
  obtain ⟨f, g, c⟩ := m
  obtain rfl : c = (720, 336) := hc
  have hW := h.2.2.2.2.2
  have h12 := hW.1.2.2.1
  have h5 := hW.1.1
  have e4 : gI (f, g, (720, 336)) 836 8 = gI (f, g, (720, 336)) 1175 6 - gI (f, g, (720, 336)) 1175 7 := by
    have b6 : (0 : Int) ≤ (gI (f, g, (720, 336)) 1175 6).toInt ∧ (gI (f, g, (720, 336)) 1175 6).toInt ≤ 40 := hM.1 1175 6
    have b7 : (0 : Int) ≤ (gI (f, g, (720, 336)) 1175 7).toInt ∧ (gI (f, g, (720, 336)) 1175 7).toInt ≤ 40 := hM.1 1175 7
    refine Int32.toInt_inj.mp ?_
    rw [tI_sub (by unfold i32lo; omega) (by unfold i32hi; omega)]
    exact h.2.2.1
  refine At.gs okX6_count 80 ?_
  (conv => whnf)
  refine And.intro (fun q => ?_) (fun q => ?_)
  · exact ⟨St.rf hM, by subst q; exact h.1 0 (by decide)⟩
  refine And.intro (fun q1 => ?_) (fun q1 => ?_)
  · exact ⟨St.rf hM, by subst q1; exact h.1 1 (by decide)⟩
  refine And.intro (fun q2 => ?_) (fun q2 => ?_)
  · exact ⟨St.rf hM, by subst q2; exact h.1 2 (by decide)⟩
  refine And.intro (fun q3 => ?_) (fun q3 => ?_)
  · exact ⟨St.rf hM, by subst q3; exact h.1 3 (by decide)⟩
  refine And.intro (fun q4 => ?_) (fun q4 => ?_)
  · exact ⟨St.rf hM, by subst q4; exact e4⟩
  refine And.intro (fun q5 => ?_) (fun q5 => ?_)
  · (conv => whnf)
    refine ⟨1, by decide, _, r_bitC, ?_⟩
    rintro r m' ⟨hmm, hr⟩; have hmm := hmm.symm; subst hmm
    refine ⟨St.rf hM, ?_⟩
    subst q5
    have hr : r = bcE (gI (f, g, (720, 336)) 6 5) := hr
    rw [hr, h.2.2.2.1, bc_are hT.1 (by omega)]
    rfl
  refine And.intro (fun q6 => ?_) (fun q6 => ?_)
  · (conv => whnf)
    refine ⟨1, by decide, _, r_bitC, ?_⟩
    rintro r m' ⟨hmm, hr⟩; have hmm := hmm.symm; subst hmm
    refine ⟨St.rf hM, ?_⟩
    subst q6
    have hr : r = bcE (gI (f, g, (720, 336)) 6 6) := hr
    rw [hr, h.2.2.2.2.1, bc_are hT.2 (by omega)]
    rfl
  refine And.intro (fun q7 => ?_) (fun q7 => ?_)
  · (conv => whnf)
    dsimp only
    (conv => whnf)
    refine ⟨4, by decide, _, r_missing_720 hM h, ?_⟩
    rintro r m1 ⟨S1, hr⟩
    have hr : r = nI (bsN (misB (vw (f, g, (720, 336))) (gI (f, g, (720, 336)) 6 6)) ((vw (f, g, (720, 336))).1 2)) := hr
    rw [h.2.2.2.2.1] at hr
    (conv => whnf)
    refine ⟨1, by decide, _, r_bitC, ?_⟩
    rintro r2 m' ⟨hmm, hr2⟩; have hmm := hmm.symm; subst hmm
    refine ⟨S1, ?_⟩
    subst q7
    have hlt := bsN_lt (misB (vw (f, g, (720, 336))) (gI (f, g, (720, 336)) 1175 40)) ((vw (f, g, (720, 336))).1 2)
    have hp : 2 ^ (vw (f, g, (720, 336))).1 2 ≤ 2 ^ 12 := Nat.pow_le_pow_right (by decide) (by omega)
    rw [hr2, hr, bc_ok (by omega), popS_bs, show min 31 ((vw (f, g, (720, 336))).1 2) = (vw (f, g, (720, 336))).1 2 by omega]
    rfl
  · refine ⟨St.rf hM, ?_⟩
    unfold couP
    rw [if_neg q, if_neg q1, if_neg q2, if_neg q3, if_neg q4, if_neg q5, if_neg q6, if_neg q7]
/-! burden: both sides in full -/
def honB (V : VW) (l : Int32) (s : Nat) : Bool := decide (lanS V s = l ∧ lanB V s = l) && !(misB V 0 (V.2 10 s).toNatClampNeg) && !(misB V 0 (V.2 11 s).toNatClampNeg)
set_option maxRecDepth 100000 in
set_option maxHeartbeats 8000000 in
theorem s_burdenOf {m : MM} {l : Int32} (hM : Mok TYg m) (hW : Wf (vw m)) : CI 5 mX7_burdenOf [.ref 1175, .int l] m (fun r m' => m' = m ∧ r = nI (cntB (honB (vw m) l) ((vw m).1 3))) := by
  have h12 := hW.1.2.2.1
  have h40 := hW.1.2.2.2
  have lp : ∀ (n k : Nat) (kI c : Int32), kI.toInt = k → k + n = (vw m).1 3 → c = nI (cntB (honB (vw m) l) k) → At (E0 5) mX7_burdenOf (qi (fun r m' => m' = m ∧ r = nI (cntB (honB (vw m) l) ((vw m).1 3)))) 4 [.ref 1175, .int l, .int c, .int kI] [] m := by
    intro n
    induction n with
    | zero =>
      intro k kI c hk hn hc
      refine At.ls okX7_burdenOf 60 ⟨_, _, rfl⟩ ?_
      (conv => whnf)
      refine And.intro (fun q => ?_) (fun q => ?_)
      · exact ⟨rfl, by rw [hc, show k = (vw m).1 3 by omega]⟩
      · have q : ¬ gI m 1175 6 ≤ kI := q
        rw [le_i, vw3 hM] at q
        omega
    | succ n ih =>
      intro k kI c hk hn hc
      have hlt : k < (vw m).1 3 := by omega
      have ek : (kI + 1).toInt = ((k + 1 : Nat) : Int) := by rw [inc1 (by omega), hk]; omega
      have vk : vp_in kI 80 := vp_in_iff.mpr ⟨by omega, show kI.toInt < ((80 : Nat) : Int) by omega⟩
      obtain ⟨fa, fa1, fa2, fa3⟩ := hW.frm hlt
      obtain ⟨fb, fb1, fb2, fb3⟩ := hW.tom hlt
      have c10 : gI m 329048 kI.toNatClampNeg = nI fa := by rw [nat_c hk]; exact fa2
      have c11 : gI m 329064 kI.toNatClampNeg = nI fb := by rw [nat_c hk]; exact fb2
      have va : vp_in (gI m 329048 kI.toNatClampNeg) 24 := by rw [c10]; exact vp_in_nI (by omega) (by decide)
      have vb : vp_in (gI m 329064 kI.toNatClampNeg) 24 := by rw [c11]; exact vp_in_nI (by omega) (by decide)
      have eS : gI m 99576 (gI m 329048 kI.toNatClampNeg).toNatClampNeg = lanS (vw m) k := by rw [nat_c hk]; rfl
      have eB : gI m 99576 (gI m 329064 kI.toNatClampNeg).toNatClampNeg = lanB (vw m) k := by rw [nat_c hk]; rfl
      have e1 : cntB (honB (vw m) l) (k + 1) = cntB (honB (vw m) l) k + (if honB (vw m) l k = true then 1 else 0) := rfl
      have skip : ¬ honB (vw m) l k = true → At (E0 5) mX7_burdenOf (qi (fun r m' => m' = m ∧ r = nI (cntB (honB (vw m) l) ((vw m).1 3)))) 4 [.ref 1175, .int l, .int c, .int (kI + 1)] [] m := fun z => by
        rw [if_neg z] at e1
        exact ih (k + 1) (kI + 1) c ek (by omega) (by rw [e1, hc, Nat.add_zero])
      have take : honB (vw m) l k = true → At (E0 5) mX7_burdenOf (qi (fun r m' => m' = m ∧ r = nI (cntB (honB (vw m) l) ((vw m).1 3)))) 4 [.ref 1175, .int l, .int (c + 1), .int (kI + 1)] [] m := fun z => by
        rw [if_pos z] at e1
        exact ih (k + 1) (kI + 1) (c + 1) ek (by omega) (by rw [e1, hc, nI_1])
      have hb : honB (vw m) l k = (decide (lanS (vw m) k = l ∧ lanB (vw m) k = l) && !(misB (vw m) 0 fa) && !(misB (vw m) 0 fb)) := by
        unfold honB
        rw [fa3, fb3]
      refine At.ls okX7_burdenOf 80 ⟨_, _, rfl⟩ ?_
      (conv => whnf)
      refine And.intro (fun q => ?_) (fun q => ?_)
      · have q : gI m 1175 6 ≤ kI := q
        rw [le_i, vw3 hM] at q
        omega
      (conv => whnf)
      refine And.intro vk ?_
      (conv => whnf)
      refine And.intro va ?_
      (conv => whnf)
      refine And.intro (fun q1 => ?_) (fun q1 => ?_)
      · have q1 : ¬ gI m 99576 (gI m 329048 kI.toNatClampNeg).toNatClampNeg = l := q1
        rw [eS] at q1
        (conv => whnf)
        exact And.intro rfl (skip (by rw [hb]; simp [q1]))
      have q1 : gI m 99576 (gI m 329048 kI.toNatClampNeg).toNatClampNeg = l := q1
      rw [eS] at q1
      (conv => whnf)
      refine And.intro vk ?_
      (conv => whnf)
      refine And.intro vb ?_
      (conv => whnf)
      refine And.intro (fun q2 => ?_) (fun q2 => ?_)
      · have q2 : ¬ gI m 99576 (gI m 329064 kI.toNatClampNeg).toNatClampNeg = l := q2
        rw [eB] at q2
        (conv => whnf)
        exact And.intro rfl (skip (by rw [hb]; simp [q2]))
      have q2 : gI m 99576 (gI m 329064 kI.toNatClampNeg).toNatClampNeg = l := q2
      rw [eB] at q2
      (conv => whnf)
      refine And.intro vk ?_
      rw [c10]
      (conv => whnf)
      refine ⟨4, by decide, _, s_missing hM (by omega), ?_⟩
      rintro r m' ⟨hmm, hr⟩; have hmm := hmm.symm; subst hmm
      (conv => whnf)
      refine And.intro (fun q3 => ?_) (fun q3 => ?_)
      · have z : misB (vw m) 0 fa = true := Decidable.byContradiction (fun z => by
          rw [if_neg z] at hr
          exact q3 hr)
        (conv => whnf)
        exact And.intro rfl (skip (by rw [hb, z]; simp))
      have y3 : misB (vw m) 0 fa = false := by
        cases z : misB (vw m) 0 fa with
        | false => rfl
        | true =>
          rw [if_pos z] at hr
          rw [hr] at q3
          exact absurd q3 (by decide)
      (conv => whnf)
      refine And.intro vk ?_
      rw [c11]
      (conv => whnf)
      refine ⟨4, by decide, _, s_missing hM (by omega), ?_⟩
      rintro r2 m' ⟨hmm, hr2⟩; have hmm := hmm.symm; subst hmm
      (conv => whnf)
      refine And.intro (fun q4 => ?_) (fun q4 => ?_)
      · have z : misB (vw m) 0 fb = true := Decidable.byContradiction (fun z => by
          rw [if_neg z] at hr2
          exact q4 hr2)
        (conv => whnf)
        exact And.intro rfl (skip (by rw [hb, z]; simp))
      have y4 : misB (vw m) 0 fb = false := by
        cases z : misB (vw m) 0 fb with
        | false => rfl
        | true =>
          rw [if_pos z] at hr2
          rw [hr2] at q4
          exact absurd q4 (by decide)
      (conv => whnf)
      exact And.intro rfl (take (by rw [hb, y3, y4, q1, q2]; simp))
  refine At.gs okX7_burdenOf 60 ?_
  (conv => whnf)
  exact And.intro rfl (lp _ 0 0 0 rfl (Nat.zero_add _) rfl)
/-- what burden answers -/
def burP (V : VW) (l : Int32) : Int32 := if 0 ≤ l.toInt ∧ l.toInt < V.1 0 then nI (cntB (honB V l) (V.1 3)) else -1
set_option maxRecDepth 100000 in
set_option maxHeartbeats 4000000 in
theorem s_burden {m : MM} {l : Int32} (hM : Mok TYg m) (hW : Wf (vw m)) : CI 6 mX7_burden [.ref 1175, .int l] m (fun r m' => m' = sI m 1175 0 0 ∧ r = burP (vw m) l) := by
  have S0 : St [4294968471] m (sI m 1175 0 0) := (St.rf hM).fld (a := 1175) (k := 0) (v := 0) (by decide) (by decide) (by decide) (fun _ z => by omega)
  have hv : vw (sI m 1175 0 0) = vw m := vw_fr S0.2.2 (by decide +kernel)
  have e0 : (0 : Int32).toInt = 0 := rfl
  have c3 : (gI m 1175 3).toInt = (vw m).1 0 := vw_n (k := 0) hM
  have sb := s_burdenOf (m := sI m 1175 0 0) (l := l) S0.1 (by rw [hv]; exact hW)
  rw [hv] at sb
  refine At.gs okX7_burden 60 ?_
  (conv => whnf)
  refine And.intro (fun q => ?_) (fun q => ?_)
  · rw [lt_i, e0] at q
    refine ⟨rfl, ?_⟩
    unfold burP
    rw [if_neg (fun z => by omega)]
  · rw [lt_i, e0] at q
    (conv => whnf)
    refine And.intro (fun q2 => ?_) (fun q2 => ?_)
    · have q2 : l < gI m 1175 3 := q2
      rw [lt_i, c3] at q2
      (conv => whnf)
      refine ⟨5, by decide, _, sb, ?_⟩
      rintro r m' ⟨hmm, hr⟩; have hmm := hmm.symm; subst hmm
      refine ⟨rfl, ?_⟩
      unfold burP
      rw [if_pos ⟨by omega, q2⟩]
      exact hr
    · have q2 : ¬ l < gI m 1175 3 := q2
      rw [lt_i, c3] at q2
      refine ⟨rfl, ?_⟩
      unfold burP
      rw [if_neg (fun z => q2 z.2)]
/-- two bits, as the class takes them together -/
theorem bt_two {N a b : Nat} (hN : N < 2 ^ 31) (ha : a < 31) (hb : b < 31) : ((nI N >>> (nI a &&& 31)) &&& (nI N >>> (nI b &&& 31))) &&& 1 = nI ((N / 2 ^ a % 2) * (N / 2 ^ b % 2)) := by
  rw [pk_shrN hN _ a (sh_ix a (by omega)), pk_shrN hN _ b (sh_ix b (by omega)), and1]
  have h1 : N / 2 ^ a < 2 ^ 32 := Nat.lt_of_le_of_lt (Nat.div_le_self _ _) (by omega)
  have h2 : N / 2 ^ b < 2 ^ 32 := Nat.lt_of_le_of_lt (Nat.div_le_self _ _) (by omega)
  rw [Int32.toBitVec_and, BitVec.toNat_and, pk_tn h1, pk_tn h2, Nat.and_mod_two_pow (n := 1)]
  rcases Nat.mod_two_eq_zero_or_one (N / 2 ^ a) with x | x <;> rcases Nat.mod_two_eq_zero_or_one (N / 2 ^ b) with y | y <;> rw [show 2 ^ 1 = 2 from rfl, x, y] <;> rfl
