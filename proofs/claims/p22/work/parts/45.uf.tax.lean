/-! taxes and who is missing: the model -/
theorem vw3 {m : MM} (hM : Mok TYg m) : (gI m 1175 6).toInt = (vw m).1 3 := vw_n (k := 3) hM
theorem vw2 {m : MM} (hM : Mok TYg m) : (gI m 1175 5).toInt = (vw m).1 2 := vw_n (k := 2) hM
section TxM
variable {m : MM} {s : Nat} {sI ru : Int32}
set_option maxRecDepth 100000 in
set_option maxHeartbeats 4000000 in
theorem s_rate (hM : Mok TYg m) (hs : sI.toInt = s) (hlt : s < 40) : CI 1 mX7_rate [.ref 1175, .int sI, .int ru] m (fun r m' => m' = m ∧ r = rateP (vw m) ru s) := by
  have v1 : vp_in sI 80 := vp_in_iff.mpr ⟨by omega, show sI.toInt < ((80 : Nat) : Int) by omega⟩
  have g1 : ∀ q, (0 : Int) ≤ (gI m 329048 q).toInt ∧ (gI m 329048 q).toInt ≤ 11 := fun q => hM.1 329048 q
  have g2 : ∀ q, (0 : Int) ≤ (gI m 329064 q).toInt ∧ (gI m 329064 q).toInt ≤ 11 := fun q => hM.1 329064 q
  have g3 : ∀ q, (0 : Int) ≤ (gI m 99576 q).toInt ∧ (gI m 99576 q).toInt ≤ 4 := fun q => hM.1 99576 q
  have v2 : vp_in (gI m 329048 sI.toNatClampNeg) 24 := vp_in_iff.mpr ⟨(g1 _).1, by have := (g1 sI.toNatClampNeg).2; show _ < ((24 : Nat) : Int); omega⟩
  have v3 : vp_in (gI m 329064 sI.toNatClampNeg) 24 := vp_in_iff.mpr ⟨(g2 _).1, by have := (g2 sI.toNatClampNeg).2; show _ < ((24 : Nat) : Int); omega⟩
  have v4 : vp_in (gI m 99576 (gI m 329048 sI.toNatClampNeg).toNatClampNeg) 10 := vp_in_iff.mpr ⟨(g3 _).1, by have := (g3 (gI m 329048 sI.toNatClampNeg).toNatClampNeg).2; show _ < ((10 : Nat) : Int); omega⟩
  refine At.gs okX7_rate 80 ?_
  (conv => whnf)
  refine And.intro v1 ?_
  (conv => whnf)
  refine And.intro v2 ?_
  (conv => whnf)
  refine And.intro v1 ?_
  (conv => whnf)
  refine And.intro v3 ?_
  (conv => whnf)
  refine And.intro (fun h => ?_) (fun h => ?_)
  · have h : ¬ gI m 99576 (gI m 329048 sI.toNatClampNeg).toNatClampNeg = gI m 99576 (gI m 329064 sI.toNatClampNeg).toNatClampNeg := h
    rw [nat_c hs] at h
    have h : ¬ lanS (vw m) s = lanB (vw m) s := h
    refine ⟨rfl, ?_⟩
    unfold rateP
    rw [if_neg (fun z => h z.1)]
  · have h : gI m 99576 (gI m 329048 sI.toNatClampNeg).toNatClampNeg = gI m 99576 (gI m 329064 sI.toNatClampNeg).toNatClampNeg := h
    (conv => whnf)
    refine And.intro (fun h2 => ?_) (fun h2 => ?_)
    · have h2 : ¬ bt ru (gI m 99576 (gI m 329048 sI.toNatClampNeg).toNatClampNeg) = 1 := h2
      rw [nat_c hs] at h2 h v4
      have h : lanS (vw m) s = lanB (vw m) s := h
      have h2 : bt ru (lanS (vw m) s) = 0 := (bt01 _ _).resolve_right h2
      (conv => whnf)
      refine And.intro (by rw [nat_c hs]; exact v4) ?_
      refine ⟨rfl, ?_⟩
      rw [nat_c hs]
      unfold rateP
      rw [if_pos ⟨h, h2⟩]
      rfl
    · have h2 : bt ru (gI m 99576 (gI m 329048 sI.toNatClampNeg).toNatClampNeg) = 1 := h2
      rw [nat_c hs] at h2 h
      have h2 : bt ru (lanS (vw m) s) = 1 := h2
      refine ⟨rfl, ?_⟩
      unfold rateP
      rw [if_neg (fun z => by rw [h2] at z; exact absurd z.2 (by decide))]
set_option maxRecDepth 100000 in
set_option maxHeartbeats 4000000 in
theorem s_taxOf (hM : Mok TYg m) (hs : sI.toInt = s) (hlt : s < 40) : CI 2 mX7_taxOf [.ref 1175, .int sI, .int ru] m (fun r m' => m' = m ∧ r = taxP (vw m) ru s) := by
  have v1 : vp_in sI 80 := vp_in_iff.mpr ⟨by omega, show sI.toInt < ((80 : Nat) : Int) by omega⟩
  refine At.gs okX7_taxOf 80 ?_
  (conv => whnf)
  refine And.intro v1 ?_
  (conv => whnf)
  refine And.intro v1 ?_
  (conv => whnf)
  refine ⟨1, by decide, _, s_rate hM hs hlt, ?_⟩
  rintro r m' ⟨hmm, hr⟩; have hmm := hmm.symm; subst hmm
  refine ⟨rfl, ?_⟩
  rw [hr, nat_c hs]
  rfl
set_option maxRecDepth 100000 in
set_option maxHeartbeats 4000000 in
theorem s_owes {f : Int32} (hM : Mok TYg m) : CI 3 mX7_owes [.ref 1175, .int f, .int ru] m (fun r m' => m' = m ∧ r = owesP (vw m) ru f ((vw m).1 3)) := by
  have c6 := vw3 hM
  have h40 : (gI m 1175 6).toInt ≤ 40 := (hM.1 1175 6).2
  have lp : ∀ (n k : Nat) (kI a : Int32), kI.toInt = k → k + n = (vw m).1 3 → a = owesP (vw m) ru f k → At (E0 3) mX7_owes (qi (fun r m' => m' = m ∧ r = owesP (vw m) ru f ((vw m).1 3))) 5 [.ref 1175, .int f, .int ru, .int a, .int kI] [] m := by
    intro n
    induction n with
    | zero =>
      intro k kI a hk hn ha
      refine At.ls okX7_owes 60 ⟨_, _, rfl⟩ ?_
      (conv => whnf)
      refine And.intro (fun h => ?_) (fun h => ?_)
      · exact ⟨rfl, by rw [ha, show k = (vw m).1 3 by omega]⟩
      · have h : ¬ gI m 1175 6 ≤ kI := h
        rw [le_i] at h
        omega
    | succ n ih =>
      intro k kI a hk hn ha
      have e1 : (kI + 1).toInt = ((k + 1 : Nat) : Int) := by rw [inc1 (by omega), hk]; omega
      have v1 : vp_in kI 80 := vp_in_iff.mpr ⟨by omega, show kI.toInt < ((80 : Nat) : Int) by omega⟩
      refine At.ls okX7_owes 80 ⟨_, _, rfl⟩ ?_
      (conv => whnf)
      refine And.intro (fun h => ?_) (fun h => ?_)
      · have h : gI m 1175 6 ≤ kI := h
        rw [le_i] at h
        omega
      · (conv => whnf)
        refine And.intro v1 ?_
        (conv => whnf)
        refine And.intro (fun h2 => ?_) (fun h2 => ?_)
        · have h2 : ¬ gI m 329048 kI.toNatClampNeg = f := h2
          rw [nat_c hk] at h2
          have h2 : ¬ (vw m).2 10 k = f := h2
          (conv => whnf)
          refine And.intro v1 ?_
          (conv => whnf)
          refine And.intro (fun h3 => ?_) (fun h3 => ?_)
          · have h3 : ¬ gI m 329064 kI.toNatClampNeg = f := h3
            rw [nat_c hk] at h3
            have h3 : ¬ (vw m).2 11 k = f := h3
            (conv => whnf)
            refine And.intro rfl (ih (k + 1) (kI + 1) _ e1 (by omega) ?_)
            show _ = owesP (vw m) ru f k + (if (vw m).2 10 k = f then taxP (vw m) ru k else if (vw m).2 11 k = f then 0 - taxP (vw m) ru k else 0)
            rw [if_neg h2, if_neg h3, ← ha]
          · have h3 : gI m 329064 kI.toNatClampNeg = f := h3
            rw [nat_c hk] at h3
            have h3 : (vw m).2 11 k = f := h3
            (conv => whnf)
            refine ⟨2, by decide, _, s_taxOf hM hk (by omega), ?_⟩
            rintro r m' ⟨hmm, hr⟩; have hmm := hmm.symm; subst hmm
            (conv => whnf)
            refine And.intro rfl (ih (k + 1) (kI + 1) _ e1 (by omega) ?_)
            show _ = owesP (vw m) ru f k + (if (vw m).2 10 k = f then taxP (vw m) ru k else if (vw m).2 11 k = f then 0 - taxP (vw m) ru k else 0)
            rw [if_neg h2, if_pos h3, ← ha, ← hr]
        · have h2 : gI m 329048 kI.toNatClampNeg = f := h2
          rw [nat_c hk] at h2
          have h2 : (vw m).2 10 k = f := h2
          (conv => whnf)
          refine ⟨2, by decide, _, s_taxOf hM hk (by omega), ?_⟩
          rintro r m' ⟨hmm, hr⟩; have hmm := hmm.symm; subst hmm
          (conv => whnf)
          refine And.intro rfl (ih (k + 1) (kI + 1) _ e1 (by omega) ?_)
          show _ = owesP (vw m) ru f k + (if (vw m).2 10 k = f then taxP (vw m) ru k else if (vw m).2 11 k = f then 0 - taxP (vw m) ru k else 0)
          rw [if_pos h2, ← ha, ← hr]
  refine At.gs okX7_owes 60 ?_
  (conv => whnf)
  exact And.intro rfl (lp ((vw m).1 3) 0 0 0 rfl (by omega) rfl)
set_option maxRecDepth 100000 in
set_option maxHeartbeats 4000000 in
theorem s_missing {f : Nat} (hM : Mok TYg m) (hf : f < 12) : CI 4 mX7_isMissing [.ref 1175, .int (nI f), .int ru] m (fun r m' => m' = m ∧ r = if misB (vw m) ru f = true then 1 else 0) := by
  have ef : (nI f).toInt = (f : Int) := nI_toInt (by omega)
  have v1 : vp_in (nI f) 24 := vp_in_iff.mpr ⟨by omega, show (nI f).toInt < ((24 : Nat) : Int) by omega⟩
  refine At.gs okX7_isMissing 60 ?_
  (conv => whnf)
  refine ⟨3, by decide, _, s_owes hM, ?_⟩
  rintro r m' ⟨hmm, hr⟩; have hmm := hmm.symm; subst hmm
  (conv => whnf)
  refine And.intro v1 ?_
  (conv => whnf)
  refine And.intro (fun h => ?_) (fun h => ?_)
  · have h : r ≤ 100 * gI m 99640 (nI f).toNatClampNeg := h
    rw [nat_c ef, hr, le_i] at h
    refine ⟨Or.inl rfl, rfl, ?_⟩
    rw [if_neg (fun z => by
      have z := misB_t.mp z
      rw [lt_i] at z
      have h : (owesP (vw m) ru (nI f) ((vw m).1 3)).toInt ≤ (100 * (vw m).2 8 f).toInt := h
      omega)]
  · have h : ¬ r ≤ 100 * gI m 99640 (nI f).toNatClampNeg := h
    rw [nat_c ef, hr, le_i] at h
    refine ⟨Or.inr rfl, rfl, ?_⟩
    rw [if_pos (misB_t.mpr (by
      rw [lt_i]
      have h : ¬ (owesP (vw m) ru (nI f) ((vw m).1 3)).toInt ≤ (100 * (vw m).2 8 f).toInt := h
      omega))]
end TxM
/-! taxes and who is missing: the class -/
section TxC336
variable {m : MM} {s : Nat} {sI ru : Int32}
theorem c336_row (h : SB 336 m) {r i : Nat} (hr : r < 17) (h9 : r ≠ 9) (hi : i < (vw m).1 (own r)) : gI m (rowC 336 r) i = (vw m).2 r i := h.2.1 r hr h9 i hi
set_option maxRecDepth 100000 in
set_option maxHeartbeats 4000000 in
theorem r_taxEach_336 (hM : Mok TYg m) (h : SB 336 m) (hs : sI.toInt = s) (hlt : s < (vw m).1 3) : CI 1 mX0_taxEach [.ref 336, .int sI, .int ru] m (fun r m' => m' = m ∧ r = (vw m).2 14 s * rateP (vw m) ru s) := by
  have hW := h.2.2.2.2.2
  have h40 := hW.1.2.2.2
  have v1 : vp_in sI 40 := vp_in_iff.mpr ⟨by omega, show sI.toInt < ((40 : Nat) : Int) by omega⟩
  obtain ⟨fa, fa1, fa2, fa3⟩ := hW.frm hlt
  obtain ⟨fb, fb1, fb2, fb3⟩ := hW.tom hlt
  obtain ⟨la, la1, la2, la3⟩ := hW.lan fa1
  have h12 := hW.1.2.2.1
  have h5 := hW.1.1
  have c10 : gI m 164312 s = (vw m).2 10 s := c336_row h (r := 10) (by decide) (by decide) hlt
  have c11 : gI m 164328 s = (vw m).2 11 s := c336_row h (r := 11) (by decide) (by decide) hlt
  have c14 : gI m 164376 s = (vw m).2 14 s := c336_row h (r := 14) (by decide) (by decide) hlt
  have c4a : gI m 49752 fa = (vw m).2 4 fa := c336_row h (r := 4) (by decide) (by decide) fa1
  have c4b : gI m 49752 fb = (vw m).2 4 fb := c336_row h (r := 4) (by decide) (by decide) fb1
  have c1 : gI m 21064 la = (vw m).2 1 la := c336_row h (r := 1) (by decide) (by decide) la1
  have eS : lanS (vw m) s = nI la := by unfold lanS; rw [fa3, la2]
  have eB : lanB (vw m) s = (vw m).2 4 fb := by unfold lanB; rw [fb3]
  have v2 : vp_in (gI m 164312 sI.toNatClampNeg) 12 := by rw [nat_c hs, c10, fa2]; exact vp_in_nI (by omega) (by decide)
  have v3 : vp_in (gI m 164328 sI.toNatClampNeg) 12 := by rw [nat_c hs, c11, fb2]; exact vp_in_nI (by omega) (by decide)
  have eA : gI m 49752 (gI m 164312 sI.toNatClampNeg).toNatClampNeg = nI la := by rw [nat_c hs, c10, fa3, c4a, la2]
  have eC : gI m 49752 (gI m 164328 sI.toNatClampNeg).toNatClampNeg = (vw m).2 4 fb := by rw [nat_c hs, c11, fb3, c4b]
  refine At.gs okX0_taxEach 80 ?_
  (conv => whnf)
  refine And.intro v1 ?_
  (conv => whnf)
  refine And.intro v2 ?_
  (conv => whnf)
  refine And.intro v1 ?_
  (conv => whnf)
  refine And.intro v3 ?_
  (conv => whnf)
  refine And.intro (fun q => ?_) (fun q => ?_)
  · have q : ¬ gI m 49752 (gI m 164312 sI.toNatClampNeg).toNatClampNeg = gI m 49752 (gI m 164328 sI.toNatClampNeg).toNatClampNeg := q
    rw [eA, eC] at q
    refine ⟨rfl, ?_⟩
    unfold rateP
    rw [if_neg (fun z => q (by rw [← eS, ← eB]; exact z.1)), Int32.mul_zero]
  · have q : gI m 49752 (gI m 164312 sI.toNatClampNeg).toNatClampNeg = gI m 49752 (gI m 164328 sI.toNatClampNeg).toNatClampNeg := q
    (conv => whnf)
    refine And.intro (fun q2 => ?_) (fun q2 => ?_)
    · have q2 : bt ru (gI m 49752 (gI m 164312 sI.toNatClampNeg).toNatClampNeg) = 0 := q2
      (conv => whnf)
      refine And.intro v1 ?_
      (conv => whnf)
      refine And.intro (by rw [eA]; exact vp_in_nI (by omega) (by decide)) ?_
      refine ⟨rfl, ?_⟩
      rw [eA, eC] at q
      rw [eA] at q2
      show gI m 164376 sI.toNatClampNeg * gI m 21064 (gI m 49752 (gI m 164312 sI.toNatClampNeg).toNatClampNeg).toNatClampNeg = _
      rw [eA, nat_c hs, c14, nI_clamp (by omega), c1]
      unfold rateP
      rw [eS, eB, if_pos ⟨q, q2⟩, nI_clamp (by omega)]
    · have q2 : ¬ bt ru (gI m 49752 (gI m 164312 sI.toNatClampNeg).toNatClampNeg) = 0 := q2
      rw [eA] at q2
      refine ⟨rfl, ?_⟩
      unfold rateP
      rw [eS, if_neg (fun z => q2 z.2), Int32.mul_zero]
set_option maxRecDepth 100000 in
set_option maxHeartbeats 4000000 in
theorem r_taxOf_336 (hM : Mok TYg m) (h : SB 336 m) (hs : sI.toInt = s) (hlt : s < (vw m).1 3) : CI 2 mX0_taxOf [.ref 336, .int sI, .int ru] m (fun r m' => m' = m ∧ r = taxP (vw m) ru s) := by
  have h40 := h.2.2.2.2.2.1.2.2.2
  have v1 : vp_in sI 40 := vp_in_iff.mpr ⟨by omega, show sI.toInt < ((40 : Nat) : Int) by omega⟩
  have c12 : gI m 164344 s = (vw m).2 12 s := c336_row h (r := 12) (by decide) (by decide) hlt
  refine At.gs okX0_taxOf 60 ?_
  (conv => whnf)
  refine And.intro v1 ?_
  (conv => whnf)
  refine ⟨1, by decide, _, r_taxEach_336 hM h hs hlt, ?_⟩
  rintro r m' ⟨hmm, hr⟩; have hmm := hmm.symm; subst hmm
  refine ⟨rfl, ?_⟩
  rw [nat_c hs, c12, hr]
  unfold taxP
  rw [Int32.mul_assoc]
/-- what tally leaves: only the row of what is owed changes -/
def TaI_336 (m : MM) (m1 : MM) : Prop := St [49864] m m1
theorem TaI_336.sb {m1 : MM} (h : SB 336 m) (hS : St [49864] m m1) : SB 336 m1 ∧ vw m1 = vw m := ⟨h.fr (by unfold isBk; omega) hS.2.2 (by decide +kernel), vw_fr hS.2.2 (by decide +kernel)⟩
set_option maxRecDepth 100000 in
set_option maxHeartbeats 8000000 in
theorem r_tally_336 (hM : Mok TYg m) (h : SB 336 m) : CV 3 mX0_tally [.ref 336, .int ru] m (fun m' => St [49864] m m' ∧ ∀ f, f < (vw m).1 2 → gI m' 49864 f = owesP (vw m) ru (nI f) ((vw m).1 3)) := by
  have hW := h.2.2.2.2.2
  have h12 := hW.1.2.2.1
  have h40 := hW.1.2.2.2
  have cf : ∀ {m1}, St [49864] m m1 → (gI m1 418 1).toInt = (vw m).1 2 := fun {m1} hS => by
    have e1 : gI m1 418 1 = gI m 418 1 := fr1 hS.2.2 (by decide)
    have e2 : gI m 418 1 = gI m 1175 5 := h.1 2 (by decide)
    rw [e1, e2]; exact vw2 hM
  have cs : ∀ {m1}, St [49864] m m1 → (gI m1 452 7).toInt = (vw m).1 3 := fun {m1} hS => by
    have e1 : gI m1 452 7 = gI m 452 7 := fr1 hS.2.2 (by decide)
    have e2 : gI m 452 7 = gI m 1175 6 := h.1 3 (by decide)
    rw [e1, e2]; exact vw3 hM
  have lp2 : ∀ (n k : Nat) (kI : Int32) (v : Value) (m1 : MM), kI.toInt = k → k + n = (vw m).1 3 → St [49864] m m1 → (∀ f, f < (vw m).1 2 → gI m1 49864 f = owesP (vw m) ru (nI f) k) → At (E0 3) mX0_tally (qv (fun m' => St [49864] m m' ∧ ∀ f, f < (vw m).1 2 → gI m' 49864 f = owesP (vw m) ru (nI f) ((vw m).1 3))) 28 [.ref 336, .int ru, .int kI, v] [] m1 := by
    intro n
    induction n with
    | zero =>
      intro k kI v m1 hk hn hS hO
      have c := cs hS
      refine At.ls okX0_tally 60 ⟨_, _, rfl⟩ ?_
      (conv => whnf)
      refine And.intro (fun q => ?_) (fun q => ?_)
      · exact ⟨hS, fun f hf => by rw [hO f hf, show k = (vw m).1 3 by omega]⟩
      · have q : ¬ gI m1 452 7 ≤ kI := q
        rw [le_i] at q
        omega
    | succ n ih =>
      intro k kI v m1 hk hn hS hO
      have c := cs hS
      have e1 : (kI + 1).toInt = ((k + 1 : Nat) : Int) := by rw [inc1 (by omega), hk]; omega
      have v1 : vp_in kI 40 := vp_in_iff.mpr ⟨by omega, show kI.toInt < ((40 : Nat) : Int) by omega⟩
      have hlt : k < (vw m).1 3 := by omega
      obtain ⟨fa, fa1, fa2, fa3⟩ := hW.frm hlt
      obtain ⟨fb, fb1, fb2, fb3⟩ := hW.tom hlt
      have hne : fa ≠ fb := fun z => (hW.2.2.2 k hlt).2.2.1 (by rw [fa2, fb2, z])
      obtain ⟨h1, hv⟩ := TaI_336.sb h hS
      have c10 : gI m1 164312 k = nI fa := by rw [← fa2, ← hv]; exact c336_row h1 (r := 10) (by decide) (by decide) (by rw [hv]; exact hlt)
      refine At.ls okX0_tally 80 ⟨_, _, rfl⟩ ?_
      (conv => whnf)
      refine And.intro (fun q => ?_) (fun q => ?_)
      · have q : gI m1 452 7 ≤ kI := q
        rw [le_i] at q
        omega
      · (conv => whnf)
        refine ⟨2, by decide, _, r_taxOf_336 hS.1 h1 hk (by rw [hv]; exact hlt), ?_⟩
        rintro t m' ⟨hmm, ht⟩; have hmm := hmm.symm; subst hmm
        rw [hv] at ht
        have va : vp_in (gI m1 164312 kI.toNatClampNeg) 12 := by rw [nat_c hk, c10]; exact vp_in_nI (by omega) (by decide)
        (conv => whnf)
        refine And.intro v1 ?_
        (conv => whnf)
        refine And.intro va ?_
        (conv => whnf)
        refine And.intro va ?_
        rw [nat_c hk, c10, nI_clamp (by omega)]
        have S2 : St [49864] m (sI m1 49864 fa (gI m1 49864 fa + t)) := hS.row rfl (by decide) (tI_lo _) (tI_hi _)
        obtain ⟨h2, hv2⟩ := TaI_336.sb h S2
        have c11 : gI (sI m1 49864 fa (gI m1 49864 fa + t)) 164328 k = nI fb := by rw [← fb2, ← hv2]; exact c336_row h2 (r := 11) (by decide) (by decide) (by rw [hv2]; exact hlt)
        have eA : ∀ f, gI (sI m1 49864 fa (gI m1 49864 fa + t)) 49864 f = if f = fa then gI m1 49864 fa + t else gI m1 49864 f := fun f => by
          rw [gI_if]
          by_cases z : f = fa
          · rw [if_pos ⟨rfl, z⟩, if_pos z]
          · rw [if_neg (fun y => z y.2), if_neg z]
        revert S2 h2 hv2 c11 eA
        generalize sI m1 49864 fa (gI m1 49864 fa + t) = m2
        intro S2 h2 hv2 c11 eA
        have vb : vp_in (gI m2 164328 kI.toNatClampNeg) 12 := by rw [nat_c hk, c11]; exact vp_in_nI (by omega) (by decide)
        (conv => whnf)
        refine And.intro v1 ?_
        (conv => whnf)
        refine And.intro vb ?_
        (conv => whnf)
        refine And.intro vb ?_
        rw [nat_c hk, c11, nI_clamp (by omega)]
        have S3 : St [49864] m (sI m2 49864 fb (gI m2 49864 fb - t)) := S2.row rfl (by decide) (tI_lo _) (tI_hi _)
        (conv => whnf)
        refine And.intro rfl (ih (k + 1) (kI + 1) _ _ e1 (by omega) S3 (fun f hf => ?_))
        show _ = owesP (vw m) ru (nI f) k + (if (vw m).2 10 k = nI f then taxP (vw m) ru k else if (vw m).2 11 k = nI f then 0 - taxP (vw m) ru k else 0)
        rw [gI_if, fa2, fb2, ← ht, ← hO f hf]
        by_cases z : f = fa
        · subst z
          rw [if_pos rfl, if_neg (fun y => hne y.2), eA, if_pos rfl]
        · rw [if_neg (fun y => z (nI_inj (by omega) (by omega) y).symm)]
          by_cases y : f = fb
          · subst y
            rw [if_pos ⟨rfl, rfl⟩, if_pos rfl, eA, if_neg z, Int32.sub_eq_add_neg, Int32.sub_eq_add_neg 0 t, Int32.zero_add]
          · rw [if_neg (fun x => y x.2), if_neg (fun x => y (nI_inj (by omega) (by omega) x).symm), eA, if_neg z, Int32.add_zero]
  have lp1 : ∀ (n k : Nat) (kI : Int32) (m1 : MM), kI.toInt = k → k + n = (vw m).1 2 → St [49864] m m1 → (∀ f, f < k → gI m1 49864 f = 0) → At (E0 3) mX0_tally (qv (fun m' => St [49864] m m' ∧ ∀ f, f < (vw m).1 2 → gI m' 49864 f = owesP (vw m) ru (nI f) ((vw m).1 3))) 2 [.ref 336, .int ru, .int kI, .null] [] m1 := by
    intro n
    induction n with
    | zero =>
      intro k kI m1 hk hn hS hO
      have c := cf hS
      refine At.ls okX0_tally 60 ⟨_, _, rfl⟩ ?_
      (conv => whnf)
      refine And.intro (fun q => ?_) (fun q => ?_)
      · (conv => whnf)
        exact And.intro rfl (lp2 _ 0 0 _ m1 rfl (Nat.zero_add _) hS (fun f hf => hO f (by omega)))
      · have q : ¬ gI m1 418 1 ≤ kI := q
        rw [le_i] at q
        omega
    | succ n ih =>
      intro k kI m1 hk hn hS hO
      have c := cf hS
      have e1 : (kI + 1).toInt = ((k + 1 : Nat) : Int) := by rw [inc1 (by omega), hk]; omega
      have v1 : vp_in kI 12 := vp_in_iff.mpr ⟨by omega, show kI.toInt < ((12 : Nat) : Int) by omega⟩
      refine At.ls okX0_tally 60 ⟨_, _, rfl⟩ ?_
      (conv => whnf)
      refine And.intro (fun q => ?_) (fun q => ?_)
      · have q : gI m1 418 1 ≤ kI := q
        rw [le_i] at q
        omega
      · (conv => whnf)
        refine And.intro v1 ?_
        rw [nat_c hk]
        have S2 : St [49864] m (sI m1 49864 k 0) := hS.row rfl (by decide) (tI_lo _) (tI_hi _)
        (conv => whnf)
        refine And.intro rfl (ih (k + 1) (kI + 1) _ e1 (by omega) S2 (fun f hf => ?_))
        rw [gI_if]
        by_cases z : f = k
        · rw [if_pos ⟨rfl, z⟩]
        · rw [if_neg (fun y => z y.2)]
          exact hO f (by omega)
  refine At.gs okX0_tally 40 ?_
  (conv => whnf)
  exact And.intro rfl (lp1 _ 0 0 m rfl (Nat.zero_add _) (St.rf hM) (fun f hf => absurd hf (Nat.not_lt_zero _)))
set_option maxRecDepth 100000 in
set_option maxHeartbeats 4000000 in
theorem r_owed_336 {f : Int32} {fn : Nat} (hM : Mok TYg m) (h : SB 336 m) (hf : f.toInt = fn) (hlt : fn < (vw m).1 2) : CI 4 mX0_owed [.ref 336, .int f, .int ru] m (fun r m' => St [49864] m m' ∧ r = owesP (vw m) ru f ((vw m).1 3)) := by
  have h12 := h.2.2.2.2.2.1.2.2.1
  have v1 : vp_in f 12 := vp_in_iff.mpr ⟨by omega, show f.toInt < ((12 : Nat) : Int) by omega⟩
  refine At.gs okX0_owed 40 ?_
  (conv => whnf)
  refine ⟨3, by decide, _, r_tally_336 hM h, ?_⟩
  rintro m1 ⟨S1, hO⟩
  (conv => whnf)
  refine And.intro v1 ?_
  refine ⟨S1, ?_⟩
  rw [nat_c hf, hO fn hlt, nI_back hf]
set_option maxRecDepth 100000 in
set_option maxHeartbeats 4000000 in
theorem r_missing_336 (hM : Mok TYg m) (h : SB 336 m) : CI 4 mX0_missing [.ref 336, .int ru] m (fun r m' => St [49864] m m' ∧ r = nI (bsN (misB (vw m) ru) ((vw m).1 2))) := by
  have hW := h.2.2.2.2.2
  have h12 := hW.1.2.2.1
  refine At.gs okX0_missing 40 ?_
  (conv => whnf)
  refine ⟨3, by decide, _, r_tally_336 hM h, ?_⟩
  rintro m1 ⟨S1, hO⟩
  obtain ⟨h1, hv⟩ := TaI_336.sb h S1
  have cf : (gI m1 418 1).toInt = (vw m).1 2 := by
    have e1 : gI m1 418 1 = gI m 418 1 := fr1 S1.2.2 (by decide)
    have e2 : gI m 418 1 = gI m 1175 5 := h.1 2 (by decide)
    rw [e1, e2]; exact vw2 hM
  have lp : ∀ (n k : Nat) (kI b : Int32), kI = nI k → k + n = (vw m).1 2 → b = nI (bsN (misB (vw m) ru) k) → At (E0 4) mX0_missing (qi (fun r m' => St [49864] m m' ∧ r = nI (bsN (misB (vw m) ru) ((vw m).1 2)))) 9 [.ref 336, .int ru, .int b, .int kI] [] m1 := by
    intro n
    induction n with
    | zero =>
      intro k kI b hk hn hb
      refine At.ls okX0_missing 60 ⟨_, _, rfl⟩ ?_
      (conv => whnf)
      refine And.intro (fun q => ?_) (fun q => ?_)
      · exact ⟨S1, by rw [hb, show k = (vw m).1 2 by omega]⟩
      · have q : ¬ gI m1 418 1 ≤ kI := q
        rw [hk, le_i, nI_toInt (by omega)] at q
        omega
    | succ n ih =>
      intro k kI b hk hn hb
      have hkI : kI.toInt = k := by rw [hk, nI_toInt (by omega)]
      have v1 : vp_in kI 12 := vp_in_iff.mpr ⟨by omega, show kI.toInt < ((12 : Nat) : Int) by omega⟩
      have c8 : gI m1 49816 k = (vw m).2 8 k := by rw [← hv]; exact c336_row h1 (r := 8) (by decide) (by decide) (by rw [hv]; show k < (vw m).1 2; omega)
      have hor := bs_or (p := misB (vw m) ru) (n := k) (by omega)
      refine At.ls okX0_missing 80 ⟨_, _, rfl⟩ ?_
      (conv => whnf)
      refine And.intro (fun q => ?_) (fun q => ?_)
      · have q : gI m1 418 1 ≤ kI := q
        rw [le_i] at q
        omega
      · (conv => whnf)
        refine And.intro v1 ?_
        (conv => whnf)
        refine And.intro v1 ?_
        (conv => whnf)
        refine And.intro (fun q2 => ?_) (fun q2 => ?_)
        · have q2 : gI m1 49864 kI.toNatClampNeg ≤ 100 * gI m1 49816 kI.toNatClampNeg := q2
          rw [nat_c hkI, hO k (by omega), c8, le_i] at q2
          have hm : ¬ misB (vw m) ru k = true := fun z => by
            have z := misB_t.mp z
            rw [lt_i] at z
            omega
          rw [if_neg hm] at hor
          (conv => whnf)
          exact And.intro rfl (ih (k + 1) (kI + 1) _ (by rw [hk, nI_1]) (by omega) (by rw [hb]; exact hor))
        · have q2 : ¬ gI m1 49864 kI.toNatClampNeg ≤ 100 * gI m1 49816 kI.toNatClampNeg := q2
          rw [nat_c hkI, hO k (by omega), c8, le_i] at q2
          have hm : misB (vw m) ru k = true := misB_t.mpr (by rw [lt_i]; omega)
          rw [if_pos hm] at hor
          (conv => whnf)
          exact And.intro rfl (ih (k + 1) (kI + 1) _ (by rw [hk, nI_1]) (by omega) (by rw [hb, hk, shl1 (by omega)]; exact hor))
  (conv => whnf)
  exact And.intro rfl (lp _ 0 0 0 rfl (Nat.zero_add _) rfl)
end TxC336
section TxC720
variable {m : MM} {s : Nat} {sI ru : Int32}
theorem c720_row (h : SB 720 m) {r i : Nat} (hr : r < 17) (h9 : r ≠ 9) (hi : i < (vw m).1 (own r)) : gI m (rowC 720 r) i = (vw m).2 r i := h.2.1 r hr h9 i hi
set_option maxRecDepth 100000 in
set_option maxHeartbeats 4000000 in
theorem r_taxEach_720 (hM : Mok TYg m) (h : SB 720 m) (hs : sI.toInt = s) (hlt : s < (vw m).1 3) : CI 1 mX0_taxEach [.ref 720, .int sI, .int ru] m (fun r m' => m' = m ∧ r = (vw m).2 14 s * rateP (vw m) ru s) := by
  have hW := h.2.2.2.2.2
  have h40 := hW.1.2.2.2
  have v1 : vp_in sI 40 := vp_in_iff.mpr ⟨by omega, show sI.toInt < ((40 : Nat) : Int) by omega⟩
  obtain ⟨fa, fa1, fa2, fa3⟩ := hW.frm hlt
  obtain ⟨fb, fb1, fb2, fb3⟩ := hW.tom hlt
  obtain ⟨la, la1, la2, la3⟩ := hW.lan fa1
  have h12 := hW.1.2.2.1
  have h5 := hW.1.1
  have c10 : gI m 164696 s = (vw m).2 10 s := c720_row h (r := 10) (by decide) (by decide) hlt
  have c11 : gI m 164712 s = (vw m).2 11 s := c720_row h (r := 11) (by decide) (by decide) hlt
  have c14 : gI m 164760 s = (vw m).2 14 s := c720_row h (r := 14) (by decide) (by decide) hlt
  have c4a : gI m 50136 fa = (vw m).2 4 fa := c720_row h (r := 4) (by decide) (by decide) fa1
  have c4b : gI m 50136 fb = (vw m).2 4 fb := c720_row h (r := 4) (by decide) (by decide) fb1
  have c1 : gI m 21448 la = (vw m).2 1 la := c720_row h (r := 1) (by decide) (by decide) la1
  have eS : lanS (vw m) s = nI la := by unfold lanS; rw [fa3, la2]
  have eB : lanB (vw m) s = (vw m).2 4 fb := by unfold lanB; rw [fb3]
  have v2 : vp_in (gI m 164696 sI.toNatClampNeg) 12 := by rw [nat_c hs, c10, fa2]; exact vp_in_nI (by omega) (by decide)
  have v3 : vp_in (gI m 164712 sI.toNatClampNeg) 12 := by rw [nat_c hs, c11, fb2]; exact vp_in_nI (by omega) (by decide)
  have eA : gI m 50136 (gI m 164696 sI.toNatClampNeg).toNatClampNeg = nI la := by rw [nat_c hs, c10, fa3, c4a, la2]
  have eC : gI m 50136 (gI m 164712 sI.toNatClampNeg).toNatClampNeg = (vw m).2 4 fb := by rw [nat_c hs, c11, fb3, c4b]
  refine At.gs okX0_taxEach 80 ?_
  (conv => whnf)
  refine And.intro v1 ?_
  (conv => whnf)
  refine And.intro v2 ?_
  (conv => whnf)
  refine And.intro v1 ?_
  (conv => whnf)
  refine And.intro v3 ?_
  (conv => whnf)
  refine And.intro (fun q => ?_) (fun q => ?_)
  · have q : ¬ gI m 50136 (gI m 164696 sI.toNatClampNeg).toNatClampNeg = gI m 50136 (gI m 164712 sI.toNatClampNeg).toNatClampNeg := q
    rw [eA, eC] at q
    refine ⟨rfl, ?_⟩
    unfold rateP
    rw [if_neg (fun z => q (by rw [← eS, ← eB]; exact z.1)), Int32.mul_zero]
  · have q : gI m 50136 (gI m 164696 sI.toNatClampNeg).toNatClampNeg = gI m 50136 (gI m 164712 sI.toNatClampNeg).toNatClampNeg := q
    (conv => whnf)
    refine And.intro (fun q2 => ?_) (fun q2 => ?_)
    · have q2 : bt ru (gI m 50136 (gI m 164696 sI.toNatClampNeg).toNatClampNeg) = 0 := q2
      (conv => whnf)
      refine And.intro v1 ?_
      (conv => whnf)
      refine And.intro (by rw [eA]; exact vp_in_nI (by omega) (by decide)) ?_
      refine ⟨rfl, ?_⟩
      rw [eA, eC] at q
      rw [eA] at q2
      show gI m 164760 sI.toNatClampNeg * gI m 21448 (gI m 50136 (gI m 164696 sI.toNatClampNeg).toNatClampNeg).toNatClampNeg = _
      rw [eA, nat_c hs, c14, nI_clamp (by omega), c1]
      unfold rateP
      rw [eS, eB, if_pos ⟨q, q2⟩, nI_clamp (by omega)]
    · have q2 : ¬ bt ru (gI m 50136 (gI m 164696 sI.toNatClampNeg).toNatClampNeg) = 0 := q2
      rw [eA] at q2
      refine ⟨rfl, ?_⟩
      unfold rateP
      rw [eS, if_neg (fun z => q2 z.2), Int32.mul_zero]
set_option maxRecDepth 100000 in
set_option maxHeartbeats 4000000 in
theorem r_taxOf_720 (hM : Mok TYg m) (h : SB 720 m) (hs : sI.toInt = s) (hlt : s < (vw m).1 3) : CI 2 mX0_taxOf [.ref 720, .int sI, .int ru] m (fun r m' => m' = m ∧ r = taxP (vw m) ru s) := by
  have h40 := h.2.2.2.2.2.1.2.2.2
  have v1 : vp_in sI 40 := vp_in_iff.mpr ⟨by omega, show sI.toInt < ((40 : Nat) : Int) by omega⟩
  have c12 : gI m 164728 s = (vw m).2 12 s := c720_row h (r := 12) (by decide) (by decide) hlt
  refine At.gs okX0_taxOf 60 ?_
  (conv => whnf)
  refine And.intro v1 ?_
  (conv => whnf)
  refine ⟨1, by decide, _, r_taxEach_720 hM h hs hlt, ?_⟩
  rintro r m' ⟨hmm, hr⟩; have hmm := hmm.symm; subst hmm
  refine ⟨rfl, ?_⟩
  rw [nat_c hs, c12, hr]
  unfold taxP
  rw [Int32.mul_assoc]
/-- what tally leaves: only the row of what is owed changes -/
def TaI_720 (m : MM) (m1 : MM) : Prop := St [50248] m m1
theorem TaI_720.sb {m1 : MM} (h : SB 720 m) (hS : St [50248] m m1) : SB 720 m1 ∧ vw m1 = vw m := ⟨h.fr (by unfold isBk; omega) hS.2.2 (by decide +kernel), vw_fr hS.2.2 (by decide +kernel)⟩
set_option maxRecDepth 100000 in
set_option maxHeartbeats 8000000 in
theorem r_tally_720 (hM : Mok TYg m) (h : SB 720 m) : CV 3 mX0_tally [.ref 720, .int ru] m (fun m' => St [50248] m m' ∧ ∀ f, f < (vw m).1 2 → gI m' 50248 f = owesP (vw m) ru (nI f) ((vw m).1 3)) := by
  have hW := h.2.2.2.2.2
  have h12 := hW.1.2.2.1
  have h40 := hW.1.2.2.2
  have cf : ∀ {m1}, St [50248] m m1 → (gI m1 802 1).toInt = (vw m).1 2 := fun {m1} hS => by
    have e1 : gI m1 802 1 = gI m 802 1 := fr1 hS.2.2 (by decide)
    have e2 : gI m 802 1 = gI m 1175 5 := h.1 2 (by decide)
    rw [e1, e2]; exact vw2 hM
  have cs : ∀ {m1}, St [50248] m m1 → (gI m1 836 7).toInt = (vw m).1 3 := fun {m1} hS => by
    have e1 : gI m1 836 7 = gI m 836 7 := fr1 hS.2.2 (by decide)
    have e2 : gI m 836 7 = gI m 1175 6 := h.1 3 (by decide)
    rw [e1, e2]; exact vw3 hM
  have lp2 : ∀ (n k : Nat) (kI : Int32) (v : Value) (m1 : MM), kI.toInt = k → k + n = (vw m).1 3 → St [50248] m m1 → (∀ f, f < (vw m).1 2 → gI m1 50248 f = owesP (vw m) ru (nI f) k) → At (E0 3) mX0_tally (qv (fun m' => St [50248] m m' ∧ ∀ f, f < (vw m).1 2 → gI m' 50248 f = owesP (vw m) ru (nI f) ((vw m).1 3))) 28 [.ref 720, .int ru, .int kI, v] [] m1 := by
    intro n
    induction n with
    | zero =>
      intro k kI v m1 hk hn hS hO
      have c := cs hS
      refine At.ls okX0_tally 60 ⟨_, _, rfl⟩ ?_
      (conv => whnf)
      refine And.intro (fun q => ?_) (fun q => ?_)
      · exact ⟨hS, fun f hf => by rw [hO f hf, show k = (vw m).1 3 by omega]⟩
      · have q : ¬ gI m1 836 7 ≤ kI := q
        rw [le_i] at q
        omega
    | succ n ih =>
      intro k kI v m1 hk hn hS hO
      have c := cs hS
      have e1 : (kI + 1).toInt = ((k + 1 : Nat) : Int) := by rw [inc1 (by omega), hk]; omega
      have v1 : vp_in kI 40 := vp_in_iff.mpr ⟨by omega, show kI.toInt < ((40 : Nat) : Int) by omega⟩
      have hlt : k < (vw m).1 3 := by omega
      obtain ⟨fa, fa1, fa2, fa3⟩ := hW.frm hlt
      obtain ⟨fb, fb1, fb2, fb3⟩ := hW.tom hlt
      have hne : fa ≠ fb := fun z => (hW.2.2.2 k hlt).2.2.1 (by rw [fa2, fb2, z])
      obtain ⟨h1, hv⟩ := TaI_720.sb h hS
      have c10 : gI m1 164696 k = nI fa := by rw [← fa2, ← hv]; exact c720_row h1 (r := 10) (by decide) (by decide) (by rw [hv]; exact hlt)
      refine At.ls okX0_tally 80 ⟨_, _, rfl⟩ ?_
      (conv => whnf)
      refine And.intro (fun q => ?_) (fun q => ?_)
      · have q : gI m1 836 7 ≤ kI := q
        rw [le_i] at q
        omega
      · (conv => whnf)
        refine ⟨2, by decide, _, r_taxOf_720 hS.1 h1 hk (by rw [hv]; exact hlt), ?_⟩
        rintro t m' ⟨hmm, ht⟩; have hmm := hmm.symm; subst hmm
        rw [hv] at ht
        have va : vp_in (gI m1 164696 kI.toNatClampNeg) 12 := by rw [nat_c hk, c10]; exact vp_in_nI (by omega) (by decide)
        (conv => whnf)
        refine And.intro v1 ?_
        (conv => whnf)
        refine And.intro va ?_
        (conv => whnf)
        refine And.intro va ?_
        rw [nat_c hk, c10, nI_clamp (by omega)]
        have S2 : St [50248] m (sI m1 50248 fa (gI m1 50248 fa + t)) := hS.row rfl (by decide) (tI_lo _) (tI_hi _)
        obtain ⟨h2, hv2⟩ := TaI_720.sb h S2
        have c11 : gI (sI m1 50248 fa (gI m1 50248 fa + t)) 164712 k = nI fb := by rw [← fb2, ← hv2]; exact c720_row h2 (r := 11) (by decide) (by decide) (by rw [hv2]; exact hlt)
        have eA : ∀ f, gI (sI m1 50248 fa (gI m1 50248 fa + t)) 50248 f = if f = fa then gI m1 50248 fa + t else gI m1 50248 f := fun f => by
          rw [gI_if]
          by_cases z : f = fa
          · rw [if_pos ⟨rfl, z⟩, if_pos z]
          · rw [if_neg (fun y => z y.2), if_neg z]
        revert S2 h2 hv2 c11 eA
        generalize sI m1 50248 fa (gI m1 50248 fa + t) = m2
        intro S2 h2 hv2 c11 eA
        have vb : vp_in (gI m2 164712 kI.toNatClampNeg) 12 := by rw [nat_c hk, c11]; exact vp_in_nI (by omega) (by decide)
        (conv => whnf)
        refine And.intro v1 ?_
        (conv => whnf)
        refine And.intro vb ?_
        (conv => whnf)
        refine And.intro vb ?_
        rw [nat_c hk, c11, nI_clamp (by omega)]
        have S3 : St [50248] m (sI m2 50248 fb (gI m2 50248 fb - t)) := S2.row rfl (by decide) (tI_lo _) (tI_hi _)
        (conv => whnf)
        refine And.intro rfl (ih (k + 1) (kI + 1) _ _ e1 (by omega) S3 (fun f hf => ?_))
        show _ = owesP (vw m) ru (nI f) k + (if (vw m).2 10 k = nI f then taxP (vw m) ru k else if (vw m).2 11 k = nI f then 0 - taxP (vw m) ru k else 0)
        rw [gI_if, fa2, fb2, ← ht, ← hO f hf]
        by_cases z : f = fa
        · subst z
          rw [if_pos rfl, if_neg (fun y => hne y.2), eA, if_pos rfl]
        · rw [if_neg (fun y => z (nI_inj (by omega) (by omega) y).symm)]
          by_cases y : f = fb
          · subst y
            rw [if_pos ⟨rfl, rfl⟩, if_pos rfl, eA, if_neg z, Int32.sub_eq_add_neg, Int32.sub_eq_add_neg 0 t, Int32.zero_add]
          · rw [if_neg (fun x => y x.2), if_neg (fun x => y (nI_inj (by omega) (by omega) x).symm), eA, if_neg z, Int32.add_zero]
  have lp1 : ∀ (n k : Nat) (kI : Int32) (m1 : MM), kI.toInt = k → k + n = (vw m).1 2 → St [50248] m m1 → (∀ f, f < k → gI m1 50248 f = 0) → At (E0 3) mX0_tally (qv (fun m' => St [50248] m m' ∧ ∀ f, f < (vw m).1 2 → gI m' 50248 f = owesP (vw m) ru (nI f) ((vw m).1 3))) 2 [.ref 720, .int ru, .int kI, .null] [] m1 := by
    intro n
    induction n with
    | zero =>
      intro k kI m1 hk hn hS hO
      have c := cf hS
      refine At.ls okX0_tally 60 ⟨_, _, rfl⟩ ?_
      (conv => whnf)
      refine And.intro (fun q => ?_) (fun q => ?_)
      · (conv => whnf)
        exact And.intro rfl (lp2 _ 0 0 _ m1 rfl (Nat.zero_add _) hS (fun f hf => hO f (by omega)))
      · have q : ¬ gI m1 802 1 ≤ kI := q
        rw [le_i] at q
        omega
    | succ n ih =>
      intro k kI m1 hk hn hS hO
      have c := cf hS
      have e1 : (kI + 1).toInt = ((k + 1 : Nat) : Int) := by rw [inc1 (by omega), hk]; omega
      have v1 : vp_in kI 12 := vp_in_iff.mpr ⟨by omega, show kI.toInt < ((12 : Nat) : Int) by omega⟩
      refine At.ls okX0_tally 60 ⟨_, _, rfl⟩ ?_
      (conv => whnf)
      refine And.intro (fun q => ?_) (fun q => ?_)
      · have q : gI m1 802 1 ≤ kI := q
        rw [le_i] at q
        omega
      · (conv => whnf)
        refine And.intro v1 ?_
        rw [nat_c hk]
        have S2 : St [50248] m (sI m1 50248 k 0) := hS.row rfl (by decide) (tI_lo _) (tI_hi _)
        (conv => whnf)
        refine And.intro rfl (ih (k + 1) (kI + 1) _ e1 (by omega) S2 (fun f hf => ?_))
        rw [gI_if]
        by_cases z : f = k
        · rw [if_pos ⟨rfl, z⟩]
        · rw [if_neg (fun y => z y.2)]
          exact hO f (by omega)
  refine At.gs okX0_tally 40 ?_
  (conv => whnf)
  exact And.intro rfl (lp1 _ 0 0 m rfl (Nat.zero_add _) (St.rf hM) (fun f hf => absurd hf (Nat.not_lt_zero _)))
set_option maxRecDepth 100000 in
set_option maxHeartbeats 4000000 in
theorem r_owed_720 {f : Int32} {fn : Nat} (hM : Mok TYg m) (h : SB 720 m) (hf : f.toInt = fn) (hlt : fn < (vw m).1 2) : CI 4 mX0_owed [.ref 720, .int f, .int ru] m (fun r m' => St [50248] m m' ∧ r = owesP (vw m) ru f ((vw m).1 3)) := by
  have h12 := h.2.2.2.2.2.1.2.2.1
  have v1 : vp_in f 12 := vp_in_iff.mpr ⟨by omega, show f.toInt < ((12 : Nat) : Int) by omega⟩
  refine At.gs okX0_owed 40 ?_
  (conv => whnf)
  refine ⟨3, by decide, _, r_tally_720 hM h, ?_⟩
  rintro m1 ⟨S1, hO⟩
  (conv => whnf)
  refine And.intro v1 ?_
  refine ⟨S1, ?_⟩
  rw [nat_c hf, hO fn hlt, nI_back hf]
set_option maxRecDepth 100000 in
set_option maxHeartbeats 4000000 in
theorem r_missing_720 (hM : Mok TYg m) (h : SB 720 m) : CI 4 mX0_missing [.ref 720, .int ru] m (fun r m' => St [50248] m m' ∧ r = nI (bsN (misB (vw m) ru) ((vw m).1 2))) := by
  have hW := h.2.2.2.2.2
  have h12 := hW.1.2.2.1
  refine At.gs okX0_missing 40 ?_
  (conv => whnf)
  refine ⟨3, by decide, _, r_tally_720 hM h, ?_⟩
  rintro m1 ⟨S1, hO⟩
  obtain ⟨h1, hv⟩ := TaI_720.sb h S1
  have cf : (gI m1 802 1).toInt = (vw m).1 2 := by
    have e1 : gI m1 802 1 = gI m 802 1 := fr1 S1.2.2 (by decide)
    have e2 : gI m 802 1 = gI m 1175 5 := h.1 2 (by decide)
    rw [e1, e2]; exact vw2 hM
  have lp : ∀ (n k : Nat) (kI b : Int32), kI = nI k → k + n = (vw m).1 2 → b = nI (bsN (misB (vw m) ru) k) → At (E0 4) mX0_missing (qi (fun r m' => St [50248] m m' ∧ r = nI (bsN (misB (vw m) ru) ((vw m).1 2)))) 9 [.ref 720, .int ru, .int b, .int kI] [] m1 := by
    intro n
    induction n with
    | zero =>
      intro k kI b hk hn hb
      refine At.ls okX0_missing 60 ⟨_, _, rfl⟩ ?_
      (conv => whnf)
      refine And.intro (fun q => ?_) (fun q => ?_)
      · exact ⟨S1, by rw [hb, show k = (vw m).1 2 by omega]⟩
      · have q : ¬ gI m1 802 1 ≤ kI := q
        rw [hk, le_i, nI_toInt (by omega)] at q
        omega
    | succ n ih =>
      intro k kI b hk hn hb
      have hkI : kI.toInt = k := by rw [hk, nI_toInt (by omega)]
      have v1 : vp_in kI 12 := vp_in_iff.mpr ⟨by omega, show kI.toInt < ((12 : Nat) : Int) by omega⟩
      have c8 : gI m1 50200 k = (vw m).2 8 k := by rw [← hv]; exact c720_row h1 (r := 8) (by decide) (by decide) (by rw [hv]; show k < (vw m).1 2; omega)
      have hor := bs_or (p := misB (vw m) ru) (n := k) (by omega)
      refine At.ls okX0_missing 80 ⟨_, _, rfl⟩ ?_
      (conv => whnf)
      refine And.intro (fun q => ?_) (fun q => ?_)
      · have q : gI m1 802 1 ≤ kI := q
        rw [le_i] at q
        omega
      · (conv => whnf)
        refine And.intro v1 ?_
        (conv => whnf)
        refine And.intro v1 ?_
        (conv => whnf)
        refine And.intro (fun q2 => ?_) (fun q2 => ?_)
        · have q2 : gI m1 50248 kI.toNatClampNeg ≤ 100 * gI m1 50200 kI.toNatClampNeg := q2
          rw [nat_c hkI, hO k (by omega), c8, le_i] at q2
          have hm : ¬ misB (vw m) ru k = true := fun z => by
            have z := misB_t.mp z
            rw [lt_i] at z
            omega
          rw [if_neg hm] at hor
          (conv => whnf)
          exact And.intro rfl (ih (k + 1) (kI + 1) _ (by rw [hk, nI_1]) (by omega) (by rw [hb]; exact hor))
        · have q2 : ¬ gI m1 50248 kI.toNatClampNeg ≤ 100 * gI m1 50200 kI.toNatClampNeg := q2
          rw [nat_c hkI, hO k (by omega), c8, le_i] at q2
          have hm : misB (vw m) ru k = true := misB_t.mpr (by rw [lt_i]; omega)
          rw [if_pos hm] at hor
          (conv => whnf)
          exact And.intro rfl (ih (k + 1) (kI + 1) _ (by rw [hk, nI_1]) (by omega) (by rw [hb, hk, shl1 (by omega)]; exact hor))
  (conv => whnf)
  exact And.intro rfl (lp _ 0 0 0 rfl (Nat.zero_add _) rfl)
end TxC720
