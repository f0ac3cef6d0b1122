/-! stop, rule, named: both sides in full -/
theorem shl_m1 : ∀ n, n < 13 → ((-1 : Int32) <<< (nI n &&& 31)).toBitVec.toNat = 2 ^ 32 - 2 ^ n := by decide +kernel
theorem msk_bit {n i : Nat} (hn : n < 13) : (2 ^ 32 - 2 ^ n).testBit i = (decide (i < 32) && !decide (i < n)) := by
  have hp : 0 < 2 ^ n := Nat.pow_pos (by decide)
  have hl : 2 ^ n - 1 < 2 ^ 32 := by
    have : 2 ^ n ≤ 2 ^ 12 := Nat.pow_le_pow_right (by decide) (by omega)
    omega
  have e : 2 ^ 32 - 2 ^ n = 2 ^ 32 - (2 ^ n - 1 + 1) := by omega
  rw [e, Nat.testBit_two_pow_sub_succ hl, Nat.testBit_two_pow_sub_one]
theorem areP_iff {a : Int32} {n : Nat} (hn : n < 13) : a &&& ((-1 : Int32) <<< (nI n &&& 31)) = 0 ↔ areP a n := by
  have hp : 2 ^ n ≤ 2 ^ 12 := Nat.pow_le_pow_right (by decide) (by omega)
  have hlt : a.toBitVec.toNat < 2 ^ 32 := a.toBitVec.isLt
  have e1 : (a &&& ((-1 : Int32) <<< (nI n &&& 31)) = 0) ↔ a.toBitVec.toNat &&& (2 ^ 32 - 2 ^ n) = 0 := by
    rw [← Int32.toBitVec_inj]
    constructor
    · intro h
      have h2 := congrArg BitVec.toNat h
      rw [Int32.toBitVec_and, BitVec.toNat_and, shl_m1 n hn] at h2
      exact h2
    · intro h
      apply BitVec.eq_of_toNat_eq
      rw [Int32.toBitVec_and, BitVec.toNat_and, shl_m1 n hn, h]
      rfl
  have e2 : a.toBitVec.toNat &&& (2 ^ 32 - 2 ^ n) = 0 ↔ a.toBitVec.toNat < 2 ^ n := by
    constructor
    · intro h
      refine Decidable.byContradiction (fun q => ?_)
      obtain ⟨i, hi, hb⟩ := Nat.exists_ge_and_testBit_of_ge_two_pow (Nat.le_of_not_lt q)
      have hi32 : i < 32 := by
        refine Decidable.byContradiction (fun z => ?_)
        have : a.toBitVec.toNat < 2 ^ i := Nat.lt_of_lt_of_le hlt (Nat.pow_le_pow_right (by decide) (by omega))
        rw [Nat.testBit_lt_two_pow this] at hb
        cases hb
      have hz : (a.toBitVec.toNat &&& (2 ^ 32 - 2 ^ n)).testBit i = true := by
        rw [Nat.testBit_and, hb, msk_bit hn]
        simp [hi32]
        omega
      rw [h, Nat.zero_testBit] at hz
      cases hz
    · intro h
      apply Nat.eq_of_testBit_eq
      intro i
      rw [Nat.testBit_and, msk_bit hn, Nat.zero_testBit]
      by_cases q : i < n
      · simp [q]
      · have : a.toBitVec.toNat < 2 ^ i := Nat.lt_of_lt_of_le h (Nat.pow_le_pow_right (by decide) (by omega))
        rw [Nat.testBit_lt_two_pow this]
        rfl
  have e3 : a.toInt = if 2 * a.toBitVec.toNat < 2 ^ 32 then (a.toBitVec.toNat : Int) else (a.toBitVec.toNat : Int) - (2 ^ 32 : Nat) := BitVec.toInt_eq_toNat_cond a.toBitVec
  rw [e1, e2]
  unfold areP
  rw [e3]
  split <;> omega
theorem areP_nI {a : Int32} {n : Nat} (h : areP a n) (hn : n < 13) : ∃ N, N < 4096 ∧ N < 2 ^ n ∧ a = nI N := by
  have hp : 2 ^ n ≤ 2 ^ 12 := Nat.pow_le_pow_right (by decide) (by omega)
  have e : a.toInt = (a.toInt.toNat : Nat) := by have := h.1; omega
  have := h.2
  exact ⟨a.toInt.toNat, by omega, by omega, nI_back e⟩
set_option maxRecDepth 100000 in
theorem r_forget {m : MM} : CV 1 mX1_forget [.ref 49] m (fun m' => m' = sI m 49 13 0) := by
  refine At.gs okX1_forget 40 ?_
  (conv => whnf)
  exact ⟨Or.inl rfl, rfl⟩
/-- what stop or rule of the class does: into field k -/
def StP6 (k : Nat) (a : Int32) (n : Nat) (m : MM) (r : Int32) (m' : MM) : Prop := (areP a n ∧ r = bcE a ∧ m' = sI m 6 k a) ∨ (¬ areP a n ∧ r = -1 ∧ m' = m)
def StP7 (k : Nat) (a : Int32) (n : Nat) (m : MM) (r : Int32) (m' : MM) : Prop := (areP a n ∧ r = nI (popS a.toInt.toNat 31) ∧ m' = sI (sI m 1175 0 0) 1175 k a) ∨ (¬ areP a n ∧ r = -1 ∧ m' = sI m 1175 0 0)
theorem StP_eq {k6 k7 n : Nat} {a r1 r2 : Int32} {m m1 m1' m2 : MM} (hn : n < 13) (h1 : StP6 k6 a n m r1 m1) (h2 : StP7 k7 a n m1' r2 m2) : r1 = r2 := by
  rcases h1 with ⟨p1, p2, p3⟩ | ⟨p1, p2, p3⟩
  · rcases h2 with ⟨q1, q2, q3⟩ | ⟨q1, q2, q3⟩
    · obtain ⟨N, N1, N2, rfl⟩ := areP_nI p1 hn
      rw [p2, q2, bc_ok N1, nI_toInt (by omega)]
      rfl
    · exact absurd p1 q1
  · rcases h2 with ⟨q1, q2, q3⟩ | ⟨q1, q2, q3⟩
    · exact absurd q1 p1
    · rw [p2, q2]
set_option maxRecDepth 100000 in
set_option maxHeartbeats 4000000 in
theorem s_stop {m : MM} {a : Int32} (hM : Mok TYg m) : CI 2 mX7_stop [.ref 1175, .int a] m (StP7 39 a ((vw m).1 2) m) := by
  have hc : (gI m 1175 5).toInt = (vw m).1 2 := vw_n (k := 2) hM
  have hb : (gI m 1175 5).toInt ≤ 12 := by
    have : (0 : Int) ≤ (gI m 1175 5).toInt ∧ (gI m 1175 5).toInt ≤ 12 := hM.1 1175 5
    omega
  have hp : 2 ^ (vw m).1 2 ≤ 2 ^ 12 := Nat.pow_le_pow_right (by decide) (by omega)
  have e0 : (0 : Int32).toInt = 0 := rfl
  have es : (1 : Int32) <<< (gI m 1175 5 &&& 31) = nI (2 ^ (vw m).1 2) := by rw [nI_back hc]; exact shl1 (by omega)
  refine At.gs okX7_stop 60 ?_
  (conv => whnf)
  refine And.intro (fun h => ?_) (fun h => ?_)
  · rw [lt_i, e0] at h
    exact Or.inr ⟨fun z => by have := z.1; omega, rfl, rfl⟩
  · rw [lt_i, e0] at h
    (conv => whnf)
    refine And.intro (fun h2 => ?_) (fun h2 => ?_)
    · have h2 : a < (1 : Int32) <<< (gI m 1175 5 &&& 31) := h2
      rw [es, lt_i, nI_toInt (by omega)] at h2
      have hA : areP a ((vw m).1 2) := ⟨by omega, h2⟩
      obtain ⟨N, N1, N2, rfl⟩ := areP_nI hA (by omega)
      (conv => whnf)
      refine ⟨1, by decide, _, s_bits (by omega), ?_⟩
      rintro r m' ⟨hmm, hr⟩; have hmm := hmm.symm; subst hmm
      exact Or.inl ⟨hA, by rw [hr, nI_toInt (by omega)]; rfl, rfl⟩
    · have h2 : ¬ a < (1 : Int32) <<< (gI m 1175 5 &&& 31) := h2
      rw [es, lt_i, nI_toInt (by omega)] at h2
      exact Or.inr ⟨fun z => h2 z.2, rfl, rfl⟩
set_option maxRecDepth 100000 in
set_option maxHeartbeats 4000000 in
theorem s_rule {m : MM} {a : Int32} (hM : Mok TYg m) : CI 2 mX7_rule [.ref 1175, .int a] m (StP7 40 a ((vw m).1 0) m) := by
  have hc : (gI m 1175 3).toInt = (vw m).1 0 := vw_n (k := 0) hM
  have hb : (gI m 1175 3).toInt ≤ 12 := by
    have : (0 : Int) ≤ (gI m 1175 3).toInt ∧ (gI m 1175 3).toInt ≤ 5 := hM.1 1175 3
    omega
  have hp : 2 ^ (vw m).1 0 ≤ 2 ^ 12 := Nat.pow_le_pow_right (by decide) (by omega)
  have e0 : (0 : Int32).toInt = 0 := rfl
  have es : (1 : Int32) <<< (gI m 1175 3 &&& 31) = nI (2 ^ (vw m).1 0) := by rw [nI_back hc]; exact shl1 (by omega)
  refine At.gs okX7_rule 60 ?_
  (conv => whnf)
  refine And.intro (fun h => ?_) (fun h => ?_)
  · rw [lt_i, e0] at h
    exact Or.inr ⟨fun z => by have := z.1; omega, rfl, rfl⟩
  · rw [lt_i, e0] at h
    (conv => whnf)
    refine And.intro (fun h2 => ?_) (fun h2 => ?_)
    · have h2 : a < (1 : Int32) <<< (gI m 1175 3 &&& 31) := h2
      rw [es, lt_i, nI_toInt (by omega)] at h2
      have hA : areP a ((vw m).1 0) := ⟨by omega, h2⟩
      obtain ⟨N, N1, N2, rfl⟩ := areP_nI hA (by omega)
      (conv => whnf)
      refine ⟨1, by decide, _, s_bits (by omega), ?_⟩
      rintro r m' ⟨hmm, hr⟩; have hmm := hmm.symm; subst hmm
      exact Or.inl ⟨hA, by rw [hr, nI_toInt (by omega)]; rfl, rfl⟩
    · have h2 : ¬ a < (1 : Int32) <<< (gI m 1175 3 &&& 31) := h2
      rw [es, lt_i, nI_toInt (by omega)] at h2
      exact Or.inr ⟨fun z => h2 z.2, rfl, rfl⟩
set_option maxRecDepth 100000 in
set_option maxHeartbeats 4000000 in
theorem r_stop_336 {m : MM} {a : Int32} (hM : Mok TYg m) (h : SB 336 m) (hc : m.2.2 = (336, 720)) : CI 2 mX6_stop [.ref 6, .int a] m (StP6 5 a ((vw m).1 2) m) := by
  obtain ⟨f, g, c⟩ := m
  obtain rfl : c = (336, 720) := hc
  have e1 : gI (f, g, (336, 720)) 418 1 = gI (f, g, (336, 720)) 1175 5 := h.1 2 (by decide)
  have hn : (gI (f, g, (336, 720)) 418 1).toInt = (vw (f, g, (336, 720))).1 2 := by rw [e1]; exact vw_n (k := 2) hM
  have h12 : (vw (f, g, (336, 720))).1 2 ≤ 12 := by
    have := h.2.2.2.2.2.1
    omega
  refine At.gs okX6_stop 60 ?_
  (conv => whnf)
  refine ⟨1, by decide, _, r_areBits, ?_⟩
  rintro r m' ⟨hmm, hr⟩; have hmm := hmm.symm; subst hmm
  have hr : z1 (a &&& ((-1 : Int32) <<< (gI (f, g, (336, 720)) 418 1 &&& 31)) = 0) r := hr
  rw [nI_back hn] at hr
  (conv => whnf)
  refine And.intro (fun q => ?_) (fun q => ?_)
  · rcases hr with ⟨p1, p2⟩ | ⟨p1, p2⟩
    · (conv => whnf)
      refine ⟨1, by decide, _, r_bitC, ?_⟩
      rintro r2 m' ⟨hmm, hr2⟩; have hmm := hmm.symm; subst hmm
      exact Or.inl ⟨(areP_iff (by omega)).mp p1, hr2, rfl⟩
    · exact absurd p2 q
  · rcases hr with ⟨p1, p2⟩ | ⟨p1, p2⟩
    · rw [p2] at q
      exact absurd q (by decide)
    · exact Or.inr ⟨fun z => p1 ((areP_iff (by omega)).mpr z), rfl, rfl⟩
set_option maxRecDepth 100000 in
set_option maxHeartbeats 4000000 in
theorem r_rule_336 {m : MM} {a : Int32} (hM : Mok TYg m) (h : SB 336 m) (hc : m.2.2 = (336, 720)) : CI 2 mX6_rule [.ref 6, .int a] m (StP6 6 a ((vw m).1 0) m) := by
  obtain ⟨f, g, c⟩ := m
  obtain rfl : c = (336, 720) := hc
  have e1 : gI (f, g, (336, 720)) 354 1 = gI (f, g, (336, 720)) 1175 3 := h.1 0 (by decide)
  have hn : (gI (f, g, (336, 720)) 354 1).toInt = (vw (f, g, (336, 720))).1 0 := by rw [e1]; exact vw_n (k := 0) hM
  have h12 : (vw (f, g, (336, 720))).1 0 ≤ 12 := by
    have := h.2.2.2.2.2.1
    omega
  refine At.gs okX6_rule 60 ?_
  (conv => whnf)
  refine ⟨1, by decide, _, r_areBits, ?_⟩
  rintro r m' ⟨hmm, hr⟩; have hmm := hmm.symm; subst hmm
  have hr : z1 (a &&& ((-1 : Int32) <<< (gI (f, g, (336, 720)) 354 1 &&& 31)) = 0) r := hr
  rw [nI_back hn] at hr
  (conv => whnf)
  refine And.intro (fun q => ?_) (fun q => ?_)
  · rcases hr with ⟨p1, p2⟩ | ⟨p1, p2⟩
    · (conv => whnf)
      refine ⟨1, by decide, _, r_bitC, ?_⟩
      rintro r2 m' ⟨hmm, hr2⟩; have hmm := hmm.symm; subst hmm
      exact Or.inl ⟨(areP_iff (by omega)).mp p1, hr2, rfl⟩
    · exact absurd p2 q
  · rcases hr with ⟨p1, p2⟩ | ⟨p1, p2⟩
    · rw [p2] at q
      exact absurd q (by decide)
    · exact Or.inr ⟨fun z => p1 ((areP_iff (by omega)).mpr z), rfl, rfl⟩
set_option maxRecDepth 100000 in
set_option maxHeartbeats 4000000 in
theorem r_stop_720 {m : MM} {a : Int32} (hM : Mok TYg m) (h : SB 720 m) (hc : m.2.2 = (720, 336)) : CI 2 mX6_stop [.ref 6, .int a] m (StP6 5 a ((vw m).1 2) m) := by
  obtain ⟨f, g, c⟩ := m
  obtain rfl : c = (720, 336) := hc
  have e1 : gI (f, g, (720, 336)) 802 1 = gI (f, g, (720, 336)) 1175 5 := h.1 2 (by decide)
  have hn : (gI (f, g, (720, 336)) 802 1).toInt = (vw (f, g, (720, 336))).1 2 := by rw [e1]; exact vw_n (k := 2) hM
  have h12 : (vw (f, g, (720, 336))).1 2 ≤ 12 := by
    have := h.2.2.2.2.2.1
    omega
  refine At.gs okX6_stop 60 ?_
  (conv => whnf)
  refine ⟨1, by decide, _, r_areBits, ?_⟩
  rintro r m' ⟨hmm, hr⟩; have hmm := hmm.symm; subst hmm
  have hr : z1 (a &&& ((-1 : Int32) <<< (gI (f, g, (720, 336)) 802 1 &&& 31)) = 0) r := hr
  rw [nI_back hn] at hr
  (conv => whnf)
  refine And.intro (fun q => ?_) (fun q => ?_)
  · rcases hr with ⟨p1, p2⟩ | ⟨p1, p2⟩
    · (conv => whnf)
      refine ⟨1, by decide, _, r_bitC, ?_⟩
      rintro r2 m' ⟨hmm, hr2⟩; have hmm := hmm.symm; subst hmm
      exact Or.inl ⟨(areP_iff (by omega)).mp p1, hr2, rfl⟩
    · exact absurd p2 q
  · rcases hr with ⟨p1, p2⟩ | ⟨p1, p2⟩
    · rw [p2] at q
      exact absurd q (by decide)
    · exact Or.inr ⟨fun z => p1 ((areP_iff (by omega)).mpr z), rfl, rfl⟩
set_option maxRecDepth 100000 in
set_option maxHeartbeats 4000000 in
theorem r_rule_720 {m : MM} {a : Int32} (hM : Mok TYg m) (h : SB 720 m) (hc : m.2.2 = (720, 336)) : CI 2 mX6_rule [.ref 6, .int a] m (StP6 6 a ((vw m).1 0) m) := by
  obtain ⟨f, g, c⟩ := m
  obtain rfl : c = (720, 336) := hc
  have e1 : gI (f, g, (720, 336)) 738 1 = gI (f, g, (720, 336)) 1175 3 := h.1 0 (by decide)
  have hn : (gI (f, g, (720, 336)) 738 1).toInt = (vw (f, g, (720, 336))).1 0 := by rw [e1]; exact vw_n (k := 0) hM
  have h12 : (vw (f, g, (720, 336))).1 0 ≤ 12 := by
    have := h.2.2.2.2.2.1
    omega
  refine At.gs okX6_rule 60 ?_
  (conv => whnf)
  refine ⟨1, by decide, _, r_areBits, ?_⟩
  rintro r m' ⟨hmm, hr⟩; have hmm := hmm.symm; subst hmm
  have hr : z1 (a &&& ((-1 : Int32) <<< (gI (f, g, (720, 336)) 738 1 &&& 31)) = 0) r := hr
  rw [nI_back hn] at hr
  (conv => whnf)
  refine And.intro (fun q => ?_) (fun q => ?_)
  · rcases hr with ⟨p1, p2⟩ | ⟨p1, p2⟩
    · (conv => whnf)
      refine ⟨1, by decide, _, r_bitC, ?_⟩
      rintro r2 m' ⟨hmm, hr2⟩; have hmm := hmm.symm; subst hmm
      exact Or.inl ⟨(areP_iff (by omega)).mp p1, hr2, rfl⟩
    · exact absurd p2 q
  · rcases hr with ⟨p1, p2⟩ | ⟨p1, p2⟩
    · rw [p2] at q
      exact absurd q (by decide)
    · exact Or.inr ⟨fun z => p1 ((areP_iff (by omega)).mpr z), rfl, rfl⟩
/-- named by the view -/
def namP (V : VW) (wt nm : Int32) : Int := if wt = 0 then fIx (fun i => (V.2 0 i).toInt) nm.toInt (V.1 0) 0 else if wt = 1 then fIx (fun i => (V.2 2 i).toInt) nm.toInt (V.1 1) 0 else if wt = 2 then fIx (fun i => (V.2 3 i).toInt) nm.toInt (V.1 2) 0 else -1
set_option maxRecDepth 100000 in
set_option maxHeartbeats 4000000 in
theorem s_named {m : MM} {a b : Int32} (hM : Mok TYg m) : CI 2 mX7_named [.ref 1175, .int a, .int b] m (fun r m' => m' = sI m 1175 0 0 ∧ r.toInt = namP (vw m) a b) := by
  have c0 : (gI m 1175 3).toInt = (vw m).1 0 := vw_n (k := 0) hM
  have c1 : (gI m 1175 4).toInt = (vw m).1 1 := vw_n (k := 1) hM
  have c2 : (gI m 1175 5).toInt = (vw m).1 2 := vw_n (k := 2) hM
  have b0 : (gI m 1175 3).toInt ≤ 5 := (hM.1 1175 3).2
  have b1 : (gI m 1175 4).toInt ≤ 4 := (hM.1 1175 4).2
  have b2 : (gI m 1175 5).toInt ≤ 12 := (hM.1 1175 5).2
  refine At.gs okX7_named 80 ?_
  (conv => whnf)
  refine And.intro (fun h => ?_) (fun h => ?_)
  · (conv => whnf)
    refine And.intro (fun h2 => ?_) (fun h2 => ?_)
    · (conv => whnf)
      refine And.intro (fun h3 => ?_) (fun h3 => ?_)
      · refine ⟨rfl, ?_⟩
        unfold namP
        rw [if_neg h, if_neg h2, if_neg h3]
        rfl
      · (conv => whnf)
        refine ⟨1, by decide, _, s_find_99560 (m := sI m 1175 0 0) (c := (vw m).1 2) c2 (by omega), ?_⟩
        rintro r m' ⟨hmm, hr⟩; have hmm := hmm.symm; subst hmm
        refine ⟨rfl, ?_⟩
        unfold namP
        rw [if_neg h, if_neg h2, if_pos h3]
        exact hr
    · (conv => whnf)
      refine ⟨1, by decide, _, s_find_34008 (m := sI m 1175 0 0) (c := (vw m).1 1) c1 (by omega), ?_⟩
      rintro r m' ⟨hmm, hr⟩; have hmm := hmm.symm; subst hmm
      refine ⟨rfl, ?_⟩
      unfold namP
      rw [if_neg h, if_pos h2]
      exact hr
  · (conv => whnf)
    refine ⟨1, by decide, _, s_find_42168 (m := sI m 1175 0 0) (c := (vw m).1 0) c0 (by omega), ?_⟩
    rintro r m' ⟨hmm, hr⟩; have hmm := hmm.symm; subst hmm
    refine ⟨rfl, ?_⟩
    unfold namP
    rw [if_pos h]
    exact hr
set_option maxRecDepth 100000 in
set_option maxHeartbeats 4000000 in
theorem r_named_336 {m : MM} {a b : Int32} (hM : Mok TYg m) (h : SB 336 m) (hc : m.2.2 = (336, 720)) : CI 2 mX6_named [.ref 6, .int a, .int b] m (fun r m' => m' = m ∧ r.toInt = namP (vw m) a b) := by
  obtain ⟨f, g, c⟩ := m
  obtain rfl : c = (336, 720) := hc
  have e0 : gI (f, g, (336, 720)) 354 1 = gI (f, g, (336, 720)) 1175 3 := h.1 0 (by decide)
  have e1 : gI (f, g, (336, 720)) 386 1 = gI (f, g, (336, 720)) 1175 4 := h.1 1 (by decide)
  have e2 : gI (f, g, (336, 720)) 418 1 = gI (f, g, (336, 720)) 1175 5 := h.1 2 (by decide)
  have c0 : (gI (f, g, (336, 720)) 354 1).toInt = (vw (f, g, (336, 720))).1 0 := by rw [e0]; exact vw_n (k := 0) hM
  have c1 : (gI (f, g, (336, 720)) 386 1).toInt = (vw (f, g, (336, 720))).1 1 := by rw [e1]; exact vw_n (k := 1) hM
  have c2 : (gI (f, g, (336, 720)) 418 1).toInt = (vw (f, g, (336, 720))).1 2 := by rw [e2]; exact vw_n (k := 2) hM
  have hW := h.2.2.2.2.2.1
  refine At.gs okX6_named 80 ?_
  (conv => whnf)
  refine And.intro (fun q => ?_) (fun q => ?_)
  · (conv => whnf)
    refine ⟨1, by decide, _, r_find_354 (by omega) (by omega), ?_⟩
    rintro r m' ⟨hmm, hr⟩; have hmm := hmm.symm; subst hmm
    refine ⟨rfl, ?_⟩
    unfold namP
    rw [if_pos q, hr, c0]
    exact fIx_cg _ _ (fun i hi => by rw [show gI (f, g, (336, 720)) 49528 i = (vw (f, g, (336, 720))).2 0 i from h.2.1 0 (by decide) (by decide) i (by rw [Nat.zero_add] at hi; exact hi)])
  refine And.intro (fun q2 => ?_) (fun q2 => ?_)
  · (conv => whnf)
    refine ⟨1, by decide, _, r_find_386 (by omega) (by omega), ?_⟩
    rintro r m' ⟨hmm, hr⟩; have hmm := hmm.symm; subst hmm
    refine ⟨rfl, ?_⟩
    unfold namP
    rw [if_neg q, if_pos q2, hr, c1]
    exact fIx_cg _ _ (fun i hi => by rw [show gI (f, g, (336, 720)) 49560 i = (vw (f, g, (336, 720))).2 2 i from h.2.1 2 (by decide) (by decide) i (by rw [Nat.zero_add] at hi; exact hi)])
  refine And.intro (fun q3 => ?_) (fun q3 => ?_)
  · (conv => whnf)
    refine ⟨1, by decide, _, r_find_418 (by omega) (by omega), ?_⟩
    rintro r m' ⟨hmm, hr⟩; have hmm := hmm.symm; subst hmm
    refine ⟨rfl, ?_⟩
    unfold namP
    rw [if_neg q, if_neg q2, if_pos q3, hr, c2]
    exact fIx_cg _ _ (fun i hi => by rw [show gI (f, g, (336, 720)) 49592 i = (vw (f, g, (336, 720))).2 3 i from h.2.1 3 (by decide) (by decide) i (by rw [Nat.zero_add] at hi; exact hi)])
  · refine ⟨rfl, ?_⟩
    unfold namP
    rw [if_neg q, if_neg q2, if_neg q3]
    rfl
set_option maxRecDepth 100000 in
set_option maxHeartbeats 4000000 in
theorem r_named_720 {m : MM} {a b : Int32} (hM : Mok TYg m) (h : SB 720 m) (hc : m.2.2 = (720, 336)) : CI 2 mX6_named [.ref 6, .int a, .int b] m (fun r m' => m' = m ∧ r.toInt = namP (vw m) a b) := by
  obtain ⟨f, g, c⟩ := m
  obtain rfl : c = (720, 336) := hc
  have e0 : gI (f, g, (720, 336)) 738 1 = gI (f, g, (720, 336)) 1175 3 := h.1 0 (by decide)
  have e1 : gI (f, g, (720, 336)) 770 1 = gI (f, g, (720, 336)) 1175 4 := h.1 1 (by decide)
  have e2 : gI (f, g, (720, 336)) 802 1 = gI (f, g, (720, 336)) 1175 5 := h.1 2 (by decide)
  have c0 : (gI (f, g, (720, 336)) 738 1).toInt = (vw (f, g, (720, 336))).1 0 := by rw [e0]; exact vw_n (k := 0) hM
  have c1 : (gI (f, g, (720, 336)) 770 1).toInt = (vw (f, g, (720, 336))).1 1 := by rw [e1]; exact vw_n (k := 1) hM
  have c2 : (gI (f, g, (720, 336)) 802 1).toInt = (vw (f, g, (720, 336))).1 2 := by rw [e2]; exact vw_n (k := 2) hM
  have hW := h.2.2.2.2.2.1
  refine At.gs okX6_named 80 ?_
  (conv => whnf)
  refine And.intro (fun q => ?_) (fun q => ?_)
  · (conv => whnf)
    refine ⟨1, by decide, _, r_find_738 (by omega) (by omega), ?_⟩
    rintro r m' ⟨hmm, hr⟩; have hmm := hmm.symm; subst hmm
    refine ⟨rfl, ?_⟩
    unfold namP
    rw [if_pos q, hr, c0]
    exact fIx_cg _ _ (fun i hi => by rw [show gI (f, g, (720, 336)) 49912 i = (vw (f, g, (720, 336))).2 0 i from h.2.1 0 (by decide) (by decide) i (by rw [Nat.zero_add] at hi; exact hi)])
  refine And.intro (fun q2 => ?_) (fun q2 => ?_)
  · (conv => whnf)
    refine ⟨1, by decide, _, r_find_770 (by omega) (by omega), ?_⟩
    rintro r m' ⟨hmm, hr⟩; have hmm := hmm.symm; subst hmm
    refine ⟨rfl, ?_⟩
    unfold namP
    rw [if_neg q, if_pos q2, hr, c1]
    exact fIx_cg _ _ (fun i hi => by rw [show gI (f, g, (720, 336)) 49944 i = (vw (f, g, (720, 336))).2 2 i from h.2.1 2 (by decide) (by decide) i (by rw [Nat.zero_add] at hi; exact hi)])
  refine And.intro (fun q3 => ?_) (fun q3 => ?_)
  · (conv => whnf)
    refine ⟨1, by decide, _, r_find_802 (by omega) (by omega), ?_⟩
    rintro r m' ⟨hmm, hr⟩; have hmm := hmm.symm; subst hmm
    refine ⟨rfl, ?_⟩
    unfold namP
    rw [if_neg q, if_neg q2, if_pos q3, hr, c2]
    exact fIx_cg _ _ (fun i hi => by rw [show gI (f, g, (720, 336)) 49976 i = (vw (f, g, (720, 336))).2 3 i from h.2.1 3 (by decide) (by decide) i (by rw [Nat.zero_add] at hi; exact hi)])
  · refine ⟨rfl, ?_⟩
    unfold namP
    rw [if_neg q, if_neg q2, if_neg q3]
    rfl
