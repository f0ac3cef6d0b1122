/-! burden of the class -/
theorem bsN_tb (p : Nat → Bool) (n i : Nat) : (bsN p n).testBit i = (decide (i < n) && p i) := by
  rw [Nat.testBit_eq_decide_div_mod_eq, bsN_bit]
  by_cases h : i < n
  · cases hp : p i <;> simp [h]
  · simp [h]
/-- one set without another -/
theorem bs_less {p q : Nat → Bool} {n : Nat} (hn : n ≤ 31) : nI (bsN p n) &&& (nI (bsN q n) ^^^ (-1)) = nI (bsN (fun i => p i && !(q i)) n) := by
  have h2 : 2 ^ n ≤ 2 ^ 31 := Nat.pow_le_pow_right (by decide) hn
  have l1 := bsN_lt p n
  have l2 := bsN_lt q n
  have l3 := bsN_lt (fun i => p i && !(q i)) n
  apply Int32.toBitVec_inj.mp
  apply BitVec.eq_of_toNat_eq
  rw [Int32.toBitVec_and, BitVec.toNat_and, Int32.toBitVec_xor, BitVec.toNat_xor, pk_tn (by omega), pk_tn (by omega), pk_tn (by omega), show (-1 : Int32).toBitVec.toNat = 2 ^ 32 - 1 from by decide]
  apply Nat.eq_of_testBit_eq
  intro i
  rw [Nat.testBit_and, Nat.testBit_xor, bsN_tb, bsN_tb, bsN_tb, Nat.testBit_two_pow_sub_one]
  by_cases h : i < n
  · have : i < 32 := by omega
    simp [h, this]
  · simp [h]
set_option maxRecDepth 100000 in
set_option maxHeartbeats 4000000 in
theorem r_firmsIn_336 {m : MM} {l : Int32} (hM : Mok TYg m) (h : SB 336 m) : CI 1 mX0_firmsIn [.ref 336, .int l] m (fun r m' => m' = m ∧ r = nI (bsN (fun f => decide ((vw m).2 4 f = l)) ((vw m).1 2))) := by
  have hW := h.2.2.2.2.2
  have h12 := hW.1.2.2.1
  have cf : (gI m 418 1).toInt = (vw m).1 2 := by
    have e2 : gI m 418 1 = gI m 1175 5 := h.1 2 (by decide)
    rw [e2]; exact vw2 hM
  have lp : ∀ (n k : Nat) (kI b : Int32), kI = nI k → k + n = (vw m).1 2 → b = nI (bsN (fun f => decide ((vw m).2 4 f = l)) k) → At (E0 1) mX0_firmsIn (qi (fun r m' => m' = m ∧ r = nI (bsN (fun f => decide ((vw m).2 4 f = l)) ((vw m).1 2)))) 4 [.ref 336, .int l, .int b, .int kI] [] m := by
    intro n
    induction n with
    | zero =>
      intro k kI b hk hn hb
      refine At.ls okX0_firmsIn 60 ⟨_, _, rfl⟩ ?_
      (conv => whnf)
      refine And.intro (fun q => ?_) (fun q => ?_)
      · exact ⟨rfl, by rw [hb, show k = (vw m).1 2 by omega]⟩
      · have q : ¬ gI m 418 1 ≤ kI := q
        rw [hk, le_i, nI_toInt (by omega)] at q
        omega
    | succ n ih =>
      intro k kI b hk hn hb
      have hkI : kI.toInt = k := by rw [hk, nI_toInt (by omega)]
      have v1 : vp_in kI 12 := vp_in_iff.mpr ⟨by omega, show kI.toInt < ((12 : Nat) : Int) by omega⟩
      have c4 : gI m 49752 k = (vw m).2 4 k := h.2.1 4 (by decide) (by decide) k (by show k < (vw m).1 2; omega)
      have hor := bs_or (p := fun f => decide ((vw m).2 4 f = l)) (n := k) (by omega)
      refine At.ls okX0_firmsIn 80 ⟨_, _, rfl⟩ ?_
      (conv => whnf)
      refine And.intro (fun q => ?_) (fun q => ?_)
      · have q : gI m 418 1 ≤ kI := q
        rw [le_i] at q
        omega
      · (conv => whnf)
        refine And.intro v1 ?_
        (conv => whnf)
        refine And.intro (fun q2 => ?_) (fun q2 => ?_)
        · have q2 : ¬ gI m 49752 kI.toNatClampNeg = l := q2
          rw [nat_c hkI, c4] at q2
          rw [if_neg (fun z => q2 (of_decide_eq_true z))] at hor
          (conv => whnf)
          exact And.intro rfl (ih (k + 1) (kI + 1) _ (by rw [hk, nI_1]) (by omega) (by rw [hb]; exact hor))
        · have q2 : gI m 49752 kI.toNatClampNeg = l := q2
          rw [nat_c hkI, c4] at q2
          rw [if_pos (decide_eq_true q2)] at hor
          (conv => whnf)
          exact And.intro rfl (ih (k + 1) (kI + 1) _ (by rw [hk, nI_1]) (by omega) (by rw [hb, hk, shl1 (by omega)]; exact hor))
  refine At.gs okX0_firmsIn 60 ?_
  (conv => whnf)
  exact And.intro rfl (lp _ 0 0 0 rfl (Nat.zero_add _) rfl)
set_option maxRecDepth 100000 in
set_option maxHeartbeats 4000000 in
theorem r_honest_336 {m : MM} {l mi : Int32} (hM : Mok TYg m) (h : SB 336 m) (hmi : mi = nI (bsN (misB (vw m) 0) ((vw m).1 2))) : CI 2 mX0_honestSales [.ref 336, .int l, .int mi] m (fun r m' => m' = m ∧ r = nI (cntB (honB (vw m) l) ((vw m).1 3))) := by
  have hW := h.2.2.2.2.2
  have h12 := hW.1.2.2.1
  have h40 := hW.1.2.2.2
  have cs : (gI m 452 7).toInt = (vw m).1 3 := by
    have e2 : gI m 452 7 = gI m 1175 6 := h.1 3 (by decide)
    rw [e2]; exact vw3 hM
  generalize hp : (fun i => decide ((vw m).2 4 i = l) && !(misB (vw m) 0 i)) = p
  have hlt := bsN_lt p ((vw m).1 2)
  have h31 : 2 ^ (vw m).1 2 ≤ 2 ^ 12 := Nat.pow_le_pow_right (by decide) (by omega)
  have lp : ∀ (n k : Nat) (kI c : Int32), kI.toInt = k → k + n = (vw m).1 3 → c = nI (cntB (honB (vw m) l) k) → At (E0 2) mX0_honestSales (qi (fun r m' => m' = m ∧ r = nI (cntB (honB (vw m) l) ((vw m).1 3)))) 16 [.ref 336, .int l, .int mi, .int (nI (bsN p ((vw m).1 2))), .int c, .int kI] [] m := by
    intro n
    induction n with
    | zero =>
      intro k kI c hk hn hc
      refine At.ls okX0_honestSales 60 ⟨_, _, rfl⟩ ?_
      (conv => whnf)
      refine And.intro (fun q => ?_) (fun q => ?_)
      · exact ⟨rfl, by rw [hc, show k = (vw m).1 3 by omega]⟩
      · have q : ¬ gI m 452 7 ≤ kI := q
        rw [le_i] at q
        omega
    | succ n ih =>
      intro k kI c hk hn hc
      have hlt2 : k < (vw m).1 3 := by omega
      have ek : (kI + 1).toInt = ((k + 1 : Nat) : Int) := by rw [inc1 (by omega), hk]; omega
      have vk : vp_in kI 40 := vp_in_iff.mpr ⟨by omega, show kI.toInt < ((40 : Nat) : Int) by omega⟩
      obtain ⟨fa, fa1, fa2, fa3⟩ := hW.frm hlt2
      obtain ⟨fb, fb1, fb2, fb3⟩ := hW.tom hlt2
      have c10 : gI m 164312 kI.toNatClampNeg = nI fa := by rw [nat_c hk, ← fa2]; exact h.2.1 10 (by decide) (by decide) k hlt2
      have c11 : gI m 164328 kI.toNatClampNeg = nI fb := by rw [nat_c hk, ← fb2]; exact h.2.1 11 (by decide) (by decide) k hlt2
      have e1 : cntB (honB (vw m) l) (k + 1) = cntB (honB (vw m) l) k + (if honB (vw m) l k = true then 1 else 0) := rfl
      have hb : honB (vw m) l k = (p fa && p fb) := by
        unfold honB lanS lanB
        rw [fa3, fb3, ← hp]
        by_cases z1 : (vw m).2 4 fa = l
        · by_cases z2 : (vw m).2 4 fb = l
          · simp [z1, z2]
          · simp [z1, z2]
        · simp [z1]
      refine At.ls okX0_honestSales 80 ⟨_, _, rfl⟩ ?_
      (conv => whnf)
      refine And.intro (fun q => ?_) (fun q => ?_)
      · have q : gI m 452 7 ≤ kI := q
        rw [le_i] at q
        omega
      (conv => whnf)
      refine And.intro vk ?_
      (conv => whnf)
      refine And.intro vk ?_
      rw [c10, c11]
      (conv => whnf)
      refine And.intro rfl (ih (k + 1) (kI + 1) _ ek (by omega) ?_)
      show c + (((nI (bsN p ((vw m).1 2)) >>> (nI fa &&& 31)) &&& (nI (bsN p ((vw m).1 2)) >>> (nI fb &&& 31))) &&& 1) = _
      rw [bt_two (by omega) (by omega) (by omega), bsN_bit, bsN_bit, e1, hb, hc, nI_add]
      cases z1 : p fa <;> cases z2 : p fb <;> simp [fa1, fb1]
  refine At.gs okX0_honestSales 60 ?_
  (conv => whnf)
  refine ⟨1, by decide, _, r_firmsIn_336 hM h, ?_⟩
  rintro r m' ⟨hmm, hr⟩; have hmm := hmm.symm; subst hmm
  (conv => whnf)
  refine And.intro rfl ?_
  have e : r &&& (mi ^^^ (-1)) = nI (bsN p ((vw m).1 2)) := by
    rw [hr, hmi, bs_less (by omega), hp]
  have y := lp _ 0 0 0 rfl (Nat.zero_add _) rfl
  rw [← e] at y
  exact y
set_option maxRecDepth 100000 in
set_option maxHeartbeats 4000000 in
theorem r_burden_336 {m : MM} {l : Int32} (hM : Mok TYg m) (h : SB 336 m) (hc : m.2.2 = (336, 720)) : CI 5 mX6_burden [.ref 6, .int l] m (fun r m' => St [49864] m m' ∧ r = burP (vw m) l) := by
  obtain ⟨f, g, c⟩ := m
  obtain rfl : c = (336, 720) := hc
  have e0 : gI (f, g, (336, 720)) 354 1 = gI (f, g, (336, 720)) 1175 3 := h.1 0 (by decide)
  have c0 : (gI (f, g, (336, 720)) 354 1).toInt = (vw (f, g, (336, 720))).1 0 := by rw [e0]; exact vw_n (k := 0) hM
  refine At.gs okX6_burden 60 ?_
  (conv => whnf)
  refine ⟨1, by decide, _, r_has_354, ?_⟩
  rintro r m' ⟨hmm, hr⟩; have hmm := hmm.symm; subst hmm
  rw [c0] at hr
  (conv => whnf)
  refine And.intro (fun q => ?_) (fun q => ?_)
  · rcases hr with ⟨p1, p2⟩ | ⟨p1, p2⟩
    · (conv => whnf)
      dsimp only
      (conv => whnf)
      refine ⟨4, by decide, _, r_missing_336 hM h, ?_⟩
      rintro r2 m1 ⟨S1, hr2⟩
      obtain ⟨h1, hv⟩ := TaI_336.sb h S1
      have hb := S1.2.1
      rw [← hv] at hr2
      obtain ⟨f1, g1, c1⟩ := m1
      obtain rfl : c1 = (336, 720) := hb
      (conv => whnf)
      dsimp only
      (conv => whnf)
      refine ⟨2, by decide, _, r_honest_336 S1.1 h1 hr2, ?_⟩
      rintro r3 m' ⟨hmm, hr3⟩; have hmm := hmm.symm; subst hmm
      refine ⟨S1, ?_⟩
      unfold burP
      rw [if_pos p1, hr3, hv]
    · exact absurd p2 q
  · rcases hr with ⟨p1, p2⟩ | ⟨p1, p2⟩
    · rw [p2] at q; exact absurd q (by decide)
    · refine ⟨St.rf hM, ?_⟩
      unfold burP
      rw [if_neg p1]
set_option maxRecDepth 100000 in
set_option maxHeartbeats 4000000 in
theorem r_firmsIn_720 {m : MM} {l : Int32} (hM : Mok TYg m) (h : SB 720 m) : CI 1 mX0_firmsIn [.ref 720, .int l] m (fun r m' => m' = m ∧ r = nI (bsN (fun f => decide ((vw m).2 4 f = l)) ((vw m).1 2))) := by
  have hW := h.2.2.2.2.2
  have h12 := hW.1.2.2.1
  have cf : (gI m 802 1).toInt = (vw m).1 2 := by
    have e2 : gI m 802 1 = gI m 1175 5 := h.1 2 (by decide)
    rw [e2]; exact vw2 hM
  have lp : ∀ (n k : Nat) (kI b : Int32), kI = nI k → k + n = (vw m).1 2 → b = nI (bsN (fun f => decide ((vw m).2 4 f = l)) k) → At (E0 1) mX0_firmsIn (qi (fun r m' => m' = m ∧ r = nI (bsN (fun f => decide ((vw m).2 4 f = l)) ((vw m).1 2)))) 4 [.ref 720, .int l, .int b, .int kI] [] m := by
    intro n
    induction n with
    | zero =>
      intro k kI b hk hn hb
      refine At.ls okX0_firmsIn 60 ⟨_, _, rfl⟩ ?_
      (conv => whnf)
      refine And.intro (fun q => ?_) (fun q => ?_)
      · exact ⟨rfl, by rw [hb, show k = (vw m).1 2 by omega]⟩
      · have q : ¬ gI m 802 1 ≤ kI := q
        rw [hk, le_i, nI_toInt (by omega)] at q
        omega
    | succ n ih =>
      intro k kI b hk hn hb
      have hkI : kI.toInt = k := by rw [hk, nI_toInt (by omega)]
      have v1 : vp_in kI 12 := vp_in_iff.mpr ⟨by omega, show kI.toInt < ((12 : Nat) : Int) by omega⟩
      have c4 : gI m 50136 k = (vw m).2 4 k := h.2.1 4 (by decide) (by decide) k (by show k < (vw m).1 2; omega)
      have hor := bs_or (p := fun f => decide ((vw m).2 4 f = l)) (n := k) (by omega)
      refine At.ls okX0_firmsIn 80 ⟨_, _, rfl⟩ ?_
      (conv => whnf)
      refine And.intro (fun q => ?_) (fun q => ?_)
      · have q : gI m 802 1 ≤ kI := q
        rw [le_i] at q
        omega
      · (conv => whnf)
        refine And.intro v1 ?_
        (conv => whnf)
        refine And.intro (fun q2 => ?_) (fun q2 => ?_)
        · have q2 : ¬ gI m 50136 kI.toNatClampNeg = l := q2
          rw [nat_c hkI, c4] at q2
          rw [if_neg (fun z => q2 (of_decide_eq_true z))] at hor
          (conv => whnf)
          exact And.intro rfl (ih (k + 1) (kI + 1) _ (by rw [hk, nI_1]) (by omega) (by rw [hb]; exact hor))
        · have q2 : gI m 50136 kI.toNatClampNeg = l := q2
          rw [nat_c hkI, c4] at q2
          rw [if_pos (decide_eq_true q2)] at hor
          (conv => whnf)
          exact And.intro rfl (ih (k + 1) (kI + 1) _ (by rw [hk, nI_1]) (by omega) (by rw [hb, hk, shl1 (by omega)]; exact hor))
  refine At.gs okX0_firmsIn 60 ?_
  (conv => whnf)
  exact And.intro rfl (lp _ 0 0 0 rfl (Nat.zero_add _) rfl)
set_option maxRecDepth 100000 in
set_option maxHeartbeats 4000000 in
theorem r_honest_720 {m : MM} {l mi : Int32} (hM : Mok TYg m) (h : SB 720 m) (hmi : mi = nI (bsN (misB (vw m) 0) ((vw m).1 2))) : CI 2 mX0_honestSales [.ref 720, .int l, .int mi] m (fun r m' => m' = m ∧ r = nI (cntB (honB (vw m) l) ((vw m).1 3))) := by
  have hW := h.2.2.2.2.2
  have h12 := hW.1.2.2.1
  have h40 := hW.1.2.2.2
  have cs : (gI m 836 7).toInt = (vw m).1 3 := by
    have e2 : gI m 836 7 = gI m 1175 6 := h.1 3 (by decide)
    rw [e2]; exact vw3 hM
  generalize hp : (fun i => decide ((vw m).2 4 i = l) && !(misB (vw m) 0 i)) = p
  have hlt := bsN_lt p ((vw m).1 2)
  have h31 : 2 ^ (vw m).1 2 ≤ 2 ^ 12 := Nat.pow_le_pow_right (by decide) (by omega)
  have lp : ∀ (n k : Nat) (kI c : Int32), kI.toInt = k → k + n = (vw m).1 3 → c = nI (cntB (honB (vw m) l) k) → At (E0 2) mX0_honestSales (qi (fun r m' => m' = m ∧ r = nI (cntB (honB (vw m) l) ((vw m).1 3)))) 16 [.ref 720, .int l, .int mi, .int (nI (bsN p ((vw m).1 2))), .int c, .int kI] [] m := by
    intro n
    induction n with
    | zero =>
      intro k kI c hk hn hc
      refine At.ls okX0_honestSales 60 ⟨_, _, rfl⟩ ?_
      (conv => whnf)
      refine And.intro (fun q => ?_) (fun q => ?_)
      · exact ⟨rfl, by rw [hc, show k = (vw m).1 3 by omega]⟩
      · have q : ¬ gI m 836 7 ≤ kI := q
        rw [le_i] at q
        omega
    | succ n ih =>
      intro k kI c hk hn hc
      have hlt2 : k < (vw m).1 3 := by omega
      have ek : (kI + 1).toInt = ((k + 1 : Nat) : Int) := by rw [inc1 (by omega), hk]; omega
      have vk : vp_in kI 40 := vp_in_iff.mpr ⟨by omega, show kI.toInt < ((40 : Nat) : Int) by omega⟩
      obtain ⟨fa, fa1, fa2, fa3⟩ := hW.frm hlt2
      obtain ⟨fb, fb1, fb2, fb3⟩ := hW.tom hlt2
      have c10 : gI m 164696 kI.toNatClampNeg = nI fa := by rw [nat_c hk, ← fa2]; exact h.2.1 10 (by decide) (by decide) k hlt2
      have c11 : gI m 164712 kI.toNatClampNeg = nI fb := by rw [nat_c hk, ← fb2]; exact h.2.1 11 (by decide) (by decide) k hlt2
      have e1 : cntB (honB (vw m) l) (k + 1) = cntB (honB (vw m) l) k + (if honB (vw m) l k = true then 1 else 0) := rfl
      have hb : honB (vw m) l k = (p fa && p fb) := by
        unfold honB lanS lanB
        rw [fa3, fb3, ← hp]
        by_cases z1 : (vw m).2 4 fa = l
        · by_cases z2 : (vw m).2 4 fb = l
          · simp [z1, z2]
          · simp [z1, z2]
        · simp [z1]
      refine At.ls okX0_honestSales 80 ⟨_, _, rfl⟩ ?_
      (conv => whnf)
      refine And.intro (fun q => ?_) (fun q => ?_)
      · have q : gI m 836 7 ≤ kI := q
        rw [le_i] at q
        omega
      (conv => whnf)
      refine And.intro vk ?_
      (conv => whnf)
      refine And.intro vk ?_
      rw [c10, c11]
      (conv => whnf)
      refine And.intro rfl (ih (k + 1) (kI + 1) _ ek (by omega) ?_)
      show c + (((nI (bsN p ((vw m).1 2)) >>> (nI fa &&& 31)) &&& (nI (bsN p ((vw m).1 2)) >>> (nI fb &&& 31))) &&& 1) = _
      rw [bt_two (by omega) (by omega) (by omega), bsN_bit, bsN_bit, e1, hb, hc, nI_add]
      cases z1 : p fa <;> cases z2 : p fb <;> simp [fa1, fb1]
  refine At.gs okX0_honestSales 60 ?_
  (conv => whnf)
  refine ⟨1, by decide, _, r_firmsIn_720 hM h, ?_⟩
  rintro r m' ⟨hmm, hr⟩; have hmm := hmm.symm; subst hmm
  (conv => whnf)
  refine And.intro rfl ?_
  have e : r &&& (mi ^^^ (-1)) = nI (bsN p ((vw m).1 2)) := by
    rw [hr, hmi, bs_less (by omega), hp]
  have y := lp _ 0 0 0 rfl (Nat.zero_add _) rfl
  rw [← e] at y
  exact y
set_option maxRecDepth 100000 in
set_option maxHeartbeats 4000000 in
theorem r_burden_720 {m : MM} {l : Int32} (hM : Mok TYg m) (h : SB 720 m) (hc : m.2.2 = (720, 336)) : CI 5 mX6_burden [.ref 6, .int l] m (fun r m' => St [50248] m m' ∧ r = burP (vw m) l) := by
  obtain ⟨f, g, c⟩ := m
  obtain rfl : c = (720, 336) := hc
  have e0 : gI (f, g, (720, 336)) 738 1 = gI (f, g, (720, 336)) 1175 3 := h.1 0 (by decide)
  have c0 : (gI (f, g, (720, 336)) 738 1).toInt = (vw (f, g, (720, 336))).1 0 := by rw [e0]; exact vw_n (k := 0) hM
  refine At.gs okX6_burden 60 ?_
  (conv => whnf)
  refine ⟨1, by decide, _, r_has_738, ?_⟩
  rintro r m' ⟨hmm, hr⟩; have hmm := hmm.symm; subst hmm
  rw [c0] at hr
  (conv => whnf)
  refine And.intro (fun q => ?_) (fun q => ?_)
  · rcases hr with ⟨p1, p2⟩ | ⟨p1, p2⟩
    · (conv => whnf)
      dsimp only
      (conv => whnf)
      refine ⟨4, by decide, _, r_missing_720 hM h, ?_⟩
      rintro r2 m1 ⟨S1, hr2⟩
      obtain ⟨h1, hv⟩ := TaI_720.sb h S1
      have hb := S1.2.1
      rw [← hv] at hr2
      obtain ⟨f1, g1, c1⟩ := m1
      obtain rfl : c1 = (720, 336) := hb
      (conv => whnf)
      dsimp only
      (conv => whnf)
      refine ⟨2, by decide, _, r_honest_720 S1.1 h1 hr2, ?_⟩
      rintro r3 m' ⟨hmm, hr3⟩; have hmm := hmm.symm; subst hmm
      refine ⟨S1, ?_⟩
      unfold burP
      rw [if_pos p1, hr3, hv]
    · exact absurd p2 q
  · rcases hr with ⟨p1, p2⟩ | ⟨p1, p2⟩
    · rw [p2] at q; exact absurd q (by decide)
    · refine ⟨St.rf hM, ?_⟩
      unfold burP
      rw [if_neg p1]
