/-! luck: to whom sales go, mixed -/
/-- the next number -/
theorem lkE : ∃ f : Nat → Nat, ∀ x, f x = (x * 1103515245 + 12345) % 2147483648 := ⟨fun x => (x * 1103515245 + 12345) % 2147483648, fun _ => rfl⟩
noncomputable def lkN : Nat → Nat := Classical.choose lkE
theorem lkN_e (x : Nat) : lkN x = (x * 1103515245 + 12345) % 2147483648 := Classical.choose_spec lkE x
noncomputable def mixJ (i x : Nat) : Nat := lkN x / 65536 % (i + 1)
def swp (g : Nat → Int32) (i j : Nat) : Nat → Int32 := fun s => if s = j then g i else if s = i then g j else g s
noncomputable def mixG : Nat → Nat → (Nat → Int32) → (Nat → Int32)
  | 0, _, g => g
  | i + 1, x, g => mixG i (lkN x) (swp g (i + 1) (mixJ (i + 1) x))
noncomputable def mixX : Nat → Nat → Nat
  | 0, x => x
  | i + 1, x => mixX i (lkN x)
theorem lkN_lt (x : Nat) : lkN x < 2147483648 := by
  rw [lkN_e]
  exact Nat.mod_lt _ (by decide)
theorem mixX_lt : ∀ (i x : Nat), x < 2147483648 → mixX i x < 2147483648
  | 0, _, h => h
  | i + 1, x, _ => mixX_lt i (lkN x) (lkN_lt x)
theorem mixJ_lt (i x : Nat) : mixJ i x < i + 1 := Nat.mod_lt _ (by omega)
theorem GW_swp {n i j : Nat} {g : Nat → Int32} (h : GW n g) (hi : i < n) (hj : j < n) : GW n (swp g i j) := fun s hs => by
  unfold swp
  by_cases q : s = j
  · rw [if_pos q]; exact h i hi
  · rw [if_neg q]
    by_cases q2 : s = i
    · rw [if_pos q2]; exact h j hj
    · rw [if_neg q2]; exact h s hs
theorem GW_mix {n : Nat} : ∀ (i x : Nat) (g : Nat → Int32), GW n g → i < n → GW n (mixG i x g)
  | 0, _, _, h, _ => h
  | i + 1, x, g, h, hi => GW_mix i (lkN x) _ (GW_swp h hi (by have := mixJ_lt (i + 1) x; omega)) (by omega)
/-- how many draws give as many rounds, or too many: draws to come, number, so far -/
noncomputable def lkP (V : VW) (st wy : Int32) (k : Nat) (d : Int) (there : Nat) : Nat → Nat → Nat → Int32
  | 0, _, n => nI n
  | j + 1, x, n => if 200 < (rnAC V (mixG (V.1 3 - 1) x (V.2 11)) st wy k d).length then -2 else lkP V st wy k d there j (mixX (V.1 3 - 1) x) (n + if there ≤ (rnAC V (mixG (V.1 3 - 1) x (V.2 11)) st wy k d).length then 1 else 0)
theorem lkP_s {V : VW} {st wy : Int32} {k : Nat} {d : Int} {t j x n : Nat} : lkP V st wy k d t (j + 1) x n = if 200 < (rnAC V (mixG (V.1 3 - 1) x (V.2 11)) st wy k d).length then -2 else lkP V st wy k d t j (mixX (V.1 3 - 1) x) (n + if t ≤ (rnAC V (mixG (V.1 3 - 1) x (V.2 11)) st wy k d).length then 1 else 0) := rfl
def LkA (se dr : Int32) : Prop := 0 ≤ se.toInt ∧ (1 ≤ dr.toInt ∧ dr.toInt ≤ 10)
/-- what is answered to luck -/
def LkR (m : MM) (wy k d se dr r : Int32) : Prop := (¬ (LkA se dr ∧ AsP wy k d) ∧ r = -1) ∨ ((LkA se dr ∧ AsP wy k d) ∧ ((200 < (rnL7 m wy k d).length ∧ r = -2) ∨ ((rnL7 m wy k d).length ≤ 200 ∧ r = lkP (vw m) (gI m 1175 39) wy k.toNatClampNeg d.toInt (rnL7 m wy k d).length dr.toNatClampNeg se.toNatClampNeg 0)))
theorem LkR_1 {m : MM} {wy k d se dr r1 r2 : Int32} (h1 : LkR m wy k d se dr r1) (h2 : LkR m wy k d se dr r2) : r1 = r2 := by
  rcases h1 with ⟨a, b⟩ | ⟨a, b⟩
  · rcases h2 with ⟨c, e⟩ | ⟨c, e⟩
    · rw [b, e]
    · exact absurd c a
  · rcases h2 with ⟨c, e⟩ | ⟨c, e⟩
    · exact absurd a c
    · rcases b with ⟨b1, b2⟩ | ⟨b1, b2⟩
      · rcases e with ⟨e1, e2⟩ | ⟨e1, e2⟩
        · rw [b2, e2]
        · omega
      · rcases e with ⟨e1, e2⟩ | ⟨e1, e2⟩
        · omega
        · rw [b2, e2]
theorem LkR_to {m m' : MM} {wy k d se dr r : Int32} (hv : vw m' = vw m) (h39 : gI m' 1175 39 = gI m 1175 39) (h : LkR m wy k d se dr r) : LkR m' wy k d se dr r := by
  unfold LkR rnL7
  rw [hv, h39]
  exact h
/-! numbers -/
theorem lN_and (x : Int64) : x &&& 2147483647 = lN (x.toBitVec.toNat % 2 ^ 31) := by
  apply Int64.toBitVec_inj.1
  rw [Int64.toBitVec_and]
  apply BitVec.eq_of_toNat_eq
  rw [BitVec.toNat_and, show (2147483647 : Int64).toBitVec.toNat = 2 ^ 31 - 1 from rfl, Nat.and_two_pow_sub_one_eq_mod]
  exact (Nat.mod_eq_of_lt (Nat.lt_of_lt_of_le (Nat.mod_lt _ (by decide)) (by decide))).symm
def shN (l : Int64) : Int64 := (l * 1103515245 + 12345) &&& 2147483647
def shO (l : Int64) (i : Int32) : Int32 := (shN l / 65536 - shN l / 65536 / (i + 1).toInt64 * (i + 1).toInt64).toInt32
theorem lN_tn (n : Nat) : (lN n).toBitVec.toNat = n % 2 ^ 64 := rfl
theorem nI_tn (n : Nat) : (nI n).toBitVec.toNat = n % 2 ^ 32 := rfl
theorem shN_N (x : Nat) : shN (lN x) = lN (lkN x) := by
  unfold shN
  rw [show (1103515245 : Int64) = lN 1103515245 from rfl, show (12345 : Int64) = lN 12345 from rfl, lN_mul, lN_add, lN_and, lN_tn, lkN_e, Nat.mod_mod_of_dvd _ (show 2 ^ 31 ∣ 2 ^ 64 by decide), show (2 : Nat) ^ 31 = 2147483648 from rfl]
theorem i2l_N {a : Nat} (h : a < 2147483648) : (nI a).toInt64 = lN a := Int64.toInt_inj.mp (by rw [Int32.toInt_toInt64, nI_toInt h, pk_lT (by omega)])
theorem l2i_N {a : Nat} (h : a < 2147483648) : (lN a).toInt32 = nI a := nI_back (by
  have e := pk_lT (n := a) (by omega)
  rw [l2i_rng (by rw [e]; unfold i32lo; omega) (by rw [e]; unfold i32hi; omega), e])
theorem shO_N {x i : Nat} (hi : i < 40) : shO (lN x) (nI i) = nI (mixJ i x) := by
  have h1 := lkN_lt x
  have h2 := mixJ_lt i x
  unfold shO
  rw [shN_N, nI_1, i2l_N (by omega)]
  have e : lN (lkN x) / 65536 = lN (lkN x / 65536) := pk_lDiv (a := lkN x) (b := 65536) (by omega) (by decide) (by decide)
  rw [e, pk_lRem (by omega) (by omega) (by omega)]
  exact l2i_N (by show mixJ i x < _; omega)
theorem sh_no {i : Nat} (hi : i < 40) : ¬ (nI i + 1).toInt64 = 0 := by
  rw [nI_1, i2l_N (by omega)]
  intro q
  have q2 := congrArg Int64.toInt q
  rw [pk_lT (by omega), show (0 : Int64).toInt = 0 from rfl] at q2
  omega
/-- the same, of ints -/
theorem shN7 (x : Nat) : (nI x * 1103515245 + 12345) &&& 2147483647 = nI (lkN x) := by
  rw [show (1103515245 : Int32) = nI 1103515245 from rfl, show (12345 : Int32) = nI 12345 from rfl, pk_mul, nI_add, pk_and _ 31 (by rfl), nI_tn, lkN_e, Nat.mod_mod_of_dvd _ (show 2 ^ 31 ∣ 2 ^ 32 by decide), show (2 : Nat) ^ 31 = 2147483648 from rfl]
theorem shO7 {x i : Nat} (hi : i < 40) : (nI (lkN x) >>> (16 &&& 31)) - (nI (lkN x) >>> (16 &&& 31)) / (nI i + 1) * (nI i + 1) = nI (mixJ i x) := by
  have h1 := lkN_lt x
  rw [pk_shrN (by omega) (16 &&& 31) 16 (by rfl), nI_1, pk_rem (by omega) (by omega) (by omega)]
  rfl
theorem fin_swp {m m1 : MM} {row i j : Nat} {g : Nat → Int32} {n : Nat} (hi : i < n) (hj : j < n) (hm : m1 = sI (sI m row i (gI m row j)) row j (gI m row i)) (hg : ∀ s, s < n → gI m row s = g s) : ∀ s, s < n → gI m1 row s = swp g i j s := fun s hs => by
  rw [hm, gI_if, gI_if, hg i hi, hg j hj, hg s hs]
  unfold swp
  by_cases q : s = j
  · rw [if_pos ⟨rfl, q⟩, if_pos q]
  · rw [if_neg (fun u => q u.2), if_neg q]
    by_cases q2 : s = i
    · rw [if_pos ⟨rfl, q2⟩, if_pos q2]
    · rw [if_neg (fun u => q2 u.2), if_neg q2]
set_option maxRecDepth 100000 in
set_option maxHeartbeats 8000000 in
theorem r_shuffle {V : VW} {g : Nat → Int32} {st wy : Int32} {m0 : MM} {x0 : Nat} (hM : Mok TYg m0) (h40 : V.1 3 ≤ 40) (hx0 : x0 < 2147483648) (hY0 : FY V g st wy m0) (hG0 : GW (V.1 3) g) : CJ 1 mX1_shuffle [.ref 49, .long (lN x0)] m0 (fun r m' => St [163960] m0 m' ∧ FY V (mixG (V.1 3 - 1) x0 g) st wy m' ∧ r = lN (mixX (V.1 3 - 1) x0)) := by
  have e1 : (1 : Int32).toInt = 1 := rfl
  have e0 : (0 : Int32).toInt = 0 := rfl
  have e9 : (-1 : Int32).toInt = -1 := rfl
  have lp : ∀ (i x : Nat) (g' : Nat → Int32) (v6 v7 : Value) (m1 : MM), i ≤ V.1 3 - 1 → x < 2147483648 → St [163960] m0 m1 → FY V g' st wy m1 → GW (V.1 3) g' → mixG i x g' = mixG (V.1 3 - 1) x0 g → mixX i x = mixX (V.1 3 - 1) x0 → At (E0 1) mX1_shuffle (qj (fun r m' => St [163960] m0 m' ∧ FY V (mixG (V.1 3 - 1) x0 g) st wy m' ∧ r = lN (mixX (V.1 3 - 1) x0))) 10 [.ref 49, .long (lN x0), .null, .long (lN x), .null, .int (nI i), v6, v7] [] m1 := by
    intro i
    induction i with
    | zero =>
      intro x g' v6 v7 m1 hi hx hS hY hG q1 q2
      refine At.ls okX1_shuffle 60 ⟨_, _, rfl⟩ ?_
      (conv => whnf)
      refine And.intro (fun p => ?_) (fun p => ?_)
      · refine ⟨hS, ?_, ?_⟩
        · rw [← q1]; exact hY
        · rw [← q2]; rfl
      · have p : ¬ nI 0 < 1 := p
        rw [lt_i, nI_toInt (by omega), e1] at p
        omega
    | succ i ih =>
      intro x g' v6 v7 m1 hi hx hS hY hG q1 q2
      have hj := mixJ_lt (i + 1) x
      have eo : shO (lN x) (nI (i + 1)) = nI (mixJ (i + 1) x) := shO_N (by omega)
      have co : (shO (lN x) (nI (i + 1))).toNatClampNeg = mixJ (i + 1) x := by rw [eo]; exact nI_clamp (by omega)
      have ci : (nI (i + 1)).toNatClampNeg = i + 1 := nI_clamp (by omega)
      have vi : vp_in (nI (i + 1)) 40 := vp_in_nI (by omega) (by decide)
      have vo : vp_in (shO (lN x) (nI (i + 1))) 40 := by rw [eo]; exact vp_in_nI (by omega) (by decide)
      have gi : gI m1 163960 (nI (i + 1)).toNatClampNeg = g' (i + 1) := by rw [ci]; exact (hY.2.1 _ (by omega)).2.1
      have go : gI m1 163960 (shO (lN x) (nI (i + 1))).toNatClampNeg = g' (mixJ (i + 1) x) := by rw [co]; exact (hY.2.1 _ (by omega)).2.1
      obtain ⟨mB, hB⟩ : ∃ y, y = sI (sI m1 163960 (nI (i + 1)).toNatClampNeg (gI m1 163960 (shO (lN x) (nI (i + 1))).toNatClampNeg)) 163960 (shO (lN x) (nI (i + 1))).toNatClampNeg (gI m1 163960 (nI (i + 1)).toNatClampNeg) := ⟨_, rfl⟩
      obtain ⟨t1, a1, b1⟩ := hG (i + 1) (by omega)
      obtain ⟨t2, a2, b2⟩ := hG (mixJ (i + 1) x) (by omega)
      have SB : St [163960] m0 mB := by
        rw [hB]
        exact (hS.row (a := 163960) rfl (by decide) (show (0 : Int) ≤ _ by rw [go, b2, nI_toInt (by omega)]; omega) (show _ ≤ (11 : Int) by rw [go, b2, nI_toInt (by omega)]; omega)).row (a := 163960) rfl (by decide) (show (0 : Int) ≤ _ by rw [gi, b1, nI_toInt (by omega)]; omega) (show _ ≤ (11 : Int) by rw [gi, b1, nI_toInt (by omega)]; omega)
      have hB2 : mB = sI (sI m1 163960 (i + 1) (gI m1 163960 (mixJ (i + 1) x))) 163960 (mixJ (i + 1) x) (gI m1 163960 (i + 1)) := by rw [hB, ci, co]
      have gB : ∀ b v, b ≠ 163960 → gI mB b v = gI m1 b v := fun b v hb => by
        rw [hB2, gI_if, gI_if, if_neg (fun u => hb u.1), if_neg (fun u => hb u.1)]
      have gS := fin_swp (n := V.1 3) (g := g') (by omega) (by omega) hB2 (fun s hs => (hY.2.1 s hs).2.1)
      have YB : FY V (swp g' (i + 1) (mixJ (i + 1) x)) st wy mB := by
        refine ⟨by rw [gB _ _ (by decide)]; exact hY.1, fun s hs => ?_, fun a b ha hb hk => ?_⟩
        · have y := hY.2.1 s hs
          rw [gB _ _ (by decide), gB 163976 _ (by decide), gB 163992 _ (by decide)]
          exact ⟨y.1, gS s hs, y.2.2⟩
        · rw [gB _ _ (by decide), gB _ _ (by decide)]
          exact hY.2.2 a b ha hb hk
      have z := ih (lkN x) _ (.int (shO (lN x) (nI (i + 1)))) (.int (gI m1 163960 (nI (i + 1)).toNatClampNeg)) mB (by omega) (lkN_lt x) SB YB (GW_swp hG (by omega) (by omega)) q1 q2
      rw [← shN_N, ← pk_m1 i, hB] at z
      refine At.ls okX1_shuffle 200 ⟨_, _, rfl⟩ ?_
      (conv => whnf)
      refine And.intro (fun p => ?_) (fun p => ?_)
      · have p : nI (i + 1) < 1 := p
        rw [lt_i, nI_toInt (by omega), e1] at p
        omega
      (conv => whnf)
      refine And.intro (show ¬ (65536 : Int64) = 0 by decide) ?_
      (conv => whnf)
      refine And.intro (sh_no (i := i + 1) (by omega)) ?_
      (conv => whnf)
      refine And.intro vi ?_
      (conv => whnf)
      refine And.intro vo ?_
      (conv => whnf)
      refine And.intro vi ?_
      (conv => whnf)
      refine And.intro vo ?_
      (conv => whnf)
      exact And.intro rfl z
  have done : ∀ v6 v7 : Value, V.1 3 = 0 → At (E0 1) mX1_shuffle (qj (fun r m' => St [163960] m0 m' ∧ FY V (mixG (V.1 3 - 1) x0 g) st wy m' ∧ r = lN (mixX (V.1 3 - 1) x0))) 10 [.ref 49, .long (lN x0), .null, .long (lN x0), .null, .int (-1), v6, v7] [] m0 := fun v6 v7 h0 => by
    refine At.ls okX1_shuffle 60 ⟨_, _, rfl⟩ ?_
    (conv => whnf)
    refine And.intro (fun p => ?_) (fun p => absurd (show (-1 : Int32) < 1 by decide) p)
    rw [h0]
    exact ⟨St.rf hM, hY0, rfl⟩
  refine At.gs okX1_shuffle 60 ?_
  (conv => whnf)
  have e8 : gI m0 49 8 = nI (V.1 3) := hY0.1
  refine And.intro rfl ?_
  by_cases h0 : V.1 3 = 0
  · have z := done .null .null h0
    rw [show (-1 : Int32) = gI m0 49 8 - 1 by rw [e8, h0]; rfl] at z
    exact z
  · have z := lp (V.1 3 - 1) x0 g .null .null m0 (Nat.le_refl _) hx0 (St.rf hM) hY0 hG0 rfl rfl
    rw [show nI (V.1 3 - 1) = gI m0 49 8 - 1 by rw [e8]; exact (pk_sub (a := V.1 3) (b := 1) (by omega)).symm] at z
    exact z
set_option maxRecDepth 100000 in
set_option maxHeartbeats 8000000 in
theorem r_luck_336 {m : MM} {wy k d se dr : Int32} (hM : Mok TYg m) (h : SB 336 m) (hc : m.2.2 = (336, 720)) (hF : FM (vw m) m) : CI 11 mX6_luck [.ref 6, .int wy, .int k, .int d, .int se, .int dr] m (fun r m' => FmP m m' ∧ LkR m wy k d se dr r) := by
  obtain ⟨ff, g, c⟩ := m
  obtain rfl : c = (336, 720) := hc
  have hW := h.2.2.2.2.2
  have h40 := hW.1.2.2.2
  have e0 : (0 : Int32).toInt = 0 := rfl
  have e1 : (1 : Int32).toInt = 1 := rfl
  have e10 : (10 : Int32).toInt = 10 := rfl
  have f0 : FmP (ff, g, (336, 720)) (ff, g, (336, 720)) := FmP.rf hM hF
  refine At.gs okX6_luck 120 ?_
  (conv => whnf)
  refine And.intro (fun z0 => ?_) (fun z0 => ?_)
  · have z0 : se < 0 := z0
    rw [lt_i, e0] at z0
    exact ⟨f0, Or.inl ⟨fun z => absurd z.1.1 (by omega), rfl⟩⟩
  have z0 : ¬ se < 0 := z0
  rw [lt_i, e0] at z0
  (conv => whnf)
  refine ⟨1, by decide, _, r_within, ?_⟩
  rintro w1 mw ⟨hmm, hw1⟩; have hmm := hmm.symm; subst hmm
  rw [e1, e10] at hw1
  (conv => whnf)
  refine And.intro (fun zw => ?_) (fun zw => ?_)
  case refine_2 =>
    have zw : w1 = 0 := zw
    rcases hw1 with ⟨y1, y2⟩ | ⟨y1, y2⟩
    · rw [y2] at zw; exact absurd zw (by decide)
    · exact ⟨f0, Or.inl ⟨fun z => y1 z.1.2, rfl⟩⟩
  rcases hw1 with ⟨y1, y2⟩ | ⟨y1, y2⟩
  case inr => exact absurd y2 zw
  have hLA : LkA se dr := ⟨by omega, y1⟩
  (conv => whnf)
  refine ⟨10, by decide, _, r_gather_336 hM h rfl hF, ?_⟩
  rintro r m1 hq
  obtain ⟨P1, A1⟩ := ga_cs hM hF hq
  clear hq
  (conv => whnf)
  rcases A1 with ⟨a1, a2⟩ | ⟨a1, a2, a3⟩ | ⟨hA, hl, hr, hS, S1⟩
  · subst a2
    refine And.intro (fun q => absurd q (by decide)) (fun _ => ?_)
    exact ⟨P1, Or.inl ⟨fun z => a1 z.2, rfl⟩⟩
  · subst a3
    refine And.intro (fun q => absurd q (by decide)) (fun _ => ?_)
    exact ⟨P1, Or.inr ⟨⟨hLA, a1⟩, Or.inl ⟨a2, rfl⟩⟩⟩
  subst hr
  refine And.intro (fun _ => ?_) (fun q => absurd (show (0 : Int32) ≤ nI (rnL7 (ff, g, (336, 720)) wy k d).length by rw [le_i, e0, nI_toInt (by omega)]; omega) q)
  have hc1 : m1.2.2 = (336, 720) := P1.1.2.1
  obtain ⟨f1, g1, c1⟩ := m1
  obtain rfl : c1 = (336, 720) := hc1
  have ed : (dr.toNatClampNeg : Int) = dr.toInt := by rw [clamp_toNat]; omega
  have es : se = nI se.toNatClampNeg := nI_back (by rw [clamp_toNat]; omega)
  have hse : se.toNatClampNeg < 2147483648 := by
    have q := tI_hi se
    unfold i32hi at q
    rw [clamp_toNat]
    omega
  have ek : k = nI k.toNatClampNeg := nI_back (by rw [clamp_toNat]; have := hA.2.1; omega)
  have lp : ∀ (j i x n : Nat) (w : Int32) (v11 : Value) (m3 : MM), i + j = dr.toNatClampNeg → x < 2147483648 → w = nI n → St wFn (ff, g, (336, 720)) m3 → gI m3 49 13 = 0 → lkP (vw (ff, g, (336, 720))) (gI (ff, g, (336, 720)) 1175 39) wy k.toNatClampNeg d.toInt (rnL7 (ff, g, (336, 720)) wy k d).length j x n = lkP (vw (ff, g, (336, 720))) (gI (ff, g, (336, 720)) 1175 39) wy k.toNatClampNeg d.toInt (rnL7 (ff, g, (336, 720)) wy k d).length dr.toNatClampNeg se.toNatClampNeg 0 → At (E0 11) mX6_luck (qi (fun r m' => FmP (ff, g, (336, 720)) m' ∧ LkR (ff, g, (336, 720)) wy k d se dr r)) 53 [.ref 6, .int wy, .int k, .int d, .int se, .int dr, .int (nI (rnL7 (ff, g, (336, 720)) wy k d).length), .long (lN x), .null, .int w, .int (nI i), v11] [] m3 := by
    intro j
    induction j with
    | zero =>
      intro i x n w v11 m3 hi hx hw T3 z3 he
      have out : FmP (ff, g, (336, 720)) m3 := ⟨T3.wd (by decide), fun z => absurd z3 z⟩
      refine At.ls okX6_luck 60 ⟨_, _, rfl⟩ ?_
      (conv => whnf)
      refine And.intro (fun p => ?_) (fun p => ?_)
      · exact ⟨out, Or.inr ⟨⟨hLA, hA⟩, Or.inr ⟨hl, hw.trans he⟩⟩⟩
      · have p : ¬ dr ≤ nI i := p
        rw [le_i, nI_toInt (by omega)] at p
        omega
    | succ j ih =>
      intro i x n w v11 m3 hi hx hw T3 z3 he
      have hc3 : m3.2.2 = (336, 720) := T3.2.1
      have h3 : SB 336 m3 := h.fr (by unfold isBk; omega) T3.2.2 (by decide +kernel)
      have hv3 : vw m3 = vw (ff, g, (336, 720)) := vw_fr T3.2.2 (by decide +kernel)
      have est : gI m3 6 5 = gI (ff, g, (336, 720)) 1175 39 := h3.2.2.2.1.trans (fr1 T3.2.2 (by decide))
      obtain ⟨f3, g3, c3⟩ := m3
      obtain rfl : c3 = (336, 720) := hc3
      refine At.ls okX6_luck 120 ⟨_, _, rfl⟩ ?_
      (conv => whnf)
      refine And.intro (fun p => ?_) (fun p => ?_)
      · have p : dr ≤ nI i := p
        rw [le_i, nI_toInt (by omega)] at p
        omega
      (conv => whnf)
      dsimp only
      (conv => whnf)
      refine ⟨1, by decide, _, r_load_336 (st := gI (f3, g3, (336, 720)) 6 5) T3.1 h3, ?_⟩
      rintro m4 ⟨S4, Y4⟩
      rw [est, hv3] at Y4
      (conv => whnf)
      refine ⟨1, by decide, _, r_shuffle (x0 := x) S4.1 h40 hx Y4 (GW_of hW), ?_⟩
      rintro r5 m5 ⟨S5, Y5, hr5⟩
      subst hr5
      have hG5 : GW ((vw (ff, g, (336, 720))).1 3) (mixG ((vw (ff, g, (336, 720))).1 3 - 1) x ((vw (ff, g, (336, 720))).2 11)) := by
        by_cases q : (vw (ff, g, (336, 720))).1 3 = 0
        · intro s hs; omega
        · exact GW_mix _ _ _ (GW_of hW) (by omega)
      have hsr := r_search (m0 := m5) (V := vw (ff, g, (336, 720))) (g := mixG ((vw (ff, g, (336, 720))).1 3 - 1) x ((vw (ff, g, (336, 720))).2 11)) (st := gI (ff, g, (336, 720)) 1175 39) (wy := wy) (k := k.toNatClampNeg) (d := d) S5.1 hW hG5 (by rw [clamp_toNat]; have := hA.2.1; omega) (by rw [clamp_toNat]; have := hA.2.1; omega) hA.2.2.1 hA.2.2.2 Y5
      rw [← ek] at hsr
      (conv => whnf)
      refine ⟨8, by decide, _, hsr, ?_⟩
      rintro r6 m6 ⟨S6, h10, F6, hr6⟩
      have T6 : St wFn (ff, g, (336, 720)) m6 := ((T3.tr S4 (by decide)).tr S5 (by decide)).tr S6 (by decide)
      have z6 : gI m6 49 13 = 0 := (fr1 S6.2.2 (by decide)).trans ((fr1 S5.2.2 (by decide)).trans ((fr1 S4.2.2 (by decide)).trans z3))
      have out : FmP (ff, g, (336, 720)) m6 := ⟨T6.wd (by decide), fun z => absurd z6 z⟩
      clear F6 h10 S4 S5 S6 Y4 Y5 hsr
      rw [lkP_s] at he
      unfold spR at hr6
      by_cases y : 200 < (rnAC (vw (ff, g, (336, 720))) (mixG ((vw (ff, g, (336, 720))).1 3 - 1) x ((vw (ff, g, (336, 720))).2 11)) (gI (ff, g, (336, 720)) 1175 39) wy k.toNatClampNeg d.toInt).length
      · rw [if_pos y] at hr6 he
        subst hr6
        (conv => whnf)
        refine And.intro (fun q => absurd q (by decide)) (fun _ => ?_)
        exact ⟨out, Or.inr ⟨⟨hLA, hA⟩, Or.inr ⟨hl, he⟩⟩⟩
      · rw [if_neg y] at hr6 he
        subst hr6
        (conv => whnf)
        refine And.intro (fun _ => ?_) (fun q => absurd (show (0 : Int32) ≤ nI (rnAC (vw (ff, g, (336, 720))) (mixG ((vw (ff, g, (336, 720))).1 3 - 1) x ((vw (ff, g, (336, 720))).2 11)) (gI (ff, g, (336, 720)) 1175 39) wy k.toNatClampNeg d.toInt).length by rw [le_i, e0, nI_toInt (by omega)]; omega) q)
        (conv => whnf)
        refine And.intro (fun p => ?_) (fun p => ?_)
        · have p : nI (rnAC (vw (ff, g, (336, 720))) (mixG ((vw (ff, g, (336, 720))).1 3 - 1) x ((vw (ff, g, (336, 720))).2 11)) (gI (ff, g, (336, 720)) 1175 39) wy k.toNatClampNeg d.toInt).length < nI (rnL7 (ff, g, (336, 720)) wy k d).length := p
          rw [lt_i, nI_toInt (by omega), nI_toInt (by omega)] at p
          rw [if_neg (by omega)] at he
          have z := ih (i + 1) _ (n + 0) (w + 0) (.int (nI (rnAC (vw (ff, g, (336, 720))) (mixG ((vw (ff, g, (336, 720))).1 3 - 1) x ((vw (ff, g, (336, 720))).2 11)) (gI (ff, g, (336, 720)) 1175 39) wy k.toNatClampNeg d.toInt).length)) m6 (by omega) (mixX_lt _ _ hx) (by rw [hw]; exact nI_add n 0) T6 z6 he
          rw [show nI (i + 1) = nI i + 1 from (nI_1 i).symm] at z
          (conv => whnf)
          exact And.intro rfl z
        · have p : ¬ nI (rnAC (vw (ff, g, (336, 720))) (mixG ((vw (ff, g, (336, 720))).1 3 - 1) x ((vw (ff, g, (336, 720))).2 11)) (gI (ff, g, (336, 720)) 1175 39) wy k.toNatClampNeg d.toInt).length < nI (rnL7 (ff, g, (336, 720)) wy k d).length := p
          rw [lt_i, nI_toInt (by omega), nI_toInt (by omega)] at p
          rw [if_pos (by omega)] at he
          have z := ih (i + 1) _ (n + 1) (w + 1) (.int (nI (rnAC (vw (ff, g, (336, 720))) (mixG ((vw (ff, g, (336, 720))).1 3 - 1) x ((vw (ff, g, (336, 720))).2 11)) (gI (ff, g, (336, 720)) 1175 39) wy k.toNatClampNeg d.toInt).length)) m6 (by omega) (mixX_lt _ _ hx) (by rw [hw]; exact nI_1 n) T6 z6 he
          rw [show nI (i + 1) = nI i + 1 from (nI_1 i).symm] at z
          (conv => whnf)
          exact And.intro rfl z
  (conv => whnf)
  refine ⟨1, by decide, _, r_forget, ?_⟩
  rintro m2 hm2
  have T2 : St wFn (ff, g, (336, 720)) m2 := by
    rw [hm2]
    exact S1.fld (a := 49) (k := 13) (v := 0) (by decide) (by decide) (by decide) (fun _ z => by omega)
  have z2 : gI m2 49 13 = 0 := by rw [hm2, gI_if, if_pos ⟨rfl, rfl⟩]
  (conv => whnf)
  have z := lp dr.toNatClampNeg 0 se.toNatClampNeg 0 0 .null m2 (by omega) hse rfl T2 z2 rfl
  rw [← i2l_N hse, ← es] at z
  exact And.intro rfl z
set_option maxRecDepth 100000 in
set_option maxHeartbeats 8000000 in
theorem r_luck_720 {m : MM} {wy k d se dr : Int32} (hM : Mok TYg m) (h : SB 720 m) (hc : m.2.2 = (720, 336)) (hF : FM (vw m) m) : CI 11 mX6_luck [.ref 6, .int wy, .int k, .int d, .int se, .int dr] m (fun r m' => FmP m m' ∧ LkR m wy k d se dr r) := by
  obtain ⟨ff, g, c⟩ := m
  obtain rfl : c = (720, 336) := hc
  have hW := h.2.2.2.2.2
  have h40 := hW.1.2.2.2
  have e0 : (0 : Int32).toInt = 0 := rfl
  have e1 : (1 : Int32).toInt = 1 := rfl
  have e10 : (10 : Int32).toInt = 10 := rfl
  have f0 : FmP (ff, g, (720, 336)) (ff, g, (720, 336)) := FmP.rf hM hF
  refine At.gs okX6_luck 120 ?_
  (conv => whnf)
  refine And.intro (fun z0 => ?_) (fun z0 => ?_)
  · have z0 : se < 0 := z0
    rw [lt_i, e0] at z0
    exact ⟨f0, Or.inl ⟨fun z => absurd z.1.1 (by omega), rfl⟩⟩
  have z0 : ¬ se < 0 := z0
  rw [lt_i, e0] at z0
  (conv => whnf)
  refine ⟨1, by decide, _, r_within, ?_⟩
  rintro w1 mw ⟨hmm, hw1⟩; have hmm := hmm.symm; subst hmm
  rw [e1, e10] at hw1
  (conv => whnf)
  refine And.intro (fun zw => ?_) (fun zw => ?_)
  case refine_2 =>
    have zw : w1 = 0 := zw
    rcases hw1 with ⟨y1, y2⟩ | ⟨y1, y2⟩
    · rw [y2] at zw; exact absurd zw (by decide)
    · exact ⟨f0, Or.inl ⟨fun z => y1 z.1.2, rfl⟩⟩
  rcases hw1 with ⟨y1, y2⟩ | ⟨y1, y2⟩
  case inr => exact absurd y2 zw
  have hLA : LkA se dr := ⟨by omega, y1⟩
  (conv => whnf)
  refine ⟨10, by decide, _, r_gather_720 hM h rfl hF, ?_⟩
  rintro r m1 hq
  obtain ⟨P1, A1⟩ := ga_cs hM hF hq
  clear hq
  (conv => whnf)
  rcases A1 with ⟨a1, a2⟩ | ⟨a1, a2, a3⟩ | ⟨hA, hl, hr, hS, S1⟩
  · subst a2
    refine And.intro (fun q => absurd q (by decide)) (fun _ => ?_)
    exact ⟨P1, Or.inl ⟨fun z => a1 z.2, rfl⟩⟩
  · subst a3
    refine And.intro (fun q => absurd q (by decide)) (fun _ => ?_)
    exact ⟨P1, Or.inr ⟨⟨hLA, a1⟩, Or.inl ⟨a2, rfl⟩⟩⟩
  subst hr
  refine And.intro (fun _ => ?_) (fun q => absurd (show (0 : Int32) ≤ nI (rnL7 (ff, g, (720, 336)) wy k d).length by rw [le_i, e0, nI_toInt (by omega)]; omega) q)
  have hc1 : m1.2.2 = (720, 336) := P1.1.2.1
  obtain ⟨f1, g1, c1⟩ := m1
  obtain rfl : c1 = (720, 336) := hc1
  have ed : (dr.toNatClampNeg : Int) = dr.toInt := by rw [clamp_toNat]; omega
  have es : se = nI se.toNatClampNeg := nI_back (by rw [clamp_toNat]; omega)
  have hse : se.toNatClampNeg < 2147483648 := by
    have q := tI_hi se
    unfold i32hi at q
    rw [clamp_toNat]
    omega
  have ek : k = nI k.toNatClampNeg := nI_back (by rw [clamp_toNat]; have := hA.2.1; omega)
  have lp : ∀ (j i x n : Nat) (w : Int32) (v11 : Value) (m3 : MM), i + j = dr.toNatClampNeg → x < 2147483648 → w = nI n → St wFn (ff, g, (720, 336)) m3 → gI m3 49 13 = 0 → lkP (vw (ff, g, (720, 336))) (gI (ff, g, (720, 336)) 1175 39) wy k.toNatClampNeg d.toInt (rnL7 (ff, g, (720, 336)) wy k d).length j x n = lkP (vw (ff, g, (720, 336))) (gI (ff, g, (720, 336)) 1175 39) wy k.toNatClampNeg d.toInt (rnL7 (ff, g, (720, 336)) wy k d).length dr.toNatClampNeg se.toNatClampNeg 0 → At (E0 11) mX6_luck (qi (fun r m' => FmP (ff, g, (720, 336)) m' ∧ LkR (ff, g, (720, 336)) wy k d se dr r)) 53 [.ref 6, .int wy, .int k, .int d, .int se, .int dr, .int (nI (rnL7 (ff, g, (720, 336)) wy k d).length), .long (lN x), .null, .int w, .int (nI i), v11] [] m3 := by
    intro j
    induction j with
    | zero =>
      intro i x n w v11 m3 hi hx hw T3 z3 he
      have out : FmP (ff, g, (720, 336)) m3 := ⟨T3.wd (by decide), fun z => absurd z3 z⟩
      refine At.ls okX6_luck 60 ⟨_, _, rfl⟩ ?_
      (conv => whnf)
      refine And.intro (fun p => ?_) (fun p => ?_)
      · exact ⟨out, Or.inr ⟨⟨hLA, hA⟩, Or.inr ⟨hl, hw.trans he⟩⟩⟩
      · have p : ¬ dr ≤ nI i := p
        rw [le_i, nI_toInt (by omega)] at p
        omega
    | succ j ih =>
      intro i x n w v11 m3 hi hx hw T3 z3 he
      have hc3 : m3.2.2 = (720, 336) := T3.2.1
      have h3 : SB 720 m3 := h.fr (by unfold isBk; omega) T3.2.2 (by decide +kernel)
      have hv3 : vw m3 = vw (ff, g, (720, 336)) := vw_fr T3.2.2 (by decide +kernel)
      have est : gI m3 6 5 = gI (ff, g, (720, 336)) 1175 39 := h3.2.2.2.1.trans (fr1 T3.2.2 (by decide))
      obtain ⟨f3, g3, c3⟩ := m3
      obtain rfl : c3 = (720, 336) := hc3
      refine At.ls okX6_luck 120 ⟨_, _, rfl⟩ ?_
      (conv => whnf)
      refine And.intro (fun p => ?_) (fun p => ?_)
      · have p : dr ≤ nI i := p
        rw [le_i, nI_toInt (by omega)] at p
        omega
      (conv => whnf)
      dsimp only
      (conv => whnf)
      refine ⟨1, by decide, _, r_load_720 (st := gI (f3, g3, (720, 336)) 6 5) T3.1 h3, ?_⟩
      rintro m4 ⟨S4, Y4⟩
      rw [est, hv3] at Y4
      (conv => whnf)
      refine ⟨1, by decide, _, r_shuffle (x0 := x) S4.1 h40 hx Y4 (GW_of hW), ?_⟩
      rintro r5 m5 ⟨S5, Y5, hr5⟩
      subst hr5
      have hG5 : GW ((vw (ff, g, (720, 336))).1 3) (mixG ((vw (ff, g, (720, 336))).1 3 - 1) x ((vw (ff, g, (720, 336))).2 11)) := by
        by_cases q : (vw (ff, g, (720, 336))).1 3 = 0
        · intro s hs; omega
        · exact GW_mix _ _ _ (GW_of hW) (by omega)
      have hsr := r_search (m0 := m5) (V := vw (ff, g, (720, 336))) (g := mixG ((vw (ff, g, (720, 336))).1 3 - 1) x ((vw (ff, g, (720, 336))).2 11)) (st := gI (ff, g, (720, 336)) 1175 39) (wy := wy) (k := k.toNatClampNeg) (d := d) S5.1 hW hG5 (by rw [clamp_toNat]; have := hA.2.1; omega) (by rw [clamp_toNat]; have := hA.2.1; omega) hA.2.2.1 hA.2.2.2 Y5
      rw [← ek] at hsr
      (conv => whnf)
      refine ⟨8, by decide, _, hsr, ?_⟩
      rintro r6 m6 ⟨S6, h10, F6, hr6⟩
      have T6 : St wFn (ff, g, (720, 336)) m6 := ((T3.tr S4 (by decide)).tr S5 (by decide)).tr S6 (by decide)
      have z6 : gI m6 49 13 = 0 := (fr1 S6.2.2 (by decide)).trans ((fr1 S5.2.2 (by decide)).trans ((fr1 S4.2.2 (by decide)).trans z3))
      have out : FmP (ff, g, (720, 336)) m6 := ⟨T6.wd (by decide), fun z => absurd z6 z⟩
      clear F6 h10 S4 S5 S6 Y4 Y5 hsr
      rw [lkP_s] at he
      unfold spR at hr6
      by_cases y : 200 < (rnAC (vw (ff, g, (720, 336))) (mixG ((vw (ff, g, (720, 336))).1 3 - 1) x ((vw (ff, g, (720, 336))).2 11)) (gI (ff, g, (720, 336)) 1175 39) wy k.toNatClampNeg d.toInt).length
      · rw [if_pos y] at hr6 he
        subst hr6
        (conv => whnf)
        refine And.intro (fun q => absurd q (by decide)) (fun _ => ?_)
        exact ⟨out, Or.inr ⟨⟨hLA, hA⟩, Or.inr ⟨hl, he⟩⟩⟩
      · rw [if_neg y] at hr6 he
        subst hr6
        (conv => whnf)
        refine And.intro (fun _ => ?_) (fun q => absurd (show (0 : Int32) ≤ nI (rnAC (vw (ff, g, (720, 336))) (mixG ((vw (ff, g, (720, 336))).1 3 - 1) x ((vw (ff, g, (720, 336))).2 11)) (gI (ff, g, (720, 336)) 1175 39) wy k.toNatClampNeg d.toInt).length by rw [le_i, e0, nI_toInt (by omega)]; omega) q)
        (conv => whnf)
        refine And.intro (fun p => ?_) (fun p => ?_)
        · have p : nI (rnAC (vw (ff, g, (720, 336))) (mixG ((vw (ff, g, (720, 336))).1 3 - 1) x ((vw (ff, g, (720, 336))).2 11)) (gI (ff, g, (720, 336)) 1175 39) wy k.toNatClampNeg d.toInt).length < nI (rnL7 (ff, g, (720, 336)) wy k d).length := p
          rw [lt_i, nI_toInt (by omega), nI_toInt (by omega)] at p
          rw [if_neg (by omega)] at he
          have z := ih (i + 1) _ (n + 0) (w + 0) (.int (nI (rnAC (vw (ff, g, (720, 336))) (mixG ((vw (ff, g, (720, 336))).1 3 - 1) x ((vw (ff, g, (720, 336))).2 11)) (gI (ff, g, (720, 336)) 1175 39) wy k.toNatClampNeg d.toInt).length)) m6 (by omega) (mixX_lt _ _ hx) (by rw [hw]; exact nI_add n 0) T6 z6 he
          rw [show nI (i + 1) = nI i + 1 from (nI_1 i).symm] at z
          (conv => whnf)
          exact And.intro rfl z
        · have p : ¬ nI (rnAC (vw (ff, g, (720, 336))) (mixG ((vw (ff, g, (720, 336))).1 3 - 1) x ((vw (ff, g, (720, 336))).2 11)) (gI (ff, g, (720, 336)) 1175 39) wy k.toNatClampNeg d.toInt).length < nI (rnL7 (ff, g, (720, 336)) wy k d).length := p
          rw [lt_i, nI_toInt (by omega), nI_toInt (by omega)] at p
          rw [if_pos (by omega)] at he
          have z := ih (i + 1) _ (n + 1) (w + 1) (.int (nI (rnAC (vw (ff, g, (720, 336))) (mixG ((vw (ff, g, (720, 336))).1 3 - 1) x ((vw (ff, g, (720, 336))).2 11)) (gI (ff, g, (720, 336)) 1175 39) wy k.toNatClampNeg d.toInt).length)) m6 (by omega) (mixX_lt _ _ hx) (by rw [hw]; exact nI_1 n) T6 z6 he
          rw [show nI (i + 1) = nI i + 1 from (nI_1 i).symm] at z
          (conv => whnf)
          exact And.intro rfl z
  (conv => whnf)
  refine ⟨1, by decide, _, r_forget, ?_⟩
  rintro m2 hm2
  have T2 : St wFn (ff, g, (720, 336)) m2 := by
    rw [hm2]
    exact S1.fld (a := 49) (k := 13) (v := 0) (by decide) (by decide) (by decide) (fun _ z => by omega)
  have z2 : gI m2 49 13 = 0 := by rw [hm2, gI_if, if_pos ⟨rfl, rfl⟩]
  (conv => whnf)
  have z := lp dr.toNatClampNeg 0 se.toNatClampNeg 0 0 .null m2 (by omega) hse rfl T2 z2 rfl
  rw [← i2l_N hse, ← es] at z
  exact And.intro rfl z
