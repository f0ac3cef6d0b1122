/-! luck of the model -/
def sh7 (x : Int32) : Int32 := (x * 1103515245 + 12345) &&& 2147483647
def sh7O (x i : Int32) : Int32 := (sh7 x >>> (16 &&& 31)) - (sh7 x >>> (16 &&& 31)) / (i + 1) * (i + 1)
set_option maxRecDepth 100000 in
set_option maxHeartbeats 8000000 in
theorem s_luck {m : MM} {wy k d se dr : Int32} (hM : Mok TYg m) (hW : Wf (vw m)) : CI 10 mX7_luck [.ref 1175, .int wy, .int k, .int d, .int se, .int dr] m (fun r m' => St wRo m m' ∧ LkR m wy k d se dr r) := by
  have S0 := St_z7 hM
  have h40 := hW.1.2.2.2
  have h12 := hW.1.2.2.1
  have n6 : gI m 1175 6 = nI ((vw m).1 3) := nI_back (vw3 hM)
  have e0 : (0 : Int32).toInt = 0 := rfl
  have e1 : (1 : Int32).toInt = 1 := rfl
  have e10 : (10 : Int32).toInt = 10 := rfl
  refine At.gs okX7_luck 80 ?_
  (conv => whnf)
  refine ⟨1, by decide, _, s_isAsked (m := sI m 1175 0 0), ?_⟩
  rintro r m1 ⟨hmm, hz⟩; have hmm := hmm.symm; subst hmm
  (conv => whnf)
  refine And.intro (fun q => ?_) (fun q => ?_)
  · have q : r = 0 := q
    rcases hz with ⟨y1, y2⟩ | ⟨y1, y2⟩
    · rw [y2] at q; exact absurd q (by decide)
    · exact ⟨S0, Or.inl ⟨fun z => y1 z.2, rfl⟩⟩
  have q : ¬ r = 0 := q
  rcases hz with ⟨hA, y2⟩ | ⟨y1, y2⟩
  case inr => exact absurd y2 q
  (conv => whnf)
  refine And.intro (fun p1 => ?_) (fun p1 => ?_)
  · have p1 : se < 0 := p1
    rw [lt_i, e0] at p1
    exact ⟨S0, Or.inl ⟨fun z => absurd z.1.1 (by omega), rfl⟩⟩
  have p1 : ¬ se < 0 := p1
  rw [lt_i, e0] at p1
  (conv => whnf)
  refine And.intro (fun p2 => ?_) (fun p2 => ?_)
  · have p2 : dr < 1 := p2
    rw [lt_i, e1] at p2
    exact ⟨S0, Or.inl ⟨fun z => absurd z.1.2.1 (by omega), rfl⟩⟩
  have p2 : ¬ dr < 1 := p2
  rw [lt_i, e1] at p2
  (conv => whnf)
  refine And.intro (fun p3 => ?_) (fun p3 => ?_)
  case refine_2 =>
    have p3 : ¬ dr ≤ 10 := p3
    rw [le_i, e10] at p3
    exact ⟨S0, Or.inl ⟨fun z => absurd z.1.2.2 (by omega), rfl⟩⟩
  have p3 : dr ≤ 10 := p3
  rw [le_i, e10] at p3
  have hLA : LkA se dr := ⟨by omega, by omega, p3⟩
  (conv => whnf)
  refine ⟨9, by decide, _, sk_of (m := m) (m1 := sI m 1175 0 0) hA S0.1 vw_z rfl hW, ?_⟩
  rintro m2 ⟨S2, F2⟩
  have T2 : St wRo m m2 := S0.tr S2 (by decide)
  have sp := spM F2
  (conv => whnf)
  refine And.intro (fun p => ?_) (fun p => ?_)
  case refine_2 =>
    have p : ¬ gI m2 1175 47 = 0 := p
    rcases sp with ⟨a, b, c⟩ | ⟨a, b, c⟩
    · exact absurd a p
    · exact ⟨T2, Or.inr ⟨⟨hLA, hA⟩, Or.inl ⟨c, rfl⟩⟩⟩
  have p : gI m2 1175 47 = 0 := p
  rcases sp with ⟨a, b, hl⟩ | ⟨a, b, c⟩
  case inr => rw [a] at p; exact absurd p (by decide)
  have e42 : gI m2 1175 42 = nI (rnL7 m wy k d).length := by
    rw [b]
    unfold spR
    rw [if_neg (by omega)]
  have ed : (dr.toNatClampNeg : Int) = dr.toInt := by rw [clamp_toNat]; omega
  have es : se = nI se.toNatClampNeg := nI_back (by rw [clamp_toNat]; omega)
  have hse : se.toNatClampNeg < 2147483648 := by
    have q := tI_hi se
    unfold i32hi at q
    rw [clamp_toNat]
    omega
  have ek : k = nI k.toNatClampNeg := nI_back (by rw [clamp_toNat]; have := hA.2.1; omega)
  have rr : ∀ {m3 : MM}, St wRo m m3 → gI m3 1175 6 = nI ((vw m).1 3) ∧ vw m3 = vw m ∧ gI m3 1175 39 = gI m 1175 39 := fun {m3} T => ⟨by rw [fr1 T.2.2 (by decide)]; exact n6, vw_fr T.2.2 (by decide +kernel), fr1 T.2.2 (by decide)⟩
  have lp : ∀ (j i x n : Nat) (w : Int32) (v10 v11 v12 : Value) (m3 : MM), i + j = dr.toNatClampNeg → x < 2147483648 → w = nI n → St wRo m m3 → lkP (vw m) (gI m 1175 39) wy k.toNatClampNeg d.toInt (rnL7 m wy k d).length j x n = lkP (vw m) (gI m 1175 39) wy k.toNatClampNeg d.toInt (rnL7 m wy k d).length dr.toNatClampNeg se.toNatClampNeg 0 → At (E0 10) mX7_luck (qi (fun r m' => St wRo m m' ∧ LkR m wy k d se dr r)) 67 [.ref 1175, .int wy, .int k, .int d, .int se, .int dr, .int (nI (rnL7 m wy k d).length), .int (nI x), .int w, .int (nI i), v10, v11, v12] [] m3 := by
    intro j
    induction j with
    | zero =>
      intro i x n w v10 v11 v12 m3 hi hx hw T3 he
      refine At.ls okX7_luck 60 ⟨_, _, rfl⟩ ?_
      (conv => whnf)
      refine And.intro (fun p => ?_) (fun p => ?_)
      · exact ⟨T3, Or.inr ⟨⟨hLA, hA⟩, Or.inr ⟨hl, hw.trans he⟩⟩⟩
      · have p : ¬ dr ≤ nI i := p
        rw [le_i, nI_toInt (by omega)] at p
        omega
    | succ j ih =>
      intro i x n w v10 v11 v12 m3 hi hx hw T3 he
      obtain ⟨gg, hgg⟩ : ∃ y, y = mixG ((vw m).1 3 - 1) x ((vw m).2 11) := ⟨_, rfl⟩
      obtain ⟨xx, hxx⟩ : ∃ y, y = mixX ((vw m).1 3 - 1) x := ⟨_, rfl⟩
      have hG5 : GW ((vw m).1 3) gg := by
        rw [hgg]
        by_cases q : (vw m).1 3 = 0
        · intro s hs; omega
        · exact GW_mix _ _ _ (GW_of hW) (by omega)
      rw [lkP_s, ← hgg, ← hxx] at he
      have hxl : xx < 2147483648 := by rw [hxx]; exact mixX_lt _ _ hx
      -- behind the mixing
      have sk : ∀ (v : Int32) (v11 v12 : Value) (m4 : MM), v ≤ 0 → St wRo m m4 → (∀ s, s < (vw m).1 3 → gI m4 165384 s = gg s) → At (E0 10) mX7_luck (qi (fun r m' => St wRo m m' ∧ LkR m wy k d se dr r)) 114 [.ref 1175, .int wy, .int k, .int d, .int se, .int dr, .int (nI (rnL7 m wy k d).length), .int (nI xx), .int w, .int (nI i), .int v, v11, v12] [] m4 := by
        intro v v11 v12 m4 hv0 T4 hg4
        obtain ⟨c6, hv4, h39⟩ := rr T4
        have hse2 := s_seeks (m0 := m4) (V := vw m) (g := gg) (st := gI m 1175 39) (wy := wy) (d := d) (k := k.toNatClampNeg) T4.1 hv4 h39 hg4 hW hG5 (by rw [clamp_toNat]; have := hA.2.1; omega) (by rw [clamp_toNat]; have := hA.2.1; omega) hA.2.2.1 hA.2.2.2
        rw [← ek, ← rn_all] at hse2
        refine At.ls okX7_luck 120 ⟨_, _, rfl⟩ ?_
        (conv => whnf)
        refine And.intro (fun p => ?_) (fun p => absurd hv0 p)
        (conv => whnf)
        refine ⟨8, by decide, _, hse2, ?_⟩
        rintro m5 ⟨S5, F5⟩
        have T5 : St wRo m m5 := T4.tr S5 (by decide)
        have sp := spM F5
        (conv => whnf)
        refine And.intro (fun p => ?_) (fun p => ?_)
        case refine_2 =>
          have p : ¬ gI m5 1175 47 = 0 := p
          rcases sp with ⟨a, b, c⟩ | ⟨a, b, c⟩
          · exact absurd a p
          · rw [if_pos c] at he
            exact ⟨T5, Or.inr ⟨⟨hLA, hA⟩, Or.inr ⟨hl, he⟩⟩⟩
        have p : gI m5 1175 47 = 0 := p
        rcases sp with ⟨a, b, c⟩ | ⟨a, b, c⟩
        case inr => rw [a] at p; exact absurd p (by decide)
        have e42 : gI m5 1175 42 = nI (rnAC (vw m) gg (gI m 1175 39) wy k.toNatClampNeg d.toInt).length := by
          rw [b]
          unfold spR
          rw [if_neg (by omega)]
        rw [if_neg (by omega)] at he
        (conv => whnf)
        refine And.intro (fun p => ?_) (fun p => ?_)
        · have p : gI m5 1175 42 < nI (rnL7 m wy k d).length := p
          rw [e42, lt_i, nI_toInt (by omega), nI_toInt (by omega)] at p
          rw [if_neg (by omega)] at he
          have z := ih (i + 1) _ (n + 0) (w + 0) (.int v) v11 v12 m5 (by omega) hxl (by rw [hw]; exact nI_add n 0) T5 he
          rw [show nI (i + 1) = nI i + 1 from (nI_1 i).symm] at z
          (conv => whnf)
          exact And.intro rfl z
        · have p : ¬ gI m5 1175 42 < nI (rnL7 m wy k d).length := p
          rw [e42, lt_i, nI_toInt (by omega), nI_toInt (by omega)] at p
          rw [if_pos (by omega)] at he
          have z := ih (i + 1) _ (n + 1) (w + 1) (.int v) v11 v12 m5 (by omega) hxl (by rw [hw]; exact nI_1 n) T5 he
          rw [show nI (i + 1) = nI i + 1 from (nI_1 i).symm] at z
          (conv => whnf)
          exact And.intro rfl z
      have mx : ∀ (i2 x2 : Nat) (g' : Nat → Int32) (v11 v12 : Value) (m4 : MM), i2 ≤ (vw m).1 3 - 1 → x2 < 2147483648 → St wRo m m4 → (∀ s, s < (vw m).1 3 → gI m4 165384 s = g' s) → GW ((vw m).1 3) g' → mixG i2 x2 g' = gg → mixX i2 x2 = xx → At (E0 10) mX7_luck (qi (fun r m' => St wRo m m' ∧ LkR m wy k d se dr r)) 114 [.ref 1175, .int wy, .int k, .int d, .int se, .int dr, .int (nI (rnL7 m wy k d).length), .int (nI x2), .int w, .int (nI i), .int (nI i2), v11, v12] [] m4 := by
        intro i2
        induction i2 with
        | zero =>
          intro x2 g' v11 v12 m4 hi2 hx2 T4 hg hG q1 q2
          have q1 : g' = gg := q1
          have q2 : x2 = xx := q2
          rw [q2]
          rw [q1] at hg
          exact sk (nI 0) v11 v12 m4 (show nI 0 ≤ 0 by decide) T4 hg
        | succ i2 ih2 =>
          intro x2 g' v11 v12 m4 hi2 hx2 T4 hg hG q1 q2
          have hj := mixJ_lt (i2 + 1) x2
          have eN : sh7 (nI x2) = nI (lkN x2) := shN7 x2
          have eo : sh7O (nI x2) (nI (i2 + 1)) = nI (mixJ (i2 + 1) x2) := by
            unfold sh7O
            rw [eN]
            exact shO7 (by omega)
          have co : (sh7O (nI x2) (nI (i2 + 1))).toNatClampNeg = mixJ (i2 + 1) x2 := by rw [eo]; exact nI_clamp (by omega)
          have ci : (nI (i2 + 1)).toNatClampNeg = i2 + 1 := nI_clamp (by omega)
          have vi : vp_in (nI (i2 + 1)) 40 := vp_in_nI (by omega) (by decide)
          have vo : vp_in (sh7O (nI x2) (nI (i2 + 1))) 40 := by rw [eo]; exact vp_in_nI (by omega) (by decide)
          have gi : gI m4 165384 (nI (i2 + 1)).toNatClampNeg = g' (i2 + 1) := by rw [ci]; exact hg _ (by omega)
          have go : gI m4 165384 (sh7O (nI x2) (nI (i2 + 1))).toNatClampNeg = g' (mixJ (i2 + 1) x2) := by rw [co]; exact hg _ (by omega)
          obtain ⟨mB, hB⟩ : ∃ y, y = sI (sI m4 165384 (nI (i2 + 1)).toNatClampNeg (gI m4 165384 (sh7O (nI x2) (nI (i2 + 1))).toNatClampNeg)) 165384 (sh7O (nI x2) (nI (i2 + 1))).toNatClampNeg (gI m4 165384 (nI (i2 + 1)).toNatClampNeg) := ⟨_, rfl⟩
          obtain ⟨t1, a1, b1⟩ := hG (i2 + 1) (by omega)
          obtain ⟨t2, a2, b2⟩ := hG (mixJ (i2 + 1) x2) (by omega)
          have TB : St wRo m mB := by
            rw [hB]
            exact (T4.row (a := 165384) rfl (by decide) (show (0 : Int) ≤ _ by rw [go, b2, nI_toInt (by omega)]; omega) (show _ ≤ (11 : Int) by rw [go, b2, nI_toInt (by omega)]; omega)).row (a := 165384) rfl (by decide) (show (0 : Int) ≤ _ by rw [gi, b1, nI_toInt (by omega)]; omega) (show _ ≤ (11 : Int) by rw [gi, b1, nI_toInt (by omega)]; omega)
          have hB2 : mB = sI (sI m4 165384 (i2 + 1) (gI m4 165384 (mixJ (i2 + 1) x2))) 165384 (mixJ (i2 + 1) x2) (gI m4 165384 (i2 + 1)) := by rw [hB, ci, co]
          have gS := fin_swp (n := (vw m).1 3) (g := g') (by omega) (by omega) hB2 hg
          have z := ih2 (lkN x2) _ (.int (sh7O (nI x2) (nI (i2 + 1)))) (.int (gI m4 165384 (nI (i2 + 1)).toNatClampNeg)) mB (by omega) (lkN_lt x2) TB gS (GW_swp hG (by omega) (by omega)) q1 q2
          rw [← eN, ← pk_m1 i2, hB] at z
          refine At.ls okX7_luck 160 ⟨_, _, rfl⟩ ?_
          (conv => whnf)
          refine And.intro (fun p => ?_) (fun p => ?_)
          · have p : nI (i2 + 1) ≤ 0 := p
            rw [le_i, nI_toInt (by omega), e0] at p
            omega
          (conv => whnf)
          refine And.intro (show ¬ nI (i2 + 1) + 1 = 0 by
            rw [nI_1]
            intro u
            have u2 := congrArg Int32.toInt u
            rw [nI_toInt (by omega), e0] at u2
            omega) ?_
          (conv => whnf)
          refine And.intro vi ?_
          (conv => whnf)
          refine And.intro vo ?_
          (conv => whnf)
          refine And.intro vi ?_
          (conv => whnf)
          refine And.intro vo ?_
          (conv => whnf)
          exact And.intro rfl z
      have cp : ∀ (jj s : Nat) (v11 v12 : Value) (m4 : MM), s + jj = (vw m).1 3 → St wRo m m4 → (∀ q, q < s → gI m4 165384 q = (vw m).2 11 q) → At (E0 10) mX7_luck (qi (fun r m' => St wRo m m' ∧ LkR m wy k d se dr r)) 77 [.ref 1175, .int wy, .int k, .int d, .int se, .int dr, .int (nI (rnL7 m wy k d).length), .int (nI x), .int w, .int (nI i), .int (nI s), v11, v12] [] m4 := by
        intro jj
        induction jj with
        | zero =>
          intro s v11 v12 m4 hs T4 hg
          have c6 := (rr T4).1
          refine At.ls okX7_luck 60 ⟨_, _, rfl⟩ ?_
          (conv => whnf)
          refine And.intro (fun p => ?_) (fun p => ?_)
          · (conv => whnf)
            refine And.intro rfl ?_
            by_cases q : (vw m).1 3 = 0
            · have e : gI m4 1175 6 - 1 = -1 := by rw [c6, q]; rfl
              have u1 : gg = (vw m).2 11 := by rw [hgg, q]; rfl
              have u2 : xx = x := by rw [hxx, q]; rfl
              have z := sk (gI m4 1175 6 - 1) v11 v12 m4 (by rw [e]; decide) T4 (fun s hs => by omega)
              rw [u2] at z
              exact z
            · have z := mx ((vw m).1 3 - 1) x ((vw m).2 11) v11 v12 m4 (Nat.le_refl _) hx T4 (fun s2 hs2 => hg s2 (by omega)) (GW_of hW) hgg.symm hxx.symm
              rw [show nI ((vw m).1 3 - 1) = gI m4 1175 6 - 1 by rw [c6]; exact (pk_sub (a := (vw m).1 3) (b := 1) (by omega)).symm] at z
              exact z
          · have p : ¬ gI m4 1175 6 ≤ nI s := p
            rw [c6, le_i, nI_toInt (by omega), nI_toInt (by omega)] at p
            omega
        | succ jj ih2 =>
          intro s v11 v12 m4 hs T4 hg
          have c6 := (rr T4).1
          have vs : vp_in (nI s) 80 := vp_in_nI (by omega) (by decide)
          have vs4 : vp_in (nI s) 40 := vp_in_nI (by omega) (by decide)
          have sc : (nI s).toNatClampNeg = s := nI_clamp (by omega)
          obtain ⟨t, t1, t2, -⟩ := hW.tom (s := s) (by omega)
          have r11 : gI m4 329064 (nI s).toNatClampNeg = (vw m).2 11 s := by rw [sc]; exact row1 T4.2.2 rfl (by decide)
          have SR : St wRo m (sI m4 165384 (nI s).toNatClampNeg (gI m4 329064 (nI s).toNatClampNeg)) := T4.row (a := 165384) rfl (by decide) (show (0 : Int) ≤ _ by rw [r11, t2, nI_toInt (by omega)]; omega) (show _ ≤ (11 : Int) by rw [r11, t2, nI_toInt (by omega)]; omega)
          refine At.ls okX7_luck 60 ⟨_, _, rfl⟩ ?_
          (conv => whnf)
          refine And.intro (fun p => ?_) (fun p => ?_)
          · have p : gI m4 1175 6 ≤ nI s := p
            rw [c6, le_i, nI_toInt (by omega), nI_toInt (by omega)] at p
            omega
          (conv => whnf)
          refine And.intro vs ?_
          (conv => whnf)
          refine And.intro vs4 ?_
          (conv => whnf)
          have z := ih2 (s + 1) v11 v12 _ (by omega) SR (fun i hi => by
            rw [gI_if, sc]
            by_cases q : i = s
            · rw [if_pos ⟨rfl, q⟩, q]
              rw [sc] at r11
              exact r11
            · rw [if_neg (fun y => q y.2)]
              exact hg i (by omega))
          rw [← nI_1] at z
          exact And.intro rfl z
      refine At.ls okX7_luck 60 ⟨_, _, rfl⟩ ?_
      (conv => whnf)
      refine And.intro (fun p => ?_) (fun p => ?_)
      · have p : dr ≤ nI i := p
        rw [le_i, nI_toInt (by omega)] at p
        omega
      (conv => whnf)
      exact And.intro rfl (cp ((vw m).1 3) 0 v11 v12 m3 (by omega) T3 (fun q hq => absurd hq (Nat.not_lt_zero _)))
  (conv => whnf)
  have z := lp dr.toNatClampNeg 0 se.toNatClampNeg 0 0 .null .null .null m2 (by omega) hse rfl T2 rfl
  rw [← es, ← e42] at z
  exact And.intro rfl z
