/-! linkSales of the class: which sale may go on behind which -/
/-- what load leaves in the finder -/
def FY (V : VW) (g : Nat → Int32) (st wy : Int32) (m : MM) : Prop := gI m 49 8 = nI (V.1 3) ∧
  (∀ s, s < V.1 3 → gI m 163944 s = V.2 10 s ∧ gI m 163960 s = g s ∧ gI m 163976 s = V.2 15 s ∧ (0 ≤ (gI m 163992 s).toInt ↔ rnK V st wy s)) ∧
  (∀ a b, a < V.1 3 → b < V.1 3 → rnK V st wy a → (gI m 163992 b = gI m 163992 a ↔ rnK V st wy b ∧ V.2 13 b = V.2 13 a ∧ (wy = 0 → V.2 16 b = V.2 16 a)))
def fyFree (W : List Nat) : Bool := !(elm (wk 49 8) W) && !(elm 163944 W) && !(elm 163960 W) && !(elm 163976 W) && !(elm 163992 W)
theorem FY.fr {V : VW} {g : Nat → Int32} {st wy : Int32} {W : List Nat} {m m' : MM} (h : FY V g st wy m) (hF : Fr W m m') (hW : fyFree W = true) : FY V g st wy m' := by
  unfold fyFree at hW
  simp only [Bool.and_eq_true] at hW
  obtain ⟨⟨⟨⟨w1, w2⟩, w3⟩, w4⟩, w5⟩ := hW
  refine ⟨?_, fun s hs => ?_, fun a b ha hb => ?_⟩
  · rw [fr1 hF (nelm6 w1 : ¬ wk 49 8 ∈ W)]
    exact h.1
  · rw [row1 hF rfl (elm_no w2), row1 hF rfl (elm_no w3), row1 hF rfl (elm_no w4), row1 hF rfl (elm_no w5)]
    exact h.2.1 s hs
  · rw [row1 hF rfl (elm_no w5), row1 hF rfl (elm_no w5)]
    exact h.2.2 a b ha hb
/-- the rows of those that may go on behind the first n -/
def LnkI (V : VW) (g : Nat → Int32) (st wy : Int32) (n : Nat) (m : MM) : Prop := ∀ s, s < n → ∀ j, j < 64 → (tb (gJ m 164009 s) j = true ↔ j < V.1 3 ∧ rnL V g st wy s j)
def wLk : List Nat := [164009]
set_option maxRecDepth 100000 in
set_option maxHeartbeats 8000000 in
theorem r_link {V : VW} {g : Nat → Int32} {st wy : Int32} {m0 : MM} (hM : Mok TYg m0) (hY0 : FY V g st wy m0) (hW : Wf V) : CV 1 mX1_linkSales [.ref 49] m0 (fun m' => St wLk m0 m' ∧ LnkI V g st wy (V.1 3) m') := by
  have h40 := hW.1.2.2.2
  have e0 : (0 : Int32).toInt = 0 := rfl
  have lp : ∀ (d i : Nat) (v : Value) (m1 : MM), i + d = V.1 3 → St wLk m0 m1 → LnkI V g st wy i m1 → At (E0 1) mX1_linkSales (qv (fun m' => St wLk m0 m' ∧ LnkI V g st wy (V.1 3) m')) 2 [.ref 49, .int (nI i), v] [] m1 := by
    intro d
    induction d with
    | zero =>
      intro i v m1 hd hS hI
      have hY := hY0.fr hS.2.2 (by decide)
      refine At.ls okX1_linkSales 60 ⟨_, _, rfl⟩ ?_
      (conv => whnf)
      refine And.intro (fun p => ?_) (fun p => ?_)
      · rw [show i = V.1 3 by omega] at hI
        exact ⟨hS, hI⟩
      · have p : ¬ gI m1 49 8 ≤ nI i := p
        rw [hY.1, le_i, nI_toInt (by omega), nI_toInt (by omega)] at p
        omega
    | succ d ih =>
      intro i v m1 hd hS hI
      have hY := hY0.fr hS.2.2 (by decide)
      have vi : vp_in (nI i) 40 := vp_in_nI (by omega) (by decide)
      have ic : (nI i).toNatClampNeg = i := nI_clamp (by omega)
      have out : ∀ (w : Value) (m2 : MM), St wLk m0 m2 → LnkI V g st wy i m2 → (∀ b, b < 64 → (tb (gJ m2 164009 i) b = true ↔ b < V.1 3 ∧ rnL V g st wy i b)) → At (E0 1) mX1_linkSales (qv (fun m' => St wLk m0 m' ∧ LnkI V g st wy (V.1 3) m')) 2 [.ref 49, .int (nI i + 1), w] [] m2 := by
        intro w m2 hS2 hI2 hB
        have z := ih (i + 1) w m2 (by omega) hS2 (fun s hs => by
          by_cases q : s < i
          · exact hI2 s q
          · rw [show s = i by omega]; exact hB)
        rw [← nI_1] at z
        exact z
      have lp2 : ∀ (d2 j : Nat) (m2 : MM), j + d2 = V.1 3 → St wLk m0 m2 → LnkI V g st wy i m2 → (∀ b, b < 64 → (tb (gJ m2 164009 i) b = true ↔ b < j ∧ rnL V g st wy i b)) → At (E0 1) mX1_linkSales (qv (fun m' => St wLk m0 m' ∧ LnkI V g st wy (V.1 3) m')) 19 [.ref 49, .int (nI i), .int (nI j)] [] m2 := by
        intro d2
        induction d2 with
        | zero =>
          intro j m2 hd2 hS2 hI2 hB
          have hY2 := hY0.fr hS2.2.2 (by decide)
          refine At.ls okX1_linkSales 60 ⟨_, _, rfl⟩ ?_
          (conv => whnf)
          refine And.intro (fun p => ?_) (fun p => ?_)
          · (conv => whnf)
            rw [show j = V.1 3 by omega] at hB
            exact And.intro rfl (out (.int (nI j)) m2 hS2 hI2 hB)
          · have p : ¬ gI m2 49 8 ≤ nI j := p
            rw [hY2.1, le_i, nI_toInt (by omega), nI_toInt (by omega)] at p
            omega
        | succ d2 ih2 =>
          intro j m2 hd2 hS2 hI2 hB
          have hY2 := hY0.fr hS2.2.2 (by decide)
          have vj : vp_in (nI j) 40 := vp_in_nI (by omega) (by decide)
          have jc : (nI j).toNatClampNeg = j := nI_clamp (by omega)
          obtain ⟨yi1, yi2, yi3, yi4⟩ := hY2.2.1 i (by omega)
          obtain ⟨yj1, yj2, yj3, yj4⟩ := hY2.2.1 j (by omega)
          have skip : ¬ rnL V g st wy i j → At (E0 1) mX1_linkSales (qv (fun m' => St wLk m0 m' ∧ LnkI V g st wy (V.1 3) m')) 19 [.ref 49, .int (nI i), .int (nI j + 1)] [] m2 := by
            intro hn
            have z := ih2 (j + 1) m2 (by omega) hS2 hI2 (fun b hb => by
              rw [hB b hb]
              exact ⟨fun u => ⟨by omega, u.2⟩, fun u => ⟨by
                by_cases y : b = j
                · rw [y] at u; exact absurd u.2 hn
                · omega, u.2⟩⟩)
            rw [← nI_1] at z
            exact z
          refine At.ls okX1_linkSales 120 ⟨_, _, rfl⟩ ?_
          (conv => whnf)
          refine And.intro (fun p => ?_) (fun p => ?_)
          · have p : gI m2 49 8 ≤ nI j := p
            rw [hY2.1, le_i, nI_toInt (by omega), nI_toInt (by omega)] at p
            omega
          (conv => whnf)
          refine And.intro vi ?_
          (conv => whnf)
          refine And.intro (fun p1 => ?_) (fun p1 => ?_)
          · have p1 : gI m2 163992 (nI i).toNatClampNeg < 0 := p1
            rw [ic, lt_i, e0] at p1
            have nk : ¬ rnK V st wy i := fun z => by have := yi4.mpr z; omega
            (conv => whnf)
            refine And.intro rfl (out (.int (nI j)) m2 hS2 hI2 (fun b hb => ?_))
            rw [hB b hb]
            exact ⟨fun u => absurd u.2.1 nk, fun u => absurd u.2.1 nk⟩
          have p1 : ¬ gI m2 163992 (nI i).toNatClampNeg < 0 := p1
          rw [ic, lt_i, e0] at p1
          have ki : rnK V st wy i := yi4.mp (by omega)
          (conv => whnf)
          refine And.intro vj ?_
          (conv => whnf)
          refine And.intro vi ?_
          (conv => whnf)
          refine And.intro (fun p2 => ?_) (fun p2 => ?_)
          · have p2 : ¬ gI m2 163944 (nI j).toNatClampNeg = gI m2 163960 (nI i).toNatClampNeg := p2
            rw [ic, jc, yj1, yi2] at p2
            (conv => whnf)
            exact And.intro rfl (skip (fun z => p2 z.2.2.1))
          have p2 : gI m2 163944 (nI j).toNatClampNeg = gI m2 163960 (nI i).toNatClampNeg := p2
          rw [ic, jc, yj1, yi2] at p2
          (conv => whnf)
          refine And.intro vj ?_
          (conv => whnf)
          refine And.intro vi ?_
          (conv => whnf)
          have kk := hY2.2.2 i j (by omega) (by omega) ki
          refine And.intro (fun p3 => ?_) (fun p3 => ?_)
          · have p3 : ¬ gI m2 163992 (nI j).toNatClampNeg = gI m2 163992 (nI i).toNatClampNeg := p3
            rw [ic, jc] at p3
            (conv => whnf)
            exact And.intro rfl (skip (fun z => p3 (kk.mpr ⟨z.2.1, z.2.2.2.1, z.2.2.2.2.1⟩)))
          have p3 : gI m2 163992 (nI j).toNatClampNeg = gI m2 163992 (nI i).toNatClampNeg := p3
          rw [ic, jc] at p3
          obtain ⟨k1, k2, k3⟩ := kk.mp p3
          (conv => whnf)
          refine And.intro vj ?_
          (conv => whnf)
          refine And.intro vi ?_
          (conv => whnf)
          refine And.intro (fun p4 => ?_) (fun p4 => ?_)
          · have p4 : gI m2 163976 (nI j).toNatClampNeg < gI m2 163976 (nI i).toNatClampNeg := p4
            rw [ic, jc, yj3, yi3, lt_i] at p4
            (conv => whnf)
            exact And.intro rfl (skip (fun z => by have := z.2.2.2.2.2; omega))
          have p4 : ¬ gI m2 163976 (nI j).toNatClampNeg < gI m2 163976 (nI i).toNatClampNeg := p4
          rw [ic, jc, yj3, yi3, lt_i] at p4
          have yes : rnL V g st wy i j := ⟨ki, k1, p2, k2, k3, by omega⟩
          (conv => whnf)
          refine And.intro vi ?_
          (conv => whnf)
          refine And.intro vi ?_
          (conv => whnf)
          have SJ : St wLk m0 (sJ m2 164009 (nI i).toNatClampNeg (gJ m2 164009 (nI i).toNatClampNeg ||| (1 : Int64) <<< ((nI j).toInt64 &&& 63))) := hS2.rowJ rfl (by decide) (fun q => absurd q (by decide))
          have z := ih2 (j + 1) (sJ m2 164009 (nI i).toNatClampNeg (gJ m2 164009 (nI i).toNatClampNeg ||| (1 : Int64) <<< ((nI j).toInt64 &&& 63))) (by omega) SJ (fun s hs b hb => by
            rw [gJ_sJ, ic, if_neg (fun y => by omega)]
            exact hI2 s hs b hb) (fun b hb => by
            rw [gJ_sJ, ic, if_pos ⟨rfl, rfl⟩, tb_or, Bool.or_eq_true, hB b hb, tb_shl j (by omega) b hb, decide_eq_true_iff]
            constructor
            · rintro (u | u)
              · exact ⟨by omega, u.2⟩
              · rw [u]; exact ⟨by omega, yes⟩
            · rintro ⟨u1, u2⟩
              by_cases y : b = j
              · exact Or.inr y
              · exact Or.inl ⟨by omega, u2⟩)
          rw [← nI_1] at z
          exact And.intro rfl z
      refine At.ls okX1_linkSales 80 ⟨_, _, rfl⟩ ?_
      (conv => whnf)
      refine And.intro (fun p => ?_) (fun p => ?_)
      · have p : gI m1 49 8 ≤ nI i := p
        rw [hY.1, le_i, nI_toInt (by omega), nI_toInt (by omega)] at p
        omega
      (conv => whnf)
      refine And.intro vi ?_
      (conv => whnf)
      have SJ : St wLk m0 (sJ m1 164009 (nI i).toNatClampNeg 0) := hS.rowJ rfl (by decide) (fun q => absurd q (by decide))
      refine And.intro rfl (lp2 (V.1 3) 0 _ (by omega) SJ (fun s hs b hb => ?_) (fun b hb => ?_))
      · rw [gJ_sJ, ic, if_neg (fun y => by omega)]
        exact hI s hs b hb
      · rw [gJ_sJ, ic, if_pos ⟨rfl, rfl⟩, tb_0]
        exact ⟨fun u => (by cases u), fun u => absurd u.1 (Nat.not_lt_zero _)⟩
  refine At.gs okX1_linkSales 60 ?_
  (conv => whnf)
  exact And.intro rfl (lp (V.1 3) 0 _ m0 (by omega) (St.rf hM) (fun s hs => absurd hs (Nat.not_lt_zero _)))
