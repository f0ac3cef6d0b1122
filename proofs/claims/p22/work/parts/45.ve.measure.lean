/-! measure of the class: which sales come home to a firm in so many steps -/
def wMe : List Nat := [295097]
/-- the rows of firm f, first u - 1 of them -/
def NrI (V : VW) (g : Nat → Int32) (st wy : Int32) (f u : Nat) (m : MM) : Prop := ∀ t, 1 ≤ t → t < u → ∀ j, j < 64 → (tb (gJ m 295097 (f * 6 + t)) j = true ↔ j < V.1 3 ∧ rnN (V.1 3) g (nI f) (rnL V g st wy) (rnK V st wy) (t - 1) j)
theorem NrI.fr {V : VW} {g : Nat → Int32} {st wy : Int32} {f u : Nat} {W : List Nat} {m m' : MM} (h : NrI V g st wy f u m) (hF : Fr W m m') (hW : elm 295097 W = false) : NrI V g st wy f u m' := fun t h1 h2 j hj => by
  rw [rowJ1 hF rfl hW]
  exact h t h1 h2 j hj
theorem LnkI.fr {V : VW} {g : Nat → Int32} {st wy : Int32} {n : Nat} {W : List Nat} {m m' : MM} (h : LnkI V g st wy n m) (hF : Fr W m m') (hW : elm 164009 W = false) : LnkI V g st wy n m' := fun s hs j hj => by
  rw [rowJ1 hF rfl hW]
  exact h s hs j hj
section Me
variable {V : VW} {g : Nat → Int32} {st wy : Int32} {k f : Nat} {m0 : MM}
/-- what measure leaves: the firm's own rows, the others as they were -/
def MeQ (V : VW) (g : Nat → Int32) (st wy : Int32) (k f : Nat) (m0 m' : MM) : Prop := St wMe m0 m' ∧ NrI V g st wy f k m' ∧ ∀ i, (∀ t, t < 6 → i ≠ f * 6 + t) → gJ m' 295097 i = gJ m0 295097 i
set_option maxRecDepth 100000 in
set_option maxHeartbeats 8000000 in
theorem me_C (hY0 : FY V g st wy m0) (hL0 : LnkI V g st wy (V.1 3) m0) (hW : Wf V) (hf : f < 12) {t : Nat} (t6 : t < 6) {x : Int64} {v9 : Value} (hx : ∀ b, b < 64 → (tb x b = true ↔ b < V.1 3 ∧ rnN (V.1 3) g (nI f) (rnL V g st wy) (rnK V st wy) (t - 1) b)) {m1 : MM} (hS : St wMe m0 m1)
    (K : ∀ (y : Int64) (v8 v9 : Value), (∀ b, b < 64 → (tb y b = true ↔ b < V.1 3 ∧ rnN (V.1 3) g (nI f) (rnL V g st wy) (rnK V st wy) (t - 1 + 1) b)) → At (E0 1) mX1_measure (qv (MeQ V g st wy k f m0)) 61 [.ref 49, .int (nI f), .long y, .null, .int (nI (f * 6)), .int (nI t + 1), v8, v9, .int (nI (V.1 3))] [] m1) :
    ∀ (d i : Nat) (w : Int64), i + d = V.1 3 → (∀ b, b < 64 → (tb w b = true ↔ tb x b = true ∨ (b < i ∧ ∃ j, j < V.1 3 ∧ rnL V g st wy b j ∧ rnN (V.1 3) g (nI f) (rnL V g st wy) (rnK V st wy) (t - 1) j))) → At (E0 1) mX1_measure (qv (MeQ V g st wy k f m0)) 94 [.ref 49, .int (nI f), .long x, .null, .int (nI (f * 6)), .int (nI t), .long w, .null, .int (nI i)] [] m1 := by
  have h40 := hW.1.2.2.2
  have hY := hY0.fr hS.2.2 (by decide)
  have hL := hL0.fr hS.2.2 (by decide)
  intro d
  induction d with
  | zero =>
    intro i w hd hw
    refine At.ls okX1_measure 80 ⟨_, _, rfl⟩ ?_
    (conv => whnf)
    refine And.intro (fun p => ?_) (fun p => ?_)
    · (conv => whnf)
      have z := K w (.long w) .null (fun b hb => by
        rw [hw b hb, hx b hb]
        show _ ↔ b < V.1 3 ∧ (_ ∨ _)
        rw [show i = V.1 3 by omega]
        constructor
        · rintro (u | u)
          · exact ⟨u.1, Or.inl u.2⟩
          · exact ⟨u.1, Or.inr u.2⟩
        · rintro ⟨u1, u | u⟩
          · exact Or.inl ⟨u1, u⟩
          · exact Or.inr ⟨u1, u⟩)
      rw [show V.1 3 = i by omega] at z
      exact And.intro rfl z
    · have p : ¬ gI m1 49 8 ≤ nI i := p
      rw [hY.1, le_i, nI_toInt (by omega), nI_toInt (by omega)] at p
      omega
  | succ d ih =>
    intro i w hd hw
    have vi : vp_in (nI i) 40 := vp_in_nI (by omega) (by decide)
    have ic : (nI i).toNatClampNeg = i := nI_clamp (by omega)
    have meet : lg_cmp (gJ m1 164009 (nI i).toNatClampNeg &&& x) 0 = 0 ↔ ¬ ∃ j, j < V.1 3 ∧ rnL V g st wy i j ∧ rnN (V.1 3) g (nI f) (rnL V g st wy) (rnK V st wy) (t - 1) j := by
      rw [tb_meet, ic]
      constructor
      · rintro h ⟨j, j1, j2, j3⟩
        exact h j (by omega) ⟨(hL i (by omega) j (by omega)).mpr ⟨j1, j2⟩, (hx j (by omega)).mpr ⟨j1, j3⟩⟩
      · intro h j hj z
        have a := (hL i (by omega) j hj).mp z.1
        have b := (hx j hj).mp z.2
        exact h ⟨j, a.1, a.2, b.2⟩
    have next : ∀ w' : Int64, (∀ b, b < 64 → (tb w' b = true ↔ tb x b = true ∨ (b < i + 1 ∧ ∃ j, j < V.1 3 ∧ rnL V g st wy b j ∧ rnN (V.1 3) g (nI f) (rnL V g st wy) (rnK V st wy) (t - 1) j))) → At (E0 1) mX1_measure (qv (MeQ V g st wy k f m0)) 94 [.ref 49, .int (nI f), .long x, .null, .int (nI (f * 6)), .int (nI t), .long w', .null, .int (nI i + 1)] [] m1 := by
      intro w' hw'
      have z := ih (i + 1) w' (by omega) hw'
      rw [← nI_1] at z
      exact z
    refine At.ls okX1_measure 80 ⟨_, _, rfl⟩ ?_
    (conv => whnf)
    refine And.intro (fun p => ?_) (fun p => ?_)
    · have p : gI m1 49 8 ≤ nI i := p
      rw [hY.1, le_i, nI_toInt (by omega), nI_toInt (by omega)] at p
      omega
    (conv => whnf)
    refine And.intro vi ?_
    (conv => whnf)
    refine And.intro (fun p1 => ?_) (fun p1 => ?_)
    · have p1 : lg_cmp (gJ m1 164009 (nI i).toNatClampNeg &&& x) 0 = 0 := p1
      rw [meet] at p1
      (conv => whnf)
      refine And.intro rfl (next (w ||| 0) (fun b hb => ?_))
      rw [tb_or, tb_0, Bool.or_false, hw b hb]
      constructor
      · rintro (u | u)
        · exact Or.inl u
        · exact Or.inr ⟨by omega, u.2⟩
      · rintro (u | ⟨u1, u2⟩)
        · exact Or.inl u
        · refine Or.inr ⟨?_, u2⟩
          by_cases y : b = i
          · rw [y] at u2; exact absurd u2 p1
          · omega
    · have p1 : ¬ lg_cmp (gJ m1 164009 (nI i).toNatClampNeg &&& x) 0 = 0 := p1
      rw [meet, Classical.not_not] at p1
      (conv => whnf)
      refine And.intro rfl (next (w ||| (1 : Int64) <<< ((nI i).toInt64 &&& 63)) (fun b hb => ?_))
      rw [tb_or, Bool.or_eq_true, tb_shl i (by omega) b hb, decide_eq_true_iff, hw b hb]
      constructor
      · rintro ((u | u) | u)
        · exact Or.inl u
        · exact Or.inr ⟨by omega, u.2⟩
        · rw [u]; exact Or.inr ⟨by omega, p1⟩
      · rintro (u | ⟨u1, u2⟩)
        · exact Or.inl (Or.inl u)
        · by_cases y : b = i
          · exact Or.inr y
          · exact Or.inl (Or.inr ⟨by omega, u2⟩)
set_option maxRecDepth 100000 in
set_option maxHeartbeats 8000000 in
theorem me_B (hY0 : FY V g st wy m0) (hL0 : LnkI V g st wy (V.1 3) m0) (hW : Wf V) (hf : f < 12) (k6 : k ≤ 6) (h10 : gI m0 49 10 = nI k) :
    ∀ (d t : Nat) (x : Int64) (v8 v9 v10 : Value) (m1 : MM), t + d = k → 1 ≤ t → St wMe m0 m1 → NrI V g st wy f t m1 → (∀ i, (∀ t, t < 6 → i ≠ f * 6 + t) → gJ m1 295097 i = gJ m0 295097 i) → (∀ b, b < 64 → (tb x b = true ↔ b < V.1 3 ∧ rnN (V.1 3) g (nI f) (rnL V g st wy) (rnK V st wy) (t - 1) b)) → At (E0 1) mX1_measure (qv (MeQ V g st wy k f m0)) 61 [.ref 49, .int (nI f), .long x, .null, .int (nI (f * 6)), .int (nI t), v8, v9, v10] [] m1 := by
  have h40 := hW.1.2.2.2
  intro d
  induction d with
  | zero =>
    intro t x v8 v9 v10 m1 hd h1 hS hI hO hx
    have e10 : gI m1 49 10 = nI k := by rw [fr1 hS.2.2 (by decide)]; exact h10
    refine At.ls okX1_measure 80 ⟨_, _, rfl⟩ ?_
    (conv => whnf)
    refine And.intro (fun p => ?_) (fun p => ?_)
    · rw [show t = k by omega] at hI
      exact ⟨hS, hI, hO⟩
    · have p : ¬ gI m1 49 10 ≤ nI t := p
      rw [e10, le_i, nI_toInt (by omega), nI_toInt (by omega)] at p
      omega
  | succ d ih =>
    intro t x v8 v9 v10 m1 hd h1 hS hI hO hx
    have e10 : gI m1 49 10 = nI k := by rw [fr1 hS.2.2 (by decide)]; exact h10
    have e6 : (6 : Int32).toInt = 6 := rfl
    have ix : nI (f * 6) + nI t = nI (f * 6 + t) := nI_add _ _
    have vx : vp_in (nI (f * 6) + nI t) 72 := by rw [ix]; exact vp_in_nI (by omega) (by decide)
    have xc : (nI (f * 6) + nI t).toNatClampNeg = f * 6 + t := by rw [ix]; exact nI_clamp (by omega)
    have SJ : St wMe m0 (sJ m1 295097 (nI (f * 6) + nI t).toNatClampNeg x) := hS.rowJ rfl (by decide) (fun q => absurd q (by decide))
    refine At.ls okX1_measure 100 ⟨_, _, rfl⟩ ?_
    (conv => whnf)
    refine And.intro (fun p => ?_) (fun p => ?_)
    · have p : gI m1 49 10 ≤ nI t := p
      rw [e10, le_i, nI_toInt (by omega), nI_toInt (by omega)] at p
      omega
    (conv => whnf)
    refine And.intro (fun p1 => ?_) (fun p1 => ?_)
    · have p1 : 6 ≤ nI t := p1
      rw [le_i, nI_toInt (by omega), e6] at p1
      omega
    (conv => whnf)
    refine And.intro vx ?_
    (conv => whnf)
    refine And.intro rfl (me_C (k := k) (v9 := .null) hY0 hL0 hW hf (by omega) hx SJ (fun y w8 w9 hy => ?_) (V.1 3) 0 x (by omega) (fun b hb => ⟨fun u => Or.inl u, fun u => Or.elim u (fun z => z) (fun z => absurd z.1 (Nat.not_lt_zero _))⟩))
    have z := ih (t + 1) y w8 w9 (.int (nI (V.1 3))) _ (by omega) (by omega) SJ (fun u u1 u2 b hb => by
      rw [gJ_sJ, xc]
      by_cases q : u = t
      · rw [if_pos ⟨rfl, by rw [q]⟩, q]
        exact hx b hb
      · rw [if_neg (fun y => q (by omega))]
        exact hI u u1 (by omega) b hb) (fun i hi => by
      rw [gJ_sJ, xc, if_neg (fun y => hi t (by omega) y.2)]
      exact hO i hi) (fun b hb => by
      rw [hy b hb, show t - 1 + 1 = t + 1 - 1 by omega])
    rw [← nI_1] at z
    exact z
set_option maxRecDepth 100000 in
set_option maxHeartbeats 8000000 in
theorem r_measure (hM : Mok TYg m0) (hY0 : FY V g st wy m0) (hL0 : LnkI V g st wy (V.1 3) m0) (hW : Wf V) (hG : GW (V.1 3) g) (hf : f < 12) (k2 : 2 ≤ k) (k6 : k ≤ 6) (h10 : gI m0 49 10 = nI k) : CV 1 mX1_measure [.ref 49, .int (nI f)] m0 (MeQ V g st wy k f m0) := by
  have h40 := hW.1.2.2.2
  have e0 : (0 : Int32).toInt = 0 := rfl
  have lp : ∀ (d i : Nat) (x : Int64) (v5 v6 v7 v8 : Value), i + d = V.1 3 → (∀ b, b < 64 → (tb x b = true ↔ b < i ∧ rnK V st wy b ∧ g b = nI f)) → At (E0 1) mX1_measure (qv (MeQ V g st wy k f m0)) 5 [.ref 49, .int (nI f), .long x, .null, .int (nI i), v5, v6, v7, v8] [] m0 := by
    intro d
    induction d with
    | zero =>
      intro i x v5 v6 v7 v8 hd hx
      refine At.ls okX1_measure 80 ⟨_, _, rfl⟩ ?_
      (conv => whnf)
      refine And.intro (fun p => ?_) (fun p => ?_)
      · (conv => whnf)
        have z := me_B (k := k) hY0 hL0 hW hf k6 h10 (k - 1) 1 x v6 v7 v8 m0 (by omega) (Nat.le_refl _) (St.rf hM) (fun t t1 t2 => absurd t2 (by omega)) (fun i _ => rfl) (fun b hb => by
          rw [hx b hb, show i = V.1 3 by omega]
          exact Iff.rfl)
        have e : nI f * 6 = nI (f * 6) := by
          show nI f * nI 6 = _
          rw [pk_mul]
        rw [← e] at z
        exact And.intro rfl z
      · have p : ¬ gI m0 49 8 ≤ nI i := p
        rw [hY0.1, le_i, nI_toInt (by omega), nI_toInt (by omega)] at p
        omega
    | succ d ih =>
      intro i x v5 v6 v7 v8 hd hx
      have vi : vp_in (nI i) 40 := vp_in_nI (by omega) (by decide)
      have ic : (nI i).toNatClampNeg = i := nI_clamp (by omega)
      obtain ⟨yi1, yi2, yi3, yi4⟩ := hY0.2.1 i (by omega)
      have next : ∀ x' : Int64, (∀ b, b < 64 → (tb x' b = true ↔ b < i + 1 ∧ rnK V st wy b ∧ g b = nI f)) → At (E0 1) mX1_measure (qv (MeQ V g st wy k f m0)) 5 [.ref 49, .int (nI f), .long x', .null, .int (nI i + 1), v5, v6, v7, v8] [] m0 := by
        intro x' hx'
        have z := ih (i + 1) x' v5 v6 v7 v8 (by omega) hx'
        rw [← nI_1] at z
        exact z
      have no : ¬ (rnK V st wy i ∧ g i = nI f) → At (E0 1) mX1_measure (qv (MeQ V g st wy k f m0)) 5 [.ref 49, .int (nI f), .long (x ||| 0), .null, .int (nI i + 1), v5, v6, v7, v8] [] m0 := by
        intro hn
        refine next (x ||| 0) (fun b hb => ?_)
        rw [tb_or, tb_0, Bool.or_false, hx b hb]
        constructor
        · intro u; exact ⟨by omega, u.2⟩
        · intro u
          refine ⟨?_, u.2⟩
          by_cases y : b = i
          · rw [y] at u; exact absurd u.2 hn
          · omega
      refine At.ls okX1_measure 80 ⟨_, _, rfl⟩ ?_
      (conv => whnf)
      refine And.intro (fun p => ?_) (fun p => ?_)
      · have p : gI m0 49 8 ≤ nI i := p
        rw [hY0.1, le_i, nI_toInt (by omega), nI_toInt (by omega)] at p
        omega
      (conv => whnf)
      refine And.intro vi ?_
      (conv => whnf)
      refine And.intro (fun p1 => ?_) (fun p1 => ?_)
      · have p1 : gI m0 163992 (nI i).toNatClampNeg < 0 := p1
        rw [ic, lt_i, e0] at p1
        (conv => whnf)
        exact And.intro rfl (no (fun z => by have := yi4.mpr z.1; omega))
      have p1 : ¬ gI m0 163992 (nI i).toNatClampNeg < 0 := p1
      rw [ic, lt_i, e0] at p1
      have ki : rnK V st wy i := yi4.mp (by omega)
      (conv => whnf)
      refine And.intro vi ?_
      (conv => whnf)
      refine And.intro (fun p2 => ?_) (fun p2 => ?_)
      · have p2 : ¬ gI m0 163960 (nI i).toNatClampNeg = nI f := p2
        rw [ic, yi2] at p2
        (conv => whnf)
        exact And.intro rfl (no (fun z => p2 z.2))
      have p2 : gI m0 163960 (nI i).toNatClampNeg = nI f := p2
      rw [ic, yi2] at p2
      (conv => whnf)
      refine And.intro rfl (next (x ||| (1 : Int64) <<< ((nI i).toInt64 &&& 63)) (fun b hb => ?_))
      rw [tb_or, Bool.or_eq_true, tb_shl i (by omega) b hb, decide_eq_true_iff, hx b hb]
      constructor
      · rintro (u | u)
        · exact ⟨by omega, u.2⟩
        · rw [u]; exact ⟨by omega, ki, p2⟩
      · rintro ⟨u1, u2⟩
        by_cases y : b = i
        · exact Or.inr y
        · exact Or.inl ⟨by omega, u2⟩
  refine At.gs okX1_measure 60 ?_
  (conv => whnf)
  exact And.intro rfl (lp (V.1 3) 0 0 _ _ _ _ (by omega) (fun b hb => by
    rw [tb_0]
    exact ⟨fun u => (by cases u), fun u => absurd u.1 (Nat.not_lt_zero _)⟩))
end Me
