/-! judge: what it asks (pure); the class -/
theorem bt_tb {X g : Nat} (hX : X < 2 ^ 31) (hg : g < 31) : bt (nI X) (nI g) = 0 ↔ X.testBit g = false := by
  rw [bt_N hX hg, Nat.testBit_eq_decide_div_mod_eq]
  rcases Nat.mod_two_eq_zero_or_one (X / 2 ^ g) with q | q
  · rw [q]; exact ⟨fun _ => rfl, fun _ => rfl⟩
  · rw [q]; exact ⟨fun h => absurd h (by decide), fun h => absurd h (by decide)⟩
def prvI (n i : Nat) : Nat := if i = 0 then n - 1 else i - 1
theorem prvI_lt {n i : Nat} (h0 : 0 < n) (h : i < n) : prvI n i < n := by
  unfold prvI
  split <;> omega
def aliP (V : VW) (wy : Int32) (a b : Nat) : Prop := V.2 13 a = V.2 13 b ∧ (wy = 1 ∨ (V.2 16 a = V.2 16 b ∧ V.2 16 a ≠ 0))
/-- what is asked of place j of a row of n sales -/
def jdC (V : VW) (st wy : Int32) (n : Nat) (t : Nat → Nat) (j : Nat) : Prop := V.2 11 (t (prvI n j)) = V.2 10 (t j) ∧ (j = 0 ∨ (V.2 15 (t (prvI n j))).toInt ≤ (V.2 15 (t j)).toInt) ∧ aliP V wy (t (prvI n j)) (t j) ∧ bt st (V.2 10 (t j)) = 0 ∧ ∀ i, i < j → V.2 10 (t i) ≠ V.2 10 (t j)
def jdP (V : VW) (st wy : Int32) (n : Nat) (t : Nat → Nat) : Prop := ∀ j, j < n → jdC V st wy n t j
/-- row i of the told sales -/
def tolT (l : Int64) (i : Nat) : Nat := (grp l (nI i)).toNatClampNeg
def jdV (V : VW) (wy n : Int32) (l : Int64) : Prop := (2 ≤ n.toInt ∧ n.toInt ≤ 6) ∧ (0 ≤ wy.toInt ∧ wy.toInt ≤ 1) ∧ ∀ i, i < n.toInt.toNat → 0 ≤ (grp l (nI i)).toInt ∧ (grp l (nI i)).toInt < V.1 3
/-- what judge answers -/
def JdR (V : VW) (st wy n : Int32) (l : Int64) (r : Int32) : Prop := (¬ jdV V wy n l ∧ r = -1) ∨ (jdV V wy n l ∧ z1 (jdP V st wy n.toInt.toNat (tolT l)) r)
theorem JdR_1 {V : VW} {st wy n : Int32} {l : Int64} {r1 r2 : Int32} (h1 : JdR V st wy n l r1) (h2 : JdR V st wy n l r2) : r1 = r2 := by
  rcases h1 with ⟨a1, a2⟩ | ⟨a1, ⟨a2, a3⟩ | ⟨a2, a3⟩⟩
  · rcases h2 with ⟨b1, b2⟩ | ⟨b1, b2⟩
    · rw [a2, b2]
    · exact absurd b1 a1
  · rcases h2 with ⟨b1, b2⟩ | ⟨b1, ⟨b2, b3⟩ | ⟨b2, b3⟩⟩
    · exact absurd a1 b1
    · rw [a3, b3]
    · exact absurd a2 b2
  · rcases h2 with ⟨b1, b2⟩ | ⟨b1, ⟨b2, b3⟩ | ⟨b2, b3⟩⟩
    · exact absurd a1 b1
    · exact absurd b2 a2
    · rw [a3, b3]
section Jg336
variable {m : MM} {st wy : Int32} {l : Int64}
set_option maxRecDepth 100000 in
set_option maxHeartbeats 4000000 in
theorem r_alike_336 {a b : Nat} (h : SB 336 m) (ha : a < (vw m).1 3) (hb : b < (vw m).1 3) : CI 1 mX4_alike [.ref 452, .int wy, .int (nI a), .int (nI b)] m (fun r m' => m' = m ∧ z1 (aliP (vw m) wy a b) r) := by
  have hW := h.2.2.2.2.2
  have h40 := hW.1.2.2.2
  have va : vp_in (nI a) 40 := vp_in_nI (by omega) (by decide)
  have vb : vp_in (nI b) 40 := vp_in_nI (by omega) (by decide)
  have ga : gI m 164360 (nI a).toNatClampNeg = (vw m).2 13 a := by rw [nI_clamp (by omega)]; exact h.2.1 13 (by decide) (by decide) a ha
  have gb : gI m 164360 (nI b).toNatClampNeg = (vw m).2 13 b := by rw [nI_clamp (by omega)]; exact h.2.1 13 (by decide) (by decide) b hb
  have ma : gI m 164408 (nI a).toNatClampNeg = (vw m).2 16 a := by rw [nI_clamp (by omega)]; exact h.2.1 16 (by decide) (by decide) a ha
  have mb : gI m 164408 (nI b).toNatClampNeg = (vw m).2 16 b := by rw [nI_clamp (by omega)]; exact h.2.1 16 (by decide) (by decide) b hb
  refine At.gs okX4_alike 60 ?_
  (conv => whnf)
  refine And.intro va ?_
  (conv => whnf)
  refine And.intro vb ?_
  (conv => whnf)
  refine And.intro (fun q => ?_) (fun q => ?_)
  · have q : ¬ gI m 164360 (nI a).toNatClampNeg = gI m 164360 (nI b).toNatClampNeg := q
    rw [ga, gb] at q
    exact ⟨Or.inl rfl, rfl, Or.inr ⟨fun z => q z.1, rfl⟩⟩
  have q : gI m 164360 (nI a).toNatClampNeg = gI m 164360 (nI b).toNatClampNeg := q
  rw [ga, gb] at q
  (conv => whnf)
  refine And.intro (fun q2 => ?_) (fun q2 => ?_)
  · exact ⟨Or.inr rfl, rfl, Or.inl ⟨⟨q, Or.inl q2⟩, rfl⟩⟩
  (conv => whnf)
  refine And.intro va ?_
  (conv => whnf)
  refine And.intro vb ?_
  (conv => whnf)
  refine And.intro (fun q3 => ?_) (fun q3 => ?_)
  · have q3 : ¬ gI m 164408 (nI a).toNatClampNeg = gI m 164408 (nI b).toNatClampNeg := q3
    rw [ma, mb] at q3
    exact ⟨Or.inl rfl, rfl, Or.inr ⟨fun z => z.2.elim q2 (fun y => q3 y.1), rfl⟩⟩
  have q3 : gI m 164408 (nI a).toNatClampNeg = gI m 164408 (nI b).toNatClampNeg := q3
  rw [ma, mb] at q3
  (conv => whnf)
  refine And.intro va ?_
  (conv => whnf)
  refine And.intro (fun q4 => ?_) (fun q4 => ?_)
  · have q4 : gI m 164408 (nI a).toNatClampNeg = 0 := q4
    rw [ma] at q4
    exact ⟨Or.inl rfl, rfl, Or.inr ⟨fun z => z.2.elim q2 (fun y => y.2 q4), rfl⟩⟩
  · have q4 : ¬ gI m 164408 (nI a).toNatClampNeg = 0 := q4
    rw [ma] at q4
    exact ⟨Or.inr rfl, rfl, Or.inl ⟨⟨q, Or.inr ⟨q3, q4⟩⟩, rfl⟩⟩
def cdGo336 : List CE := stops [74] cdX4_goRound
set_option maxRecDepth 20000 in
theorem okGo336 : CodeOk mX4_goRound cdGo336 := okX4_goRound.st [74] (by rfl)
def SelI (V : VW) (S X : Nat) (t : Nat → Nat) (j : Nat) : Prop := X < 4096 ∧ ∀ g, g < 12 → (X.testBit g = false ↔ (S.testBit g = false ∧ ∀ i, i < j → V.2 10 (t i) ≠ nI g))
set_option maxRecDepth 100000 in
set_option maxHeartbeats 8000000 in
theorem r_goRound_336 {n S : Nat} {t : Nat → Nat} (hM : Mok TYg m) (h : SB 336 m) (n2 : 2 ≤ n) (n6 : n ≤ 6) (ht : ∀ i, i < n → grp l (nI i) = nI (t i) ∧ t i < (vw m).1 3) (hS : S < 4096) : CI 2 mX4_goRound [.ref 452, .int wy, .int (nI n), .long l, .int (nI S)] m (fun r m' => m' = m ∧ z1 (jdP (vw m) (nI S) wy n t) r) := by
  have hW := h.2.2.2.2.2
  have h40 := hW.1.2.2.2
  have h12 := hW.1.2.2.1
  have lp : ∀ (k j X : Nat) (v9 v10 : Value), j + k = n → (∀ i, i < j → jdC (vw m) (nI S) wy n t i) → SelI (vw m) S X t j → At (E0 2) mX4_goRound (qi (fun r m' => m' = m ∧ z1 (jdP (vw m) (nI S) wy n t) r)) 16 [.ref 452, .int wy, .int (nI n), .long l, .null, .int (nI S), .int (nI (t (prvI n j))), .int (nI X), .int (nI j), v9, v10] [] m := by
    intro k
    induction k with
    | zero =>
      intro j X v9 v10 hj hA hX
      obtain rfl : j = n := by omega
      refine At.ls okGo336 60 ⟨_, _, rfl⟩ ?_
      (conv => whnf)
      refine And.intro (fun q => ?_) (fun q => ?_)
      · exact ⟨Or.inr rfl, rfl, Or.inl ⟨hA, rfl⟩⟩
      · rw [le_i] at q
        omega
    | succ k ih =>
      intro j X v9 v10 hj hA hX
      have hjn : j < n := by omega
      obtain ⟨ts1, ts2⟩ := ht j hjn
      obtain ⟨tp1, tp2⟩ := ht (prvI n j) (prvI_lt (by omega) hjn)
      obtain ⟨fa, fa1, fa2, fa3⟩ := hW.frm ts2
      have vs : vp_in (nI (t j)) 40 := vp_in_nI (by omega) (by decide)
      have vp : vp_in (nI (t (prvI n j))) 40 := vp_in_nI (by omega) (by decide)
      have c10 : gI m 164312 (nI (t j)).toNatClampNeg = nI fa := by rw [nI_clamp (by omega), ← fa2]; exact h.2.1 10 (by decide) (by decide) _ ts2
      have c11 : gI m 164328 (nI (t (prvI n j))).toNatClampNeg = (vw m).2 11 (t (prvI n j)) := by rw [nI_clamp (by omega)]; exact h.2.1 11 (by decide) (by decide) _ tp2
      have c15 : gI m 164392 (nI (t j)).toNatClampNeg = (vw m).2 15 (t j) := by rw [nI_clamp (by omega)]; exact h.2.1 15 (by decide) (by decide) _ ts2
      have c15p : gI m 164392 (nI (t (prvI n j))).toNatClampNeg = (vw m).2 15 (t (prvI n j)) := by rw [nI_clamp (by omega)]; exact h.2.1 15 (by decide) (by decide) _ tp2
      have bad : ¬ jdC (vw m) (nI S) wy n t j → ¬ jdP (vw m) (nI S) wy n t := fun z y => z (y j hjn)
      have body : ∀ b : Int32, z1 ((vw m).2 11 (t (prvI n j)) = (vw m).2 10 (t j) ∧ (j = 0 ∨ ((vw m).2 15 (t (prvI n j))).toInt ≤ ((vw m).2 15 (t j)).toInt)) b → At (E0 2) mX4_goRound (qi (fun r m' => m' = m ∧ z1 (jdP (vw m) (nI S) wy n t) r)) 74 [.ref 452, .int wy, .int (nI n), .long l, .null, .int (nI S), .int (nI (t (prvI n j))), .int (nI X), .int (nI j), .int (nI (t j)), v10] [.int b] m := by
        intro b hb
        refine At.ls okGo336 80 ⟨_, _, rfl⟩ ?_
        (conv => whnf)
        refine And.intro (fun q => ?_) (fun q => ?_)
        · rcases hb with ⟨y1, y2⟩ | ⟨y1, y2⟩
          · rw [y2] at q; exact absurd q (by decide)
          · exact ⟨Or.inl rfl, rfl, Or.inr ⟨bad (fun z => y1 ⟨z.1, z.2.1⟩), rfl⟩⟩
        rcases hb with ⟨y1, y2⟩ | ⟨y1, y2⟩
        case inr => exact absurd y2 q
        (conv => whnf)
        refine ⟨1, by decide, _, r_alike_336 h tp2 ts2, ?_⟩
        rintro r m' ⟨hmm, hr⟩; have hmm := hmm.symm; subst hmm
        (conv => whnf)
        refine And.intro (fun q2 => ?_) (fun q2 => ?_)
        · rcases hr with ⟨x1, x2⟩ | ⟨x1, x2⟩
          · rw [x2] at q2; exact absurd q2 (by decide)
          · exact ⟨Or.inl rfl, rfl, Or.inr ⟨bad (fun z => x1 z.2.2.1), rfl⟩⟩
        rcases hr with ⟨x1, x2⟩ | ⟨x1, x2⟩
        case inr => exact absurd x2 q2
        (conv => whnf)
        refine And.intro vs ?_
        (conv => whnf)
        refine And.intro (fun q3 => ?_) (fun q3 => ?_)
        · have q3 : bt (nI X) (gI m 164312 (nI (t j)).toNatClampNeg) = 0 := q3
          rw [c10, bt_tb (by have := hX.1; omega) (by omega)] at q3
          obtain ⟨u1, u2⟩ := (hX.2 fa (by omega)).mp q3
          have hC : jdC (vw m) (nI S) wy n t j := ⟨y1.1, y1.2, x1, by rw [fa2]; exact (bt_tb (by omega) (by omega)).mpr u1, fun i hi => by rw [fa2]; exact u2 i hi⟩
          (conv => whnf)
          refine And.intro vs ?_
          (conv => whnf)
          refine And.intro rfl ?_
          have hp : prvI n (j + 1) = j := by unfold prvI; rw [if_neg (by omega)]; rfl
          have e1 : nI X ||| ((1 : Int32) <<< (gI m 164312 (nI (t j)).toNatClampNeg &&& 31)) = nI (X ||| 2 ^ fa) := by rw [c10, shl1 (by omega), nI_or]
          have hp2 : 2 ^ fa < 2 ^ 12 := Nat.pow_lt_pow_right (by decide) (by omega)
          have y := ih (j + 1) (X ||| 2 ^ fa) (.int (nI (t j))) (.int b) (by omega) (fun i hi => by
            by_cases z : i = j
            · rw [z]; exact hC
            · exact hA i (by omega)) ⟨Nat.or_lt_two_pow (n := 12) hX.1 hp2, fun g hg => by
            rw [Nat.testBit_or, Nat.testBit_two_pow, Bool.or_eq_false_iff, hX.2 g hg]
            constructor
            · rintro ⟨⟨z1, z2⟩, z3⟩
              refine ⟨z1, fun i hi => ?_⟩
              by_cases z : i = j
              · rw [z, fa2]
                intro u
                have := nI_inj (by omega) (by omega) u
                rw [this] at z3
                exact absurd z3 (by simp)
              · exact z2 i (by omega)
            · rintro ⟨z1, z2⟩
              refine ⟨⟨z1, fun i hi => z2 i (by omega)⟩, ?_⟩
              have := z2 j (by omega)
              rw [fa2] at this
              have : fa ≠ g := fun u => this (by rw [u])
              simp [this]⟩
          rw [hp, ← e1, ← nI_1] at y
          exact y
        · have q3 : ¬ bt (nI X) (gI m 164312 (nI (t j)).toNatClampNeg) = 0 := q3
          rw [c10, bt_tb (by have := hX.1; omega) (by omega), hX.2 fa (by omega)] at q3
          refine ⟨Or.inl rfl, rfl, Or.inr ⟨bad (fun z => q3 ⟨?_, fun i hi => ?_⟩), rfl⟩⟩
          · have := z.2.2.2.1
            rw [fa2] at this
            exact (bt_tb (by omega) (by omega)).mp this
          · have := z.2.2.2.2 i hi
            rw [fa2] at this
            exact this
      refine At.ls okGo336 80 ⟨_, _, rfl⟩ ?_
      (conv => whnf)
      refine And.intro (fun q => ?_) (fun q => ?_)
      · rw [le_i, nI_toInt (by omega), nI_toInt (by omega)] at q
        omega
      (conv => whnf)
      refine ⟨1, by decide, _, h_saleAt, ?_⟩
      rintro r m' ⟨hmm, hr⟩; have hmm := hmm.symm; subst hmm
      rw [ts1] at hr
      subst hr
      (conv => whnf)
      refine And.intro vp ?_
      (conv => whnf)
      refine And.intro vs ?_
      (conv => whnf)
      refine And.intro (fun q1 => ?_) (fun q1 => ?_)
      · have q1 : ¬ gI m 164328 (nI (t (prvI n j))).toNatClampNeg = gI m 164312 (nI (t j)).toNatClampNeg := q1
        rw [c11, c10] at q1
        (conv => whnf)
        exact And.intro rfl (body 0 (Or.inr ⟨fun z => q1 (by rw [z.1, fa2]), rfl⟩))
      have q1 : gI m 164328 (nI (t (prvI n j))).toNatClampNeg = gI m 164312 (nI (t j)).toNatClampNeg := q1
      rw [c11, c10] at q1
      (conv => whnf)
      refine And.intro (fun q2 => ?_) (fun q2 => ?_)
      · have q2 : nI j = 0 := q2
        have q2 : j = 0 := nI_inj (b := 0) (by omega) (by omega) q2
        (conv => whnf)
        exact And.intro rfl (body 1 (Or.inl ⟨⟨by rw [q1, fa2], Or.inl q2⟩, rfl⟩))
      have q2 : ¬ nI j = 0 := q2
      (conv => whnf)
      refine And.intro vp ?_
      (conv => whnf)
      refine And.intro vs ?_
      (conv => whnf)
      refine And.intro (fun q3 => ?_) (fun q3 => ?_)
      · have q3 : gI m 164392 (nI (t j)).toNatClampNeg < gI m 164392 (nI (t (prvI n j))).toNatClampNeg := q3
        rw [c15, c15p, lt_i] at q3
        (conv => whnf)
        refine And.intro rfl (body 0 (Or.inr ⟨fun z => ?_, rfl⟩))
        rcases z.2 with y | y
        · exact q2 (by rw [y]; rfl)
        · omega
      · have q3 : ¬ gI m 164392 (nI (t j)).toNatClampNeg < gI m 164392 (nI (t (prvI n j))).toNatClampNeg := q3
        rw [c15, c15p, lt_i] at q3
        (conv => whnf)
        exact And.intro rfl (body 1 (Or.inl ⟨⟨by rw [q1, fa2], Or.inr (by omega)⟩, rfl⟩))
  obtain ⟨tn1, tn2⟩ := ht (n - 1) (by omega)
  refine At.gs okGo336 60 ?_
  (conv => whnf)
  refine ⟨1, by decide, _, h_saleAt, ?_⟩
  rintro r m' ⟨hmm, hr⟩; have hmm := hmm.symm; subst hmm
  rw [show nI n - 1 = nI (n - 1) from pk_sub (a := n) (b := 1) (by omega), tn1] at hr
  subst hr
  (conv => whnf)
  refine And.intro rfl ?_
  have y := lp n 0 S .null .null (Nat.zero_add _) (fun i hi => absurd hi (Nat.not_lt_zero _)) ⟨hS, fun g hg => ⟨fun z => ⟨z, fun i hi => absurd hi (Nat.not_lt_zero _)⟩, fun z => z.1⟩⟩
  exact y
set_option maxRecDepth 100000 in
set_option maxHeartbeats 8000000 in
theorem r_judge_336 {nn : Int32} (hM : Mok TYg m) (h : SB 336 m) (hT : ST m) (hc : m.2.2 = (336, 720)) : CI 3 mX6_judge [.ref 6, .int wy, .int nn, .long l] m (fun r m' => m' = m ∧ JdR (vw m) (gI m 1175 39) wy nn l r) := by
  obtain ⟨f, g, c⟩ := m
  obtain rfl : c = (336, 720) := hc
  have hW := h.2.2.2.2.2
  have h40 := hW.1.2.2.2
  have h12 := hW.1.2.2.1
  have e0 : (0 : Int32).toInt = 0 := rfl
  have e1 : (1 : Int32).toInt = 1 := rfl
  have e2 : (2 : Int32).toInt = 2 := rfl
  have e6 : (6 : Int32).toInt = 6 := rfl
  have cs : (gI (f, g, (336, 720)) 452 7).toInt = (vw (f, g, (336, 720))).1 3 := by
    have e2 : gI (f, g, (336, 720)) 452 7 = gI (f, g, (336, 720)) 1175 6 := h.1 3 (by decide)
    rw [e2]; exact vw3 hM
  obtain ⟨S, S1, S2, S3⟩ := areP_nI hT.1 (by omega)
  have hst : gI (f, g, (336, 720)) 6 5 = nI S := by rw [h.2.2.2.1, S3]
  have lp : ∀ n : Nat, nn = nI n → 2 ≤ n → n ≤ 6 → (0 ≤ wy.toInt ∧ wy.toInt ≤ 1) → ∀ (k j : Nat), j + k = n → (∀ i, i < j → 0 ≤ (grp l (nI i)).toInt ∧ (grp l (nI i)).toInt < (vw (f, g, (336, 720))).1 3) → At (E0 3) mX6_judge (qi (fun r m' => m' = (f, g, (336, 720)) ∧ JdR (vw (f, g, (336, 720))) (gI (f, g, (336, 720)) 1175 39) wy nn l r)) 24 [.ref 6, .int wy, .int (nI n), .long l, .null, .int (nI j)] [] (f, g, (336, 720)) := by
    intro n hn n2 n6 hw k
    induction k with
    | zero =>
      intro j hj hA
      obtain rfl : j = n := by omega
      have hnn : nn.toInt.toNat = j := by rw [hn, nI_toInt (by omega)]; rfl
      have hV : jdV (vw (f, g, (336, 720))) wy nn l := ⟨by rw [hn, nI_toInt (by omega)]; omega, hw, by rw [hnn]; exact hA⟩
      refine At.ls okX6_judge 60 ⟨_, _, rfl⟩ ?_
      (conv => whnf)
      refine And.intro (fun q => ?_) (fun q => ?_)
      · (conv => whnf)
        refine ⟨2, by decide, _, (show CI 2 mX4_goRound [.ref 452, .int wy, .int (nI j), .long l, .int (gI (f, g, (336, 720)) 6 5)] (f, g, (336, 720)) (fun r m' => m' = (f, g, (336, 720)) ∧ z1 (jdP (vw (f, g, (336, 720))) (nI S) wy j (tolT l)) r) by
          rw [hst]
          refine r_goRound_336 hM h n2 n6 (fun i hi => ?_) S1
          have := hA i hi
          refine ⟨nI_back ?_, ?_⟩
          · unfold tolT
            rw [clamp_toNat]; omega
          · unfold tolT
            rw [clamp_toNat]; omega), ?_⟩
        rintro r m' ⟨hmm, hr⟩; have hmm := hmm.symm; subst hmm
        (conv => whnf)
        refine And.intro (fun q2 => ?_) (fun q2 => ?_)
        · refine ⟨rfl, Or.inr ⟨hV, ?_⟩⟩
          rw [hnn, S3]
          rcases hr with ⟨y1, y2⟩ | ⟨y1, y2⟩
          · rw [y2] at q2; exact absurd q2 (by decide)
          · exact Or.inr ⟨y1, rfl⟩
        · refine ⟨rfl, Or.inr ⟨hV, ?_⟩⟩
          rw [hnn, S3]
          rcases hr with ⟨y1, y2⟩ | ⟨y1, y2⟩
          · exact Or.inl ⟨y1, rfl⟩
          · exact absurd y2 q2
      · rw [le_i] at q
        omega
    | succ k ih =>
      intro j hj hA
      refine At.ls okX6_judge 60 ⟨_, _, rfl⟩ ?_
      (conv => whnf)
      refine And.intro (fun q => ?_) (fun q => ?_)
      · rw [le_i, nI_toInt (by omega), nI_toInt (by omega)] at q
        omega
      (conv => whnf)
      refine ⟨1, by decide, _, h_saleAt, ?_⟩
      rintro r m' ⟨hmm, hr⟩; have hmm := hmm.symm; subst hmm
      (conv => whnf)
      refine ⟨1, by decide, _, r_has_452, ?_⟩
      rintro r2 m' ⟨hmm, hr2⟩; have hmm := hmm.symm; subst hmm
      rw [cs, hr] at hr2
      (conv => whnf)
      refine And.intro (fun q2 => ?_) (fun q2 => ?_)
      · rcases hr2 with ⟨y1, y2⟩ | ⟨y1, y2⟩
        · (conv => whnf)
          refine And.intro rfl ?_
          have y := ih (j + 1) (by omega) (fun i hi => by
            by_cases z : i = j
            · rw [z]; exact y1
            · exact hA i (by omega))
          rw [← nI_1] at y
          exact y
        · exact absurd y2 q2
      · rcases hr2 with ⟨y1, y2⟩ | ⟨y1, y2⟩
        · rw [y2] at q2; exact absurd q2 (by decide)
        · refine ⟨rfl, Or.inl ⟨fun z => y1 (z.2.2 j ?_), rfl⟩⟩
          rw [hn, nI_toInt (by omega)]
          show j < n
          omega
  refine At.gs okX6_judge 60 ?_
  (conv => whnf)
  refine ⟨1, by decide, _, r_within, ?_⟩
  rintro r m' ⟨hmm, hr⟩; have hmm := hmm.symm; subst hmm
  rw [e2, e6] at hr
  (conv => whnf)
  refine And.intro (fun q => ?_) (fun q => ?_)
  · rcases hr with ⟨y1, y2⟩ | ⟨y1, y2⟩
    · rw [y2] at q; exact absurd q (by decide)
    · exact ⟨rfl, Or.inl ⟨fun z => y1 z.1, rfl⟩⟩
  rcases hr with ⟨y1, y2⟩ | ⟨y1, y2⟩
  case inr => exact absurd y2 q
  (conv => whnf)
  refine ⟨1, by decide, _, r_within, ?_⟩
  rintro r2 m' ⟨hmm, hr2⟩; have hmm := hmm.symm; subst hmm
  rw [e0, e1] at hr2
  (conv => whnf)
  refine And.intro (fun q2 => ?_) (fun q2 => ?_)
  · rcases hr2 with ⟨x1, x2⟩ | ⟨x1, x2⟩
    · have hn : nn = nI nn.toInt.toNat := nI_back (by omega)
      (conv => whnf)
      refine And.intro rfl ?_
      have y := lp nn.toInt.toNat hn (by omega) (by omega) x1 _ 0 (Nat.zero_add _) (fun i hi => absurd hi (Nat.not_lt_zero _))
      rw [← hn] at y
      exact y
    · exact absurd x2 q2
  · rcases hr2 with ⟨x1, x2⟩ | ⟨x1, x2⟩
    · rw [x2] at q2; exact absurd q2 (by decide)
    · exact ⟨rfl, Or.inl ⟨fun z => x1 z.2.1, rfl⟩⟩
end Jg336
section Jg720
variable {m : MM} {st wy : Int32} {l : Int64}
set_option maxRecDepth 100000 in
set_option maxHeartbeats 4000000 in
theorem r_alike_720 {a b : Nat} (h : SB 720 m) (ha : a < (vw m).1 3) (hb : b < (vw m).1 3) : CI 1 mX4_alike [.ref 836, .int wy, .int (nI a), .int (nI b)] m (fun r m' => m' = m ∧ z1 (aliP (vw m) wy a b) r) := by
  have hW := h.2.2.2.2.2
  have h40 := hW.1.2.2.2
  have va : vp_in (nI a) 40 := vp_in_nI (by omega) (by decide)
  have vb : vp_in (nI b) 40 := vp_in_nI (by omega) (by decide)
  have ga : gI m 164744 (nI a).toNatClampNeg = (vw m).2 13 a := by rw [nI_clamp (by omega)]; exact h.2.1 13 (by decide) (by decide) a ha
  have gb : gI m 164744 (nI b).toNatClampNeg = (vw m).2 13 b := by rw [nI_clamp (by omega)]; exact h.2.1 13 (by decide) (by decide) b hb
  have ma : gI m 164792 (nI a).toNatClampNeg = (vw m).2 16 a := by rw [nI_clamp (by omega)]; exact h.2.1 16 (by decide) (by decide) a ha
  have mb : gI m 164792 (nI b).toNatClampNeg = (vw m).2 16 b := by rw [nI_clamp (by omega)]; exact h.2.1 16 (by decide) (by decide) b hb
  refine At.gs okX4_alike 60 ?_
  (conv => whnf)
  refine And.intro va ?_
  (conv => whnf)
  refine And.intro vb ?_
  (conv => whnf)
  refine And.intro (fun q => ?_) (fun q => ?_)
  · have q : ¬ gI m 164744 (nI a).toNatClampNeg = gI m 164744 (nI b).toNatClampNeg := q
    rw [ga, gb] at q
    exact ⟨Or.inl rfl, rfl, Or.inr ⟨fun z => q z.1, rfl⟩⟩
  have q : gI m 164744 (nI a).toNatClampNeg = gI m 164744 (nI b).toNatClampNeg := q
  rw [ga, gb] at q
  (conv => whnf)
  refine And.intro (fun q2 => ?_) (fun q2 => ?_)
  · exact ⟨Or.inr rfl, rfl, Or.inl ⟨⟨q, Or.inl q2⟩, rfl⟩⟩
  (conv => whnf)
  refine And.intro va ?_
  (conv => whnf)
  refine And.intro vb ?_
  (conv => whnf)
  refine And.intro (fun q3 => ?_) (fun q3 => ?_)
  · have q3 : ¬ gI m 164792 (nI a).toNatClampNeg = gI m 164792 (nI b).toNatClampNeg := q3
    rw [ma, mb] at q3
    exact ⟨Or.inl rfl, rfl, Or.inr ⟨fun z => z.2.elim q2 (fun y => q3 y.1), rfl⟩⟩
  have q3 : gI m 164792 (nI a).toNatClampNeg = gI m 164792 (nI b).toNatClampNeg := q3
  rw [ma, mb] at q3
  (conv => whnf)
  refine And.intro va ?_
  (conv => whnf)
  refine And.intro (fun q4 => ?_) (fun q4 => ?_)
  · have q4 : gI m 164792 (nI a).toNatClampNeg = 0 := q4
    rw [ma] at q4
    exact ⟨Or.inl rfl, rfl, Or.inr ⟨fun z => z.2.elim q2 (fun y => y.2 q4), rfl⟩⟩
  · have q4 : ¬ gI m 164792 (nI a).toNatClampNeg = 0 := q4
    rw [ma] at q4
    exact ⟨Or.inr rfl, rfl, Or.inl ⟨⟨q, Or.inr ⟨q3, q4⟩⟩, rfl⟩⟩
def cdGo720 : List CE := stops [74] cdX4_goRound
set_option maxRecDepth 20000 in
theorem okGo720 : CodeOk mX4_goRound cdGo720 := okX4_goRound.st [74] (by rfl)
set_option maxRecDepth 100000 in
set_option maxHeartbeats 8000000 in
theorem r_goRound_720 {n S : Nat} {t : Nat → Nat} (hM : Mok TYg m) (h : SB 720 m) (n2 : 2 ≤ n) (n6 : n ≤ 6) (ht : ∀ i, i < n → grp l (nI i) = nI (t i) ∧ t i < (vw m).1 3) (hS : S < 4096) : CI 2 mX4_goRound [.ref 836, .int wy, .int (nI n), .long l, .int (nI S)] m (fun r m' => m' = m ∧ z1 (jdP (vw m) (nI S) wy n t) r) := by
  have hW := h.2.2.2.2.2
  have h40 := hW.1.2.2.2
  have h12 := hW.1.2.2.1
  have lp : ∀ (k j X : Nat) (v9 v10 : Value), j + k = n → (∀ i, i < j → jdC (vw m) (nI S) wy n t i) → SelI (vw m) S X t j → At (E0 2) mX4_goRound (qi (fun r m' => m' = m ∧ z1 (jdP (vw m) (nI S) wy n t) r)) 16 [.ref 836, .int wy, .int (nI n), .long l, .null, .int (nI S), .int (nI (t (prvI n j))), .int (nI X), .int (nI j), v9, v10] [] m := by
    intro k
    induction k with
    | zero =>
      intro j X v9 v10 hj hA hX
      obtain rfl : j = n := by omega
      refine At.ls okGo720 60 ⟨_, _, rfl⟩ ?_
      (conv => whnf)
      refine And.intro (fun q => ?_) (fun q => ?_)
      · exact ⟨Or.inr rfl, rfl, Or.inl ⟨hA, rfl⟩⟩
      · rw [le_i] at q
        omega
    | succ k ih =>
      intro j X v9 v10 hj hA hX
      have hjn : j < n := by omega
      obtain ⟨ts1, ts2⟩ := ht j hjn
      obtain ⟨tp1, tp2⟩ := ht (prvI n j) (prvI_lt (by omega) hjn)
      obtain ⟨fa, fa1, fa2, fa3⟩ := hW.frm ts2
      have vs : vp_in (nI (t j)) 40 := vp_in_nI (by omega) (by decide)
      have vp : vp_in (nI (t (prvI n j))) 40 := vp_in_nI (by omega) (by decide)
      have c10 : gI m 164696 (nI (t j)).toNatClampNeg = nI fa := by rw [nI_clamp (by omega), ← fa2]; exact h.2.1 10 (by decide) (by decide) _ ts2
      have c11 : gI m 164712 (nI (t (prvI n j))).toNatClampNeg = (vw m).2 11 (t (prvI n j)) := by rw [nI_clamp (by omega)]; exact h.2.1 11 (by decide) (by decide) _ tp2
      have c15 : gI m 164776 (nI (t j)).toNatClampNeg = (vw m).2 15 (t j) := by rw [nI_clamp (by omega)]; exact h.2.1 15 (by decide) (by decide) _ ts2
      have c15p : gI m 164776 (nI (t (prvI n j))).toNatClampNeg = (vw m).2 15 (t (prvI n j)) := by rw [nI_clamp (by omega)]; exact h.2.1 15 (by decide) (by decide) _ tp2
      have bad : ¬ jdC (vw m) (nI S) wy n t j → ¬ jdP (vw m) (nI S) wy n t := fun z y => z (y j hjn)
      have body : ∀ b : Int32, z1 ((vw m).2 11 (t (prvI n j)) = (vw m).2 10 (t j) ∧ (j = 0 ∨ ((vw m).2 15 (t (prvI n j))).toInt ≤ ((vw m).2 15 (t j)).toInt)) b → At (E0 2) mX4_goRound (qi (fun r m' => m' = m ∧ z1 (jdP (vw m) (nI S) wy n t) r)) 74 [.ref 836, .int wy, .int (nI n), .long l, .null, .int (nI S), .int (nI (t (prvI n j))), .int (nI X), .int (nI j), .int (nI (t j)), v10] [.int b] m := by
        intro b hb
        refine At.ls okGo720 80 ⟨_, _, rfl⟩ ?_
        (conv => whnf)
        refine And.intro (fun q => ?_) (fun q => ?_)
        · rcases hb with ⟨y1, y2⟩ | ⟨y1, y2⟩
          · rw [y2] at q; exact absurd q (by decide)
          · exact ⟨Or.inl rfl, rfl, Or.inr ⟨bad (fun z => y1 ⟨z.1, z.2.1⟩), rfl⟩⟩
        rcases hb with ⟨y1, y2⟩ | ⟨y1, y2⟩
        case inr => exact absurd y2 q
        (conv => whnf)
        refine ⟨1, by decide, _, r_alike_720 h tp2 ts2, ?_⟩
        rintro r m' ⟨hmm, hr⟩; have hmm := hmm.symm; subst hmm
        (conv => whnf)
        refine And.intro (fun q2 => ?_) (fun q2 => ?_)
        · rcases hr with ⟨x1, x2⟩ | ⟨x1, x2⟩
          · rw [x2] at q2; exact absurd q2 (by decide)
          · exact ⟨Or.inl rfl, rfl, Or.inr ⟨bad (fun z => x1 z.2.2.1), rfl⟩⟩
        rcases hr with ⟨x1, x2⟩ | ⟨x1, x2⟩
        case inr => exact absurd x2 q2
        (conv => whnf)
        refine And.intro vs ?_
        (conv => whnf)
        refine And.intro (fun q3 => ?_) (fun q3 => ?_)
        · have q3 : bt (nI X) (gI m 164696 (nI (t j)).toNatClampNeg) = 0 := q3
          rw [c10, bt_tb (by have := hX.1; omega) (by omega)] at q3
          obtain ⟨u1, u2⟩ := (hX.2 fa (by omega)).mp q3
          have hC : jdC (vw m) (nI S) wy n t j := ⟨y1.1, y1.2, x1, by rw [fa2]; exact (bt_tb (by omega) (by omega)).mpr u1, fun i hi => by rw [fa2]; exact u2 i hi⟩
          (conv => whnf)
          refine And.intro vs ?_
          (conv => whnf)
          refine And.intro rfl ?_
          have hp : prvI n (j + 1) = j := by unfold prvI; rw [if_neg (by omega)]; rfl
          have e1 : nI X ||| ((1 : Int32) <<< (gI m 164696 (nI (t j)).toNatClampNeg &&& 31)) = nI (X ||| 2 ^ fa) := by rw [c10, shl1 (by omega), nI_or]
          have hp2 : 2 ^ fa < 2 ^ 12 := Nat.pow_lt_pow_right (by decide) (by omega)
          have y := ih (j + 1) (X ||| 2 ^ fa) (.int (nI (t j))) (.int b) (by omega) (fun i hi => by
            by_cases z : i = j
            · rw [z]; exact hC
            · exact hA i (by omega)) ⟨Nat.or_lt_two_pow (n := 12) hX.1 hp2, fun g hg => by
            rw [Nat.testBit_or, Nat.testBit_two_pow, Bool.or_eq_false_iff, hX.2 g hg]
            constructor
            · rintro ⟨⟨z1, z2⟩, z3⟩
              refine ⟨z1, fun i hi => ?_⟩
              by_cases z : i = j
              · rw [z, fa2]
                intro u
                have := nI_inj (by omega) (by omega) u
                rw [this] at z3
                exact absurd z3 (by simp)
              · exact z2 i (by omega)
            · rintro ⟨z1, z2⟩
              refine ⟨⟨z1, fun i hi => z2 i (by omega)⟩, ?_⟩
              have := z2 j (by omega)
              rw [fa2] at this
              have : fa ≠ g := fun u => this (by rw [u])
              simp [this]⟩
          rw [hp, ← e1, ← nI_1] at y
          exact y
        · have q3 : ¬ bt (nI X) (gI m 164696 (nI (t j)).toNatClampNeg) = 0 := q3
          rw [c10, bt_tb (by have := hX.1; omega) (by omega), hX.2 fa (by omega)] at q3
          refine ⟨Or.inl rfl, rfl, Or.inr ⟨bad (fun z => q3 ⟨?_, fun i hi => ?_⟩), rfl⟩⟩
          · have := z.2.2.2.1
            rw [fa2] at this
            exact (bt_tb (by omega) (by omega)).mp this
          · have := z.2.2.2.2 i hi
            rw [fa2] at this
            exact this
      refine At.ls okGo720 80 ⟨_, _, rfl⟩ ?_
      (conv => whnf)
      refine And.intro (fun q => ?_) (fun q => ?_)
      · rw [le_i, nI_toInt (by omega), nI_toInt (by omega)] at q
        omega
      (conv => whnf)
      refine ⟨1, by decide, _, h_saleAt, ?_⟩
      rintro r m' ⟨hmm, hr⟩; have hmm := hmm.symm; subst hmm
      rw [ts1] at hr
      subst hr
      (conv => whnf)
      refine And.intro vp ?_
      (conv => whnf)
      refine And.intro vs ?_
      (conv => whnf)
      refine And.intro (fun q1 => ?_) (fun q1 => ?_)
      · have q1 : ¬ gI m 164712 (nI (t (prvI n j))).toNatClampNeg = gI m 164696 (nI (t j)).toNatClampNeg := q1
        rw [c11, c10] at q1
        (conv => whnf)
        exact And.intro rfl (body 0 (Or.inr ⟨fun z => q1 (by rw [z.1, fa2]), rfl⟩))
      have q1 : gI m 164712 (nI (t (prvI n j))).toNatClampNeg = gI m 164696 (nI (t j)).toNatClampNeg := q1
      rw [c11, c10] at q1
      (conv => whnf)
      refine And.intro (fun q2 => ?_) (fun q2 => ?_)
      · have q2 : nI j = 0 := q2
        have q2 : j = 0 := nI_inj (b := 0) (by omega) (by omega) q2
        (conv => whnf)
        exact And.intro rfl (body 1 (Or.inl ⟨⟨by rw [q1, fa2], Or.inl q2⟩, rfl⟩))
      have q2 : ¬ nI j = 0 := q2
      (conv => whnf)
      refine And.intro vp ?_
      (conv => whnf)
      refine And.intro vs ?_
      (conv => whnf)
      refine And.intro (fun q3 => ?_) (fun q3 => ?_)
      · have q3 : gI m 164776 (nI (t j)).toNatClampNeg < gI m 164776 (nI (t (prvI n j))).toNatClampNeg := q3
        rw [c15, c15p, lt_i] at q3
        (conv => whnf)
        refine And.intro rfl (body 0 (Or.inr ⟨fun z => ?_, rfl⟩))
        rcases z.2 with y | y
        · exact q2 (by rw [y]; rfl)
        · omega
      · have q3 : ¬ gI m 164776 (nI (t j)).toNatClampNeg < gI m 164776 (nI (t (prvI n j))).toNatClampNeg := q3
        rw [c15, c15p, lt_i] at q3
        (conv => whnf)
        exact And.intro rfl (body 1 (Or.inl ⟨⟨by rw [q1, fa2], Or.inr (by omega)⟩, rfl⟩))
  obtain ⟨tn1, tn2⟩ := ht (n - 1) (by omega)
  refine At.gs okGo720 60 ?_
  (conv => whnf)
  refine ⟨1, by decide, _, h_saleAt, ?_⟩
  rintro r m' ⟨hmm, hr⟩; have hmm := hmm.symm; subst hmm
  rw [show nI n - 1 = nI (n - 1) from pk_sub (a := n) (b := 1) (by omega), tn1] at hr
  subst hr
  (conv => whnf)
  refine And.intro rfl ?_
  have y := lp n 0 S .null .null (Nat.zero_add _) (fun i hi => absurd hi (Nat.not_lt_zero _)) ⟨hS, fun g hg => ⟨fun z => ⟨z, fun i hi => absurd hi (Nat.not_lt_zero _)⟩, fun z => z.1⟩⟩
  exact y
set_option maxRecDepth 100000 in
set_option maxHeartbeats 8000000 in
theorem r_judge_720 {nn : Int32} (hM : Mok TYg m) (h : SB 720 m) (hT : ST m) (hc : m.2.2 = (720, 336)) : CI 3 mX6_judge [.ref 6, .int wy, .int nn, .long l] m (fun r m' => m' = m ∧ JdR (vw m) (gI m 1175 39) wy nn l r) := by
  obtain ⟨f, g, c⟩ := m
  obtain rfl : c = (720, 336) := hc
  have hW := h.2.2.2.2.2
  have h40 := hW.1.2.2.2
  have h12 := hW.1.2.2.1
  have e0 : (0 : Int32).toInt = 0 := rfl
  have e1 : (1 : Int32).toInt = 1 := rfl
  have e2 : (2 : Int32).toInt = 2 := rfl
  have e6 : (6 : Int32).toInt = 6 := rfl
  have cs : (gI (f, g, (720, 336)) 836 7).toInt = (vw (f, g, (720, 336))).1 3 := by
    have e2 : gI (f, g, (720, 336)) 836 7 = gI (f, g, (720, 336)) 1175 6 := h.1 3 (by decide)
    rw [e2]; exact vw3 hM
  obtain ⟨S, S1, S2, S3⟩ := areP_nI hT.1 (by omega)
  have hst : gI (f, g, (720, 336)) 6 5 = nI S := by rw [h.2.2.2.1, S3]
  have lp : ∀ n : Nat, nn = nI n → 2 ≤ n → n ≤ 6 → (0 ≤ wy.toInt ∧ wy.toInt ≤ 1) → ∀ (k j : Nat), j + k = n → (∀ i, i < j → 0 ≤ (grp l (nI i)).toInt ∧ (grp l (nI i)).toInt < (vw (f, g, (720, 336))).1 3) → At (E0 3) mX6_judge (qi (fun r m' => m' = (f, g, (720, 336)) ∧ JdR (vw (f, g, (720, 336))) (gI (f, g, (720, 336)) 1175 39) wy nn l r)) 24 [.ref 6, .int wy, .int (nI n), .long l, .null, .int (nI j)] [] (f, g, (720, 336)) := by
    intro n hn n2 n6 hw k
    induction k with
    | zero =>
      intro j hj hA
      obtain rfl : j = n := by omega
      have hnn : nn.toInt.toNat = j := by rw [hn, nI_toInt (by omega)]; rfl
      have hV : jdV (vw (f, g, (720, 336))) wy nn l := ⟨by rw [hn, nI_toInt (by omega)]; omega, hw, by rw [hnn]; exact hA⟩
      refine At.ls okX6_judge 60 ⟨_, _, rfl⟩ ?_
      (conv => whnf)
      refine And.intro (fun q => ?_) (fun q => ?_)
      · (conv => whnf)
        refine ⟨2, by decide, _, (show CI 2 mX4_goRound [.ref 836, .int wy, .int (nI j), .long l, .int (gI (f, g, (720, 336)) 6 5)] (f, g, (720, 336)) (fun r m' => m' = (f, g, (720, 336)) ∧ z1 (jdP (vw (f, g, (720, 336))) (nI S) wy j (tolT l)) r) by
          rw [hst]
          refine r_goRound_720 hM h n2 n6 (fun i hi => ?_) S1
          have := hA i hi
          refine ⟨nI_back ?_, ?_⟩
          · unfold tolT
            rw [clamp_toNat]; omega
          · unfold tolT
            rw [clamp_toNat]; omega), ?_⟩
        rintro r m' ⟨hmm, hr⟩; have hmm := hmm.symm; subst hmm
        (conv => whnf)
        refine And.intro (fun q2 => ?_) (fun q2 => ?_)
        · refine ⟨rfl, Or.inr ⟨hV, ?_⟩⟩
          rw [hnn, S3]
          rcases hr with ⟨y1, y2⟩ | ⟨y1, y2⟩
          · rw [y2] at q2; exact absurd q2 (by decide)
          · exact Or.inr ⟨y1, rfl⟩
        · refine ⟨rfl, Or.inr ⟨hV, ?_⟩⟩
          rw [hnn, S3]
          rcases hr with ⟨y1, y2⟩ | ⟨y1, y2⟩
          · exact Or.inl ⟨y1, rfl⟩
          · exact absurd y2 q2
      · rw [le_i] at q
        omega
    | succ k ih =>
      intro j hj hA
      refine At.ls okX6_judge 60 ⟨_, _, rfl⟩ ?_
      (conv => whnf)
      refine And.intro (fun q => ?_) (fun q => ?_)
      · rw [le_i, nI_toInt (by omega), nI_toInt (by omega)] at q
        omega
      (conv => whnf)
      refine ⟨1, by decide, _, h_saleAt, ?_⟩
      rintro r m' ⟨hmm, hr⟩; have hmm := hmm.symm; subst hmm
      (conv => whnf)
      refine ⟨1, by decide, _, r_has_836, ?_⟩
      rintro r2 m' ⟨hmm, hr2⟩; have hmm := hmm.symm; subst hmm
      rw [cs, hr] at hr2
      (conv => whnf)
      refine And.intro (fun q2 => ?_) (fun q2 => ?_)
      · rcases hr2 with ⟨y1, y2⟩ | ⟨y1, y2⟩
        · (conv => whnf)
          refine And.intro rfl ?_
          have y := ih (j + 1) (by omega) (fun i hi => by
            by_cases z : i = j
            · rw [z]; exact y1
            · exact hA i (by omega))
          rw [← nI_1] at y
          exact y
        · exact absurd y2 q2
      · rcases hr2 with ⟨y1, y2⟩ | ⟨y1, y2⟩
        · rw [y2] at q2; exact absurd q2 (by decide)
        · refine ⟨rfl, Or.inl ⟨fun z => y1 (z.2.2 j ?_), rfl⟩⟩
          rw [hn, nI_toInt (by omega)]
          show j < n
          omega
  refine At.gs okX6_judge 60 ?_
  (conv => whnf)
  refine ⟨1, by decide, _, r_within, ?_⟩
  rintro r m' ⟨hmm, hr⟩; have hmm := hmm.symm; subst hmm
  rw [e2, e6] at hr
  (conv => whnf)
  refine And.intro (fun q => ?_) (fun q => ?_)
  · rcases hr with ⟨y1, y2⟩ | ⟨y1, y2⟩
    · rw [y2] at q; exact absurd q (by decide)
    · exact ⟨rfl, Or.inl ⟨fun z => y1 z.1, rfl⟩⟩
  rcases hr with ⟨y1, y2⟩ | ⟨y1, y2⟩
  case inr => exact absurd y2 q
  (conv => whnf)
  refine ⟨1, by decide, _, r_within, ?_⟩
  rintro r2 m' ⟨hmm, hr2⟩; have hmm := hmm.symm; subst hmm
  rw [e0, e1] at hr2
  (conv => whnf)
  refine And.intro (fun q2 => ?_) (fun q2 => ?_)
  · rcases hr2 with ⟨x1, x2⟩ | ⟨x1, x2⟩
    · have hn : nn = nI nn.toInt.toNat := nI_back (by omega)
      (conv => whnf)
      refine And.intro rfl ?_
      have y := lp nn.toInt.toNat hn (by omega) (by omega) x1 _ 0 (Nat.zero_add _) (fun i hi => absurd hi (Nat.not_lt_zero _))
      rw [← hn] at y
      exact y
    · exact absurd x2 q2
  · rcases hr2 with ⟨x1, x2⟩ | ⟨x1, x2⟩
    · rw [x2] at q2; exact absurd q2 (by decide)
    · exact ⟨rfl, Or.inl ⟨fun z => x1 z.2.1, rfl⟩⟩
end Jg720
