/-! the class's streams: the way home, its narrowest piece -/
def spV (m : MM) (k a b : Nat) : Int := if a / 2 = b / 2 then (if a < b then (gI m 164104 (a / 2)).toInt - (gI m 164120 (a / 2)).toInt else (gI m 164120 (a / 2)).toInt) else if a % 2 = 0 then (gI m 6553896 (b / 2 * k + a / 2)).toInt else 999
/-- numbers and what is carried, in their ranges -/
def CrR (m : MM) (k : Nat) : Prop := ∀ j, j < k → (0 ≤ (gI m 164104 j).toInt ∧ (gI m 164104 j).toInt ≤ 999) ∧ 0 ≤ (gI m 164120 j).toInt ∧ (gI m 164120 j).toInt ≤ 999
section Xi
variable {m m0 : MM} {k : Nat} {hm : Int32}
set_option maxRecDepth 100000 in
set_option maxHeartbeats 4000000 in
theorem r_space {a b : Nat} (hk : k ≤ 40) (e8 : gI m 197 8 = nI k) (ha : a < 2 * k) (hb : b < 2 * k) (hr : CrR m k) : CI 1 mX5_space [.ref 197, .int (nI a), .int (nI b)] m (fun r m' => m' = m ∧ r.toInt = spV m k a b) := by
  have qa : nI a / 2 = nI (a / 2) := pk_div (a := a) (d := 2) (by omega) (by decide) (by decide)
  have qb : nI b / 2 = nI (b / 2) := pk_div (a := b) (d := 2) (by omega) (by decide) (by decide)
  have ra : nI a - nI a / 2 * 2 = nI (a % 2) := pk_rem (a := a) (d := 2) (by omega) (by decide) (by decide)
  have va : vp_in (nI a / 2) 40 := by rw [qa]; exact vp_in_nI (by omega) (by decide)
  have ca : (nI a / 2).toNatClampNeg = a / 2 := by rw [qa]; exact nI_clamp (by omega)
  have hin : b / 2 * k + a / 2 < 1600 := by
    have : b / 2 * k ≤ 39 * 40 := Nat.mul_le_mul (by omega) hk
    omega
  have ex : nI b / 2 * gI m 197 8 + nI a / 2 = nI (b / 2 * k + a / 2) := by rw [e8, qa, qb, pk_mul, nI_add]
  refine At.gs okX5_space 80 ?_
  (conv => whnf)
  refine And.intro (show ¬ (2 : Int32) = 0 by decide) ?_
  (conv => whnf)
  refine And.intro (show ¬ (2 : Int32) = 0 by decide) ?_
  (conv => whnf)
  refine And.intro (fun p => ?_) (fun p => ?_)
  · have p : ¬ nI a / 2 = nI b / 2 := p
    have hne : ¬ a / 2 = b / 2 := fun z => p (by rw [qa, qb, z])
    (conv => whnf)
    refine And.intro (show ¬ (2 : Int32) = 0 by decide) ?_
    (conv => whnf)
    refine And.intro (fun p2 => ?_) (fun p2 => ?_)
    · have p2 : ¬ nI a - nI a / 2 * 2 = 0 := p2
      rw [ra] at p2
      have odd : ¬ a % 2 = 0 := fun z => p2 (by rw [z]; rfl)
      refine ⟨rfl, ?_⟩
      unfold spV
      rw [if_neg hne, if_neg odd]
      rfl
    · have p2 : nI a - nI a / 2 * 2 = 0 := p2
      rw [ra] at p2
      have even : a % 2 = 0 := by
        rcases Nat.mod_two_eq_zero_or_one a with z | z
        · exact z
        · rw [z] at p2; exact absurd p2 (by decide)
      (conv => whnf)
      refine And.intro (show vp_in (nI b / 2 * gI m 197 8 + nI a / 2) 1600 by rw [ex]; exact vp_in_nI hin (by decide)) ?_
      refine ⟨rfl, ?_⟩
      unfold spV
      rw [if_neg hne, if_pos even, ex, nI_clamp (by omega)]
  · have p : nI a / 2 = nI b / 2 := p
    have heq : a / 2 = b / 2 := by rw [qa, qb] at p; exact nI_inj (by omega) (by omega) p
    (conv => whnf)
    refine And.intro (fun p2 => ?_) (fun p2 => ?_)
    · have p2 : nI b ≤ nI a := p2
      rw [le_i, nI_toInt (by omega), nI_toInt (by omega)] at p2
      (conv => whnf)
      refine And.intro va ?_
      refine ⟨rfl, ?_⟩
      unfold spV
      rw [if_pos heq, if_neg (by omega), ca]
    · have p2 : ¬ nI b ≤ nI a := p2
      rw [le_i, nI_toInt (by omega), nI_toInt (by omega)] at p2
      have h := hr (a / 2) (by omega)
      (conv => whnf)
      refine And.intro va ?_
      (conv => whnf)
      refine And.intro va ?_
      refine ⟨rfl, ?_⟩
      unfold spV
      rw [if_pos heq, if_pos (by omega), ca]
      exact tI_sub (by unfold i32lo; omega) (by unfold i32hi; omega)
/-- a way back from l -/
def p5 (m : MM) (l : Nat) : Nat → Nat
  | 0 => l
  | i + 1 => (gI m 327992 (p5 m l i)).toNatClampNeg
theorem p5_s {l : Nat} : ∀ i, p5 m l (i + 1) = p5 m (gI m 327992 l).toNatClampNeg i
  | 0 => rfl
  | i + 1 => by
    show (gI m 327992 (p5 m l (i + 1))).toNatClampNeg = (gI m 327992 (p5 m (gI m 327992 l).toNatClampNeg i)).toNatClampNeg
    rw [p5_s i]
def PtR (m0 m : MM) (k : Nat) (hm : Int32) (l N : Nat) : Prop := (∀ i, i ≤ N → p5 m l i < 2 * k) ∧ (∀ i, i < N → gI m 327992 (p5 m l i) = nI (p5 m l (i + 1)) ∧ Eg m0 k hm (p5 m l (i + 1)) (p5 m l i)) ∧ gI m 327992 (p5 m l N) = -2 ∧ Sr m0 k hm (p5 m l N) ∧ ∃ pos : Nat → Nat, (∀ i j, i < j → j ≤ N → pos (p5 m l j) < pos (p5 m l i)) ∧ N ≤ pos l
theorem PtR_of {pos : Nat → Nat} (hk : k ≤ 40) (h : ∀ v, v < 2 * k → gI m 327992 v ≠ -1 → (gI m 327992 v = -2 ∧ Sr m0 k hm v) ∨ ∃ u, u < 2 * k ∧ gI m 327992 v = nI u ∧ gI m 327992 u ≠ -1 ∧ pos u < pos v ∧ Eg m0 k hm u v) :
    ∀ n l, pos l = n → l < 2 * k → gI m 327992 l ≠ -1 → ∃ N, (∀ i, i ≤ N → p5 m l i < 2 * k) ∧ (∀ i, i < N → gI m 327992 (p5 m l i) = nI (p5 m l (i + 1)) ∧ Eg m0 k hm (p5 m l (i + 1)) (p5 m l i)) ∧ gI m 327992 (p5 m l N) = -2 ∧ Sr m0 k hm (p5 m l N) ∧ (∀ i j, i < j → j ≤ N → pos (p5 m l j) < pos (p5 m l i)) ∧ N ≤ pos l := by
  intro n
  induction n using Nat.strongRecOn with
  | ind n ih =>
    intro l hn hl hc
    rcases h l hl hc with ⟨z, zs⟩ | ⟨u, u1, u2, u3, u4, u5⟩
    · refine ⟨0, fun i hi => by rw [show i = 0 by omega]; exact hl, fun i hi => absurd hi (Nat.not_lt_zero _), z, zs, fun i j hij hj => by omega, by omega⟩
    · obtain ⟨N, a1, a2, a3, a4, a5, a6⟩ := ih (pos u) (by omega) u rfl u1 u3
      have uc : (gI m 327992 l).toNatClampNeg = u := by rw [u2]; exact nI_clamp (by omega)
      have sh : ∀ i, p5 m l (i + 1) = p5 m u i := fun i => by rw [p5_s, uc]
      refine ⟨N + 1, fun i hi => ?_, fun i hi => ?_, by rw [sh]; exact a3, by rw [sh]; exact a4, fun i j hij hj => ?_, by omega⟩
      · cases i with
        | zero => exact hl
        | succ i => rw [sh]; exact a1 i (by omega)
      · cases i with
        | zero =>
          rw [sh 0]
          exact ⟨u2, u5⟩
        | succ i => rw [sh, sh]; exact a2 i (by omega)
      · cases j with
        | zero => omega
        | succ j =>
          rw [sh]
          cases i with
          | zero =>
            show pos (p5 m u j) < pos l
            cases j with
            | zero => exact u4
            | succ j =>
              have := a5 0 (j + 1) (by omega) (by omega)
              have e : p5 m u 0 = u := rfl
              rw [e] at this
              omega
          | succ i => rw [sh]; exact a5 i j (by omega) (by omega)
theorem BQ.way {q l : Nat} (hk : k ≤ 40) (h : BQ m0 k k hm m q) (hl : l < 2 * k) (hc : gI m 327992 l ≠ -1) : ∃ N, N < 80 ∧ PtR m0 m k hm l N := by
  obtain ⟨h1, h2, h3, h4, pos, h5⟩ := h
  obtain ⟨N, a1, a2, a3, a4, a5, a6⟩ := PtR_of (pos := pos) hk (fun v hv hcv => (h5 v hv hcv).2) (pos l) l rfl hl hc
  have := (h5 l hl hc).1
  exact ⟨N, by omega, a1, a2, a3, a4, pos, a5, a6⟩
set_option maxRecDepth 100000 in
set_option maxHeartbeats 4000000 in
theorem r_narrow {l N : Nat} (hk : k ≤ 40) (e8 : gI m 197 8 = nI k) (hr : CrR m k) (hN : N < 80) (hP : PtR m0 m k hm l N) (hpos : ∀ i, i < N → 1 ≤ spV m k (p5 m l (i + 1)) (p5 m l i)) : CI 2 mX5_narrowest [.ref 197, .int (nI l)] m (fun r m' => m' = m ∧ 1 ≤ r.toInt ∧ r.toInt ≤ 999 ∧ ∀ i, i < N → r.toInt ≤ spV m k (p5 m l (i + 1)) (p5 m l i)) := by
  have e0 : (0 : Int32).toInt = 0 := rfl
  have e80 : (80 : Int32).toInt = 80 := rfl
  have e999 : (999 : Int32).toInt = 999 := rfl
  have lp : ∀ (d i : Nat) (le : Int32), i + d = N → 1 ≤ le.toInt → le.toInt ≤ 999 → (∀ j, j < i → le.toInt ≤ spV m k (p5 m l (j + 1)) (p5 m l j)) → At (E0 2) mX5_narrowest (qi (fun r m' => m' = m ∧ 1 ≤ r.toInt ∧ r.toInt ≤ 999 ∧ ∀ i, i < N → r.toInt ≤ spV m k (p5 m l (i + 1)) (p5 m l i))) 9 [.ref 197, .int (nI l), .int le, .int (nI (p5 m l i)), .int (nI i)] [] m := by
    intro d
    induction d with
    | zero =>
      intro i le hi l1 l9 hh
      have hi : i = N := by omega
      have pb := hP.1 i (by omega)
      have vn : vp_in (nI (p5 m l i)) 80 := vp_in_nI (by omega) (by decide)
      refine At.ls okX5_narrowest 60 ⟨_, _, rfl⟩ ?_
      (conv => whnf)
      refine And.intro (fun p => ?_) (fun p => ?_)
      · have p : (80 : Int32) ≤ nI i := p
        rw [le_i, e80, nI_toInt (by omega)] at p
        omega
      (conv => whnf)
      refine And.intro vn ?_
      (conv => whnf)
      refine And.intro (fun p2 => ?_) (fun p2 => ?_)
      · exact ⟨rfl, l1, l9, fun j hj => hh j (by omega)⟩
      · have p2 : ¬ gI m 327992 (nI (p5 m l i)).toNatClampNeg < 0 := p2
        rw [nI_clamp (by omega), hi, hP.2.2.1] at p2
        exact absurd (show (-2 : Int32) < 0 by decide) p2
    | succ d ih =>
      intro i le hi l1 l9 hh
      have pb := hP.1 i (by omega)
      have pc := hP.1 (i + 1) (by omega)
      have pe := (hP.2.1 i (by omega)).1
      have vn : vp_in (nI (p5 m l i)) 80 := vp_in_nI (by omega) (by decide)
      have nc : (nI (p5 m l i)).toNatClampNeg = p5 m l i := nI_clamp (by omega)
      have ec : gI m 327992 (nI (p5 m l i)).toNatClampNeg = nI (p5 m l (i + 1)) := by rw [nc]; exact pe
      have hs := r_space (m := m) (a := p5 m l (i + 1)) (b := p5 m l i) hk e8 pc pb hr
      rw [← ec] at hs
      have hp1 := hpos i (by omega)
      refine At.ls okX5_narrowest 100 ⟨_, _, rfl⟩ ?_
      (conv => whnf)
      refine And.intro (fun p => ?_) (fun p => ?_)
      · have p : (80 : Int32) ≤ nI i := p
        rw [le_i, e80, nI_toInt (by omega)] at p
        omega
      (conv => whnf)
      refine And.intro vn ?_
      (conv => whnf)
      refine And.intro (fun p2 => ?_) (fun p2 => ?_)
      · have p2 : gI m 327992 (nI (p5 m l i)).toNatClampNeg < 0 := p2
        rw [ec, lt_i, e0, nI_toInt (by omega)] at p2
        omega
      (conv => whnf)
      refine And.intro vn ?_
      (conv => whnf)
      refine ⟨1, by decide, _, hs, ?_⟩
      rintro sp m' ⟨hmm, hsp⟩; have hmm := hmm.symm; subst hmm
      have z := ih (i + 1) (if sp < le then sp else le) (by omega) (by split <;> omega) (by
        have hlt := @lt_i sp le
        split
        · rename_i hh2
          rw [hlt] at hh2
          omega
        · omega) (fun j hj => by
        have hlt := @lt_i sp le
        by_cases y : j = i
        · rw [y, ← hsp]
          split
          · omega
          · rename_i hh2
            rw [hlt] at hh2
            omega
        · have := hh j (by omega)
          split
          · rename_i hh2
            rw [hlt] at hh2
            omega
          · exact this)
      rw [show nI (i + 1) = nI i + 1 from (nI_1 i).symm, ← ec] at z
      (conv => whnf)
      refine And.intro vn ?_
      (conv => whnf)
      exact And.intro rfl z
  refine At.gs okX5_narrowest 60 ?_
  (conv => whnf)
  exact And.intro rfl (lp N 0 999 (by omega) (by decide) (by decide) (fun j hj => absurd hj (Nat.not_lt_zero _)))
end Xi
