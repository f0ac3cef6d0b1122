/-! what holds of the fresh memory -/
theorem lkO_0 {a k : Nat} : ∀ (l : List ((Nat × Nat) × (Int × Int))), (l.all (fun q => decide (q.2.1 ≤ 0) && decide (0 ≤ q.2.2))) = true → (lkO a k l).1 ≤ 0 ∧ 0 ≤ (lkO a k l).2
  | [], _ => ⟨show i32lo ≤ 0 by decide, show (0 : Int) ≤ i32hi by decide⟩
  | q :: r, h => by
    rw [List.all_cons, Bool.and_eq_true] at h
    unfold lkO
    split
    · have h1 := h.1
      simp only [Bool.and_eq_true, decide_eq_true_eq] at h1
      exact h1
    · exact lkO_0 r h.2
theorem lkA_0 {a : Nat} : ∀ (l : List (Nat × (Int × Int))), (l.all (fun q => decide (q.2.1 ≤ 0) && decide (0 ≤ q.2.2))) = true → (lkA a l).1 ≤ 0 ∧ 0 ≤ (lkA a l).2
  | [], _ => ⟨show i32lo ≤ 0 by decide, show (0 : Int) ≤ i32hi by decide⟩
  | q :: r, h => by
    rw [List.all_cons, Bool.and_eq_true] at h
    unfold lkA
    split
    · have h1 := h.1
      simp only [Bool.and_eq_true, decide_eq_true_eq] at h1
      exact h1
    · exact lkA_0 r h.2
theorem PK0 : PK 0 := by
  intro j hj
  rcases (show j = 0 ∨ j = 1 ∨ j = 2 ∨ j = 3 ∨ j = 4 ∨ j = 5 ∨ j = 6 by omega) with rfl | rfl | rfl | rfl | rfl | rfl | rfl <;> decide
theorem Mok0 : Mok TYg m0 := by
  refine ⟨fun a k => ?_, fun k => PK0⟩
  have base : (tyF TYg.1 TYg.2 a k).1 ≤ 0 ∧ 0 ≤ (tyF TYg.1 TYg.2 a k).2 := by
    unfold tyF
    split
    · exact lkO_0 tyOL (by decide)
    · exact lkA_0 tyAL (by decide)
  have z : (0 : Int32).toInt = 0 := rfl
  show _ ≤ (f0 a k).toInt ∧ (f0 a k).toInt ≤ _
  unfold f0
  by_cases h1 : a = 19
  · subst h1
    by_cases h2 : k = 3
    · subst h2
      decide
    · rw [if_pos rfl, if_neg h2, z]
      exact base
  · rw [if_neg h1]
    by_cases h3 : a = 1175
    · subst h3
      by_cases h2 : k = 38
      · subst h2
        decide
      · rw [if_pos rfl, if_neg h2, z]
        exact base
    · rw [if_neg h3, z]
      exact base
theorem vw0 (k : Nat) : (vw m0).1 k = 0 := by
  show (gI m0 1175 (cntM k)).toInt.toNat = 0
  unfold cntM
  split <;> rfl
theorem SR0 : SR m0 := by
  refine ⟨⟨fun k hk => ?_, fun r hr h9 i hi => absurd hi (by rw [vw0]; exact Nat.not_lt_zero _), rfl, rfl, rfl, ⟨?_, fun l hl => absurd hl (by rw [vw0]; exact Nat.not_lt_zero _), fun l hl => absurd hl (by rw [vw0]; exact Nat.not_lt_zero _), fun l hl => absurd hl (by rw [vw0]; exact Nat.not_lt_zero _)⟩⟩, ?_, fun f => f, ⟨fun f _ => Nat.le_refl _, fun a b ha => absurd ha (by rw [vw0]; exact Nat.not_lt_zero _), fun q _ f _ => rfl⟩, fun f hf => absurd hf (by rw [vw0]; exact Nat.not_lt_zero _)⟩
  · rcases (by omega : k = 0 ∨ k = 1 ∨ k = 2 ∨ k = 3) with rfl | rfl | rfl | rfl <;> rfl
  · rw [vw0, vw0, vw0, vw0]
    omega
  · unfold ST areP
    rw [vw0, vw0]
    exact ⟨⟨by decide, by decide⟩, by decide, by decide⟩
theorem LI0 : LI m0 := ⟨Mok0, Or.inl rfl, rfl, by decide, fun i hi => absurd hi (by show ¬ (i : Int) < 0; omega), ⟨rfl, rfl⟩, SR0.1, SR0.2.1, SR0.2.2, FMm.none rfl⟩
