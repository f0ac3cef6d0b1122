/-! by hand: the walk with names -/
def Stq (pc : Nat) (q : Prop) : Prop := pc = pc ∧ q
section HandGo
variable {E : EE} {μ : MI} {P : QQ} {full : List CE}
theorem At.gs (hF : CodeOk μ full) (n : Nat) {pc : Nat} {ls st : List Value} {m : MM} (h : sx E P (fun pc ls st m => Stq pc (At E μ P pc ls st m)) full n (seek pc full) ls st m) : At E μ P pc ls st m :=
  fun p l e R s mid args below meth c dC dI dA ad b A C0 S0 Qf hC hR => AtC.go hF hC hR (fun _ _ _ _ h => h.2 p l e R s mid args below meth c dC dI dA ad b A C0 S0 Qf hC hR) n h
theorem At.ls (hF : CodeOk μ full) (n : Nat) {pc : Nat} {ls st : List Value} {m : MM} (hz : ∃ o r, seek pc full = (pc, 0, o) :: r) (h : sx E P (fun pc ls st m => Stq pc (At E μ P pc ls st m)) full n (seek pc full).tail ls st m) : At E μ P pc ls st m :=
  fun p l e R s mid args below meth c dC dI dA ad b A C0 S0 Qf hC hR => AtC.lp hF hC hR (fun _ _ _ _ h => h.2 p l e R s mid args below meth c dC dI dA ad b A C0 S0 Qf hC hR) n hz h
end HandGo
theorem CI.mono {d : Nat} {μ : MI} {as : List Value} {m : MM} {P P' : Int32 → MM → Prop} (h : CI d μ as m P) (hp : ∀ x m', P x m' → P' x m') : CI d μ as m P' := At.mono h (fun r m' q => by
  unfold qi at q ⊢
  split at q
  · exact hp _ _ q
  · exact q.elim)
theorem CV.mono {d : Nat} {μ : MI} {as : List Value} {m : MM} {P P' : MM → Prop} (h : CV d μ as m P) (hp : ∀ m', P m' → P' m') : CV d μ as m P' := At.mono h (fun r m' q => by
  unfold qv at q ⊢
  split at q
  · exact hp _ q
  · exact q.elim)
/-- what found says -/
def FdR (m : MM) (a fr : Nat) (mn nm r : Int32) : Prop := (r.toInt = -1 ∧ ∀ j : Nat, (j : Int) < mn.toInt → gI m a (fr + j) ≠ nm) ∨ (0 ≤ r.toInt ∧ r.toInt < mn.toInt ∧ gI m a (fr + r.toInt.toNat) = nm)
theorem tI_1 : (1 : Int32).toInt = 1 := rfl
theorem inc1 {k : Int32} (h : k.toInt < 2147483647) : (k + 1).toInt = k.toInt + 1 := by
  have h1 := tI_lo k
  unfold i32lo at h1
  have := tI_add (x := k) (y := 1) (by rw [tI_1]; unfold i32lo; omega) (by rw [tI_1]; unfold i32hi; omega)
  rw [this, tI_1]
theorem lt_i {x y : Int32} : x < y ↔ x.toInt < y.toInt := Int32.lt_iff_toInt_lt
theorem le_i {x y : Int32} : x ≤ y ↔ x.toInt ≤ y.toInt := Int32.le_iff_toInt_le
set_option maxRecDepth 100000 in
set_option maxHeartbeats 4000000 in
theorem hfd_42168 {m : MM} {mn nm : Int32} (h0 : 0 ≤ mn.toInt) (h1 : mn.toInt ≤ 5) : CI 1 mX7_found [.ref 42168, .int 5, .int mn, .int nm] m (fun r m' => m' = m ∧ FdR m 42168 5 mn nm r) := by
  have lp : ∀ (n : Nat) (k : Int32), 0 ≤ k.toInt → k.toInt ≤ mn.toInt → (mn.toInt - k.toInt).toNat = n → (∀ j : Nat, (j : Int) < k.toInt → gI m 42168 (5 + j) ≠ nm) → At (E0 1) mX7_found (qi (fun r m' => m' = m ∧ FdR m 42168 5 mn nm r)) 3 [.ref 42168, .int 5, .int mn, .int nm, .int k] [] m := by
    intro n
    induction n with
    | zero =>
      intro k k0 k1 hn hall
      refine At.ls okX7_found 40 ⟨_, _, rfl⟩ ?_
      (conv => whnf)
      refine And.intro (fun h => ?_) (fun h => ?_)
      · exact ⟨rfl, Or.inl ⟨rfl, fun j hj => hall j (by rw [le_i] at h; omega)⟩⟩
      · exact absurd (le_i.mpr (by omega)) h
    | succ n ih =>
      intro k k0 k1 hn hall
      refine At.ls okX7_found 40 ⟨_, _, rfl⟩ ?_
      (conv => whnf)
      refine And.intro (fun h => ?_) (fun h => ?_)
      · exact ⟨rfl, Or.inl ⟨rfl, fun j hj => hall j (by rw [le_i] at h; omega)⟩⟩
      · rw [le_i] at h
        have e5 : ((5 : Int32) + k).toInt = 5 + k.toInt := by
          have e0 : (5 : Int32).toInt = 5 := rfl
          have := tI_add (x := 5) (y := k) (by rw [e0]; unfold i32lo; omega) (by rw [e0]; unfold i32hi; omega)
          rw [this, e0]
        have ex : ((5 : Int32) + k).toNatClampNeg = 5 + k.toInt.toNat := by
          show ((5 : Int32) + k).toInt.toNat = _
          rw [e5]; omega
        (conv => whnf)
        refine And.intro (vp_in_iff.mpr ⟨by rw [e5]; omega, by rw [e5]; omega⟩) ?_
        (conv => whnf)
        refine And.intro (fun h2 => ?_) (fun h2 => ?_)
        · (conv => whnf)
          refine And.intro rfl (ih (k + 1) ?_ ?_ ?_ ?_)
          · rw [inc1 (by omega)]; omega
          · rw [inc1 (by omega)]; omega
          · rw [inc1 (by omega)]; omega
          · intro j hj
            rw [inc1 (by omega)] at hj
            by_cases hjk : (j : Int) < k.toInt
            · exact hall j hjk
            · have hje : j = k.toInt.toNat := by omega
              rw [hje, ← ex]
              exact h2
        · refine ⟨rfl, Or.inr ⟨k0, by omega, ?_⟩⟩
          rw [← ex]
          exact h2
  refine At.gs okX7_found 40 ?_
  (conv => whnf)
  exact And.intro rfl (lp _ 0 (Int.le_refl _) h0 rfl (fun j hj => by
    have e0 : (0 : Int32).toInt = 0 := rfl
    rw [e0] at hj
    omega))
set_option maxRecDepth 100000 in
set_option maxHeartbeats 4000000 in
theorem hfd_34008 {m : MM} {mn nm : Int32} (h0 : 0 ≤ mn.toInt) (h1 : mn.toInt ≤ 4) : CI 1 mX7_found [.ref 34008, .int 4, .int mn, .int nm] m (fun r m' => m' = m ∧ FdR m 34008 4 mn nm r) := by
  have lp : ∀ (n : Nat) (k : Int32), 0 ≤ k.toInt → k.toInt ≤ mn.toInt → (mn.toInt - k.toInt).toNat = n → (∀ j : Nat, (j : Int) < k.toInt → gI m 34008 (4 + j) ≠ nm) → At (E0 1) mX7_found (qi (fun r m' => m' = m ∧ FdR m 34008 4 mn nm r)) 3 [.ref 34008, .int 4, .int mn, .int nm, .int k] [] m := by
    intro n
    induction n with
    | zero =>
      intro k k0 k1 hn hall
      refine At.ls okX7_found 40 ⟨_, _, rfl⟩ ?_
      (conv => whnf)
      refine And.intro (fun h => ?_) (fun h => ?_)
      · exact ⟨rfl, Or.inl ⟨rfl, fun j hj => hall j (by rw [le_i] at h; omega)⟩⟩
      · exact absurd (le_i.mpr (by omega)) h
    | succ n ih =>
      intro k k0 k1 hn hall
      refine At.ls okX7_found 40 ⟨_, _, rfl⟩ ?_
      (conv => whnf)
      refine And.intro (fun h => ?_) (fun h => ?_)
      · exact ⟨rfl, Or.inl ⟨rfl, fun j hj => hall j (by rw [le_i] at h; omega)⟩⟩
      · rw [le_i] at h
        have e5 : ((4 : Int32) + k).toInt = 4 + k.toInt := by
          have e0 : (4 : Int32).toInt = 4 := rfl
          have := tI_add (x := 4) (y := k) (by rw [e0]; unfold i32lo; omega) (by rw [e0]; unfold i32hi; omega)
          rw [this, e0]
        have ex : ((4 : Int32) + k).toNatClampNeg = 4 + k.toInt.toNat := by
          show ((4 : Int32) + k).toInt.toNat = _
          rw [e5]; omega
        (conv => whnf)
        refine And.intro (vp_in_iff.mpr ⟨by rw [e5]; omega, by rw [e5]; omega⟩) ?_
        (conv => whnf)
        refine And.intro (fun h2 => ?_) (fun h2 => ?_)
        · (conv => whnf)
          refine And.intro rfl (ih (k + 1) ?_ ?_ ?_ ?_)
          · rw [inc1 (by omega)]; omega
          · rw [inc1 (by omega)]; omega
          · rw [inc1 (by omega)]; omega
          · intro j hj
            rw [inc1 (by omega)] at hj
            by_cases hjk : (j : Int) < k.toInt
            · exact hall j hjk
            · have hje : j = k.toInt.toNat := by omega
              rw [hje, ← ex]
              exact h2
        · refine ⟨rfl, Or.inr ⟨k0, by omega, ?_⟩⟩
          rw [← ex]
          exact h2
  refine At.gs okX7_found 40 ?_
  (conv => whnf)
  exact And.intro rfl (lp _ 0 (Int.le_refl _) h0 rfl (fun j hj => by
    have e0 : (0 : Int32).toInt = 0 := rfl
    rw [e0] at hj
    omega))
set_option maxRecDepth 100000 in
set_option maxHeartbeats 4000000 in
theorem hfd_99560 {m : MM} {mn nm : Int32} (h0 : 0 ≤ mn.toInt) (h1 : mn.toInt ≤ 12) : CI 1 mX7_found [.ref 99560, .int 12, .int mn, .int nm] m (fun r m' => m' = m ∧ FdR m 99560 12 mn nm r) := by
  have lp : ∀ (n : Nat) (k : Int32), 0 ≤ k.toInt → k.toInt ≤ mn.toInt → (mn.toInt - k.toInt).toNat = n → (∀ j : Nat, (j : Int) < k.toInt → gI m 99560 (12 + j) ≠ nm) → At (E0 1) mX7_found (qi (fun r m' => m' = m ∧ FdR m 99560 12 mn nm r)) 3 [.ref 99560, .int 12, .int mn, .int nm, .int k] [] m := by
    intro n
    induction n with
    | zero =>
      intro k k0 k1 hn hall
      refine At.ls okX7_found 40 ⟨_, _, rfl⟩ ?_
      (conv => whnf)
      refine And.intro (fun h => ?_) (fun h => ?_)
      · exact ⟨rfl, Or.inl ⟨rfl, fun j hj => hall j (by rw [le_i] at h; omega)⟩⟩
      · exact absurd (le_i.mpr (by omega)) h
    | succ n ih =>
      intro k k0 k1 hn hall
      refine At.ls okX7_found 40 ⟨_, _, rfl⟩ ?_
      (conv => whnf)
      refine And.intro (fun h => ?_) (fun h => ?_)
      · exact ⟨rfl, Or.inl ⟨rfl, fun j hj => hall j (by rw [le_i] at h; omega)⟩⟩
      · rw [le_i] at h
        have e5 : ((12 : Int32) + k).toInt = 12 + k.toInt := by
          have e0 : (12 : Int32).toInt = 12 := rfl
          have := tI_add (x := 12) (y := k) (by rw [e0]; unfold i32lo; omega) (by rw [e0]; unfold i32hi; omega)
          rw [this, e0]
        have ex : ((12 : Int32) + k).toNatClampNeg = 12 + k.toInt.toNat := by
          show ((12 : Int32) + k).toInt.toNat = _
          rw [e5]; omega
        (conv => whnf)
        refine And.intro (vp_in_iff.mpr ⟨by rw [e5]; omega, by rw [e5]; omega⟩) ?_
        (conv => whnf)
        refine And.intro (fun h2 => ?_) (fun h2 => ?_)
        · (conv => whnf)
          refine And.intro rfl (ih (k + 1) ?_ ?_ ?_ ?_)
          · rw [inc1 (by omega)]; omega
          · rw [inc1 (by omega)]; omega
          · rw [inc1 (by omega)]; omega
          · intro j hj
            rw [inc1 (by omega)] at hj
            by_cases hjk : (j : Int) < k.toInt
            · exact hall j hjk
            · have hje : j = k.toInt.toNat := by omega
              rw [hje, ← ex]
              exact h2
        · refine ⟨rfl, Or.inr ⟨k0, by omega, ?_⟩⟩
          rw [← ex]
          exact h2
  refine At.gs okX7_found 40 ?_
  (conv => whnf)
  exact And.intro rfl (lp _ 0 (Int.le_refl _) h0 rfl (fun j hj => by
    have e0 : (0 : Int32).toInt = 0 := rfl
    rw [e0] at hj
    omega))
