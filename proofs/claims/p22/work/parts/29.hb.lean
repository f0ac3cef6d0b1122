/-! by hand: contracts used in a walk, the memory's state on the way -/
theorem SafeC.ci {Ty : TY} {c : Nat × Nat} {μ : MI} {ac : AC} (h : SafeC Ty c μ ac) (hI : ac.2.2.1.all (fun o => isI o.1) = true) {as : List Value} {m : MM} (hF : FA (fun _ => 0) ac.1 as) (hM : Mok Ty m) (hc : m.2.2 = c) (hp : ∀ q ∈ ac.2.2.2.2, q.2.1 ≤ (gI m q.1.1 q.1.2).toInt ∧ (gI m q.1.1 q.1.2).toInt ≤ q.2.2) : CI ac.2.1 μ as m (fun r m' => PC Ty ac m as (some (.int r)) m') :=
  At.mono (h as m hF hM hc hp) (fun r m' hP => by
    obtain ⟨p1, p2, p3, o, ho, oo1, oo2⟩ := hP
    have hi := List.all_eq_true.mp hI o ho
    cases r with
    | none =>
      have e9 : o.1.1 = 9 := oo1
      unfold isI at hi
      rw [e9] at hi
      cases hi
    | some x =>
      obtain ⟨n9, g⟩ := oo1
      obtain ⟨i, rfl⟩ := gam_int hi g
      exact ⟨p1, p2, p3, o, ho, ⟨n9, g⟩, oo2⟩)
theorem SafeC.cv {Ty : TY} {c : Nat × Nat} {μ : MI} {ac : AC} (h : SafeC Ty c μ ac) (hI : ac.2.2.1.all (fun o => Nat.beq o.1.1 9) = true) {as : List Value} {m : MM} (hF : FA (fun _ => 0) ac.1 as) (hM : Mok Ty m) (hc : m.2.2 = c) (hp : ∀ q ∈ ac.2.2.2.2, q.2.1 ≤ (gI m q.1.1 q.1.2).toInt ∧ (gI m q.1.1 q.1.2).toInt ≤ q.2.2) : CV ac.2.1 μ as m (fun m' => PC Ty ac m as none m') :=
  At.mono (h as m hF hM hc hp) (fun r m' hP => by
    obtain ⟨p1, p2, p3, o, ho, oo1, oo2⟩ := hP
    have hi : o.1.1 = 9 := Nat.eq_of_beq_eq_true (List.all_eq_true.mp hI o ho)
    cases r with
    | none => exact ⟨p1, p2, p3, o, ho, oo1, oo2⟩
    | some x => exact absurd hi oo1.1)
theorem top_in {i : Int32} : gam (fun _ => 0) (0, -2147483648, 2147483647) (.int i) := ⟨i, rfl, tI_lo i, tI_hi i⟩
theorem noPre {m : MM} : ∀ q ∈ ([] : List ((Nat × Nat) × (Int × Int))), q.2.1 ≤ (gI m q.1.1 q.1.2).toInt ∧ (gI m q.1.1 q.1.2).toInt ≤ q.2.2 := fun q hq => by cases hq
def St (W : List Nat) (m0 m1 : MM) : Prop := Mok TYg m1 ∧ m1.2.2 = m0.2.2 ∧ Fr W m0 m1
theorem St.rf {W : List Nat} {m : MM} (h : Mok TYg m) : St W m m := ⟨h, rfl, Fr_rfl _ _⟩
theorem St.row {W : List Nat} {m0 m1 : MM} {a k : Nat} {v : Int32} (h : St W m0 m1) (h8 : Nat.ble 8 (a % 16) = true) (ha : a ∈ W) (h1 : (TYg.2 a).1 ≤ v.toInt) (h2 : v.toInt ≤ (TYg.2 a).2) : St W m0 (sI m1 a k v) :=
  ⟨Mok_sI h.1 (by rw [tyF_row h8]; exact h1) (by rw [tyF_row h8]; exact h2), h.2.1, Fr_sI h.2.2 (by rw [wk_row h8]; exact ha) (fun _ q => by rw [q.1] at h8; cases h8)⟩
theorem St.fld {W : List Nat} {m0 m1 : MM} {a k : Nat} {v : Int32} (h : St W m0 m1) (ha : wk a k ∈ W) (h1 : (tyF TYg.1 TYg.2 a k).1 ≤ v.toInt) (h2 : v.toInt ≤ (tyF TYg.1 TYg.2 a k).2) (hp : ¬ 7 ∈ W → ¬ (a = 1175 ∧ (k = 31 ∨ k = 33))) : St W m0 (sI m1 a k v) :=
  ⟨Mok_sI h.1 h1 h2, h.2.1, Fr_sI h.2.2 ha hp⟩
theorem St.call {W : List Nat} {m0 m1 m2 : MM} {ac : AC} {as : List Value} {r : Option Value} (h : St W m0 m1) (hP : PC TYg ac m1 as r m2) (hs : ∀ x ∈ ac.2.2.2.1, x ∈ W) : St W m0 m2 := ⟨hP.1, hP.2.1.trans h.2.1, Fr_tr h.2.2 hP.2.2.1 hs⟩
theorem frK {W : List Nat} {m m' : MM} (h : Fr W m m') (hW : ∀ x ∈ W, x % 4294967296 ≠ 1175) (k : Nat) : gI m' 1175 k = gI m 1175 k := (h.1 1175 k (fun q => hW _ q (by
  show (1175 + 4294967296 * (k + 1)) % 4294967296 = 1175
  omega))).1
theorem sI_c (m : MM) (a i : Nat) (v : Int32) : (sI m a i v).2.2 = m.2.2 := rfl
theorem sNw_c (m : MM) (b : Nat) : (sNw m b).2.2 = (b, m.2.2.2) := rfl
theorem sSp_c (m : MM) (b : Nat) : (sSp m b).2.2 = (m.2.2.1, b) := rfl
theorem PC_int {Ty : TY} {ac : AC} {m m' : MM} {as : List Value} {r : Option Value} (h : PC Ty ac m as r m') (hI : ac.2.2.1.all (fun o => isI o.1) = true) : ∃ i : Int32, r = some (.int i) := by
  obtain ⟨p1, p2, p3, o, ho, oo1, oo2⟩ := h
  have hi := List.all_eq_true.mp hI o ho
  cases r with
  | none =>
    have e9 : o.1.1 = 9 := oo1
    unfold isI at hi
    rw [e9] at hi
    cases hi
  | some x =>
    obtain ⟨n9, g⟩ := oo1
    obtain ⟨i, rfl⟩ := gam_int hi g
    exact ⟨i, rfl⟩
theorem fr1 {W : List Nat} {m m' : MM} {a k : Nat} (h : Fr W m m') (hW : ¬ wk a k ∈ W) : gI m' a k = gI m a k := (h.1 a k hW).1
