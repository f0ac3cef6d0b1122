/-! reaches of the model: a way, or a border over which nothing can go -/
/-- line entries below k are done, of entry k the places below v -/
def RX (m : MM) (mn : Int) (k v : Nat) : Prop := RI m mn ∧ gI m 337448 80 ≠ -1 ∧ (∀ u, u < 82 → gI m 337448 u ≠ -1 → ∃ j : Nat, (j : Int) < mn ∧ (gI m 337464 j).toInt = u) ∧ (∀ j, j < k → ∀ w, w < 82 → gI m 337448 w ≠ -1 ∨ gI m 27543064 (82 * (gI m 337464 j).toInt.toNat + w) = 0) ∧ ∀ w, w < v → gI m 337448 w ≠ -1 ∨ gI m 27543064 (82 * (gI m 337464 k).toInt.toNat + w) = 0
theorem RX.next {m : MM} {mn : Int} {k v : Nat} (h : RX m mn k v) (hv : 82 ≤ v) : RX m mn (k + 1) 0 := by
  refine ⟨h.1, h.2.1, h.2.2.1, fun j hj w hw => ?_, fun w hw => absurd hw (Nat.not_lt_zero _)⟩
  by_cases q : j = k
  · rw [q]; exact h.2.2.2.2 w (by omega)
  · exact h.2.2.2.1 j (by omega) w hw
theorem RX.skip {m : MM} {mn : Int} {k v : Nat} (h : RX m mn k v) (hv : gI m 337448 v ≠ -1 ∨ gI m 27543064 (82 * (gI m 337464 k).toInt.toNat + v) = 0) : RX m mn k (v + 1) := by
  refine ⟨h.1, h.2.1, h.2.2.1, h.2.2.2.1, fun w hw => ?_⟩
  by_cases q : w = v
  · rw [q]; exact hv
  · exact h.2.2.2.2 w (by omega)
theorem RX.add {m m' : MM} {mn : Int} {k v mN : Nat} {x y : Int32} (h : RX m mn k v) (hr : RI m' (mn + 1)) (hx : x ≠ -1) (hy : y.toInt = v) (hk : (k : Int) < mn) (hN : (mN : Int) = mn) (hm : m' = sI (sI m 337448 v x) 337464 mN y) : RX m' (mn + 1) k (v + 1) := by
  have cb : ∀ w, gI m' 337448 w = if w = v then x else gI m 337448 w := fun w => by
    rw [hm, gI_sI, if_neg (fun q => absurd q.1 (by decide)), gI_sI]
    by_cases q : w = v
    · rw [if_pos ⟨rfl, q⟩, if_pos q]
    · rw [if_neg (fun z => q z.2), if_neg q]
  have ln : ∀ w, gI m' 337464 w = if w = mN then y else gI m 337464 w := fun w => by
    rw [hm, gI_sI]
    by_cases q : w = mN
    · rw [if_pos ⟨rfl, q⟩, if_pos q]
    · rw [if_neg (fun z => q z.2), if_neg q, gI_sI, if_neg (fun q => absurd q.1 (by decide))]
  have lf : ∀ w, gI m' 27543064 w = gI m 27543064 w := fun w => by
    rw [hm, gI_sI, if_neg (fun q => absurd q.1 (by decide)), gI_sI, if_neg (fun q => absurd q.1 (by decide))]
  have nz : ∀ w, gI m 337448 w ≠ -1 → gI m' 337448 w ≠ -1 := fun w hw => by
    rw [cb]
    by_cases q : w = v
    · rw [if_pos q]; exact hx
    · rw [if_neg q]; exact hw
  refine ⟨hr, nz _ h.2.1, fun u hu hc => ?_, fun j hj w hw => ?_, fun w hw => ?_⟩
  · by_cases q : u = v
    · exact ⟨mN, by omega, by rw [ln, if_pos rfl, hy, q]⟩
    · rw [cb, if_neg q] at hc
      obtain ⟨j, j1, j2⟩ := h.2.2.1 u hu hc
      exact ⟨j, by omega, by rw [ln, if_neg (by omega)]; exact j2⟩
  · rw [ln, if_neg (by omega), lf]
    rcases h.2.2.2.1 j hj w hw with z | z
    · exact Or.inl (nz w z)
    · exact Or.inr z
  · rw [ln, if_neg (by omega), lf]
    by_cases q : w = v
    · exact Or.inl (by rw [cb, if_pos q]; exact hx)
    · rcases h.2.2.2.2 w (by omega) with z | z
      · exact Or.inl (nz w z)
      · exact Or.inr z
/-- nothing can go over the border of what is reached -/
def Bord (m : MM) : Prop := gI m 337448 80 ≠ -1 ∧ gI m 337448 81 = -1 ∧ ∀ u v, u < 82 → v < 82 → gI m 337448 u ≠ -1 → gI m 337448 v = -1 → gI m 27543064 (82 * u + v) = 0
theorem RX.bord {m : MM} {mn : Int} {k v : Nat} (h : RX m mn k v) (hk : mn ≤ k) (h81 : gI m 337448 81 = -1) : Bord m := by
  refine ⟨h.2.1, h81, fun u w hu hw hc hn => ?_⟩
  obtain ⟨j, j1, j2⟩ := h.2.2.1 u hu hc
  rcases h.2.2.2.1 j (by omega) w hw with z | z
  · exact absurd hn z
  · rw [show (gI m 337464 j).toInt.toNat = u by omega] at z
    exact z
def QRX (m : MM) : Int32 → MM → Prop := fun r m' => St wRc m m' ∧ (r ≠ 0 → Tree m') ∧ (r = 0 → Bord m')
section Rx
variable {m : MM}
set_option maxRecDepth 100000 in
set_option maxHeartbeats 4000000 in
/-- the inner loop -/
theorem rxIn (k : Int32) (k0 : 0 ≤ k.toInt) (hgo : ∀ (mn w : Int32) (m1 : MM), St wRc m m1 → RX m1 mn.toInt (k.toInt.toNat + 1) 0 → At (E0 1) mX7_reaches (qi (QRX m)) 42 [.ref 1175, .int mn, .int (k + 1), .int w] [] m1) :
    ∀ (n : Nat) (v mn : Int32) (m1 : MM), St wRc m m1 → RX m1 mn.toInt k.toInt.toNat v.toInt.toNat → k.toInt < mn.toInt → 0 ≤ v.toInt → v.toInt ≤ 82 → (82 - v.toInt).toNat = n → At (E0 1) mX7_reaches (qi (QRX m)) 60 [.ref 1175, .int mn, .int k, .int v] [] m1 := by
  intro n
  induction n with
  | zero =>
    intro v mn m1 hS hI hk v0 v1 hn
    refine At.ls okX7_reaches 60 ⟨_, _, rfl⟩ ?_
    (conv => whnf)
    refine And.intro (fun h => ?_) (fun h => absurd (le_i.mpr (show (82 : Int32).toInt ≤ _ by have : (82 : Int32).toInt = 82 := rfl; omega)) h)
    (conv => whnf)
    exact And.intro rfl (hgo mn v m1 hS (hI.next (by omega)))
  | succ n ih =>
    intro v mn m1 hS hIX hk v0 v1 hn
    have hI := hIX.1
    have e82 : (82 : Int32).toInt = 82 := rfl
    have hcn : cn (fun v => gI m1 337448 v) 82 ≤ 81 := by have := hI.1; have := hI.2.1; omega
    have hmn : mn.toInt ≤ 82 := by have := hI.2.1; omega
    have lk : (0 : Int) ≤ (gI m1 337464 k.toNatClampNeg).toInt ∧ (gI m1 337464 k.toNatClampNeg).toInt ≤ 81 := hS.1.1 337464 _
    have go : ∀ (mn : Int32) (m1 : MM), St wRc m m1 → RX m1 mn.toInt k.toInt.toNat (v.toInt.toNat + 1) → k.toInt < mn.toInt → At (E0 1) mX7_reaches (qi (QRX m)) 60 [.ref 1175, .int mn, .int k, .int (v + 1)] [] m1 := fun mn m1 hS hI hk => ih (v + 1) mn m1 hS (by rw [inc1 (by omega), show (v.toInt + 1).toNat = v.toInt.toNat + 1 by omega]; exact hI) hk (by rw [inc1 (by omega)]; omega) (by rw [inc1 (by omega)]; omega) (by rw [inc1 (by omega)]; omega)
    have em : (82 * gI m1 337464 k.toNatClampNeg).toInt = 82 * (gI m1 337464 k.toNatClampNeg).toInt := by
      have := tI_mul (x := 82) (y := gI m1 337464 k.toNatClampNeg) (by rw [e82]; unfold i32lo; omega) (by rw [e82]; unfold i32hi; omega)
      rw [this, e82]
    have ea : (82 * gI m1 337464 k.toNatClampNeg + v).toInt = 82 * (gI m1 337464 k.toNatClampNeg).toInt + v.toInt := by
      have := tI_add (x := 82 * gI m1 337464 k.toNatClampNeg) (y := v) (by rw [em]; unfold i32lo; omega) (by rw [em]; unfold i32hi; omega)
      rw [this, em]
    refine At.ls okX7_reaches 60 ⟨_, _, rfl⟩ ?_
    (conv => whnf)
    refine And.intro (fun h => absurd (le_i.mp h) (by omega)) (fun h => ?_)
    (conv => whnf)
    refine And.intro (vp_in_iff.mpr ⟨by omega, by omega⟩) ?_
    (conv => whnf)
    refine And.intro (fun h2 => ?_) (fun h2 => ?_)
    · have h2 : ¬ gI m1 337448 v.toNatClampNeg = -1 := h2
      (conv => whnf)
      exact And.intro rfl (go mn m1 hS (hIX.skip (Or.inl h2)) hk)
    · have h2 : gI m1 337448 v.toNatClampNeg = -1 := h2
      have hc1 := cn_pos (f := fun v => gI m1 337448 v) h2 82 (show v.toInt.toNat < 82 by omega)
      (conv => whnf)
      refine And.intro (vp_in_iff.mpr ⟨by omega, by have := hI.2.1; omega⟩) ?_
      (conv => whnf)
      refine And.intro (vp_in_iff.mpr ⟨show 0 ≤ (82 * gI m1 337464 k.toNatClampNeg + v).toInt by omega, show (82 * gI m1 337464 k.toNatClampNeg + v).toInt < _ by omega⟩) ?_
      (conv => whnf)
      refine And.intro (fun h3 => ?_) (fun h3 => ?_)
      · have h3 : ¬ gI m1 27543064 (82 * gI m1 337464 k.toNatClampNeg + v).toNatClampNeg = 0 := h3
        have ei : (82 * gI m1 337464 k.toNatClampNeg + v).toNatClampNeg = 82 * (gI m1 337464 k.toNatClampNeg).toInt.toNat + v.toInt.toNat := by
          show (82 * gI m1 337464 k.toNatClampNeg + v).toInt.toNat = _
          rw [ea]; omega
        rw [ei] at h3
        (conv => whnf)
        refine And.intro (vp_in_iff.mpr ⟨by omega, by have := hI.2.1; omega⟩) ?_
        (conv => whnf)
        refine And.intro (vp_in_iff.mpr ⟨by omega, by omega⟩) ?_
        have hS2 : St wRc m (sI m1 337448 v.toNatClampNeg (gI m1 337464 k.toNatClampNeg)) := hS.row rfl (by decide) (show (-1 : Int) ≤ _ by omega) (show _ ≤ (81 : Int) by omega)
        have hS3 : St wRc m (sI (sI m1 337448 v.toNatClampNeg (gI m1 337464 k.toNatClampNeg)) 337464 mn.toNatClampNeg v) := hS2.row rfl (by decide) (show (0 : Int) ≤ _ by omega) (show _ ≤ (81 : Int) by omega)
        have hm0 := hI.1
        have hI3 : RI (sI (sI m1 337448 v.toNatClampNeg (gI m1 337464 k.toNatClampNeg)) 337464 mn.toNatClampNeg v) (mn.toInt + 1) := RI_add (vN := v.toInt.toNat) (kN := k.toInt.toNat) (mN := mn.toInt.toNat) hS.1 hI (by omega) h2 (by omega) rfl h3 (by omega) (by omega)
        have em1 := inc1 (k := mn) (by omega)
        have hI4 : RX (sI (sI m1 337448 v.toNatClampNeg (gI m1 337464 k.toNatClampNeg)) 337464 mn.toNatClampNeg v) (mn.toInt + 1) k.toInt.toNat (v.toInt.toNat + 1) := RX.add (mN := mn.toInt.toNat) hIX hI3 (ne_m1 lk.1) (by omega) (by omega) (by omega) rfl
        (conv => whnf)
        refine And.intro (vp_in_iff.mpr ⟨by omega, by have := hI.2.1; omega⟩) ?_
        (conv => whnf)
        exact And.intro rfl (go (mn + 1) _ hS3 (by rw [em1]; exact hI4) (by omega))
      · have h3 : gI m1 27543064 (82 * gI m1 337464 k.toNatClampNeg + v).toNatClampNeg = 0 := h3
        have ei : (82 * gI m1 337464 k.toNatClampNeg + v).toNatClampNeg = 82 * (gI m1 337464 k.toNatClampNeg).toInt.toNat + v.toInt.toNat := by
          show (82 * gI m1 337464 k.toNatClampNeg + v).toInt.toNat = _
          rw [ea]; omega
        rw [ei] at h3
        (conv => whnf)
        exact And.intro rfl (go mn m1 hS (hIX.skip (Or.inr h3)) hk)
set_option maxRecDepth 100000 in
set_option maxHeartbeats 4000000 in
theorem rxOut : ∀ (n : Nat) (mn k : Int32) (w : Value) (m1 : MM), St wRc m m1 → RX m1 mn.toInt k.toInt.toNat 0 → 0 ≤ k.toInt → k.toInt ≤ 82 → (82 - k.toInt).toNat = n → At (E0 1) mX7_reaches (qi (QRX m)) 42 [.ref 1175, .int mn, .int k, w] [] m1 := by
  have step : ∀ (mn k : Int32) (w : Value) (m1 : MM), St wRc m m1 → RX m1 mn.toInt k.toInt.toNat 0 → 0 ≤ k.toInt → (k.toInt < 82 → ∀ (mn w : Int32) (m1 : MM), St wRc m m1 → RX m1 mn.toInt (k.toInt.toNat + 1) 0 → At (E0 1) mX7_reaches (qi (QRX m)) 42 [.ref 1175, .int mn, .int (k + 1), .int w] [] m1) → At (E0 1) mX7_reaches (qi (QRX m)) 42 [.ref 1175, .int mn, .int k, w] [] m1 := by
    intro mn k w m1 hS hIX k0 hgo
    have hI := hIX.1
    have hmn : mn.toInt ≤ 82 := by have := hI.2.1; omega
    have fin : ∀ r : Int32, (r ≠ 0 → gI m1 337448 81 ≠ -1) → (r = 0 → Bord m1) → QRX m r m1 := fun r hr hb => ⟨hS, fun q => hI.tree (hr q), hb⟩
    refine At.ls okX7_reaches 60 ⟨_, _, rfl⟩ ?_
    (conv => whnf)
    refine And.intro (fun h => ?_) (fun h => ?_)
    · have h : mn ≤ k := h
      rw [le_i] at h
      (conv => whnf)
      refine And.intro (vp_in_iff.mpr (by decide)) ?_
      (conv => whnf)
      refine And.intro (fun h2 => ?_) (fun h2 => ?_)
      · have h2 : gI m1 337448 81 = -1 := h2
        exact ⟨Or.inl rfl, fin 0 (fun q => absurd rfl q) (fun _ => hIX.bord (by omega) h2)⟩
      · exact ⟨Or.inr rfl, fin 1 (fun _ => h2) (fun q => absurd q (by decide))⟩
    · rw [le_i] at h
      (conv => whnf)
      refine And.intro (vp_in_iff.mpr (by decide)) ?_
      (conv => whnf)
      refine And.intro (fun h2 => ?_) (fun h2 => ?_)
      · have h2 : ¬ gI m1 337448 81 = -1 := h2
        (conv => whnf)
        refine And.intro (vp_in_iff.mpr (by decide)) ?_
        (conv => whnf)
        refine And.intro (fun h3 => absurd h3 h2) (fun h3 => ?_)
        exact ⟨Or.inr rfl, fin 1 (fun _ => h3) (fun q => absurd q (by decide))⟩
      · (conv => whnf)
        exact And.intro rfl (rxIn k k0 (hgo (by omega)) _ 0 mn m1 hS hIX (by omega) (by decide) (by decide) rfl)
  intro n
  induction n with
  | zero =>
    intro mn k w m1 hS hI k0 k1 hn
    exact step mn k w m1 hS hI k0 (fun h => by omega)
  | succ n ih =>
    intro mn k w m1 hS hI k0 k1 hn
    exact step mn k w m1 hS hI k0 (fun h mn2 w2 m2 hS2 hI2 => ih mn2 (k + 1) (.int w2) m2 hS2 (by rw [inc1 (by omega), show (k.toInt + 1).toNat = k.toInt.toNat + 1 by omega]; exact hI2) (by rw [inc1 (by omega)]; omega) (by rw [inc1 (by omega)]; omega) (by rw [inc1 (by omega)]; omega))
set_option maxRecDepth 100000 in
set_option maxHeartbeats 4000000 in
theorem rxFill : ∀ (n : Nat) (i : Int32) (m1 : MM), St wRc m m1 → 0 ≤ i.toInt → i.toInt ≤ 82 → (82 - i.toInt).toNat = n → (∀ j : Nat, (j : Int) < i.toInt → gI m1 337448 j = -1) → At (E0 1) mX7_reaches (qi (QRX m)) 2 [.ref 1175, .int i, .null, .null] [] m1 := by
  have e82 : (82 : Int32).toInt = 82 := rfl
  intro n
  induction n with
  | zero =>
    intro i m1 hS i0 i1 hn hall
    refine At.ls okX7_reaches 60 ⟨_, _, rfl⟩ ?_
    (conv => whnf)
    refine And.intro (fun h => ?_) (fun h => absurd (le_i.mpr (by omega)) h)
    (conv => whnf)
    refine And.intro (vp_in_iff.mpr (by decide)) ?_
    (conv => whnf)
    refine And.intro (vp_in_iff.mpr (by decide)) ?_
    have hS2 : St wRc m (sI m1 337448 (Int32.toNatClampNeg 80) 80) := hS.row rfl (by decide) (by decide) (by decide)
    have hS3 : St wRc m (sI (sI m1 337448 (Int32.toNatClampNeg 80) 80) 337464 (Int32.toNatClampNeg 0) 80) := hS2.row rfl (by decide) (by decide) (by decide)
    have n80 : Int32.toNatClampNeg 80 = 80 := by decide
    have n0 : Int32.toNatClampNeg 0 = 0 := by decide
    have cb : ∀ w, gI (sI (sI m1 337448 (Int32.toNatClampNeg 80) 80) 337464 (Int32.toNatClampNeg 0) 80) 337448 w = if w = 80 then 80 else gI m1 337448 w := fun w => by
      rw [gI_sI, if_neg (fun q => absurd q.1 (by decide)), gI_sI, n80]
      by_cases q : w = 80
      · rw [if_pos ⟨rfl, q⟩, if_pos q]
      · rw [if_neg (fun z => q z.2), if_neg q]
    have hI : RI (sI (sI m1 337448 (Int32.toNatClampNeg 80) 80) 337464 (Int32.toNatClampNeg 0) 80) 1 := by
      refine ⟨by decide, ?_, fun j hj => ?_, fun _ => 0, fun v hv hc => ?_⟩
      · have := cn_upd (f := fun v => gI m1 337448 v) (g := fun v => gI (sI (sI m1 337448 (Int32.toNatClampNeg 80) 80) 337464 (Int32.toNatClampNeg 0) 80) 337448 v) (v := 80) (hall 80 (by omega)) (by show gI (sI (sI m1 337448 (Int32.toNatClampNeg 80) 80) 337464 (Int32.toNatClampNeg 0) 80) 337448 80 ≠ -1; rw [cb, if_pos rfl]; decide) (fun w hw => by show gI (sI (sI m1 337448 (Int32.toNatClampNeg 80) 80) 337464 (Int32.toNatClampNeg 0) 80) 337448 w = gI m1 337448 w; rw [cb, if_neg hw]) 82
        rw [if_pos (by decide), cn_all 82 (fun w hw => hall w (by omega))] at this
        omega
      · have : j = 0 := by omega
        subst this
        have hl : gI (sI (sI m1 337448 (Int32.toNatClampNeg 80) 80) 337464 (Int32.toNatClampNeg 0) 80) 337464 0 = 80 := by rw [gI_sI, n0]; exact if_pos ⟨rfl, rfl⟩
        rw [hl, cb, if_pos (by decide)]
        decide
      · refine ⟨show ((0 : Nat) : Int) < 1 by decide, fun h80 => ?_⟩
        rw [cb, if_neg h80] at hc
        exact absurd (hall v (by omega)) hc
    (conv => whnf)
    refine And.intro rfl (rxOut _ 1 0 .null _ hS3 ⟨hI, ?_, fun u hu hc => ?_, fun j hj => absurd hj (Nat.not_lt_zero _), fun w hw => absurd hw (Nat.not_lt_zero _)⟩ (by decide) (by decide) rfl)
    · rw [cb, if_pos rfl]; decide
    · rw [cb] at hc
      by_cases q : u = 80
      · exact ⟨0, by decide, by rw [gI_sI, n0, if_pos ⟨rfl, rfl⟩, q]; rfl⟩
      · rw [if_neg q] at hc
        exact absurd (hall u (by omega)) hc
  | succ n ih =>
    intro i m1 hS i0 i1 hn hall
    refine At.ls okX7_reaches 60 ⟨_, _, rfl⟩ ?_
    (conv => whnf)
    refine And.intro (fun h => absurd (le_i.mp h) (by omega)) (fun h => ?_)
    have hS2 : St wRc m (sI m1 337448 i.toNatClampNeg (-1)) := hS.row rfl (by decide) (by decide) (by decide)
    (conv => whnf)
    refine And.intro (vp_in_iff.mpr ⟨by omega, by omega⟩) ?_
    (conv => whnf)
    refine And.intro rfl (ih (i + 1) _ hS2 (by rw [inc1 (by omega)]; omega) (by rw [inc1 (by omega)]; omega) (by rw [inc1 (by omega)]; omega) (fun j hj => ?_))
    rw [inc1 (by omega)] at hj
    rw [gI_sI]
    by_cases q : j = i.toNatClampNeg
    · rw [if_pos ⟨rfl, q⟩]
    · rw [if_neg (fun z => q z.2)]
      have q : j ≠ i.toInt.toNat := q
      exact hall j (by omega)
end Rx
set_option maxRecDepth 100000 in
theorem rxReaches {m : MM} (hM : Mok TYg m) : CI 1 mX7_reaches [.ref 1175] m (QRX m) := by
  refine At.gs okX7_reaches 60 ?_
  (conv => whnf)
  exact And.intro rfl (rxFill _ 0 m (St.rf hM) (by decide) (by decide) rfl (fun j hj => by have : (0 : Int32).toInt = 0 := rfl; omega))
