/-! reaches of the model, by hand -/
/-- how many of the first n are -1 -/
def cn (f : Nat → Int32) : Nat → Nat
  | 0 => 0
  | n + 1 => cn f n + (if f n = -1 then 1 else 0)
theorem cn_upd {f g : Nat → Int32} {v : Nat} (hf : f v = -1) (hg : g v ≠ -1) (ho : ∀ w, w ≠ v → g w = f w) : ∀ n, cn g n + (if v < n then 1 else 0) = cn f n
  | 0 => rfl
  | n + 1 => by
    have ih := cn_upd hf hg ho n
    unfold cn
    by_cases q : v = n
    · subst q
      rw [if_pos hf, if_neg hg, if_pos (Nat.lt_succ_self v)]
      rw [if_neg (Nat.lt_irrefl v)] at ih
      omega
    · rw [ho n (fun z => q z.symm)]
      by_cases q2 : v < n
      · rw [if_pos q2] at ih
        rw [if_pos (show v < n + 1 by omega)]
        omega
      · rw [if_neg q2] at ih
        rw [if_neg (show ¬ v < n + 1 by omega)]
        omega
theorem cn_all {f : Nat → Int32} : ∀ n, (∀ w, w < n → f w = -1) → cn f n = n
  | 0, _ => rfl
  | n + 1, h => by
    unfold cn
    rw [cn_all n (fun w hw => h w (by omega)), if_pos (h n (by omega))]
theorem cn_pos {f : Nat → Int32} {v : Nat} (hf : f v = -1) : ∀ n, v < n → 1 ≤ cn f n
  | 0, h => absurd h (Nat.not_lt_zero _)
  | n + 1, h => by
    unfold cn
    by_cases q : v = n
    · subst q
      rw [if_pos hf]
      omega
    · have := cn_pos hf n (by omega)
      omega
def wRc : List Nat := [337448, 337464]
/-- by whom a place has been reached -/
def RI (m : MM) (many : Int) : Prop := 1 ≤ many ∧ (cn (fun v => gI m 337448 v) 82 : Int) + many = 82 ∧ (∀ j : Nat, (j : Int) < many → gI m 337448 (gI m 337464 j).toInt.toNat ≠ -1) ∧ ∃ pos : Nat → Nat, ∀ v, v < 82 → gI m 337448 v ≠ -1 → (pos v : Int) < many ∧ (v ≠ 80 → gI m 337448 (gI m 337448 v).toInt.toNat ≠ -1 ∧ pos (gI m 337448 v).toInt.toNat < pos v ∧ gI m 27543064 (82 * (gI m 337448 v).toInt.toNat + v) ≠ 0)
theorem ne_m1 {x : Int32} (h : 0 ≤ x.toInt) : x ≠ -1 := fun q => by
  rw [q] at h
  exact absurd h (by decide)
theorem RI_add {m : MM} {many : Int} {vN kN mN : Nat} {x y : Int32} (hM : Mok TYg m) (h : RI m many) (hv : vN < 82) (hcv : gI m 337448 vN = -1) (hk : (kN : Int) < many) (hx : x = gI m 337464 kN) (hl : gI m 27543064 (82 * x.toInt.toNat + vN) ≠ 0) (hy : y.toInt = (vN : Int)) (hmn : (mN : Int) = many) : RI (sI (sI m 337448 vN x) 337464 mN y) (many + 1) := by
  obtain ⟨h1, h2, h3, pos, h4⟩ := h
  have hx0 : (0 : Int) ≤ x.toInt ∧ x.toInt ≤ 81 := by rw [hx]; exact hM.1 337464 kN
  have xne : x ≠ -1 := ne_m1 hx0.1
  have xr : gI m 337448 x.toInt.toNat ≠ -1 := by rw [hx]; exact h3 kN hk
  have xv : x.toInt.toNat ≠ vN := fun q => xr (by rw [q]; exact hcv)
  have cb : ∀ w, gI (sI (sI m 337448 vN x) 337464 mN y) 337448 w = if w = vN then x else gI m 337448 w := fun w => by
    rw [gI_sI, if_neg (fun q => absurd q.1 (by decide)), gI_sI]
    by_cases q : w = vN
    · rw [if_pos ⟨rfl, q⟩, if_pos q]
    · rw [if_neg (fun z => q z.2), if_neg q]
  have ln : ∀ w, gI (sI (sI m 337448 vN x) 337464 mN y) 337464 w = if w = mN then y else gI m 337464 w := fun w => by
    rw [gI_sI]
    by_cases q : w = mN
    · rw [if_pos ⟨rfl, q⟩, if_pos q]
    · rw [if_neg (fun z => q z.2), if_neg q, gI_sI, if_neg (fun q => absurd q.1 (by decide))]
  have lf : ∀ w, gI (sI (sI m 337448 vN x) 337464 mN y) 27543064 w = gI m 27543064 w := fun w => by
    rw [gI_sI, if_neg (fun q => absurd q.1 (by decide)), gI_sI, if_neg (fun q => absurd q.1 (by decide))]
  have nz : ∀ w, gI m 337448 w ≠ -1 → (if w = vN then x else gI m 337448 w) ≠ -1 := fun w hw => by
    by_cases q : w = vN
    · rw [if_pos q]; exact xne
    · rw [if_neg q]; exact hw
  refine ⟨by omega, ?_, fun j hj => ?_, fun w => if w = vN then mN else pos w, fun w hw hc => ?_⟩
  · have := cn_upd (f := fun v => gI m 337448 v) (g := fun v => gI (sI (sI m 337448 vN x) 337464 mN y) 337448 v) (v := vN) hcv (by show gI (sI (sI m 337448 vN x) 337464 mN y) 337448 vN ≠ -1; rw [cb, if_pos rfl]; exact xne) (fun w hw => by show gI (sI (sI m 337448 vN x) 337464 mN y) 337448 w = gI m 337448 w; rw [cb, if_neg hw]) 82
    rw [if_pos hv] at this
    omega
  · rw [ln, cb]
    by_cases q : j = mN
    · rw [if_pos q, show y.toInt.toNat = vN by omega, if_pos rfl]
      exact xne
    · rw [if_neg q]
      exact nz _ (h3 j (by omega))
  · rw [cb] at hc
    by_cases q : w = vN
    · simp only [q, if_true]
      refine ⟨by omega, fun _ => ?_⟩
      have cbv : gI (sI (sI m 337448 vN x) 337464 mN y) 337448 vN = x := by rw [cb, if_pos rfl]
      rw [cbv, cb, if_neg xv, lf, if_neg xv]
      exact ⟨xr, by have := (h4 _ (by omega) xr).1; omega, hl⟩
    · rw [if_neg q] at hc
      obtain ⟨g1, g2⟩ := h4 w hw hc
      simp only [if_neg q]
      refine ⟨by omega, fun h80 => ?_⟩
      obtain ⟨k1, k2, k3⟩ := g2 h80
      have uv : (gI m 337448 w).toInt.toNat ≠ vN := fun z => k1 (by rw [z]; exact hcv)
      have cbw : gI (sI (sI m 337448 vN x) 337464 mN y) 337448 w = gI m 337448 w := by rw [cb, if_neg q]
      rw [cbw, cb, if_neg uv, lf, if_neg uv]
      exact ⟨k1, k2, k3⟩
/-- a way home from the sink -/
def Tree (m : MM) : Prop := gI m 337448 81 ≠ -1 ∧ ∃ pos : Nat → Nat, ∀ v, v < 82 → gI m 337448 v ≠ -1 → v ≠ 80 → gI m 337448 (gI m 337448 v).toInt.toNat ≠ -1 ∧ pos (gI m 337448 v).toInt.toNat < pos v ∧ gI m 27543064 (82 * (gI m 337448 v).toInt.toNat + v) ≠ 0
def QR (m : MM) : Int32 → MM → Prop := fun r m' => St wRc m m' ∧ (r ≠ 0 → Tree m')
theorem RI.tree {m : MM} {many : Int} (h : RI m many) (h81 : gI m 337448 81 ≠ -1) : Tree m := by
  obtain ⟨h1, h2, h3, pos, h4⟩ := h
  exact ⟨h81, pos, fun v hv hc h80 => (h4 v hv hc).2 h80⟩
section Re
variable {m : MM}
set_option maxRecDepth 100000 in
set_option maxHeartbeats 4000000 in
/-- the inner loop -/
theorem reIn (k : Int32) (k0 : 0 ≤ k.toInt) (hgo : ∀ (mn w : Int32) (m1 : MM), St wRc m m1 → RI m1 mn.toInt → At (E0 1) mX7_reaches (qi (QR m)) 42 [.ref 1175, .int mn, .int (k + 1), .int w] [] m1) :
    ∀ (n : Nat) (v mn : Int32) (m1 : MM), St wRc m m1 → RI m1 mn.toInt → k.toInt < mn.toInt → 0 ≤ v.toInt → v.toInt ≤ 82 → (82 - v.toInt).toNat = n → At (E0 1) mX7_reaches (qi (QR m)) 60 [.ref 1175, .int mn, .int k, .int v] [] m1 := by
  intro n
  induction n with
  | zero =>
    intro v mn m1 hS hI hk v0 v1 hn
    refine At.ls okX7_reaches 60 ⟨_, _, rfl⟩ ?_
    (conv => whnf)
    refine And.intro (fun h => ?_) (fun h => absurd (le_i.mpr (show (82 : Int32).toInt ≤ _ by have : (82 : Int32).toInt = 82 := rfl; omega)) h)
    (conv => whnf)
    exact And.intro rfl (hgo mn v m1 hS hI)
  | succ n ih =>
    intro v mn m1 hS hI hk v0 v1 hn
    have e82 : (82 : Int32).toInt = 82 := rfl
    have hcn : cn (fun v => gI m1 337448 v) 82 ≤ 81 := by have := hI.1; have := hI.2.1; omega
    have hmn : mn.toInt ≤ 82 := by have := hI.2.1; omega
    have lk : (0 : Int) ≤ (gI m1 337464 k.toNatClampNeg).toInt ∧ (gI m1 337464 k.toNatClampNeg).toInt ≤ 81 := hS.1.1 337464 _
    have go : ∀ (mn : Int32) (m1 : MM), St wRc m m1 → RI m1 mn.toInt → k.toInt < mn.toInt → At (E0 1) mX7_reaches (qi (QR m)) 60 [.ref 1175, .int mn, .int k, .int (v + 1)] [] m1 := fun mn m1 hS hI hk => ih (v + 1) mn m1 hS hI hk (by rw [inc1 (by omega)]; omega) (by rw [inc1 (by omega)]; omega) (by rw [inc1 (by omega)]; omega)
    have em : (82 * gI m1 337464 k.toNatClampNeg).toInt = 82 * (gI m1 337464 k.toNatClampNeg).toInt := by
      have := tI_mul (x := 82) (y := gI m1 337464 k.toNatClampNeg) (by rw [e82]; unfold i32lo; omega) (by rw [e82]; unfold i32hi; omega)
      rw [this, e82]
    have ea : (82 * gI m1 337464 k.toNatClampNeg + v).toInt = 82 * (gI m1 337464 k.toNatClampNeg).toInt + v.toInt := by
      have := tI_add (x := 82 * gI m1 337464 k.toNatClampNeg) (y := v) (by rw [em]; unfold i32lo; omega) (by rw [em]; unfold i32hi; omega)
      rw [this, em]
    refine At.ls okX7_reaches 60 ⟨_, _, rfl⟩ ?_
    (conv => whnf)
    refine And.intro (fun h => absurd (le_i.mp h) (by omega)) (fun h => ?_)
    (conv => whnf)
    refine And.intro (vp_in_iff.mpr ⟨by omega, by omega⟩) ?_
    (conv => whnf)
    refine And.intro (fun h2 => ?_) (fun h2 => ?_)
    · (conv => whnf)
      exact And.intro rfl (go mn m1 hS hI hk)
    · have h2 : gI m1 337448 v.toNatClampNeg = -1 := h2
      have hc1 := cn_pos (f := fun v => gI m1 337448 v) h2 82 (show v.toInt.toNat < 82 by omega)
      (conv => whnf)
      refine And.intro (vp_in_iff.mpr ⟨by omega, by have := hI.2.1; omega⟩) ?_
      (conv => whnf)
      refine And.intro (vp_in_iff.mpr ⟨show 0 ≤ (82 * gI m1 337464 k.toNatClampNeg + v).toInt by omega, show (82 * gI m1 337464 k.toNatClampNeg + v).toInt < _ by omega⟩) ?_
      (conv => whnf)
      refine And.intro (fun h3 => ?_) (fun h3 => ?_)
      · have h3 : ¬ gI m1 27543064 (82 * gI m1 337464 k.toNatClampNeg + v).toNatClampNeg = 0 := h3
        have ei : (82 * gI m1 337464 k.toNatClampNeg + v).toNatClampNeg = 82 * (gI m1 337464 k.toNatClampNeg).toInt.toNat + v.toInt.toNat := by
          show (82 * gI m1 337464 k.toNatClampNeg + v).toInt.toNat = _
          rw [ea]; omega
        rw [ei] at h3
        (conv => whnf)
        refine And.intro (vp_in_iff.mpr ⟨by omega, by have := hI.2.1; omega⟩) ?_
        (conv => whnf)
        refine And.intro (vp_in_iff.mpr ⟨by omega, by omega⟩) ?_
        have hS2 : St wRc m (sI m1 337448 v.toNatClampNeg (gI m1 337464 k.toNatClampNeg)) := hS.row rfl (by decide) (show (-1 : Int) ≤ _ by omega) (show _ ≤ (81 : Int) by omega)
        have hS3 : St wRc m (sI (sI m1 337448 v.toNatClampNeg (gI m1 337464 k.toNatClampNeg)) 337464 mn.toNatClampNeg v) := hS2.row rfl (by decide) (show (0 : Int) ≤ _ by omega) (show _ ≤ (81 : Int) by omega)
        have hm0 := hI.1
        have hI3 : RI (sI (sI m1 337448 v.toNatClampNeg (gI m1 337464 k.toNatClampNeg)) 337464 mn.toNatClampNeg v) (mn.toInt + 1) := RI_add (vN := v.toInt.toNat) (kN := k.toInt.toNat) (mN := mn.toInt.toNat) hS.1 hI (by omega) h2 (by omega) rfl h3 (by omega) (by omega)
        have em1 := inc1 (k := mn) (by omega)
        (conv => whnf)
        refine And.intro (vp_in_iff.mpr ⟨by omega, by have := hI.2.1; omega⟩) ?_
        (conv => whnf)
        exact And.intro rfl (go (mn + 1) _ hS3 (by rw [em1]; exact hI3) (by omega))
      · (conv => whnf)
        exact And.intro rfl (go mn m1 hS hI hk)
set_option maxRecDepth 100000 in
set_option maxHeartbeats 4000000 in
theorem reOut : ∀ (n : Nat) (mn k : Int32) (w : Value) (m1 : MM), St wRc m m1 → RI m1 mn.toInt → 0 ≤ k.toInt → k.toInt ≤ 82 → (82 - k.toInt).toNat = n → At (E0 1) mX7_reaches (qi (QR m)) 42 [.ref 1175, .int mn, .int k, w] [] m1 := by
  have step : ∀ (mn k : Int32) (w : Value) (m1 : MM), St wRc m m1 → RI m1 mn.toInt → 0 ≤ k.toInt → (k.toInt < 82 → ∀ (mn w : Int32) (m1 : MM), St wRc m m1 → RI m1 mn.toInt → At (E0 1) mX7_reaches (qi (QR m)) 42 [.ref 1175, .int mn, .int (k + 1), .int w] [] m1) → At (E0 1) mX7_reaches (qi (QR m)) 42 [.ref 1175, .int mn, .int k, w] [] m1 := by
    intro mn k w m1 hS hI k0 hgo
    have hmn : mn.toInt ≤ 82 := by have := hI.2.1; omega
    have fin : ∀ r : Int32, (r ≠ 0 → gI m1 337448 81 ≠ -1) → QR m r m1 := fun r hr => ⟨hS, fun q => hI.tree (hr q)⟩
    refine At.ls okX7_reaches 60 ⟨_, _, rfl⟩ ?_
    (conv => whnf)
    refine And.intro (fun h => ?_) (fun h => ?_)
    · (conv => whnf)
      refine And.intro (vp_in_iff.mpr (by decide)) ?_
      (conv => whnf)
      refine And.intro (fun h2 => ?_) (fun h2 => ?_)
      · exact ⟨Or.inl rfl, fin 0 (fun q => absurd rfl q)⟩
      · exact ⟨Or.inr rfl, fin 1 (fun _ => h2)⟩
    · rw [le_i] at h
      (conv => whnf)
      refine And.intro (vp_in_iff.mpr (by decide)) ?_
      (conv => whnf)
      refine And.intro (fun h2 => ?_) (fun h2 => ?_)
      · (conv => whnf)
        refine And.intro (vp_in_iff.mpr (by decide)) ?_
        (conv => whnf)
        refine And.intro (fun h3 => ?_) (fun h3 => ?_)
        · exact ⟨Or.inl rfl, fin 0 (fun q => absurd rfl q)⟩
        · exact ⟨Or.inr rfl, fin 1 (fun _ => h3)⟩
      · (conv => whnf)
        exact And.intro rfl (reIn k k0 (hgo (by omega)) _ 0 mn m1 hS hI (by omega) (by decide) (by decide) rfl)
  intro n
  induction n with
  | zero =>
    intro mn k w m1 hS hI k0 k1 hn
    exact step mn k w m1 hS hI k0 (fun h => by omega)
  | succ n ih =>
    intro mn k w m1 hS hI k0 k1 hn
    exact step mn k w m1 hS hI k0 (fun h mn2 w2 m2 hS2 hI2 => ih mn2 (k + 1) (.int w2) m2 hS2 hI2 (by rw [inc1 (by omega)]; omega) (by rw [inc1 (by omega)]; omega) (by rw [inc1 (by omega)]; omega))
set_option maxRecDepth 100000 in
set_option maxHeartbeats 4000000 in
theorem reFill : ∀ (n : Nat) (i : Int32) (m1 : MM), St wRc m m1 → 0 ≤ i.toInt → i.toInt ≤ 82 → (82 - i.toInt).toNat = n → (∀ j : Nat, (j : Int) < i.toInt → gI m1 337448 j = -1) → At (E0 1) mX7_reaches (qi (QR m)) 2 [.ref 1175, .int i, .null, .null] [] m1 := by
  have e82 : (82 : Int32).toInt = 82 := rfl
  intro n
  induction n with
  | zero =>
    intro i m1 hS i0 i1 hn hall
    refine At.ls okX7_reaches 60 ⟨_, _, rfl⟩ ?_
    (conv => whnf)
    refine And.intro (fun h => ?_) (fun h => absurd (le_i.mpr (by omega)) h)
    (conv => whnf)
    refine And.intro (vp_in_iff.mpr (by decide)) ?_
    (conv => whnf)
    refine And.intro (vp_in_iff.mpr (by decide)) ?_
    have hS2 : St wRc m (sI m1 337448 (Int32.toNatClampNeg 80) 80) := hS.row rfl (by decide) (by decide) (by decide)
    have hS3 : St wRc m (sI (sI m1 337448 (Int32.toNatClampNeg 80) 80) 337464 (Int32.toNatClampNeg 0) 80) := hS2.row rfl (by decide) (by decide) (by decide)
    have n80 : Int32.toNatClampNeg 80 = 80 := by decide
    have n0 : Int32.toNatClampNeg 0 = 0 := by decide
    have cb : ∀ w, gI (sI (sI m1 337448 (Int32.toNatClampNeg 80) 80) 337464 (Int32.toNatClampNeg 0) 80) 337448 w = if w = 80 then 80 else gI m1 337448 w := fun w => by
      rw [gI_sI, if_neg (fun q => absurd q.1 (by decide)), gI_sI, n80]
      by_cases q : w = 80
      · rw [if_pos ⟨rfl, q⟩, if_pos q]
      · rw [if_neg (fun z => q z.2), if_neg q]
    have hI : RI (sI (sI m1 337448 (Int32.toNatClampNeg 80) 80) 337464 (Int32.toNatClampNeg 0) 80) 1 := by
      refine ⟨by decide, ?_, fun j hj => ?_, fun _ => 0, fun v hv hc => ?_⟩
      · have := cn_upd (f := fun v => gI m1 337448 v) (g := fun v => gI (sI (sI m1 337448 (Int32.toNatClampNeg 80) 80) 337464 (Int32.toNatClampNeg 0) 80) 337448 v) (v := 80) (hall 80 (by omega)) (by show gI (sI (sI m1 337448 (Int32.toNatClampNeg 80) 80) 337464 (Int32.toNatClampNeg 0) 80) 337448 80 ≠ -1; rw [cb, if_pos rfl]; decide) (fun w hw => by show gI (sI (sI m1 337448 (Int32.toNatClampNeg 80) 80) 337464 (Int32.toNatClampNeg 0) 80) 337448 w = gI m1 337448 w; rw [cb, if_neg hw]) 82
        rw [if_pos (by decide), cn_all 82 (fun w hw => hall w (by omega))] at this
        omega
      · have : j = 0 := by omega
        subst this
        have hl : gI (sI (sI m1 337448 (Int32.toNatClampNeg 80) 80) 337464 (Int32.toNatClampNeg 0) 80) 337464 0 = 80 := by rw [gI_sI, n0]; exact if_pos ⟨rfl, rfl⟩
        rw [hl, cb, if_pos (by decide)]
        decide
      · refine ⟨show ((0 : Nat) : Int) < 1 by decide, fun h80 => ?_⟩
        rw [cb, if_neg h80] at hc
        exact absurd (hall v (by omega)) hc
    (conv => whnf)
    exact And.intro rfl (reOut _ 1 0 .null _ hS3 hI (by decide) (by decide) rfl)
  | succ n ih =>
    intro i m1 hS i0 i1 hn hall
    refine At.ls okX7_reaches 60 ⟨_, _, rfl⟩ ?_
    (conv => whnf)
    refine And.intro (fun h => absurd (le_i.mp h) (by omega)) (fun h => ?_)
    have hS2 : St wRc m (sI m1 337448 i.toNatClampNeg (-1)) := hS.row rfl (by decide) (by decide) (by decide)
    (conv => whnf)
    refine And.intro (vp_in_iff.mpr ⟨by omega, by omega⟩) ?_
    (conv => whnf)
    refine And.intro rfl (ih (i + 1) _ hS2 (by rw [inc1 (by omega)]; omega) (by rw [inc1 (by omega)]; omega) (by rw [inc1 (by omega)]; omega) (fun j hj => ?_))
    rw [inc1 (by omega)] at hj
    rw [gI_sI]
    by_cases q : j = i.toNatClampNeg
    · rw [if_pos ⟨rfl, q⟩]
    · rw [if_neg (fun z => q z.2)]
      have q : j ≠ i.toInt.toNat := q
      exact hall j (by omega)
end Re
set_option maxRecDepth 100000 in
theorem hpReaches {m : MM} (hM : Mok TYg m) : CI 1 mX7_reaches [.ref 1175] m (QR m) := by
  refine At.gs okX7_reaches 60 ?_
  (conv => whnf)
  exact And.intro rfl (reFill _ 0 m (St.rf hM) (by decide) (by decide) rfl (fun j hj => by have : (0 : Int32).toInt = 0 := rfl; omega))
