/-! parties of the model: rounds of labels; hands and firm of both -/
def cN (P : Nat → Bool) : Nat → Nat
  | 0 => 0
  | n + 1 => cN P n + (if P n = true then 1 else 0)
theorem cN_le (P : Nat → Bool) : ∀ n, cN P n ≤ n
  | 0 => Nat.le_refl _
  | n + 1 => by
    have := cN_le P n
    show cN P n + (if P n = true then 1 else 0) ≤ n + 1
    split <;> omega
theorem cN_all (P : Nat → Bool) : ∀ n, n ≤ cN P n → ∀ i, i < n → P i = true
  | 0, _, i, hi => absurd hi (Nat.not_lt_zero _)
  | n + 1, h, i, hi => by
    have h : n + 1 ≤ cN P n + (if P n = true then 1 else 0) := h
    have hl := cN_le P n
    by_cases q : P n = true
    · rw [if_pos q] at h
      by_cases z : i = n
      · rw [z]; exact q
      · exact cN_all P n (by omega) i (by omega)
    · rw [if_neg q] at h
      omega
theorem cN_mono {P Q : Nat → Bool} : ∀ n, (∀ i, i < n → P i = true → Q i = true) → cN P n ≤ cN Q n
  | 0, _ => Nat.le_refl _
  | n + 1, h => by
    have := cN_mono n (fun i hi => h i (by omega))
    show cN P n + (if P n = true then 1 else 0) ≤ cN Q n + (if Q n = true then 1 else 0)
    by_cases q : P n = true
    · rw [if_pos q, if_pos (h n (by omega) q)]; omega
    · rw [if_neg q]; omega
theorem cN_more {P Q : Nat → Bool} {a : Nat} : ∀ n, (∀ i, i < n → P i = true → Q i = true) → a < n → ¬ P a = true → Q a = true → cN P n < cN Q n
  | 0, _, ha, _, _ => absurd ha (Nat.not_lt_zero _)
  | n + 1, h, ha, hp, hq => by
    show cN P n + (if P n = true then 1 else 0) < cN Q n + (if Q n = true then 1 else 0)
    by_cases z : a = n
    · have := cN_mono (P := P) (Q := Q) n (fun i hi => h i (by omega))
      rw [← z, if_neg hp, if_pos hq, z]
      omega
    · have := cN_more n (fun i hi => h i (by omega)) (by omega : a < n) hp hq
      by_cases q : P n = true
      · rw [if_pos q, if_pos (h n (by omega) q)]; omega
      · rw [if_neg q]; omega
theorem cN_cg {P Q : Nat → Bool} : ∀ n, (∀ i, i < n → P i = Q i) → cN P n = cN Q n
  | 0, _ => rfl
  | n + 1, h => by
    show cN P n + (if P n = true then 1 else 0) = cN Q n + (if Q n = true then 1 else 0)
    rw [cN_cg n (fun i hi => h i (by omega)), h n (by omega)]
/-- settled: the label is the one -/
def stl (p l : Nat → Nat) : Nat → Bool := fun f => Nat.beq (l f) (p f)
theorem stl_i {p l : Nat → Nat} {f : Nat} : stl p l f = true ↔ l f = p f := ⟨fun h => Nat.eq_of_beq_eq_true h, fun h => by show Nat.beq (l f) (p f) = true; rw [h]; exact Nat.beq_refl _⟩
/-- labels on the way -/
def LbI (n : Nat) (p l : Nat → Nat) : Prop := (∀ f, f < n → l f ≤ f) ∧ (∀ f, f < n → p (l f) = p f)
theorem LbI.ge {J : Nat → Nat → Prop} {n : Nat} {p l : Nat → Nat} (hL : LabOn J n p) (h : LbI n p l) {f : Nat} (hf : f < n) : p f ≤ l f := by
  have a := h.1 f hf
  have b := h.2 f hf
  have c := hL.1 (l f) (by omega)
  omega
/-- a round's work up to (a, b) -/
def RqI (J : Nat → Nat → Prop) (n : Nat) (p l0 l : Nat → Nat) (a b : Nat) : Prop := (∀ f, f < n → l f ≤ l0 f) ∧ (∀ f, f < n → p (l f) = p f) ∧ (∀ x y, x < n → y < n → J x y → (x < a ∨ (x = a ∧ y < b)) → l x ≤ l0 y)
def mnL (l : Nat → Nat) (a b : Nat) : Nat → Nat := fun f => if f = a then (if l b < l a then l b else l a) else l f
theorem RqI.yes {J : Nat → Nat → Prop} {n a b : Nat} {p l0 l : Nat → Nat} (hL : LabOn J n p) (h : RqI J n p l0 l a b) (ha : a < n) (hb : b < n) (hJ : J a b) : RqI J n p l0 (mnL l a b) a (b + 1) := by
  obtain ⟨h1, h2, h3⟩ := h
  have hle : ∀ f, mnL l a b f ≤ l f := by
    intro f
    unfold mnL
    by_cases q : f = a
    · rw [if_pos q, q]
      split <;> omega
    · rw [if_neg q]; exact Nat.le_refl _
  refine ⟨fun f hf => Nat.le_trans (hle f) (h1 f hf), fun f hf => ?_, fun x y hx hy hxy hz => ?_⟩
  · unfold mnL
    by_cases q : f = a
    · rw [if_pos q, q]
      by_cases z : l b < l a
      · rw [if_pos z, h2 b hb]
        exact (hL.2.1 a b ha hb hJ).symm
      · rw [if_neg z]
        exact h2 a ha
    · rw [if_neg q]
      exact h2 f hf
  · by_cases q : x = a ∧ y = b
    · rw [q.1, q.2]
      unfold mnL
      rw [if_pos rfl]
      have := h1 b hb
      split <;> omega
    · exact Nat.le_trans (hle x) (h3 x y hx hy hxy (by omega))
theorem RqI.no {J : Nat → Nat → Prop} {n a b : Nat} {p l0 l : Nat → Nat} (h : RqI J n p l0 l a b) (hJ : ¬ J a b) : RqI J n p l0 l a (b + 1) := by
  obtain ⟨h1, h2, h3⟩ := h
  refine ⟨h1, h2, fun x y hx hy hxy hz => ?_⟩
  by_cases q : x = a ∧ y = b
  · rw [q.1, q.2] at hxy
    exact absurd hxy hJ
  · exact h3 x y hx hy hxy (by omega)
theorem RqI.row {J : Nat → Nat → Prop} {n a b : Nat} {p l0 l : Nat → Nat} (h : RqI J n p l0 l a b) (hb : b = n) : RqI J n p l0 l (a + 1) 0 := by
  obtain ⟨h1, h2, h3⟩ := h
  exact ⟨h1, h2, fun x y hx hy hxy hz => h3 x y hx hy hxy (by omega)⟩
/-- after r rounds: all settled, or r of them -/
def RdI (n r : Nat) (p l : Nat → Nat) : Prop := (∀ f, f < n → l f = p f) ∨ r ≤ cN (stl p l) n
theorem RdI.next {J : Nat → Nat → Prop} {n r a : Nat} {p l0 l : Nat → Nat} (hs : ∀ x y, J x y → J y x) (hL : LabOn J n p) (h0 : LbI n p l0) (hr : RdI n r p l0) (h : RqI J n p l0 l a 0) (ha : a = n) : LbI n p l ∧ RdI n (r + 1) p l := by
  obtain ⟨h1, h2, h3⟩ := h
  have hI : LbI n p l := ⟨fun f hf => Nat.le_trans (h1 f hf) (h0.1 f hf), h2⟩
  have mono : ∀ f, f < n → l0 f = p f → l f = p f := fun f hf e => by
    have u := h1 f hf
    have v := hI.ge hL hf
    omega
  refine ⟨hI, ?_⟩
  by_cases hall : ∀ f, f < n → l0 f = p f
  · exact Or.inl (fun f hf => mono f hf (hall f hf))
  · have hr : r ≤ cN (stl p l0) n := Or.elim hr (fun z => absurd z hall) (fun z => z)
    refine Or.inr ?_
    have ex : ∃ x y, x < n ∧ y < n ∧ J x y ∧ ¬ l0 x = p x ∧ l0 y = p y := by
      refine Classical.byContradiction (fun nx => hall (fun f hf => ?_))
      refine Decidable.byContradiction (fun hfn => ?_)
      have rs : ∀ x y, x < n → y < n → J x y → (if l0 x = p x then 0 else 1) = (if l0 y = p y then 0 else 1) := by
        intro x y hx hy hxy
        by_cases q1 : l0 x = p x
        · by_cases q2 : l0 y = p y
          · rw [if_pos q1, if_pos q2]
          · exact absurd ⟨y, x, hy, hx, hs x y hxy, q2, q1⟩ nx
        · by_cases q2 : l0 y = p y
          · exact absurd ⟨x, y, hx, hy, hxy, q1, q2⟩ nx
          · rw [if_neg q1, if_neg q2]
      have k := hL.2.2 (fun x => if l0 x = p x then 0 else 1) rs f hf
      have k : (if l0 (p f) = p (p f) then 0 else 1) = (if l0 f = p f then 0 else 1) := k
      have pf := hL.1 f hf
      have a1 : p (p f) = p f := hL.2.2 p hL.2.1 f hf
      have a2 := h0.1 (p f) (by omega)
      have a3 := h0.ge hL (by omega : p f < n)
      rw [if_neg hfn, if_pos (by omega)] at k
      exact absurd k (by decide)
    obtain ⟨x, y, hx, hy, hxy, e1, e2⟩ := ex
    have e3 : l x = p x := by
      have u := h3 x y hx hy hxy (Or.inl (by omega))
      have v := hL.2.1 x y hx hy hxy
      have z := hI.ge hL hx
      omega
    have := cN_more (P := stl p l0) (Q := stl p l) (a := x) n (fun i hi z => stl_i.mpr (mono i hi (stl_i.mp z))) hx (fun z => e1 (stl_i.mp z)) (stl_i.mpr e3)
    omega
theorem RdI.fin {n r : Nat} {p l : Nat → Nat} (h : RdI n r p l) (hr : r = n) : ∀ f, f < n → l f = p f := by
  rcases h with z | z
  · exact z
  · exact fun f hf => stl_i.mp (cN_all _ n (by omega) f hf)
theorem mn_eq {l : Nat → Nat} {a b n : Nat} {g : Nat → Int32} (hl : ∀ f, f < n → l f < 12) (hg : ∀ f, f < n → g f = nI (l f)) (ha : a < n) (hb : b < n) : (if g b < g a then g b else g a) = nI (if l b < l a then l b else l a) := by
  have ba := hl a ha
  have bb := hl b hb
  rw [hg a ha, hg b hb]
  by_cases q : l b < l a
  · rw [if_pos q, if_pos (by rw [lt_i, nI_toInt (by omega), nI_toInt (by omega)]; omega)]
  · rw [if_neg q, if_neg (fun z => by rw [lt_i, nI_toInt (by omega), nI_toInt (by omega)] at z; omega)]
def wPa : List Nat := [50632]
def PaQ (m : MM) (p : Nat → Nat) (m' : MM) : Prop := St wPa m m' ∧ ∀ f, f < (vw m).1 2 → gI m' 50632 f = nI (p f)
section PaM
variable {m : MM} {p : Nat → Nat} {n : Nat}
set_option maxRecDepth 100000 in
set_option maxHeartbeats 8000000 in
theorem pa45 (hn : (gI m 1175 5).toInt = n) (hn2 : n = (vw m).1 2) (h12 : n ≤ 12) (hL : LabOn (joV (vw m)) n p) {l0 : Nat → Nat} (h0 : LbI n p l0) {a : Nat} {rI aI : Int32} (ha : aI.toInt = a) (hlt : a < n)
    (K : ∀ (m1 : MM) (l : Nat → Nat) (v : Value), St wPa m m1 → RqI (joV (vw m)) n p l0 l (a + 1) 0 → (∀ f, f < n → gI m1 50632 f = nI (l f)) → At (E0 1) mX7_parties (qv (PaQ m p)) 35 [.ref 1175, .int rI, .int (aI + 1), v] [] m1) :
    ∀ (d b : Nat) (bI : Int32) (m1 : MM) (l : Nat → Nat), bI.toInt = b → b + d = n → St wPa m m1 → RqI (joV (vw m)) n p l0 l a b → (∀ f, f < n → gI m1 50632 f = nI (l f)) → At (E0 1) mX7_parties (qv (PaQ m p)) 45 [.ref 1175, .int rI, .int aI, .int bI] [] m1 := by
  intro d
  induction d with
  | zero =>
    intro b bI m1 l hb hd hS hR hG
    have hn1 : (gI m1 1175 5).toInt = n := by rw [fr1 hS.2.2 (by decide)]; exact hn
    refine At.ls okX7_parties 60 ⟨_, _, rfl⟩ ?_
    (conv => whnf)
    refine And.intro (fun h => ?_) (fun h => ?_)
    · (conv => whnf)
      exact And.intro rfl (K m1 l (.int bI) hS (RqI.row hR (by omega)) hG)
    · have h : ¬ gI m1 1175 5 ≤ bI := h
      rw [le_i] at h
      omega
  | succ d ih =>
    intro b bI m1 l hb hd hS hR hG
    have hn1 : (gI m1 1175 5).toInt = n := by rw [fr1 hS.2.2 (by decide)]; exact hn
    have eb : (bI + 1).toInt = ((b + 1 : Nat) : Int) := by rw [inc1 (by omega), hb]; omega
    have va : vp_in aI 24 := vp_in_iff.mpr ⟨by omega, show aI.toInt < ((24 : Nat) : Int) by omega⟩
    have vb : vp_in bI 24 := vp_in_iff.mpr ⟨by omega, show bI.toInt < ((24 : Nat) : Int) by omega⟩
    have wa : vp_in aI 12 := vp_in_iff.mpr ⟨by omega, show aI.toInt < ((12 : Nat) : Int) by omega⟩
    have wb : vp_in bI 12 := vp_in_iff.mpr ⟨by omega, show bI.toInt < ((12 : Nat) : Int) by omega⟩
    have az : aI.toNatClampNeg = a := nat_c ha
    have bz : bI.toNatClampNeg = b := nat_c hb
    have r6 : ∀ k, gI m1 99608 k = (vw m).2 6 k := fun k => row1 hS.2.2 rfl (by decide)
    have r7 : ∀ k, gI m1 99624 k = (vw m).2 7 k := fun k => row1 hS.2.2 rfl (by decide)
    have hl : ∀ f, f < n → l f < 12 := fun f hf => by
      have u := hR.1 f hf
      have v := h0.1 f hf
      omega
    have hv : (if gI m1 50632 bI.toNatClampNeg < gI m1 50632 aI.toNatClampNeg then gI m1 50632 bI.toNatClampNeg else gI m1 50632 aI.toNatClampNeg) = nI (if l b < l a then l b else l a) := by
      rw [az, bz]
      exact mn_eq (g := fun k => gI m1 50632 k) hl hG (by omega) (by omega)
    have SP : St wPa m (sI m1 50632 aI.toNatClampNeg (if gI m1 50632 bI.toNatClampNeg < gI m1 50632 aI.toNatClampNeg then gI m1 50632 bI.toNatClampNeg else gI m1 50632 aI.toNatClampNeg)) := hS.row (by decide) (by decide) (tI_lo _) (tI_hi _)
    have gP : ∀ f, f < n → gI (sI m1 50632 aI.toNatClampNeg (if gI m1 50632 bI.toNatClampNeg < gI m1 50632 aI.toNatClampNeg then gI m1 50632 bI.toNatClampNeg else gI m1 50632 aI.toNatClampNeg)) 50632 f = nI (mnL l a b f) := by
      intro f hf
      rw [hv, az, gI_if]
      unfold mnL
      by_cases q : f = a
      · rw [if_pos ⟨rfl, q⟩, if_pos q]
      · rw [if_neg (fun z => q z.2), if_neg q]
        exact hG f hf
    refine At.ls okX7_parties 120 ⟨_, _, rfl⟩ ?_
    (conv => whnf)
    refine And.intro (fun h => ?_) (fun h => ?_)
    · have h : gI m1 1175 5 ≤ bI := h
      rw [le_i] at h
      omega
    · (conv => whnf)
      refine And.intro va ?_
      (conv => whnf)
      refine And.intro (fun h2 => ?_) (fun h2 => ?_)
      · have h2 : gI m1 99608 aI.toNatClampNeg = 0 := h2
        rw [az, r6] at h2
        have no1 : ¬ ((vw m).2 6 a ≠ 0 ∧ (vw m).2 6 a = (vw m).2 6 b) := fun u => u.1 h2
        (conv => whnf)
        refine And.intro va ?_
        (conv => whnf)
        refine And.intro (fun h6 => ?_) (fun h6 => ?_)
        · have h6 : gI m1 99624 aI.toNatClampNeg = 0 := h6
          rw [az, r7] at h6
          (conv => whnf)
          exact And.intro rfl (ih (b + 1) (bI + 1) m1 l eb (by omega) hS (RqI.no hR (fun z => Or.elim z (fun u => no1 u) (fun u => u.1 h6))) hG)
        · have h6 : ¬ gI m1 99624 aI.toNatClampNeg = 0 := h6
          rw [az, r7] at h6
          (conv => whnf)
          refine And.intro va ?_
          (conv => whnf)
          refine And.intro vb ?_
          (conv => whnf)
          refine And.intro (fun h7 => ?_) (fun h7 => ?_)
          · have h7 : ¬ gI m1 99624 aI.toNatClampNeg = gI m1 99624 bI.toNatClampNeg := h7
            rw [az, bz, r7, r7] at h7
            (conv => whnf)
            exact And.intro rfl (ih (b + 1) (bI + 1) m1 l eb (by omega) hS (RqI.no hR (fun z => Or.elim z (fun u => no1 u) (fun u => h7 u.2))) hG)
          · have h7 : gI m1 99624 aI.toNatClampNeg = gI m1 99624 bI.toNatClampNeg := h7
            rw [az, bz, r7, r7] at h7
            (conv => whnf)
            refine And.intro wa ?_
            (conv => whnf)
            refine And.intro wb ?_
            (conv => whnf)
            refine And.intro wa ?_
            (conv => whnf)
            exact And.intro rfl (ih (b + 1) (bI + 1) _ (mnL l a b) eb (by omega) SP (RqI.yes hL hR (by omega) (by omega) (Or.inr ⟨h6, h7⟩)) gP)
      · have h2 : ¬ gI m1 99608 aI.toNatClampNeg = 0 := h2
        rw [az, r6] at h2
        (conv => whnf)
        refine And.intro va ?_
        (conv => whnf)
        refine And.intro vb ?_
        (conv => whnf)
        refine And.intro (fun h4 => ?_) (fun h4 => ?_)
        · have h4 : gI m1 99608 aI.toNatClampNeg = gI m1 99608 bI.toNatClampNeg := h4
          rw [az, bz, r6, r6] at h4
          (conv => whnf)
          refine And.intro wa ?_
          (conv => whnf)
          refine And.intro wb ?_
          (conv => whnf)
          refine And.intro wa ?_
          (conv => whnf)
          exact And.intro rfl (ih (b + 1) (bI + 1) _ (mnL l a b) eb (by omega) SP (RqI.yes hL hR (by omega) (by omega) (Or.inl ⟨h2, h4⟩)) gP)
        · have h4 : ¬ gI m1 99608 aI.toNatClampNeg = gI m1 99608 bI.toNatClampNeg := h4
          rw [az, bz, r6, r6] at h4
          have no1 : ¬ ((vw m).2 6 a ≠ 0 ∧ (vw m).2 6 a = (vw m).2 6 b) := fun u => h4 u.2
          (conv => whnf)
          refine And.intro va ?_
          (conv => whnf)
          refine And.intro (fun h6 => ?_) (fun h6 => ?_)
          · have h6 : gI m1 99624 aI.toNatClampNeg = 0 := h6
            rw [az, r7] at h6
            (conv => whnf)
            exact And.intro rfl (ih (b + 1) (bI + 1) m1 l eb (by omega) hS (RqI.no hR (fun z => Or.elim z (fun u => no1 u) (fun u => u.1 h6))) hG)
          · have h6 : ¬ gI m1 99624 aI.toNatClampNeg = 0 := h6
            rw [az, r7] at h6
            (conv => whnf)
            refine And.intro va ?_
            (conv => whnf)
            refine And.intro vb ?_
            (conv => whnf)
            refine And.intro (fun h7 => ?_) (fun h7 => ?_)
            · have h7 : ¬ gI m1 99624 aI.toNatClampNeg = gI m1 99624 bI.toNatClampNeg := h7
              rw [az, bz, r7, r7] at h7
              (conv => whnf)
              exact And.intro rfl (ih (b + 1) (bI + 1) m1 l eb (by omega) hS (RqI.no hR (fun z => Or.elim z (fun u => no1 u) (fun u => h7 u.2))) hG)
            · have h7 : gI m1 99624 aI.toNatClampNeg = gI m1 99624 bI.toNatClampNeg := h7
              rw [az, bz, r7, r7] at h7
              (conv => whnf)
              refine And.intro wa ?_
              (conv => whnf)
              refine And.intro wb ?_
              (conv => whnf)
              refine And.intro wa ?_
              (conv => whnf)
              exact And.intro rfl (ih (b + 1) (bI + 1) _ (mnL l a b) eb (by omega) SP (RqI.yes hL hR (by omega) (by omega) (Or.inr ⟨h6, h7⟩)) gP)
set_option maxRecDepth 100000 in
set_option maxHeartbeats 8000000 in
theorem pa35 (hn : (gI m 1175 5).toInt = n) (hn2 : n = (vw m).1 2) (h12 : n ≤ 12) (hL : LabOn (joV (vw m)) n p) {l0 : Nat → Nat} (h0 : LbI n p l0) {r : Nat} {rI : Int32} (hr : rI.toInt = r) (hrn : r < n) (hR0 : RdI n r p l0)
    (K : ∀ (m1 : MM) (l : Nat → Nat) (v2 v3 : Value), St wPa m m1 → LbI n p l → RdI n (r + 1) p l → (∀ f, f < n → gI m1 50632 f = nI (l f)) → At (E0 1) mX7_parties (qv (PaQ m p)) 25 [.ref 1175, .int (rI + 1), v2, v3] [] m1) :
    ∀ (d a : Nat) (aI : Int32) (v : Value) (m1 : MM) (l : Nat → Nat), aI.toInt = a → a + d = n → St wPa m m1 → RqI (joV (vw m)) n p l0 l a 0 → (∀ f, f < n → gI m1 50632 f = nI (l f)) → At (E0 1) mX7_parties (qv (PaQ m p)) 35 [.ref 1175, .int rI, .int aI, v] [] m1 := by
  intro d
  induction d with
  | zero =>
    intro a aI v m1 l ha hd hS hR hG
    have hn1 : (gI m1 1175 5).toInt = n := by rw [fr1 hS.2.2 (by decide)]; exact hn
    have z := RdI.next (fun x y q => joP_sy q) hL h0 hR0 hR (by omega)
    refine At.ls okX7_parties 60 ⟨_, _, rfl⟩ ?_
    (conv => whnf)
    refine And.intro (fun h => ?_) (fun h => ?_)
    · (conv => whnf)
      exact And.intro rfl (K m1 l (.int aI) v hS z.1 z.2 hG)
    · have h : ¬ gI m1 1175 5 ≤ aI := h
      rw [le_i] at h
      omega
  | succ d ih =>
    intro a aI v m1 l ha hd hS hR hG
    have hn1 : (gI m1 1175 5).toInt = n := by rw [fr1 hS.2.2 (by decide)]; exact hn
    have ea : (aI + 1).toInt = ((a + 1 : Nat) : Int) := by rw [inc1 (by omega), ha]; omega
    refine At.ls okX7_parties 60 ⟨_, _, rfl⟩ ?_
    (conv => whnf)
    refine And.intro (fun h => ?_) (fun h => ?_)
    · have h : gI m1 1175 5 ≤ aI := h
      rw [le_i] at h
      omega
    · (conv => whnf)
      exact And.intro rfl (pa45 hn hn2 h12 hL h0 ha (by omega) (fun m2 l2 v2 hS2 hR2 hG2 => ih (a + 1) (aI + 1) v2 m2 l2 ea (by omega) hS2 hR2 hG2) n 0 0 m1 l rfl (by omega) hS hR hG)
set_option maxRecDepth 100000 in
set_option maxHeartbeats 8000000 in
theorem pa25 (hn : (gI m 1175 5).toInt = n) (hn2 : n = (vw m).1 2) (h12 : n ≤ 12) (hL : LabOn (joV (vw m)) n p) :
    ∀ (d r : Nat) (rI : Int32) (v2 v3 : Value) (m1 : MM) (l : Nat → Nat), rI.toInt = r → r + d = n → St wPa m m1 → LbI n p l → RdI n r p l → (∀ f, f < n → gI m1 50632 f = nI (l f)) → At (E0 1) mX7_parties (qv (PaQ m p)) 25 [.ref 1175, .int rI, v2, v3] [] m1 := by
  intro d
  induction d with
  | zero =>
    intro r rI v2 v3 m1 l hr hd hS hI hR hG
    have hn1 : (gI m1 1175 5).toInt = n := by rw [fr1 hS.2.2 (by decide)]; exact hn
    refine At.ls okX7_parties 60 ⟨_, _, rfl⟩ ?_
    (conv => whnf)
    refine And.intro (fun h => ?_) (fun h => ?_)
    · refine ⟨hS, fun f hf => ?_⟩
      rw [hG f (by omega), hR.fin (by omega) f (by omega)]
    · have h : ¬ gI m1 1175 5 ≤ rI := h
      rw [le_i] at h
      omega
  | succ d ih =>
    intro r rI v2 v3 m1 l hr hd hS hI hR hG
    have hn1 : (gI m1 1175 5).toInt = n := by rw [fr1 hS.2.2 (by decide)]; exact hn
    have er : (rI + 1).toInt = ((r + 1 : Nat) : Int) := by rw [inc1 (by omega), hr]; omega
    refine At.ls okX7_parties 60 ⟨_, _, rfl⟩ ?_
    (conv => whnf)
    refine And.intro (fun h => ?_) (fun h => ?_)
    · have h : gI m1 1175 5 ≤ rI := h
      rw [le_i] at h
      omega
    · (conv => whnf)
      exact And.intro rfl (pa35 hn hn2 h12 hL hI hr (by omega) hR (fun m2 l2 w2 w3 hS2 hI2 hR2 hG2 => ih (r + 1) (rI + 1) w2 w3 m2 l2 er (by omega) hS2 hI2 hR2 hG2) n 0 0 v3 m1 l rfl (by omega) hS ⟨fun f _ => Nat.le_refl _, hI.2, fun x y _ _ _ z => by omega⟩ hG)
set_option maxRecDepth 100000 in
set_option maxHeartbeats 8000000 in
theorem s_parties (hM : Mok TYg m) (hL : LabOn (joV (vw m)) ((vw m).1 2) p) : CV 1 mX7_parties [.ref 1175] m (PaQ m p) := by
  have hn : (gI m 1175 5).toInt = ((vw m).1 2 : Nat) := vw2 hM
  have h12 : (vw m).1 2 ≤ 12 := by
    have : (gI m 1175 5).toInt ≤ 12 := (hM.1 1175 5).2
    omega
  have lp : ∀ (d i : Nat) (iI : Int32) (v2 v3 : Value) (m1 : MM), iI.toInt = i → i + d = (vw m).1 2 → St wPa m m1 → (∀ f, f < i → gI m1 50632 f = nI f) → At (E0 1) mX7_parties (qv (PaQ m p)) 2 [.ref 1175, .int iI, v2, v3] [] m1 := by
    intro d
    induction d with
    | zero =>
      intro i iI v2 v3 m1 hi hd hS hG
      have hn1 : (gI m1 1175 5).toInt = ((vw m).1 2 : Nat) := by rw [fr1 hS.2.2 (by decide)]; exact hn
      refine At.ls okX7_parties 60 ⟨_, _, rfl⟩ ?_
      (conv => whnf)
      refine And.intro (fun h => ?_) (fun h => ?_)
      · (conv => whnf)
        exact And.intro rfl (pa25 hn rfl h12 hL ((vw m).1 2) 0 0 v2 v3 m1 (fun f => f) rfl (by omega) hS ⟨fun f _ => Nat.le_refl _, fun f _ => rfl⟩ (Or.inr (Nat.zero_le _)) (fun f hf => hG f (by omega)))
      · have h : ¬ gI m1 1175 5 ≤ iI := h
        rw [le_i] at h
        omega
    | succ d ih =>
      intro i iI v2 v3 m1 hi hd hS hG
      have hn1 : (gI m1 1175 5).toInt = ((vw m).1 2 : Nat) := by rw [fr1 hS.2.2 (by decide)]; exact hn
      have ei : (iI + 1).toInt = ((i + 1 : Nat) : Int) := by rw [inc1 (by omega), hi]; omega
      have vi : vp_in iI 12 := vp_in_iff.mpr ⟨by omega, show iI.toInt < ((12 : Nat) : Int) by omega⟩
      have iz : iI.toNatClampNeg = i := nat_c hi
      have SP : St wPa m (sI m1 50632 iI.toNatClampNeg iI) := hS.row (by decide) (by decide) (tI_lo _) (tI_hi _)
      refine At.ls okX7_parties 60 ⟨_, _, rfl⟩ ?_
      (conv => whnf)
      refine And.intro (fun h => ?_) (fun h => ?_)
      · have h : gI m1 1175 5 ≤ iI := h
        rw [le_i] at h
        omega
      · (conv => whnf)
        refine And.intro vi ?_
        (conv => whnf)
        refine And.intro rfl (ih (i + 1) (iI + 1) v2 v3 _ ei (by omega) SP (fun f hf => ?_))
        rw [iz, gI_if]
        by_cases q : f = i
        · rw [if_pos ⟨rfl, q⟩, q]
          exact nI_back hi
        · rw [if_neg (fun z => q z.2)]
          exact hG f (by omega)
  refine At.gs okX7_parties 60 ?_
  (conv => whnf)
  exact And.intro rfl (lp ((vw m).1 2) 0 0 _ _ m rfl (by omega) (St.rf hM) (fun f hf => absurd hf (Nat.not_lt_zero _)))
end PaM
theorem nI_p1 {a : Nat} (h : a < 2147483647) : nI a + 1 = nI (a + 1) := nI_back (by rw [inc1 (by rw [nI_toInt (by omega)]; omega), nI_toInt (by omega)]; omega)
theorem nI_p0 {a : Nat} (h : a < 2147483648) : nI a + 0 = nI a := by
  have e0 : (0 : Int32).toInt = 0 := rfl
  refine Int32.toInt_inj.mp ?_
  rw [tI_add (by rw [e0, nI_toInt h]; unfold i32lo; omega) (by rw [e0, nI_toInt h]; unfold i32hi; omega), e0]
  omega
/-- how many firms are their own label -/
def haP (V : VW) (p : Nat → Nat) : Int32 := nI (cN (fun f => Nat.beq (p f) f) (V.1 2))
def fiP (V : VW) (p : Nat → Nat) (ru : Int32) (f : Nat) (wt : Int32) : Int32 := if wt = 0 then V.2 4 f else if wt = 1 then V.2 5 f else if wt = 2 then V.2 6 f else if wt = 3 then V.2 7 f else if wt = 4 then owesP V ru (nI f) (V.1 3) else if wt = 5 then 100 * V.2 8 f else if wt = 6 then (if misB V ru f = true then 1 else 0) else if wt = 7 then nI (p f) else -2147483648
def fiA (V : VW) (p : Nat → Nat) (ru f wt : Int32) : Int32 := if 0 ≤ f.toInt ∧ f.toInt < V.1 2 then fiP V p ru f.toNatClampNeg wt else -2147483648
theorem haP_1 {V : VW} {p p' : Nat → Nat} (h : LabOn (joV V) (V.1 2) p) (h' : LabOn (joV V) (V.1 2) p') : haP V p = haP V p' := by
  unfold haP
  rw [cN_cg (P := fun f => Nat.beq (p f) f) (Q := fun f => Nat.beq (p' f) f) _ (fun i hi => by rw [h.one h' i hi])]
theorem fiA_1 {V : VW} {p p' : Nat → Nat} {ru f wt : Int32} (h : LabOn (joV V) (V.1 2) p) (h' : LabOn (joV V) (V.1 2) p') : fiA V p ru f wt = fiA V p' ru f wt := by
  unfold fiA
  by_cases q : 0 ≤ f.toInt ∧ f.toInt < V.1 2
  · rw [if_pos q, if_pos q]
    unfold fiP
    rw [h.one h' f.toNatClampNeg (by show f.toInt.toNat < _; omega)]
  · rw [if_neg q, if_neg q]
theorem fiP_out {V : VW} {p : Nat → Nat} {ru wt : Int32} {f : Nat} (h : wt.toInt < 0 ∨ 7 < wt.toInt) : fiP V p ru f wt = -2147483648 := by
  unfold fiP
  rw [if_neg (fun z => by rw [z] at h; exact absurd h (by decide)), if_neg (fun z => by rw [z] at h; exact absurd h (by decide)), if_neg (fun z => by rw [z] at h; exact absurd h (by decide)), if_neg (fun z => by rw [z] at h; exact absurd h (by decide)), if_neg (fun z => by rw [z] at h; exact absurd h (by decide)), if_neg (fun z => by rw [z] at h; exact absurd h (by decide)), if_neg (fun z => by rw [z] at h; exact absurd h (by decide)), if_neg (fun z => by rw [z] at h; exact absurd h (by decide))]
def wFi : List Nat := [50632, 4294968471]
theorem vw_z {m : MM} : vw (sI m 1175 0 0) = vw m := vw_fr (Fr_sI (W := [4294968471]) (Fr_rfl _ _) (by decide) (fun _ z => by omega)) (by decide +kernel)
theorem St_z {m : MM} (hM : Mok TYg m) : St wFi m (sI m 1175 0 0) := (St.rf hM).fld (a := 1175) (k := 0) (v := 0) (by decide) (by decide) (by decide) (fun _ z => by omega)
set_option maxRecDepth 100000 in
set_option maxHeartbeats 4000000 in
theorem r_hands_336 {m : MM} {p : Nat → Nat} (hM : Mok TYg m) (h : SB 336 m) (hc : m.2.2 = (336, 720)) (hpl : ∀ f, f < (vw m).1 2 → p f ≤ f) (hp : ∀ f, f < (vw m).1 2 → gI m 49848 f = nI (p f)) : CI 1 mX6_hands [.ref 6] m (fun r m' => m' = m ∧ r = haP (vw m) p) := by
  have h12 := h.2.2.2.2.2.1.2.2.1
  have e2 : gI m 418 1 = gI m 1175 5 := h.1 2 (by decide)
  have c2 : (gI m 418 1).toInt = (vw m).1 2 := by rw [e2]; exact vw2 hM
  obtain ⟨ff, g, c⟩ := m
  obtain rfl : c = (336, 720) := hc
  have lp : ∀ (d k : Nat) (kI acc : Int32), kI.toInt = k → k + d = (vw (ff, g, (336, 720))).1 2 → acc = nI (cN (fun f => Nat.beq (p f) f) k) → At (E0 1) mX6_hands (qi (fun r m' => m' = (ff, g, (336, 720)) ∧ r = haP (vw (ff, g, (336, 720))) p)) 4 [.ref 6, .int acc, .int kI] [] (ff, g, (336, 720)) := by
    intro d
    induction d with
    | zero =>
      intro k kI acc hk hd ha
      refine At.ls okX6_hands 60 ⟨_, _, rfl⟩ ?_
      (conv => whnf)
      refine And.intro (fun h => ?_) (fun h => ?_)
      · refine ⟨rfl, ?_⟩
        rw [ha, show k = (vw (ff, g, (336, 720))).1 2 by omega]
        rfl
      · have h : ¬ gI (ff, g, (336, 720)) 418 1 ≤ kI := h
        rw [le_i] at h
        omega
    | succ d ih =>
      intro k kI acc hk hd ha
      have e1 : (kI + 1).toInt = ((k + 1 : Nat) : Int) := by rw [inc1 (by omega), hk]; omega
      have v1 : vp_in kI 12 := vp_in_iff.mpr ⟨by omega, show kI.toInt < ((12 : Nat) : Int) by omega⟩
      have kz : kI.toNatClampNeg = k := nat_c hk
      have gk := hp k (by omega)
      have pk := hpl k (by omega)
      have cl := cN_le (fun f => Nat.beq (p f) f) k
      refine At.ls okX6_hands 60 ⟨_, _, rfl⟩ ?_
      (conv => whnf)
      refine And.intro (fun h => ?_) (fun h => ?_)
      · have h : gI (ff, g, (336, 720)) 418 1 ≤ kI := h
        rw [le_i] at h
        omega
      · (conv => whnf)
        refine And.intro v1 ?_
        (conv => whnf)
        refine And.intro (fun h2 => ?_) (fun h2 => ?_)
        · have h2 : ¬ gI (ff, g, (336, 720)) 49848 kI.toNatClampNeg = kI := h2
          rw [kz, gk, nI_back hk] at h2
          have h2 : ¬ Nat.beq (p k) k = true := fun z => h2 (by rw [Nat.eq_of_beq_eq_true z])
          (conv => whnf)
          refine And.intro rfl (ih (k + 1) (kI + 1) _ e1 (by omega) ?_)
          show acc + 0 = nI (cN (fun f => Nat.beq (p f) f) k + (if Nat.beq (p k) k = true then 1 else 0))
          rw [ha, if_neg h2, nI_p0 (by omega)]
          rfl
        · have h2 : gI (ff, g, (336, 720)) 49848 kI.toNatClampNeg = kI := h2
          rw [kz, gk, nI_back hk] at h2
          have h2 : Nat.beq (p k) k = true := by rw [nI_i (by omega) (by omega) h2]; exact Nat.beq_refl _
          (conv => whnf)
          refine And.intro rfl (ih (k + 1) (kI + 1) _ e1 (by omega) ?_)
          show acc + 1 = nI (cN (fun f => Nat.beq (p f) f) k + (if Nat.beq (p k) k = true then 1 else 0))
          rw [ha, if_pos h2, nI_p1 (by omega)]
  refine At.gs okX6_hands 60 ?_
  (conv => whnf)
  exact And.intro rfl (lp ((vw (ff, g, (336, 720))).1 2) 0 0 0 rfl (by omega) rfl)
set_option maxRecDepth 100000 in
set_option maxHeartbeats 4000000 in
theorem r_hands_720 {m : MM} {p : Nat → Nat} (hM : Mok TYg m) (h : SB 720 m) (hc : m.2.2 = (720, 336)) (hpl : ∀ f, f < (vw m).1 2 → p f ≤ f) (hp : ∀ f, f < (vw m).1 2 → gI m 50232 f = nI (p f)) : CI 1 mX6_hands [.ref 6] m (fun r m' => m' = m ∧ r = haP (vw m) p) := by
  have h12 := h.2.2.2.2.2.1.2.2.1
  have e2 : gI m 802 1 = gI m 1175 5 := h.1 2 (by decide)
  have c2 : (gI m 802 1).toInt = (vw m).1 2 := by rw [e2]; exact vw2 hM
  obtain ⟨ff, g, c⟩ := m
  obtain rfl : c = (720, 336) := hc
  have lp : ∀ (d k : Nat) (kI acc : Int32), kI.toInt = k → k + d = (vw (ff, g, (720, 336))).1 2 → acc = nI (cN (fun f => Nat.beq (p f) f) k) → At (E0 1) mX6_hands (qi (fun r m' => m' = (ff, g, (720, 336)) ∧ r = haP (vw (ff, g, (720, 336))) p)) 4 [.ref 6, .int acc, .int kI] [] (ff, g, (720, 336)) := by
    intro d
    induction d with
    | zero =>
      intro k kI acc hk hd ha
      refine At.ls okX6_hands 60 ⟨_, _, rfl⟩ ?_
      (conv => whnf)
      refine And.intro (fun h => ?_) (fun h => ?_)
      · refine ⟨rfl, ?_⟩
        rw [ha, show k = (vw (ff, g, (720, 336))).1 2 by omega]
        rfl
      · have h : ¬ gI (ff, g, (720, 336)) 802 1 ≤ kI := h
        rw [le_i] at h
        omega
    | succ d ih =>
      intro k kI acc hk hd ha
      have e1 : (kI + 1).toInt = ((k + 1 : Nat) : Int) := by rw [inc1 (by omega), hk]; omega
      have v1 : vp_in kI 12 := vp_in_iff.mpr ⟨by omega, show kI.toInt < ((12 : Nat) : Int) by omega⟩
      have kz : kI.toNatClampNeg = k := nat_c hk
      have gk := hp k (by omega)
      have pk := hpl k (by omega)
      have cl := cN_le (fun f => Nat.beq (p f) f) k
      refine At.ls okX6_hands 60 ⟨_, _, rfl⟩ ?_
      (conv => whnf)
      refine And.intro (fun h => ?_) (fun h => ?_)
      · have h : gI (ff, g, (720, 336)) 802 1 ≤ kI := h
        rw [le_i] at h
        omega
      · (conv => whnf)
        refine And.intro v1 ?_
        (conv => whnf)
        refine And.intro (fun h2 => ?_) (fun h2 => ?_)
        · have h2 : ¬ gI (ff, g, (720, 336)) 50232 kI.toNatClampNeg = kI := h2
          rw [kz, gk, nI_back hk] at h2
          have h2 : ¬ Nat.beq (p k) k = true := fun z => h2 (by rw [Nat.eq_of_beq_eq_true z])
          (conv => whnf)
          refine And.intro rfl (ih (k + 1) (kI + 1) _ e1 (by omega) ?_)
          show acc + 0 = nI (cN (fun f => Nat.beq (p f) f) k + (if Nat.beq (p k) k = true then 1 else 0))
          rw [ha, if_neg h2, nI_p0 (by omega)]
          rfl
        · have h2 : gI (ff, g, (720, 336)) 50232 kI.toNatClampNeg = kI := h2
          rw [kz, gk, nI_back hk] at h2
          have h2 : Nat.beq (p k) k = true := by rw [nI_i (by omega) (by omega) h2]; exact Nat.beq_refl _
          (conv => whnf)
          refine And.intro rfl (ih (k + 1) (kI + 1) _ e1 (by omega) ?_)
          show acc + 1 = nI (cN (fun f => Nat.beq (p f) f) k + (if Nat.beq (p k) k = true then 1 else 0))
          rw [ha, if_pos h2, nI_p1 (by omega)]
  refine At.gs okX6_hands 60 ?_
  (conv => whnf)
  exact And.intro rfl (lp ((vw (ff, g, (720, 336))).1 2) 0 0 0 rfl (by omega) rfl)
set_option maxRecDepth 100000 in
set_option maxHeartbeats 4000000 in
theorem s_hands {m : MM} {p : Nat → Nat} (hM : Mok TYg m) (hL : LabOn (joV (vw m)) ((vw m).1 2) p) : CI 2 mX7_hands [.ref 1175] m (fun r m' => St wFi m m' ∧ r = haP (vw m) p) := by
  have h12 : (vw m).1 2 ≤ 12 := by
    have := vw2 hM
    have : (gI m 1175 5).toInt ≤ 12 := (hM.1 1175 5).2
    omega
  have hpl := hL.1
  refine At.gs okX7_hands 60 ?_
  (conv => whnf)
  refine ⟨1, by decide, _, s_parties (m := sI m 1175 0 0) (p := p) (St_z hM).1 (by rw [vw_z]; exact hL), ?_⟩
  rintro m1 ⟨S1, g1⟩
  rw [vw_z] at g1
  have T1 : St wFi m m1 := (St_z hM).tr S1 (by decide)
  have c2 : (gI m1 1175 5).toInt = (vw m).1 2 := by rw [fr1 T1.2.2 (by decide)]; exact vw2 hM
  have lp : ∀ (d k : Nat) (kI acc : Int32), kI.toInt = k → k + d = (vw m).1 2 → acc = nI (cN (fun f => Nat.beq (p f) f) k) → At (E0 2) mX7_hands (qi (fun r m' => St wFi m m' ∧ r = haP (vw m) p)) 13 [.ref 1175, .int acc, .int kI] [] m1 := by
    intro d
    induction d with
    | zero =>
      intro k kI acc hk hd ha
      refine At.ls okX7_hands 60 ⟨_, _, rfl⟩ ?_
      (conv => whnf)
      refine And.intro (fun h => ?_) (fun h => ?_)
      · refine ⟨T1, ?_⟩
        rw [ha, show k = (vw m).1 2 by omega]
        rfl
      · have h : ¬ gI m1 1175 5 ≤ kI := h
        rw [le_i] at h
        omega
    | succ d ih =>
      intro k kI acc hk hd ha
      have e1 : (kI + 1).toInt = ((k + 1 : Nat) : Int) := by rw [inc1 (by omega), hk]; omega
      have v1 : vp_in kI 12 := vp_in_iff.mpr ⟨by omega, show kI.toInt < ((12 : Nat) : Int) by omega⟩
      have kz : kI.toNatClampNeg = k := nat_c hk
      have gk := g1 k (by omega)
      have pk := hpl k (by omega)
      have cl := cN_le (fun f => Nat.beq (p f) f) k
      refine At.ls okX7_hands 60 ⟨_, _, rfl⟩ ?_
      (conv => whnf)
      refine And.intro (fun h => ?_) (fun h => ?_)
      · have h : gI m1 1175 5 ≤ kI := h
        rw [le_i] at h
        omega
      · (conv => whnf)
        refine And.intro v1 ?_
        (conv => whnf)
        refine And.intro (fun h2 => ?_) (fun h2 => ?_)
        · have h2 : ¬ gI m1 50632 kI.toNatClampNeg = kI := h2
          rw [kz, gk, nI_back hk] at h2
          have h2 : ¬ Nat.beq (p k) k = true := fun z => h2 (by rw [Nat.eq_of_beq_eq_true z])
          (conv => whnf)
          refine And.intro rfl (ih (k + 1) (kI + 1) _ e1 (by omega) ?_)
          show acc + 0 = nI (cN (fun f => Nat.beq (p f) f) k + (if Nat.beq (p k) k = true then 1 else 0))
          rw [ha, if_neg h2, nI_p0 (by omega)]
          rfl
        · have h2 : gI m1 50632 kI.toNatClampNeg = kI := h2
          rw [kz, gk, nI_back hk] at h2
          have h2 : Nat.beq (p k) k = true := by rw [nI_i (by omega) (by omega) h2]; exact Nat.beq_refl _
          (conv => whnf)
          refine And.intro rfl (ih (k + 1) (kI + 1) _ e1 (by omega) ?_)
          show acc + 1 = nI (cN (fun f => Nat.beq (p f) f) k + (if Nat.beq (p k) k = true then 1 else 0))
          rw [ha, if_pos h2, nI_p1 (by omega)]
  (conv => whnf)
  exact And.intro rfl (lp ((vw m).1 2) 0 0 0 rfl (by omega) rfl)
set_option maxRecDepth 100000 in
set_option maxHeartbeats 4000000 in
theorem r_askF_336 {m : MM} {p : Nat → Nat} {f wt : Int32} (hM : Mok TYg m) (h : SB 336 m) (hc : m.2.2 = (336, 720)) (hp : ∀ f, f < (vw m).1 2 → gI m 49848 f = nI (p f)) : CI 5 mX6_firm [.ref 6, .int f, .int wt] m (fun r m' => St [49864] m m' ∧ r = fiA (vw m) p (gI m 1175 40) f wt) := by
  obtain ⟨ff, g, c⟩ := m
  obtain rfl : c = (336, 720) := hc
  have h12 := h.2.2.2.2.2.1.2.2.1
  have e2 : gI (ff, g, (336, 720)) 418 1 = gI (ff, g, (336, 720)) 1175 5 := h.1 2 (by decide)
  have c2 : (gI (ff, g, (336, 720)) 418 1).toInt = (vw (ff, g, (336, 720))).1 2 := by rw [e2]; exact vw2 hM
  have eru : gI (ff, g, (336, 720)) 6 6 = gI (ff, g, (336, 720)) 1175 40 := h.2.2.2.2.1
  refine At.gs okX6_firm 120 ?_
  (conv => whnf)
  refine ⟨1, by decide, _, r_has_418, ?_⟩
  rintro r m' ⟨hmm, hr⟩; have hmm := hmm.symm; subst hmm
  rw [c2] at hr
  (conv => whnf)
  refine And.intro (fun q => ?_) (fun q => ?_)
  · rcases hr with ⟨p1, p2⟩ | ⟨p1, p2⟩
    · have hfl : f.toNatClampNeg < (vw (ff, g, (336, 720))).1 2 := by show f.toInt.toNat < _; omega
      have hff : f.toInt = (f.toNatClampNeg : Nat) := by show f.toInt = (f.toInt.toNat : Nat); omega
      have ef : f = nI f.toNatClampNeg := nI_back hff
      have vf : vp_in f 12 := vp_in_iff.mpr ⟨by omega, show f.toInt < ((12 : Nat) : Int) by omega⟩
      have ans : fiA (vw (ff, g, (336, 720))) p (gI (ff, g, (336, 720)) 1175 40) f wt = fiP (vw (ff, g, (336, 720))) p (gI (ff, g, (336, 720)) 1175 40) f.toNatClampNeg wt := if_pos p1
      (conv => whnf)
      refine And.intro (fun q0 => ?_) (fun q0 => ?_)
      · (conv => whnf)
        refine And.intro vf ?_
        refine ⟨St.rf hM, ?_⟩
        rw [ans]
        unfold fiP
        rw [if_pos q0]
        exact h.2.1 4 (by decide) (by decide) _ hfl
      refine And.intro (fun q1 => ?_) (fun q1 => ?_)
      · (conv => whnf)
        refine And.intro vf ?_
        refine ⟨St.rf hM, ?_⟩
        rw [ans]
        unfold fiP
        rw [if_neg q0, if_pos q1]
        exact h.2.1 5 (by decide) (by decide) _ hfl
      refine And.intro (fun q2 => ?_) (fun q2 => ?_)
      · (conv => whnf)
        refine And.intro vf ?_
        refine ⟨St.rf hM, ?_⟩
        rw [ans]
        unfold fiP
        rw [if_neg q0, if_neg q1, if_pos q2]
        exact h.2.1 6 (by decide) (by decide) _ hfl
      refine And.intro (fun q3 => ?_) (fun q3 => ?_)
      · (conv => whnf)
        refine And.intro vf ?_
        refine ⟨St.rf hM, ?_⟩
        rw [ans]
        unfold fiP
        rw [if_neg q0, if_neg q1, if_neg q2, if_pos q3]
        exact h.2.1 7 (by decide) (by decide) _ hfl
      refine And.intro (fun q4 => ?_) (fun q4 => ?_)
      · (conv => whnf)
        dsimp only
        (conv => whnf)
        refine ⟨4, by decide, _, r_owed_336 hM h hff hfl, ?_⟩
        rintro r2 m2 ⟨S2, h2⟩
        (conv => whnf)
        refine ⟨S2, ?_⟩
        rw [ans]
        unfold fiP
        rw [if_neg q0, if_neg q1, if_neg q2, if_neg q3, if_pos q4, ← ef, h2, eru]
      refine And.intro (fun q5 => ?_) (fun q5 => ?_)
      · (conv => whnf)
        refine And.intro vf ?_
        refine ⟨St.rf hM, ?_⟩
        rw [ans]
        unfold fiP
        rw [if_neg q0, if_neg q1, if_neg q2, if_neg q3, if_neg q4, if_pos q5, ← (show gI (ff, g, (336, 720)) 49816 f.toNatClampNeg = (vw (ff, g, (336, 720))).2 8 f.toNatClampNeg from h.2.1 8 (by decide) (by decide) _ hfl)]
      refine And.intro (fun q6 => ?_) (fun q6 => ?_)
      · (conv => whnf)
        dsimp only
        (conv => whnf)
        refine ⟨4, by decide, _, r_missing_336 hM h, ?_⟩
        rintro r2 m2 ⟨S2, h2⟩
        (conv => whnf)
        refine ⟨S2, ?_⟩
        rw [ans]
        unfold fiP
        rw [if_neg q0, if_neg q1, if_neg q2, if_neg q3, if_neg q4, if_neg q5, if_pos q6]
        have e := bt_bs (p := misB (vw (ff, g, (336, 720))) (gI (ff, g, (336, 720)) 1175 40)) (n := (vw (ff, g, (336, 720))).1 2) (i := f.toNatClampNeg) (by omega) hfl
        rw [← ef, ← eru, ← h2, eru] at e
        exact e
      refine And.intro (fun q7 => ?_) (fun q7 => ?_)
      · (conv => whnf)
        refine And.intro vf ?_
        refine ⟨St.rf hM, ?_⟩
        rw [ans]
        unfold fiP
        rw [if_neg q0, if_neg q1, if_neg q2, if_neg q3, if_neg q4, if_neg q5, if_neg q6, if_pos q7]
        exact hp _ hfl
      · refine ⟨St.rf hM, ?_⟩
        rw [ans]
        unfold fiP
        rw [if_neg q0, if_neg q1, if_neg q2, if_neg q3, if_neg q4, if_neg q5, if_neg q6, if_neg q7]
    · exact absurd p2 q
  · rcases hr with ⟨p1, p2⟩ | ⟨p1, p2⟩
    · rw [p2] at q; exact absurd q (by decide)
    · refine ⟨St.rf hM, ?_⟩
      show _ = fiA (vw (ff, g, (336, 720))) p (gI (ff, g, (336, 720)) 1175 40) f wt
      unfold fiA
      rw [if_neg p1]
set_option maxRecDepth 100000 in
set_option maxHeartbeats 4000000 in
theorem r_askF_720 {m : MM} {p : Nat → Nat} {f wt : Int32} (hM : Mok TYg m) (h : SB 720 m) (hc : m.2.2 = (720, 336)) (hp : ∀ f, f < (vw m).1 2 → gI m 50232 f = nI (p f)) : CI 5 mX6_firm [.ref 6, .int f, .int wt] m (fun r m' => St [50248] m m' ∧ r = fiA (vw m) p (gI m 1175 40) f wt) := by
  obtain ⟨ff, g, c⟩ := m
  obtain rfl : c = (720, 336) := hc
  have h12 := h.2.2.2.2.2.1.2.2.1
  have e2 : gI (ff, g, (720, 336)) 802 1 = gI (ff, g, (720, 336)) 1175 5 := h.1 2 (by decide)
  have c2 : (gI (ff, g, (720, 336)) 802 1).toInt = (vw (ff, g, (720, 336))).1 2 := by rw [e2]; exact vw2 hM
  have eru : gI (ff, g, (720, 336)) 6 6 = gI (ff, g, (720, 336)) 1175 40 := h.2.2.2.2.1
  refine At.gs okX6_firm 120 ?_
  (conv => whnf)
  refine ⟨1, by decide, _, r_has_802, ?_⟩
  rintro r m' ⟨hmm, hr⟩; have hmm := hmm.symm; subst hmm
  rw [c2] at hr
  (conv => whnf)
  refine And.intro (fun q => ?_) (fun q => ?_)
  · rcases hr with ⟨p1, p2⟩ | ⟨p1, p2⟩
    · have hfl : f.toNatClampNeg < (vw (ff, g, (720, 336))).1 2 := by show f.toInt.toNat < _; omega
      have hff : f.toInt = (f.toNatClampNeg : Nat) := by show f.toInt = (f.toInt.toNat : Nat); omega
      have ef : f = nI f.toNatClampNeg := nI_back hff
      have vf : vp_in f 12 := vp_in_iff.mpr ⟨by omega, show f.toInt < ((12 : Nat) : Int) by omega⟩
      have ans : fiA (vw (ff, g, (720, 336))) p (gI (ff, g, (720, 336)) 1175 40) f wt = fiP (vw (ff, g, (720, 336))) p (gI (ff, g, (720, 336)) 1175 40) f.toNatClampNeg wt := if_pos p1
      (conv => whnf)
      refine And.intro (fun q0 => ?_) (fun q0 => ?_)
      · (conv => whnf)
        refine And.intro vf ?_
        refine ⟨St.rf hM, ?_⟩
        rw [ans]
        unfold fiP
        rw [if_pos q0]
        exact h.2.1 4 (by decide) (by decide) _ hfl
      refine And.intro (fun q1 => ?_) (fun q1 => ?_)
      · (conv => whnf)
        refine And.intro vf ?_
        refine ⟨St.rf hM, ?_⟩
        rw [ans]
        unfold fiP
        rw [if_neg q0, if_pos q1]
        exact h.2.1 5 (by decide) (by decide) _ hfl
      refine And.intro (fun q2 => ?_) (fun q2 => ?_)
      · (conv => whnf)
        refine And.intro vf ?_
        refine ⟨St.rf hM, ?_⟩
        rw [ans]
        unfold fiP
        rw [if_neg q0, if_neg q1, if_pos q2]
        exact h.2.1 6 (by decide) (by decide) _ hfl
      refine And.intro (fun q3 => ?_) (fun q3 => ?_)
      · (conv => whnf)
        refine And.intro vf ?_
        refine ⟨St.rf hM, ?_⟩
        rw [ans]
        unfold fiP
        rw [if_neg q0, if_neg q1, if_neg q2, if_pos q3]
        exact h.2.1 7 (by decide) (by decide) _ hfl
      refine And.intro (fun q4 => ?_) (fun q4 => ?_)
      · (conv => whnf)
        dsimp only
        (conv => whnf)
        refine ⟨4, by decide, _, r_owed_720 hM h hff hfl, ?_⟩
        rintro r2 m2 ⟨S2, h2⟩
        (conv => whnf)
        refine ⟨S2, ?_⟩
        rw [ans]
        unfold fiP
        rw [if_neg q0, if_neg q1, if_neg q2, if_neg q3, if_pos q4, ← ef, h2, eru]
      refine And.intro (fun q5 => ?_) (fun q5 => ?_)
      · (conv => whnf)
        refine And.intro vf ?_
        refine ⟨St.rf hM, ?_⟩
        rw [ans]
        unfold fiP
        rw [if_neg q0, if_neg q1, if_neg q2, if_neg q3, if_neg q4, if_pos q5, ← (show gI (ff, g, (720, 336)) 50200 f.toNatClampNeg = (vw (ff, g, (720, 336))).2 8 f.toNatClampNeg from h.2.1 8 (by decide) (by decide) _ hfl)]
      refine And.intro (fun q6 => ?_) (fun q6 => ?_)
      · (conv => whnf)
        dsimp only
        (conv => whnf)
        refine ⟨4, by decide, _, r_missing_720 hM h, ?_⟩
        rintro r2 m2 ⟨S2, h2⟩
        (conv => whnf)
        refine ⟨S2, ?_⟩
        rw [ans]
        unfold fiP
        rw [if_neg q0, if_neg q1, if_neg q2, if_neg q3, if_neg q4, if_neg q5, if_pos q6]
        have e := bt_bs (p := misB (vw (ff, g, (720, 336))) (gI (ff, g, (720, 336)) 1175 40)) (n := (vw (ff, g, (720, 336))).1 2) (i := f.toNatClampNeg) (by omega) hfl
        rw [← ef, ← eru, ← h2, eru] at e
        exact e
      refine And.intro (fun q7 => ?_) (fun q7 => ?_)
      · (conv => whnf)
        refine And.intro vf ?_
        refine ⟨St.rf hM, ?_⟩
        rw [ans]
        unfold fiP
        rw [if_neg q0, if_neg q1, if_neg q2, if_neg q3, if_neg q4, if_neg q5, if_neg q6, if_pos q7]
        exact hp _ hfl
      · refine ⟨St.rf hM, ?_⟩
        rw [ans]
        unfold fiP
        rw [if_neg q0, if_neg q1, if_neg q2, if_neg q3, if_neg q4, if_neg q5, if_neg q6, if_neg q7]
    · exact absurd p2 q
  · rcases hr with ⟨p1, p2⟩ | ⟨p1, p2⟩
    · rw [p2] at q; exact absurd q (by decide)
    · refine ⟨St.rf hM, ?_⟩
      show _ = fiA (vw (ff, g, (720, 336))) p (gI (ff, g, (720, 336)) 1175 40) f wt
      unfold fiA
      rw [if_neg p1]
set_option maxRecDepth 100000 in
set_option maxHeartbeats 4000000 in
theorem s_askF {m : MM} {p : Nat → Nat} {f wt : Int32} (hM : Mok TYg m) (hL : LabOn (joV (vw m)) ((vw m).1 2) p) : CI 5 mX7_firm [.ref 1175, .int f, .int wt] m (fun r m' => St wFi m m' ∧ r = fiA (vw m) p (gI m 1175 40) f wt) := by
  have h12 : (vw m).1 2 ≤ 12 := by
    have := vw2 hM
    have : (gI m 1175 5).toInt ≤ 12 := (hM.1 1175 5).2
    omega
  have Sz := St_z hM
  have k0 : (0 : Int32).toInt = 0 := rfl
  have k1 : (1 : Int32).toInt = 1 := rfl
  have k2 : (2 : Int32).toInt = 2 := rfl
  have k3 : (3 : Int32).toInt = 3 := rfl
  have k4 : (4 : Int32).toInt = 4 := rfl
  have k5 : (5 : Int32).toInt = 5 := rfl
  have k6 : (6 : Int32).toInt = 6 := rfl
  have k7 : (7 : Int32).toInt = 7 := rfl
  have out : (wt.toInt < 0 ∨ 7 < wt.toInt) → fiA (vw m) p (gI m 1175 40) f wt = -2147483648 := by
    intro hz
    unfold fiA
    rw [fiP_out hz]
    split <;> rfl
  refine At.gs okX7_firm 160 ?_
  (conv => whnf)
  refine ⟨1, by decide, _, s_isFirm (m := sI m 1175 0 0), ?_⟩
  rintro r m' ⟨hmm, hr⟩; have hmm := hmm.symm; subst hmm
  have hr : z1 (0 ≤ f.toInt ∧ f.toInt < (gI m 1175 5).toInt) r := hr
  rw [vw2 hM] at hr
  (conv => whnf)
  refine And.intro (fun q => ?_) (fun q => ?_)
  · rcases hr with ⟨p1, p2⟩ | ⟨p1, p2⟩
    · rw [p2] at q; exact absurd q (by decide)
    · refine ⟨Sz, ?_⟩
      show _ = fiA (vw m) p (gI m 1175 40) f wt
      unfold fiA
      rw [if_neg p1]
  · rcases hr with ⟨p1, p2⟩ | ⟨p1, p2⟩
    · (conv => whnf)
      refine And.intro (fun y => ?_) (fun y => ?_)
      · rw [lt_i, k0] at y
        exact ⟨Sz, (out (Or.inl y)).symm⟩
      · rw [lt_i, k0] at y
        (conv => whnf)
        refine And.intro (fun y2 => ?_) (fun y2 => ?_)
        · rw [le_i, k7] at y2
          (conv => whnf)
          refine ⟨1, by decide, _, s_parties (m := sI m 1175 0 0) (p := p) Sz.1 (by rw [vw_z]; exact hL), ?_⟩
          rintro m1 ⟨S1, g1⟩
          rw [vw_z] at g1
          have T1 : St wFi m m1 := Sz.tr S1 (by decide)
          have hM1 := T1.1
          have hv1 : vw m1 = vw m := vw_fr T1.2.2 (by decide +kernel)
          have e40 : gI m1 1175 40 = gI m 1175 40 := fr1 T1.2.2 (by decide)
          have hfl : f.toNatClampNeg < (vw m).1 2 := by show f.toInt.toNat < _; omega
          have hff : f.toInt = (f.toNatClampNeg : Nat) := by show f.toInt = (f.toInt.toNat : Nat); omega
          have ef : f = nI f.toNatClampNeg := nI_back hff
          have vf : vp_in f 24 := vp_in_iff.mpr ⟨by omega, show f.toInt < ((24 : Nat) : Int) by omega⟩
          have wf : vp_in f 12 := vp_in_iff.mpr ⟨by omega, show f.toInt < ((12 : Nat) : Int) by omega⟩
          have rw1 : ∀ r i, gI m1 (rowN r) i = (vw m).2 r i := fun r i => by rw [← hv1]; rfl
          have ans : fiA (vw m) p (gI m 1175 40) f wt = fiP (vw m) p (gI m 1175 40) f.toNatClampNeg wt := if_pos p1
          (conv => whnf)
          refine And.intro (fun q0 => ?_) (fun q0 => ?_)
          · (conv => whnf)
            refine And.intro vf ?_
            refine ⟨T1, ?_⟩
            rw [ans]
            unfold fiP
            rw [if_pos q0]
            exact rw1 4 _
          refine And.intro (fun q1 => ?_) (fun q1 => ?_)
          · (conv => whnf)
            refine And.intro vf ?_
            refine ⟨T1, ?_⟩
            rw [ans]
            unfold fiP
            rw [if_neg q0, if_pos q1]
            exact rw1 5 _
          refine And.intro (fun q2 => ?_) (fun q2 => ?_)
          · (conv => whnf)
            refine And.intro vf ?_
            refine ⟨T1, ?_⟩
            rw [ans]
            unfold fiP
            rw [if_neg q0, if_neg q1, if_pos q2]
            exact rw1 6 _
          refine And.intro (fun q3 => ?_) (fun q3 => ?_)
          · (conv => whnf)
            refine And.intro vf ?_
            refine ⟨T1, ?_⟩
            rw [ans]
            unfold fiP
            rw [if_neg q0, if_neg q1, if_neg q2, if_pos q3]
            exact rw1 7 _
          refine And.intro (fun q4 => ?_) (fun q4 => ?_)
          · (conv => whnf)
            refine ⟨3, by decide, _, s_owes hM1, ?_⟩
            rintro r2 m2 ⟨hmm, h2⟩; have hmm := hmm.symm; subst hmm
            rw [hv1, e40] at h2
            (conv => whnf)
            refine ⟨T1, ?_⟩
            rw [ans]
            unfold fiP
            rw [if_neg q0, if_neg q1, if_neg q2, if_neg q3, if_pos q4, ← ef, h2]
          refine And.intro (fun q5 => ?_) (fun q5 => ?_)
          · (conv => whnf)
            refine And.intro vf ?_
            refine ⟨T1, ?_⟩
            rw [ans]
            unfold fiP
            rw [if_neg q0, if_neg q1, if_neg q2, if_neg q3, if_neg q4, if_pos q5, ← rw1 8]
            rfl
          refine And.intro (fun q6 => ?_) (fun q6 => ?_)
          · (conv => whnf)
            refine ⟨4, by decide, _, (show CI 4 mX7_isMissing [.ref 1175, .int f, .int (gI m1 1175 40)] m1 (fun r m' => m' = m1 ∧ r = if misB (vw m1) (gI m1 1175 40) f.toNatClampNeg = true then 1 else 0) by
              have z := s_missing (m := m1) (f := f.toNatClampNeg) (ru := gI m1 1175 40) hM1 (by omega)
              rw [← ef] at z
              exact z), ?_⟩
            rintro r2 m2 ⟨hmm, h2⟩; have hmm := hmm.symm; subst hmm
            rw [hv1, e40] at h2
            (conv => whnf)
            by_cases mq : misB (vw m) (gI m 1175 40) f.toNatClampNeg = true
            · rw [if_pos mq] at h2
              refine And.intro (fun z => ?_) (fun z => ?_)
              · rw [h2] at z; exact absurd z (by decide)
              · refine ⟨T1, ?_⟩
                rw [ans]
                unfold fiP
                rw [if_neg q0, if_neg q1, if_neg q2, if_neg q3, if_neg q4, if_neg q5, if_pos q6, if_pos mq]
            · rw [if_neg mq] at h2
              refine And.intro (fun z => ?_) (fun z => ?_)
              · refine ⟨T1, ?_⟩
                rw [ans]
                unfold fiP
                rw [if_neg q0, if_neg q1, if_neg q2, if_neg q3, if_neg q4, if_neg q5, if_pos q6, if_neg mq]
              · exact absurd h2 z
          · have w7 : wt = 7 := by
              have n0 : wt.toInt ≠ 0 := fun z => q0 (Int32.toInt_inj.mp (by rw [k0]; exact z))
              have n1 : wt.toInt ≠ 1 := fun z => q1 (Int32.toInt_inj.mp (by rw [k1]; exact z))
              have n2 : wt.toInt ≠ 2 := fun z => q2 (Int32.toInt_inj.mp (by rw [k2]; exact z))
              have n3 : wt.toInt ≠ 3 := fun z => q3 (Int32.toInt_inj.mp (by rw [k3]; exact z))
              have n4 : wt.toInt ≠ 4 := fun z => q4 (Int32.toInt_inj.mp (by rw [k4]; exact z))
              have n5 : wt.toInt ≠ 5 := fun z => q5 (Int32.toInt_inj.mp (by rw [k5]; exact z))
              have n6 : wt.toInt ≠ 6 := fun z => q6 (Int32.toInt_inj.mp (by rw [k6]; exact z))
              exact Int32.toInt_inj.mp (by rw [k7]; omega)
            (conv => whnf)
            refine And.intro wf ?_
            refine ⟨T1, ?_⟩
            rw [ans]
            unfold fiP
            rw [if_neg q0, if_neg q1, if_neg q2, if_neg q3, if_neg q4, if_neg q5, if_neg q6, if_pos w7]
            exact g1 _ hfl
        · have y2 : ¬ wt ≤ 7 := y2
          rw [le_i, k7] at y2
          exact ⟨Sz, (out (Or.inr (by omega))).symm⟩
    · exact absurd p2 q
