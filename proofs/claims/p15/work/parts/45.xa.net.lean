/-! the most that can flow: nets of 82 places (80 is where it begins, 81 where it ends), in sums (pure) -/
theorem sm_add {f g : Nat → Int} : ∀ n, sm (fun i => f i + g i) n = sm f n + sm g n
  | 0 => rfl
  | n + 1 => by
    show sm (fun i => f i + g i) n + (f n + g n) = sm f n + f n + (sm g n + g n)
    rw [sm_add n]
    omega
theorem sm_neg {f : Nat → Int} : ∀ n, sm (fun i => - f i) n = - sm f n
  | 0 => rfl
  | n + 1 => by
    show sm (fun i => - f i) n + - f n = - (sm f n + f n)
    rw [sm_neg n]
    omega
theorem sm_z {f : Nat → Int} : ∀ n, (∀ i, i < n → f i = 0) → sm f n = 0
  | 0, _ => rfl
  | n + 1, h => by
    show sm f n + f n = 0
    rw [sm_z n (fun i hi => h i (by omega)), h n (by omega)]
    rfl
theorem sm_le {f g : Nat → Int} : ∀ n, (∀ i, i < n → f i ≤ g i) → sm f n ≤ sm g n
  | 0, _ => Int.le_refl 0
  | n + 1, h => by
    have a := sm_le n (fun i hi => h i (by omega))
    have b := h n (by omega)
    show sm f n + f n ≤ sm g n + g n
    omega
theorem sm_eqle {f g : Nat → Int} : ∀ n, (∀ i, i < n → f i ≤ g i) → sm g n ≤ sm f n → ∀ i, i < n → f i = g i
  | 0, _, _, _, hi => absurd hi (Nat.not_lt_zero _)
  | n + 1, h, hs, i, hi => by
    have hs : sm g n + g n ≤ sm f n + f n := hs
    have a := sm_le n (fun i hi => h i (by omega))
    have b := h n (by omega)
    by_cases q : i = n
    · rw [q]; omega
    · exact sm_eqle n (fun i hi => h i (by omega)) (by omega) i (by omega)
theorem sm_swap {h : Nat → Nat → Int} {m : Nat} : ∀ n, sm (fun u => sm (fun v => h u v) m) n = sm (fun v => sm (fun u => h u v) n) m
  | 0 => (sm_z m (fun _ _ => rfl)).symm
  | n + 1 => by
    show sm (fun u => sm (fun v => h u v) m) n + sm (fun v => h n v) m = sm (fun v => sm (fun u => h u v) n + h n v) m
    rw [sm_swap n, sm_add]
theorem sm_at {f : Nat → Int} {a n : Nat} (ha : a < n) (h : ∀ i, i < n → i ≠ a → f i = 0) : sm f n = f a := by
  have e := sm_upd (f := fun _ => 0) (g := f) (v := a) n (fun w hw hwa => h w hw hwa)
  rw [if_pos ha, sm_z (f := fun _ => 0) n (fun _ _ => rfl)] at e
  rw [e]
  show (0 : Int) + (f a - 0) = f a
  omega
/-- a flow in a net whose capacities are c: what goes from u to v, against what comes back -/
def NF (c g : Nat → Nat → Int) : Prop := (∀ u v, u < 82 → v < 82 → g u v + g v u = 0) ∧ (∀ u v, u < 82 → v < 82 → g u v ≤ c u v) ∧ ∀ u, u < 80 → sm (fun v => g u v) 82 = 0
def nvl (g : Nat → Nat → Int) : Int := sm (fun v => g 80 v) 82
/-- over the border of X -/
def xc (g : Nat → Nat → Int) (X : Nat → Bool) : Int := sm (fun u => sm (fun v => if X u = true ∧ X v = false then g u v else 0) 82) 82
theorem nvl_xc {c g : Nat → Nat → Int} {X : Nat → Bool} (h : NF c g) (h0 : X 80 = true) (h1 : X 81 = false) : nvl g = xc g X := by
  have hA : sm (fun u => sm (fun v => if X u = true then g u v else 0) 82) 82 = nvl g := by
    rw [sm_at (a := 80) (by decide) (fun u hu hne => by
      by_cases q : X u = true
      · have u80 : u < 80 := by
          by_cases y : u = 81
          · rw [y, h1] at q; cases q
          · omega
        have e : sm (fun v => if X u = true then g u v else 0) 82 = sm (fun v => g u v) 82 := sm_same 82 (fun v _ => if_pos q)
        exact e.trans (h.2.2 u u80)
      · exact sm_z 82 (fun v _ => if_neg q))]
    exact sm_same 82 (fun v _ => if_pos h0)
  have hB : sm (fun u => sm (fun v => if X u = true ∧ X v = true then g u v else 0) 82) 82 = 0 := by
    have e1 := sm_swap (h := fun u v => if X u = true ∧ X v = true then g u v else 0) (m := 82) 82
    have e2 : sm (fun v => sm (fun u => if X u = true ∧ X v = true then g u v else 0) 82) 82 = - sm (fun u => sm (fun v => if X u = true ∧ X v = true then g u v else 0) 82) 82 := by
      rw [← sm_neg]
      refine sm_same 82 (fun v hv => ?_)
      rw [← sm_neg]
      refine sm_same 82 (fun u hu => ?_)
      have := h.1 u v hu hv
      by_cases q : X u = true ∧ X v = true
      · rw [if_pos q, if_pos ⟨q.2, q.1⟩]; omega
      · rw [if_neg q, if_neg (fun z => q ⟨z.2, z.1⟩)]; rfl
    omega
  have hC : sm (fun u => sm (fun v => if X u = true then g u v else 0) 82) 82 = sm (fun u => sm (fun v => if X u = true ∧ X v = true then g u v else 0) 82) 82 + xc g X := by
    unfold xc
    rw [← sm_add]
    refine sm_same 82 (fun u _ => ?_)
    rw [← sm_add]
    refine sm_same 82 (fun v _ => ?_)
    by_cases q : X u = true
    · rw [if_pos q]
      cases y : X v with
      | true => rw [if_pos ⟨q, rfl⟩, if_neg (fun z => by cases z.2)]; omega
      | false => rw [if_neg (fun z => by cases z.2), if_pos ⟨q, rfl⟩]; omega
    · rw [if_neg q, if_neg (fun z => q z.1), if_neg (fun z => q z.1)]; rfl
  omega
theorem xc_le {c g : Nat → Nat → Int} {X : Nat → Bool} (h : NF c g) : xc g X ≤ xc c X := sm_le 82 (fun u hu => sm_le 82 (fun v hv => by
  have := h.2.1 u v hu hv
  split <;> omega))
theorem xc_eq {c g : Nat → Nat → Int} {X : Nat → Bool} (h : ∀ u v, u < 82 → v < 82 → X u = true → X v = false → g u v = c u v) : xc g X = xc c X := sm_same 82 (fun u hu => sm_same 82 (fun v hv => by
  by_cases q : X u = true ∧ X v = false
  · rw [if_pos q, if_pos q]; exact h u v hu hv q.1 q.2
  · rw [if_neg q, if_neg q]))
/-- r is the most -/
def FlO (c : Nat → Nat → Int) (r : Int) : Prop := ∃ (g : Nat → Nat → Int) (X : Nat → Bool), NF c g ∧ X 80 = true ∧ X 81 = false ∧ (∀ u v, u < 82 → v < 82 → X u = true → X v = false → g u v = c u v) ∧ r = nvl g
theorem FlO_1 {c : Nat → Nat → Int} {r1 r2 : Int} (h1 : FlO c r1) (h2 : FlO c r2) : r1 = r2 := by
  obtain ⟨g, X, a1, a2, a3, a4, rfl⟩ := h1
  obtain ⟨g', X', b1, b2, b3, b4, rfl⟩ := h2
  have e1 := nvl_xc a1 a2 a3
  have e2 := nvl_xc b1 b2 b3
  have e3 := nvl_xc b1 a2 a3
  have e4 := nvl_xc a1 b2 b3
  have l1 := xc_le (X := X) b1
  have l2 := xc_le (X := X') a1
  have q1 := xc_eq a4
  have q2 := xc_eq b4
  omega
/-- one piece of a way: d more from a to b -/
def pce (g : Nat → Nat → Int) (a b : Nat) (d : Int) : Nat → Nat → Int := fun u v => g u v + (if u = a ∧ v = b then d else 0) - (if u = b ∧ v = a then d else 0)
theorem pce_row {g : Nat → Nat → Int} {a b : Nat} {d : Int} (ha : a < 82) (hb : b < 82) (u : Nat) : sm (fun v => pce g a b d u v) 82 = sm (fun v => g u v) 82 + (if u = a then d else 0) - (if u = b then d else 0) := by
  have e : ∀ v, pce g a b d u v = (g u v + (if u = a ∧ v = b then d else 0)) + - (if u = b ∧ v = a then d else 0) := fun v => by
    unfold pce; omega
  rw [sm_same (f := fun v => (g u v + (if u = a ∧ v = b then d else 0)) + - (if u = b ∧ v = a then d else 0)) (g := fun v => pce g a b d u v) 82 (fun v _ => e v), sm_add, sm_add, sm_neg]
  have s1 : sm (fun v => if u = a ∧ v = b then d else 0) 82 = if u = a then d else 0 := by
    rw [sm_at (a := b) hb (fun i _ hne => if_neg (fun z => hne z.2))]
    by_cases q : u = a
    · rw [if_pos ⟨q, rfl⟩, if_pos q]
    · rw [if_neg (fun z => q z.1), if_neg q]
  have s2 : sm (fun v => if u = b ∧ v = a then d else 0) 82 = if u = b then d else 0 := by
    rw [sm_at (a := a) ha (fun i _ hne => if_neg (fun z => hne z.2))]
    by_cases q : u = b
    · rw [if_pos ⟨q, rfl⟩, if_pos q]
    · rw [if_neg (fun z => q z.1), if_neg q]
  rw [s1, s2]
  have e3 : sm (g u) 82 = sm (fun v => g u v) 82 := rfl
  omega
theorem pce_sk {g : Nat → Nat → Int} {a b : Nat} {d : Int} (h : ∀ u v, u < 82 → v < 82 → g u v + g v u = 0) : ∀ u v, u < 82 → v < 82 → pce g a b d u v + pce g a b d v u = 0 := fun u v hu hv => by
  have := h u v hu hv
  unfold pce
  by_cases q1 : u = a ∧ v = b
  · by_cases q2 : u = b ∧ v = a
    · rw [if_pos q1, if_pos q2, if_pos ⟨q2.2, q2.1⟩, if_pos ⟨q1.2, q1.1⟩]; omega
    · rw [if_pos q1, if_neg q2, if_neg (fun z => q2 ⟨z.2, z.1⟩), if_pos ⟨q1.2, q1.1⟩]; omega
  · by_cases q2 : u = b ∧ v = a
    · rw [if_neg q1, if_pos q2, if_pos ⟨q2.2, q2.1⟩, if_neg (fun z => q1 ⟨z.2, z.1⟩)]; omega
    · rw [if_neg q1, if_neg q2, if_neg (fun z => q2 ⟨z.2, z.1⟩), if_neg (fun z => q1 ⟨z.2, z.1⟩)]; omega
/-- a way from 80 to 81 of which the pieces behind place v are sent: v has d too much -/
def WyI (c g0 g : Nat → Nat → Int) (v : Nat) (d : Int) : Prop := (∀ u v, u < 82 → v < 82 → g u v + g v u = 0) ∧ (∀ u v, u < 82 → v < 82 → g u v ≤ c u v) ∧ ∀ u, u < 82 → sm (fun w => g u w) 82 = sm (fun w => g0 u w) 82 + (if u = v then d else 0) - (if u = 81 then d else 0)
theorem WyI_0 {c g : Nat → Nat → Int} {d : Int} (h : NF c g) : WyI c g g 81 d := ⟨h.1, h.2.1, fun u _ => by omega⟩
theorem WyI_s {c g0 g : Nat → Nat → Int} {a b : Nat} {d : Int} (h : WyI c g0 g b d) (ha : a < 82) (hb : b < 82) (hd : 0 ≤ d) (hc : g a b + d ≤ c a b) (hab : a ≠ b) : WyI c g0 (pce g a b d) a d := by
  refine ⟨pce_sk h.1, fun u v hu hv => ?_, fun u hu => ?_⟩
  · have := h.2.1 u v hu hv
    unfold pce
    by_cases q : u = a ∧ v = b
    · rw [if_pos q, if_neg (fun z => hab (q.1.symm.trans z.1)), q.1, q.2]; omega
    · rw [if_neg q]
      split <;> omega
  · rw [pce_row ha hb, h.2.2 u hu]
    omega
theorem WyI_e {c g0 g : Nat → Nat → Int} {d : Int} (h0 : NF c g0) (h : WyI c g0 g 80 d) : NF c g ∧ nvl g = nvl g0 + d := by
  refine ⟨⟨h.1, h.2.1, fun u hu => ?_⟩, ?_⟩
  · rw [h.2.2 u (by omega), h0.2.2 u hu, if_neg (by omega), if_neg (by omega)]
    rfl
  · unfold nvl
    rw [h.2.2 80 (by decide), if_pos rfl, if_neg (by decide)]
    omega
