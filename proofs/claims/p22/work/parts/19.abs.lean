/-! RANGES: an abstract machine beside the pure one; what it accepts is safe -/
abbrev AV : Type := Nat × Int × Int
def i32lo : Int := -2147483648
def i32hi : Int := 2147483647
theorem tI_lo (x : Int32) : i32lo ≤ x.toInt := Int32.le_toInt x
theorem tI_hi (x : Int32) : x.toInt ≤ i32hi := by
  have := Int32.toInt_lt x
  unfold i32hi
  omega
theorem bm_id {z : Int} (h1 : i32lo ≤ z) (h2 : z ≤ i32hi) : z.bmod (2 ^ 32) = z := by
  unfold i32lo at h1
  unfold i32hi at h2
  exact Int.bmod_eq_of_le (by omega) (by omega)
theorem tI_add {x y : Int32} (h1 : i32lo ≤ x.toInt + y.toInt) (h2 : x.toInt + y.toInt ≤ i32hi) : (x + y).toInt = x.toInt + y.toInt := by
  rw [Int32.toInt_add]; exact bm_id h1 h2
theorem tI_sub {x y : Int32} (h1 : i32lo ≤ x.toInt - y.toInt) (h2 : x.toInt - y.toInt ≤ i32hi) : (x - y).toInt = x.toInt - y.toInt := by
  rw [Int32.toInt_sub]; exact bm_id h1 h2
theorem tI_mul {x y : Int32} (h1 : i32lo ≤ x.toInt * y.toInt) (h2 : x.toInt * y.toInt ≤ i32hi) : (x * y).toInt = x.toInt * y.toInt := by
  rw [Int32.toInt_mul]; exact bm_id h1 h2
theorem tI_neg {x : Int32} (h1 : i32lo ≤ - x.toInt) (h2 : - x.toInt ≤ i32hi) : (0 - x).toInt = - x.toInt := by
  rw [Int32.toInt_sub]
  have e : (0 : Int32).toInt = 0 := rfl
  rw [e, Int.zero_sub]
  exact bm_id h1 h2
theorem tI_of {n : Int} (h1 : i32lo ≤ n) (h2 : n ≤ i32hi) : (Int32.ofInt n).toInt = n := by
  rw [Int32.toInt_ofInt]; exact bm_id h1 h2
/-- six places of six bits, each below 40 -/
def grp (x : Int64) (i : Int32) : Int32 := (((x.toUInt64 >>> ((6 * i).toInt64.toUInt64 &&& Int64.toUInt64 63)).toInt64) &&& 63).toInt32
def PK (x : Int64) : Prop := ∀ j : Nat, j < 7 → 0 ≤ (grp x (nI j - 1)).toInt ∧ (grp x (nI j - 1)).toInt < 40
/-- n = 0: as above; 1 .. 9: its first n places below 40; 10 + n: n places below 40, nothing else -/
def PKn (n : Nat) (x : Int64) : Prop := (n = 0 → PK x) ∧ (1 ≤ n → n ≤ 9 → ∀ j : Nat, j < n → 0 ≤ (grp x (nI j)).toInt ∧ (grp x (nI j)).toInt < 40) ∧ (10 ≤ n → 0 ≤ x.toInt ∧ x.toInt < 64 ^ (n - 10) ∧ ∀ j : Nat, x.toInt / 64 ^ j % 64 < 40)
/-- a number below 40, n places up -/
def ShP (n : Nat) (x : Int64) : Prop := ∃ d : Int, 0 ≤ d ∧ d < 40 ∧ x.toInt = d * 64 ^ n
/-- 0: an int in a range; 1: a symbol's value and an offset; 2: a reference; 3: the script; 5: a packed long; 6: a long in a range; 8: a long; else nothing known -/
def gam (σ : Nat → Int) (v : AV) (x : Value) : Prop := match v.1 with
  | 0 => ∃ i : Int32, x = .int i ∧ v.2.1 ≤ i.toInt ∧ i.toInt ≤ v.2.2
  | 1 => ∃ i : Int32, x = .int i ∧ i.toInt = σ v.2.1.toNat + v.2.2
  | 2 => x = .ref v.2.1.toNat
  | 3 => ∃ n, x = .retAddr n
  | 5 => ∃ l : Int64, x = .long l ∧ PKn v.2.2.toNat l
  | 6 => ∃ l : Int64, x = .long l ∧ v.2.1 ≤ l.toInt ∧ l.toInt ≤ v.2.2
  | 7 => ∃ l : Int64, x = .long l ∧ ShP v.2.2.toNat l
  | 8 => ∃ l : Int64, x = .long l
  | _ => True
abbrev CC : Type := List (Int × Int)
def okC (σ : Nat → Int) (C : CC) : Prop := ∀ (i : Nat) (q : Int × Int), C[i]? = some q → q.1 ≤ σ i ∧ σ i ≤ q.2
def isI (v : AV) : Bool := Nat.ble v.1 1
def rng (C : CC) (v : AV) : Int × Int := match v.1 with
  | 0 => v.2
  | 1 => match C[v.2.1.toNat]? with
    | some q => (q.1 + v.2.2, q.2 + v.2.2)
    | none => (i32lo, i32hi)
  | _ => (i32lo, i32hi)
theorem gam_int {σ : Nat → Int} {v : AV} {x : Value} (hv : isI v = true) (h : gam σ v x) : ∃ i : Int32, x = .int i := by
  obtain ⟨t, a, b⟩ := v
  have ht : t ≤ 1 := Nat.le_of_ble_eq_true hv
  rcases (show t = 0 ∨ t = 1 by omega) with rfl | rfl
  · obtain ⟨i, h1, -⟩ := h; exact ⟨i, h1⟩
  · obtain ⟨i, h1, -⟩ := h; exact ⟨i, h1⟩
theorem rng_ok {σ : Nat → Int} {C : CC} {v : AV} {i : Int32} (hC : okC σ C) (hv : isI v = true) (h : gam σ v (.int i)) : (rng C v).1 ≤ i.toInt ∧ i.toInt ≤ (rng C v).2 := by
  obtain ⟨t, a, b⟩ := v
  have ht : t ≤ 1 := Nat.le_of_ble_eq_true hv
  rcases (show t = 0 ∨ t = 1 by omega) with rfl | rfl
  · obtain ⟨j, h1, h2, h3⟩ := h
    cases h1
    exact ⟨h2, h3⟩
  · obtain ⟨j, h1, h2⟩ := h
    cases h1
    show (rng C (1, a, b)).1 ≤ _ ∧ _ ≤ (rng C (1, a, b)).2
    unfold rng
    simp only
    cases hq : C[a.toNat]? with
    | none => exact ⟨tI_lo _, tI_hi _⟩
    | some q =>
      have := hC _ _ hq
      simp only at h2 ⊢
      constructor <;> omega
/-- what is known of v, with a range besides; none: it can't be -/
def rf2 (C : CC) (v : AV) (lo hi : Int) : Option CC :=
  let q := rng C v
  if max q.1 lo ≤ min q.2 hi then
    (match v.1 with
      | 1 => some (C.set v.2.1.toNat (max q.1 lo - v.2.2, min q.2 hi - v.2.2))
      | _ => some C)
  else none
theorem rf2_ok {σ : Nat → Int} {C : CC} {v : AV} {i : Int32} {lo hi : Int} (hC : okC σ C) (hv : isI v = true) (h : gam σ v (.int i)) (h1 : lo ≤ i.toInt) (h2 : i.toInt ≤ hi) : ∃ C', rf2 C v lo hi = some C' ∧ okC σ C' := by
  obtain ⟨r1, r2⟩ := rng_ok hC hv h
  have hm : max (rng C v).1 lo ≤ min (rng C v).2 hi := by omega
  unfold rf2
  simp only [hm, if_true]
  obtain ⟨t, a, b⟩ := v
  have ht : t ≤ 1 := Nat.le_of_ble_eq_true hv
  rcases (show t = 0 ∨ t = 1 by omega) with rfl | rfl
  · exact ⟨C, rfl, hC⟩
  · refine ⟨_, rfl, ?_⟩
    obtain ⟨j, e1, e2⟩ := h
    cases e1
    simp only at e2
    intro k q hq
    by_cases hk : k = a.toNat
    · subst hk
      rw [List.getElem?_set] at hq
      split at hq
      · split at hq
        · cases hq
          simp only
          constructor <;> omega
        · cases hq
      · rename_i hne
        exact absurd rfl hne
    · rw [List.getElem?_set_ne (Ne.symm hk)] at hq
      exact hC k q hq
def gon (b : Option CC) (k : CC → Bool) : Bool := match b with
  | none => true
  | some C => k C
/-- comparisons -/
def bLt (C : CC) (x y : AV) : Option CC := (rf2 C x i32lo ((rng C y).2 - 1)).bind (fun C1 => rf2 C1 y ((rng C x).1 + 1) i32hi)
def bLe (C : CC) (x y : AV) : Option CC := (rf2 C x i32lo (rng C y).2).bind (fun C1 => rf2 C1 y (rng C x).1 i32hi)
def bEq (C : CC) (x y : AV) : Option CC := (rf2 C x (rng C y).1 (rng C y).2).bind (fun C1 => rf2 C1 y (rng C x).1 (rng C x).2)
def bNe (C : CC) (x y : AV) : Option CC :=
  if (rng C y).1 = (rng C y).2 then
    (if (rng C x).1 = (rng C y).1 then rf2 C x ((rng C y).1 + 1) i32hi else if (rng C x).2 = (rng C y).1 then rf2 C x i32lo ((rng C y).1 - 1) else some C)
  else if (rng C x).1 = (rng C x).2 then
    (if (rng C y).1 = (rng C x).1 then rf2 C y ((rng C x).1 + 1) i32hi else if (rng C y).2 = (rng C x).1 then rf2 C y i32lo ((rng C x).1 - 1) else some C)
  else some C
section Cmp
variable {σ : Nat → Int} {C : CC} {x y : AV} {i j : Int32}
theorem bLt_ok (hC : okC σ C) (hx : isI x = true) (hy : isI y = true) (gx : gam σ x (.int i)) (gy : gam σ y (.int j)) (h : i < j) : ∃ C', bLt C x y = some C' ∧ okC σ C' := by
  rw [Int32.lt_iff_toInt_lt] at h
  obtain ⟨y1, y2⟩ := rng_ok hC hy gy
  obtain ⟨x1, x2⟩ := rng_ok hC hx gx
  obtain ⟨C1, e1, o1⟩ := rf2_ok (lo := i32lo) (hi := (rng C y).2 - 1) hC hx gx (tI_lo _) (by omega)
  obtain ⟨C2, e2, o2⟩ := rf2_ok (lo := (rng C x).1 + 1) (hi := i32hi) o1 hy gy (by omega) (tI_hi _)
  exact ⟨C2, by unfold bLt; rw [e1]; exact e2, o2⟩
theorem bLe_ok (hC : okC σ C) (hx : isI x = true) (hy : isI y = true) (gx : gam σ x (.int i)) (gy : gam σ y (.int j)) (h : i ≤ j) : ∃ C', bLe C x y = some C' ∧ okC σ C' := by
  rw [Int32.le_iff_toInt_le] at h
  obtain ⟨y1, y2⟩ := rng_ok hC hy gy
  obtain ⟨x1, x2⟩ := rng_ok hC hx gx
  obtain ⟨C1, e1, o1⟩ := rf2_ok (lo := i32lo) (hi := (rng C y).2) hC hx gx (tI_lo _) (by omega)
  obtain ⟨C2, e2, o2⟩ := rf2_ok (lo := (rng C x).1) (hi := i32hi) o1 hy gy (by omega) (tI_hi _)
  exact ⟨C2, by unfold bLe; rw [e1]; exact e2, o2⟩
theorem bEq_ok (hC : okC σ C) (hx : isI x = true) (hy : isI y = true) (gx : gam σ x (.int i)) (gy : gam σ y (.int j)) (h : i = j) : ∃ C', bEq C x y = some C' ∧ okC σ C' := by
  subst h
  obtain ⟨y1, y2⟩ := rng_ok hC hy gy
  obtain ⟨x1, x2⟩ := rng_ok hC hx gx
  obtain ⟨C1, e1, o1⟩ := rf2_ok (lo := (rng C y).1) (hi := (rng C y).2) hC hx gx y1 y2
  obtain ⟨C2, e2, o2⟩ := rf2_ok (lo := (rng C x).1) (hi := (rng C x).2) o1 hy gy x1 x2
  exact ⟨C2, by unfold bEq; rw [e1]; exact e2, o2⟩
theorem bNe_ok (hC : okC σ C) (hx : isI x = true) (hy : isI y = true) (gx : gam σ x (.int i)) (gy : gam σ y (.int j)) (h : ¬ i = j) : ∃ C', bNe C x y = some C' ∧ okC σ C' := by
  have hn : i.toInt ≠ j.toInt := fun q => h (Int32.toInt_inj.mp q)
  obtain ⟨y1, y2⟩ := rng_ok hC hy gy
  obtain ⟨x1, x2⟩ := rng_ok hC hx gx
  unfold bNe
  by_cases c1 : (rng C y).1 = (rng C y).2
  · rw [if_pos c1]
    by_cases c2 : (rng C x).1 = (rng C y).1
    · rw [if_pos c2]
      exact rf2_ok hC hx gx (by omega) (tI_hi _)
    · rw [if_neg c2]
      by_cases c3 : (rng C x).2 = (rng C y).1
      · rw [if_pos c3]
        exact rf2_ok hC hx gx (tI_lo _) (by omega)
      · rw [if_neg c3]; exact ⟨C, rfl, hC⟩
  · rw [if_neg c1]
    by_cases c4 : (rng C x).1 = (rng C x).2
    · rw [if_pos c4]
      by_cases c2 : (rng C y).1 = (rng C x).1
      · rw [if_pos c2]
        exact rf2_ok hC hy gy (by omega) (tI_hi _)
      · rw [if_neg c2]
        by_cases c3 : (rng C y).2 = (rng C x).1
        · rw [if_pos c3]
          exact rf2_ok hC hy gy (tI_lo _) (by omega)
        · rw [if_neg c3]; exact ⟨C, rfl, hC⟩
    · rw [if_neg c4]; exact ⟨C, rfl, hC⟩
end Cmp
/-- the whole of a range, if ints hold it -/
def nrmI (q : Int × Int) : AV := if i32lo ≤ q.1 ∧ q.2 ≤ i32hi then (0, q.1, q.2) else (0, i32lo, i32hi)
theorem nrmI_I (q : Int × Int) : isI (nrmI q) = true := by unfold nrmI; split <;> rfl
theorem gam_top {σ : Nat → Int} (i : Int32) : gam σ (0, i32lo, i32hi) (.int i) := ⟨i, rfl, tI_lo _, tI_hi _⟩
theorem nrmI_ok {σ : Nat → Int} {q : Int × Int} {i : Int32} (h : i32lo ≤ q.1 → q.2 ≤ i32hi → q.1 ≤ i.toInt ∧ i.toInt ≤ q.2) : gam σ (nrmI q) (.int i) := by
  unfold nrmI
  split
  · rename_i hh
    obtain ⟨h1, h2⟩ := h hh.1 hh.2
    exact ⟨i, rfl, h1, h2⟩
  · exact gam_top i
