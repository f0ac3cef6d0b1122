/-! the class's book: what stands in it -/
def rowC (bk r : Nat) : Nat := match Nat.beq bk 336 with
  | true => [49528, 21064, 49560, 49592, 49752, 49768, 49784, 49800, 49816, 49835, 164312, 164328, 164344, 164360, 164376, 164392, 164408].getD r 0
  | false => [49912, 21448, 49944, 49976, 50136, 50152, 50168, 50184, 50200, 50219, 164696, 164712, 164728, 164744, 164760, 164776, 164792].getD r 0
def cntC (bk k : Nat) : Nat := match Nat.beq bk 336 with
  | true => [354, 386, 418, 452].getD k 0
  | false => [738, 770, 802, 836].getD k 0
def cntF (k : Nat) : Nat := match k with
  | 3 => 7
  | _ => 1
def OkB (B : TB) : Prop := B.1 0 ≤ 5 ∧ B.1 1 ≤ 4 ∧ B.1 2 ≤ 12 ∧ B.1 3 ≤ 30 ∧ ∀ i, i < B.1 2 → lg (B.2 3 i) = -1
def BkR (bk : Nat) (B : TB) (m : MM) : Prop := (∀ r, r < 17 → ∀ i, i < B.1 (own r) → (gI m (rowC bk r) i).toInt = B.2 r i) ∧ OkB B
def BkI (bk : Nat) (B : TB) (m : MM) : Prop := (∀ k, k < 4 → (gI m (cntC bk k) (cntF k)).toInt = B.1 k) ∧ BkR bk B m
def isBk (bk : Nat) : Prop := bk = 336 ∨ bk = 720
theorem rowC_8 {bk : Nat} (hb : isBk bk) : ∀ r, r < 17 → Nat.ble 8 (rowC bk r % 16) = true := by
  rcases hb with rfl | rfl <;> decide +kernel
theorem rowC_ne {bk : Nat} (hb : isBk bk) : ∀ r, r < 17 → ∀ r', r' < 17 → rowC bk r = rowC bk r' → r = r' := by
  rcases hb with rfl | rfl <;> decide +kernel
theorem nelm6 {a : Nat} {W : List Nat} (h : (!(elm a W)) = true) : ¬ a ∈ W := fun q => by
  have : elm a W = true := List.any_eq_true.mpr ⟨a, q, Nat.beq_refl _⟩
  rw [this] at h
  cases h
def bkFree (bk : Nat) (W : List Nat) : Bool := (List.range 17).all (fun r => !(elm (rowC bk r) W)) && (List.range 4).all (fun k => !(elm (wk (cntC bk k) (cntF k)) W))
theorem BkI.fr {bk : Nat} {B : TB} {W : List Nat} {m m' : MM} (h : BkI bk B m) (hb : isBk bk) (hF : Fr W m m') (hW : bkFree bk W = true) : BkI bk B m' := by
  unfold bkFree at hW
  rw [Bool.and_eq_true, List.all_eq_true, List.all_eq_true] at hW
  refine ⟨fun k hk => ?_, fun r hr i hi => ?_, h.2.2⟩
  · have := hW.2 k (List.mem_range.mpr hk)
    rw [fr1 hF (nelm6 this)]
    exact h.1 k hk
  · have := hW.1 r (List.mem_range.mpr hr)
    rw [row1 hF (rowC_8 hb r hr) (by cases hq : elm (rowC bk r) W with
      | false => rfl
      | true => rw [hq] at this; cases this)]
    exact h.2.1 r hr i hi
theorem gI_if {m : MM} {a i b j : Nat} {v : Int32} : gI (sI m a i v) b j = if b = a ∧ j = i then v else gI m b j := by
  unfold gI sI
  by_cases h1 : b = a
  · by_cases h2 : j = i
    · simp [h1, h2]
    · simp [h1, h2]
  · simp [h1]
theorem BkR.row {bk r i : Nat} {B : TB} {m : MM} {v : Int32} (h : BkR bk B m) (hb : isBk bk) (hr : r < 17) (h3 : r = 3 → B.1 2 ≤ i) : BkR bk (B.1, setR B.2 r i v.toInt) (sI m (rowC bk r) i v) := by
  refine ⟨fun r' hr' i' hi' => ?_, h.2.1, h.2.2.1, h.2.2.2.1, h.2.2.2.2.1, fun i' hi' => ?_⟩
  · rw [gI_if]
    show _ = (if r' = r ∧ i' = i then v.toInt else B.2 r' i')
    by_cases q : r' = r ∧ i' = i
    · rw [if_pos q, if_pos ⟨by rw [q.1], q.2⟩]
    · rw [if_neg q, if_neg (fun z => q ⟨rowC_ne hb r' hr' r hr z.1, z.2⟩)]
      exact h.1 r' hr' i' hi'
  · show lg (if 3 = r ∧ i' = i then v.toInt else B.2 3 i') = -1
    have hi' : i' < B.1 2 := hi'
    rw [if_neg (fun z => by have := h3 z.1.symm; omega)]
    exact h.2.2.2.2.2 i' hi'
theorem BkR.fld {bk c f : Nat} {B : TB} {m : MM} {v : Int32} (h : BkR bk B m) (hb : isBk bk) (hc : Nat.ble 8 (c % 16) = false) : BkR bk B (sI m c f v) :=
  ⟨fun r hr i hi => by
    rw [gI_if, if_neg (fun z => by
      have := rowC_8 hb r hr
      rw [z.1, hc] at this
      cases this)]
    exact h.1 r hr i hi, h.2⟩
theorem own_4 : ∀ r, own r < 4 := fun r => by unfold own; split <;> (try split) <;> (try split) <;> omega
theorem BkI.mk' {bk k : Nat} {N : Nat → Nat} {T : Nat → Nat → Int} {m : MM} (h : BkR bk (N, T) m) (hk : k < 4) (hT : ∀ r, r < 17 → own r = k → (gI m (rowC bk r) (N k)).toInt = T r (N k)) (hC : ∀ j, j < 4 → (gI m (cntC bk j) (cntF j)).toInt = setN N k (N k + 1) j) (hok : OkB (setN N k (N k + 1), T)) : BkI bk (setN N k (N k + 1), T) m := by
  refine ⟨hC, fun r hr i hi => ?_, hok⟩
  have hi : i < (if own r = k then N k + 1 else N (own r)) := hi
  by_cases q : own r = k
  · rw [if_pos q] at hi
    by_cases q2 : i = N k
    · rw [q2]; exact hT r hr q
    · exact h.1 r hr i (by show i < N (own r); rw [q]; omega)
  · rw [if_neg q] at hi
    exact h.1 r hr i hi
def rdFree (W : List Nat) : Bool := !(elm 3276842 W) && (List.range 7).all (fun k => !(elm (wk 19 (k + 2)) W))
theorem CR.fr {b : BT} {e : Nat} {t : TK} {W : List Nat} {m m' : MM} (h : CR b e t m) (hS : St W m m') (hW : rdFree W = true) : CR b e t m' ∧ gI m' 19 2 = gI m 19 2 ∧ gI m' 19 3 = gI m 19 3 := by
  unfold rdFree at hW
  rw [Bool.and_eq_true, List.all_eq_true] at hW
  have f : ∀ k, k < 7 → gI m' 19 (k + 2) = gI m 19 (k + 2) := fun k hk => fr1 hS.2.2 (nelm6 (hW.2 k (List.mem_range.mpr hk)))
  obtain ⟨k1, k2, k3, k4⟩ := h.2.2.2.2.1
  refine ⟨⟨hS.1, h.2.1.fr hS.2.2 (by cases hq : elm 3276842 W with
    | false => rfl
    | true => rw [hq] at hW; cases hW.1), by rw [f 2 (by omega)]; exact h.2.2.1, h.2.2.2.1, ⟨by rw [f 4 (by omega)]; exact k1, by rw [f 5 (by omega)]; exact k2, by rw [f 6 (by omega)]; exact k3, by rw [f 3 (by omega)]; exact k4⟩, h.2.2.2.2.2⟩, f 0 (by omega), f 1 (by omega)⟩
theorem OC_c {α : Type} {m m' : MM} {x : ER α} {bad : Prop} {good : α → Prop} (h : OC m m' x bad good) : (∃ er, x = .inl er ∧ bad ∧ (gI m' 19 2).toInt = er.1 ∧ (gI m' 19 3).toInt = er.2) ∨ ∃ a, x = .inr a ∧ good a ∧ gI m' 19 2 = gI m 19 2 ∧ gI m' 19 3 = gI m 19 3 := by
  cases x with
  | inl er => exact Or.inl ⟨er, rfl, h⟩
  | inr a => exact Or.inr ⟨a, rfl, h⟩
set_option maxRecDepth 100000 in
theorem r_add_354 {m : MM} {v : Int32} {n : Nat} (hN : (gI m 354 1).toInt = n) (hn : n < 12) : CI 1 mX2_add [.ref 354, .int v] m (fun r m' => r.toInt = n ∧ m' = sI (sI m 49528 n v) 354 1 (gI m 354 1 + 1)) := by
  have e12 : (12 : Int32).toInt = 12 := rfl
  have e1 : (gI m 354 1 + 1 - 1).toInt = n := by
    have a1 := inc1 (k := gI m 354 1) (by omega)
    rw [tI_sub (by rw [a1, tI_1]; unfold i32lo; omega) (by rw [a1, tI_1]; unfold i32hi; omega), a1, tI_1, hN]; omega
  refine At.gs okX2_add 40 ?_
  (conv => whnf)
  refine And.intro (fun h => ?_) (fun h => ?_)
  · (conv => whnf)
    refine And.intro (vp_in_iff.mpr ⟨show 0 ≤ (gI m 354 1).toInt by omega, show (gI m 354 1).toInt < ((12 : Nat) : Int) by omega⟩) ?_
    refine ⟨e1, ?_⟩
    show sI (sI m 49528 (gI m 354 1).toNatClampNeg v) 354 1 (gI m 354 1 + 1) = _
    rw [nat_c hN]
  · have h : ¬ gI m 354 1 < 12 := h
    rw [lt_i] at h
    omega
set_option maxRecDepth 100000 in
theorem r_add_386 {m : MM} {v : Int32} {n : Nat} (hN : (gI m 386 1).toInt = n) (hn : n < 12) : CI 1 mX2_add [.ref 386, .int v] m (fun r m' => r.toInt = n ∧ m' = sI (sI m 49560 n v) 386 1 (gI m 386 1 + 1)) := by
  have e12 : (12 : Int32).toInt = 12 := rfl
  have e1 : (gI m 386 1 + 1 - 1).toInt = n := by
    have a1 := inc1 (k := gI m 386 1) (by omega)
    rw [tI_sub (by rw [a1, tI_1]; unfold i32lo; omega) (by rw [a1, tI_1]; unfold i32hi; omega), a1, tI_1, hN]; omega
  refine At.gs okX2_add 40 ?_
  (conv => whnf)
  refine And.intro (fun h => ?_) (fun h => ?_)
  · (conv => whnf)
    refine And.intro (vp_in_iff.mpr ⟨show 0 ≤ (gI m 386 1).toInt by omega, show (gI m 386 1).toInt < ((12 : Nat) : Int) by omega⟩) ?_
    refine ⟨e1, ?_⟩
    show sI (sI m 49560 (gI m 386 1).toNatClampNeg v) 386 1 (gI m 386 1 + 1) = _
    rw [nat_c hN]
  · have h : ¬ gI m 386 1 < 12 := h
    rw [lt_i] at h
    omega
set_option maxRecDepth 100000 in
theorem r_add_418 {m : MM} {v : Int32} {n : Nat} (hN : (gI m 418 1).toInt = n) (hn : n < 12) : CI 1 mX2_add [.ref 418, .int v] m (fun r m' => r.toInt = n ∧ m' = sI (sI m 49592 n v) 418 1 (gI m 418 1 + 1)) := by
  have e12 : (12 : Int32).toInt = 12 := rfl
  have e1 : (gI m 418 1 + 1 - 1).toInt = n := by
    have a1 := inc1 (k := gI m 418 1) (by omega)
    rw [tI_sub (by rw [a1, tI_1]; unfold i32lo; omega) (by rw [a1, tI_1]; unfold i32hi; omega), a1, tI_1, hN]; omega
  refine At.gs okX2_add 40 ?_
  (conv => whnf)
  refine And.intro (fun h => ?_) (fun h => ?_)
  · (conv => whnf)
    refine And.intro (vp_in_iff.mpr ⟨show 0 ≤ (gI m 418 1).toInt by omega, show (gI m 418 1).toInt < ((12 : Nat) : Int) by omega⟩) ?_
    refine ⟨e1, ?_⟩
    show sI (sI m 49592 (gI m 418 1).toNatClampNeg v) 418 1 (gI m 418 1 + 1) = _
    rw [nat_c hN]
  · have h : ¬ gI m 418 1 < 12 := h
    rw [lt_i] at h
    omega
set_option maxRecDepth 100000 in
theorem r_add_738 {m : MM} {v : Int32} {n : Nat} (hN : (gI m 738 1).toInt = n) (hn : n < 12) : CI 1 mX2_add [.ref 738, .int v] m (fun r m' => r.toInt = n ∧ m' = sI (sI m 49912 n v) 738 1 (gI m 738 1 + 1)) := by
  have e12 : (12 : Int32).toInt = 12 := rfl
  have e1 : (gI m 738 1 + 1 - 1).toInt = n := by
    have a1 := inc1 (k := gI m 738 1) (by omega)
    rw [tI_sub (by rw [a1, tI_1]; unfold i32lo; omega) (by rw [a1, tI_1]; unfold i32hi; omega), a1, tI_1, hN]; omega
  refine At.gs okX2_add 40 ?_
  (conv => whnf)
  refine And.intro (fun h => ?_) (fun h => ?_)
  · (conv => whnf)
    refine And.intro (vp_in_iff.mpr ⟨show 0 ≤ (gI m 738 1).toInt by omega, show (gI m 738 1).toInt < ((12 : Nat) : Int) by omega⟩) ?_
    refine ⟨e1, ?_⟩
    show sI (sI m 49912 (gI m 738 1).toNatClampNeg v) 738 1 (gI m 738 1 + 1) = _
    rw [nat_c hN]
  · have h : ¬ gI m 738 1 < 12 := h
    rw [lt_i] at h
    omega
set_option maxRecDepth 100000 in
theorem r_add_770 {m : MM} {v : Int32} {n : Nat} (hN : (gI m 770 1).toInt = n) (hn : n < 12) : CI 1 mX2_add [.ref 770, .int v] m (fun r m' => r.toInt = n ∧ m' = sI (sI m 49944 n v) 770 1 (gI m 770 1 + 1)) := by
  have e12 : (12 : Int32).toInt = 12 := rfl
  have e1 : (gI m 770 1 + 1 - 1).toInt = n := by
    have a1 := inc1 (k := gI m 770 1) (by omega)
    rw [tI_sub (by rw [a1, tI_1]; unfold i32lo; omega) (by rw [a1, tI_1]; unfold i32hi; omega), a1, tI_1, hN]; omega
  refine At.gs okX2_add 40 ?_
  (conv => whnf)
  refine And.intro (fun h => ?_) (fun h => ?_)
  · (conv => whnf)
    refine And.intro (vp_in_iff.mpr ⟨show 0 ≤ (gI m 770 1).toInt by omega, show (gI m 770 1).toInt < ((12 : Nat) : Int) by omega⟩) ?_
    refine ⟨e1, ?_⟩
    show sI (sI m 49944 (gI m 770 1).toNatClampNeg v) 770 1 (gI m 770 1 + 1) = _
    rw [nat_c hN]
  · have h : ¬ gI m 770 1 < 12 := h
    rw [lt_i] at h
    omega
set_option maxRecDepth 100000 in
theorem r_add_802 {m : MM} {v : Int32} {n : Nat} (hN : (gI m 802 1).toInt = n) (hn : n < 12) : CI 1 mX2_add [.ref 802, .int v] m (fun r m' => r.toInt = n ∧ m' = sI (sI m 49976 n v) 802 1 (gI m 802 1 + 1)) := by
  have e12 : (12 : Int32).toInt = 12 := rfl
  have e1 : (gI m 802 1 + 1 - 1).toInt = n := by
    have a1 := inc1 (k := gI m 802 1) (by omega)
    rw [tI_sub (by rw [a1, tI_1]; unfold i32lo; omega) (by rw [a1, tI_1]; unfold i32hi; omega), a1, tI_1, hN]; omega
  refine At.gs okX2_add 40 ?_
  (conv => whnf)
  refine And.intro (fun h => ?_) (fun h => ?_)
  · (conv => whnf)
    refine And.intro (vp_in_iff.mpr ⟨show 0 ≤ (gI m 802 1).toInt by omega, show (gI m 802 1).toInt < ((12 : Nat) : Int) by omega⟩) ?_
    refine ⟨e1, ?_⟩
    show sI (sI m 49976 (gI m 802 1).toNatClampNeg v) 802 1 (gI m 802 1 + 1) = _
    rw [nat_c hN]
  · have h : ¬ gI m 802 1 < 12 := h
    rw [lt_i] at h
    omega
