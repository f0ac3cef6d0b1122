/-! saleAt of a packed row -/
def acSaleAt : AC := ([(5, 0, 0), (0, -1, 5)], 1, [((0, 0, 39), [], [])], [], [])
theorem grp_in {l : Int64} {i : Int32} (h : PK l) (h1 : -1 ≤ i.toInt) (h2 : i.toInt ≤ 5) : 0 ≤ (grp l i).toInt ∧ (grp l i).toInt ≤ 39 := by
  have key : ∀ j : Nat, j < 7 → i.toInt = (nI j - 1).toInt → 0 ≤ (grp l i).toInt ∧ (grp l i).toInt ≤ 39 := fun j hj e => by
    have e2 : i = nI j - 1 := Int32.toInt_inj.mp e
    have := h j hj
    rw [← e2] at this
    omega
  rcases (show i.toInt = -1 ∨ i.toInt = 0 ∨ i.toInt = 1 ∨ i.toInt = 2 ∨ i.toInt = 3 ∨ i.toInt = 4 ∨ i.toInt = 5 by omega) with q | q | q | q | q | q | q
  · exact key 0 (by decide) (by rw [q]; decide)
  · exact key 1 (by decide) (by rw [q]; decide)
  · exact key 2 (by decide) (by rw [q]; decide)
  · exact key 3 (by decide) (by rw [q]; decide)
  · exact key 4 (by decide) (by rw [q]; decide)
  · exact key 5 (by decide) (by rw [q]; decide)
  · exact key 6 (by decide) (by rw [q]; decide)
theorem hpSaleAt (c : Nat × Nat) : SafeC TYg c mX6_saleAt acSaleAt := by
  intro as m hF hM hc _
  match as, hF with
  | [x, y], hF =>
    obtain ⟨⟨l, rfl, hpk⟩, ⟨i, rfl, h1, h2⟩, _⟩ := hF
    have hpk := hpk.1 rfl
    refine At.go okX6_saleAt 12 ?_
    show PC TYg acSaleAt m [.long l, .int i] (some (.int (grp l i))) m
    have hg := grp_in hpk h1 h2
    exact ⟨hM, rfl, Fr_rfl _ _, ((0, 0, 39), [], []), List.mem_singleton.mpr rfl, ⟨by decide, ⟨_, rfl, hg.1, hg.2⟩⟩, (fun _ h => by cases h), (fun _ h => by cases h)⟩
/-- of a row whose first n places are good -/
def acSaleAtN (n : Int) : AC := ([(5, 0, n), (0, 0, n - 1)], 1, [((0, 0, 39), [], [])], [], [])
theorem hpSaleAtN (c : Nat × Nat) {n : Int} (n1 : 1 ≤ n) (n2 : n ≤ 9) : SafeC TYg c mX6_saleAt (acSaleAtN n) := by
  intro as m hF hM hc _
  match as, hF with
  | [x, y], hF =>
    obtain ⟨⟨l, rfl, hpk⟩, ⟨i, rfl, h1, h2⟩, _⟩ := hF
    simp only at h1 h2 hpk
    refine At.go okX6_saleAt 12 ?_
    show PC TYg (acSaleAtN n) m [.long l, .int i] (some (.int (grp l i))) m
    have hg := hpk.2.1 (by omega) (by omega) i.toInt.toNat (by omega)
    have e : nI i.toInt.toNat = i := Int32.toInt_inj.mp (by
      show (Int32.ofNat i.toInt.toNat).toInt = _
      rw [Int32.toInt_ofNat_of_lt (by omega)]
      omega)
    rw [e] at hg
    exact ⟨hM, rfl, Fr_rfl _ _, ((0, 0, 39), [], []), List.mem_singleton.mpr rfl, ⟨by decide, ⟨_, rfl, hg.1, by show _ ≤ (39 : Int); omega⟩⟩, (fun _ h => by cases h), (fun _ h => by cases h)⟩
