/-! the class's streams: what is sent -/
def adV (m : MM) (k a b : Nat) (d : Int32) : MM := if a / 2 = b / 2 then sI m 164120 (a / 2) (gI m 164120 (a / 2) + (if a < b then d else -d)) else if a % 2 = 0 then sI m 6553896 (b / 2 * k + a / 2) (gI m 6553896 (b / 2 * k + a / 2) - d) else sI m 6553896 (a / 2 * k + b / 2) (gI m 6553896 (a / 2 * k + b / 2) + d)
def wSd : List Nat := [164120, 6553896]
theorem adV_St {m m0 : MM} {k a b : Nat} {d : Int32} (h : St wSd m0 m) : St wSd m0 (adV m k a b d) := by
  unfold adV
  split
  · exact h.row rfl (by decide) (tI_lo _) (tI_hi _)
  · split
    · exact h.row rfl (by decide) (tI_lo _) (tI_hi _)
    · exact h.row rfl (by decide) (tI_lo _) (tI_hi _)
section Xk
variable {m : MM} {k : Nat}
set_option maxRecDepth 100000 in
set_option maxHeartbeats 4000000 in
theorem r_addB {a b : Nat} {d : Int32} (hk : k ≤ 40) (e8 : gI m 197 8 = nI k) (ha : a < 2 * k) (hb : b < 2 * k) : CV 1 mX5_addBetween [.ref 197, .int (nI a), .int (nI b), .int d] m (fun m' => m' = adV m k a b d) := by
  have qa : nI a / 2 = nI (a / 2) := pk_div (a := a) (d := 2) (by omega) (by decide) (by decide)
  have qb : nI b / 2 = nI (b / 2) := pk_div (a := b) (d := 2) (by omega) (by decide) (by decide)
  have ra : nI a - nI a / 2 * 2 = nI (a % 2) := pk_rem (a := a) (d := 2) (by omega) (by decide) (by decide)
  have va : vp_in (nI a / 2) 40 := by rw [qa]; exact vp_in_nI (by omega) (by decide)
  have ca : (nI a / 2).toNatClampNeg = a / 2 := by rw [qa]; exact nI_clamp (by omega)
  have hin : ∀ x y, x < 2 * k → y < 2 * k → x / 2 * k + y / 2 < 1600 := fun x y hx hy => by
    have : x / 2 * k ≤ 39 * 40 := Nat.mul_le_mul (by omega) hk
    omega
  have e1 : nI b / 2 * gI m 197 8 + nI a / 2 = nI (b / 2 * k + a / 2) := by rw [e8, qa, qb, pk_mul, nI_add]
  have e2 : nI a / 2 * gI m 197 8 + nI b / 2 = nI (a / 2 * k + b / 2) := by rw [e8, qa, qb, pk_mul, nI_add]
  have c1 : (nI b / 2 * gI m 197 8 + nI a / 2).toNatClampNeg = b / 2 * k + a / 2 := by rw [e1]; exact nI_clamp (by have := hin b a hb ha; omega)
  have c2 : (nI a / 2 * gI m 197 8 + nI b / 2).toNatClampNeg = a / 2 * k + b / 2 := by rw [e2]; exact nI_clamp (by have := hin a b ha hb; omega)
  have v1 : vp_in (nI b / 2 * gI m 197 8 + nI a / 2) 1600 := by rw [e1]; exact vp_in_nI (hin b a hb ha) (by decide)
  have v2 : vp_in (nI a / 2 * gI m 197 8 + nI b / 2) 1600 := by rw [e2]; exact vp_in_nI (hin a b ha hb) (by decide)
  refine At.gs okX5_addBetween 80 ?_
  (conv => whnf)
  refine And.intro (show ¬ (2 : Int32) = 0 by decide) ?_
  (conv => whnf)
  refine And.intro (show ¬ (2 : Int32) = 0 by decide) ?_
  (conv => whnf)
  refine And.intro (fun p => ?_) (fun p => ?_)
  · have p : ¬ nI a / 2 = nI b / 2 := p
    have hne : ¬ a / 2 = b / 2 := fun z => p (by rw [qa, qb, z])
    (conv => whnf)
    refine And.intro (show ¬ (2 : Int32) = 0 by decide) ?_
    (conv => whnf)
    refine And.intro (fun p2 => ?_) (fun p2 => ?_)
    · have p2 : ¬ nI a - nI a / 2 * 2 = 0 := p2
      rw [ra] at p2
      have odd : ¬ a % 2 = 0 := fun z => p2 (by rw [z]; rfl)
      (conv => whnf)
      refine And.intro v2 ?_
      (conv => whnf)
      refine And.intro v2 ?_
      show sI m 6553896 (nI a / 2 * gI m 197 8 + nI b / 2).toNatClampNeg (gI m 6553896 (nI a / 2 * gI m 197 8 + nI b / 2).toNatClampNeg + d) = adV m k a b d
      unfold adV
      rw [if_neg hne, if_neg odd, c2]
    · have p2 : nI a - nI a / 2 * 2 = 0 := p2
      rw [ra] at p2
      have even : a % 2 = 0 := by
        rcases Nat.mod_two_eq_zero_or_one a with z | z
        · exact z
        · rw [z] at p2; exact absurd p2 (by decide)
      (conv => whnf)
      refine And.intro v1 ?_
      (conv => whnf)
      refine And.intro v1 ?_
      show sI m 6553896 (nI b / 2 * gI m 197 8 + nI a / 2).toNatClampNeg (gI m 6553896 (nI b / 2 * gI m 197 8 + nI a / 2).toNatClampNeg - d) = adV m k a b d
      unfold adV
      rw [if_neg hne, if_pos even, c1]
  · have p : nI a / 2 = nI b / 2 := p
    have heq : a / 2 = b / 2 := by rw [qa, qb] at p; exact nI_inj (by omega) (by omega) p
    (conv => whnf)
    refine And.intro va ?_
    (conv => whnf)
    refine And.intro (fun p2 => ?_) (fun p2 => ?_)
    · have p2 : nI b ≤ nI a := p2
      rw [le_i, nI_toInt (by omega), nI_toInt (by omega)] at p2
      (conv => whnf)
      refine And.intro va ?_
      show sI m 164120 (nI a / 2).toNatClampNeg (gI m 164120 (nI a / 2).toNatClampNeg + -d) = adV m k a b d
      unfold adV
      rw [if_pos heq, if_neg (by omega), ca]
    · have p2 : ¬ nI b ≤ nI a := p2
      rw [le_i, nI_toInt (by omega), nI_toInt (by omega)] at p2
      (conv => whnf)
      refine And.intro va ?_
      show sI m 164120 (nI a / 2).toNatClampNeg (gI m 164120 (nI a / 2).toNatClampNeg + d) = adV m k a b d
      unfold adV
      rw [if_pos heq, if_pos (by omega), ca]
end Xk
/-- four kinds of pieces -/
def Shp (k u v : Nat) : Prop := (∃ j, j < k ∧ u = 2 * j ∧ v = 2 * j + 1) ∨ (∃ i j, i < k ∧ j < k ∧ i ≠ j ∧ u = 2 * j ∧ v = 2 * i + 1) ∨ (∃ j, j < k ∧ u = 2 * j + 1 ∧ v = 2 * j) ∨ (∃ j l, j < k ∧ l < k ∧ j ≠ l ∧ u = 2 * j + 1 ∧ v = 2 * l)
/-- the cell of a piece -/
def celV (m : MM) (k u v : Nat) : Int := if u / 2 = v / 2 then (gI m 164120 (u / 2)).toInt else if u % 2 = 0 then (gI m 6553896 (v / 2 * k + u / 2)).toInt else (gI m 6553896 (u / 2 * k + v / 2)).toInt
theorem cell_inj {k a b i j : Nat} (hb : b < k) (hj : j < k) (h : a * k + b = i * k + j) : a = i ∧ b = j := by
  have hk : 0 < k := by omega
  have e1 : (a * k + b) / k = a := by rw [Nat.mul_comm, Nat.mul_add_div hk, Nat.div_eq_of_lt hb, Nat.add_zero]
  have e2 : (i * k + j) / k = i := by rw [Nat.mul_comm, Nat.mul_add_div hk, Nat.div_eq_of_lt hj, Nat.add_zero]
  rw [h, e2] at e1
  refine ⟨e1.symm, ?_⟩
  rw [e1] at h
  omega
theorem gIy_ {m : MM} {a i : Nat} {v : Int32} : gI (sI m a i v) a i = v := by rw [gI_if, if_pos ⟨rfl, rfl⟩]
theorem gIn_ {m : MM} {a i b j : Nat} {v : Int32} (h : ¬ (b = a ∧ j = i)) : gI (sI m a i v) b j = gI m b j := by rw [gI_if, if_neg h]
theorem pceY {g : Nat → Nat → Int} {a b : Nat} {d : Int} (h : a ≠ b) : pce g a b d a b = g a b + d := by
  unfold pce
  rw [if_pos ⟨rfl, rfl⟩, if_neg (fun z => h z.1)]
  omega
theorem pceM {g : Nat → Nat → Int} {a b : Nat} {d : Int} (h : a ≠ b) : pce g a b d b a = g b a - d := by
  unfold pce
  rw [if_neg (fun z => h z.2), if_pos ⟨rfl, rfl⟩]
  omega
theorem pceZ {g : Nat → Nat → Int} {a b u v : Nat} {d : Int} (h1 : ¬ (u = a ∧ v = b)) (h2 : ¬ (u = b ∧ v = a)) : pce g a b d u v = g u v := by
  unfold pce
  rw [if_neg h1, if_neg h2]
  omega
theorem GR_ad {V : VW} {st w : Int32} {L : List Nat} {m : MM} {g : Nat → Nat → Int} {u v : Nat} {d : Int32} (hW : Wf V) (hL : LG V st w L) (hG : GR L m g) (hS : Shp L.length u v) (hd0 : 0 ≤ d.toInt) (hd9 : d.toInt ≤ 999) (hc0 : 0 ≤ celV m L.length u v) (hc9 : celV m L.length u v ≤ 999) : GR L (adV m L.length u v d) (pce g (nd5 L u) (nd5 L v) d.toInt) := by
  have h40 := hW.1.2.2.2
  have lt : ∀ j, j < L.length → L.getD j 0 < 40 := fun j hj => by have := (hL.2.1 j hj).1; omega
  have nj : ∀ i j, i < L.length → j < L.length → L.getD i 0 = L.getD j 0 → i = j := fun i j hi hj h => Classical.byContradiction (fun z => hL.2.2.1 i j hi hj z h)
  rcases hS with ⟨j, j1, rfl, rfl⟩ | ⟨i, j, i1, j1, ij, rfl, rfl⟩ | ⟨j, j1, rfl, rfl⟩ | ⟨j, l, j1, l1, jl, rfl, rfl⟩
  · have hd2 : 2 * j / 2 = j := by omega
    have hd3 : (2 * j + 1) / 2 = j := by omega
    unfold celV at hc0 hc9
    rw [if_pos (by omega), hd2] at hc0 hc9
    have em : adV m L.length (2 * j) (2 * j + 1) d = sI m 164120 j (gI m 164120 j + d) := by
      unfold adV
      rw [if_pos (by omega), if_pos (by omega), hd2]
    have ev : (gI m 164120 j + d).toInt = (gI m 164120 j).toInt + d.toInt := iI_add (by omega) (by omega)
    rw [em, nd5_0, nd5_1]
    refine ⟨fun x hx => ?_, fun x y hx hy hxy => ?_, fun x hx => ?_⟩
    · by_cases q : x = j
      · rw [q, pceY (by omega), gIy_, ev, hG.1 j j1]
      · rw [pceZ (fun z => q (nj x j hx j1 z.1)) (fun z => by have := lt x hx; omega), gIn_ (fun z => q z.2), hG.1 x hx]
    · rw [pceZ (fun z => by have := lt j j1; omega) (fun z => hxy ((nj x j hx j1 (by omega)).trans (nj y j hy j1 z.2).symm)), gIn_ (fun z => absurd z.1 (by decide)), hG.2.1 x y hx hy hxy]
    · rw [gIn_ (fun z => absurd z.1 (by decide))]
      exact hG.2.2 x hx
  · have hd2 : 2 * j / 2 = j := by omega
    have hd3 : (2 * i + 1) / 2 = i := by omega
    unfold celV at hc0 hc9
    rw [if_neg (by omega), if_pos (by omega), hd2, hd3] at hc0 hc9
    have em : adV m L.length (2 * j) (2 * i + 1) d = sI m 6553896 (i * L.length + j) (gI m 6553896 (i * L.length + j) - d) := by
      unfold adV
      rw [if_neg (by omega), if_pos (by omega), hd2, hd3]
    have ev : (gI m 6553896 (i * L.length + j) - d).toInt = (gI m 6553896 (i * L.length + j)).toInt - d.toInt := tI_sub (by unfold i32lo; omega) (by unfold i32hi; omega)
    rw [em, nd5_0, nd5_1]
    refine ⟨fun x hx => ?_, fun x y hx hy hxy => ?_, fun x hx => ?_⟩
    · rw [pceZ (fun z => ij ((nj x i hx i1 (by omega)).symm.trans (nj x j hx j1 z.1))) (fun z => by have := lt x hx; omega), gIn_ (fun z => absurd z.1 (by decide)), hG.1 x hx]
    · by_cases q : x = i ∧ y = j
      · rw [q.1, q.2, pceM (by have := lt j j1; omega), gIy_, ev, hG.2.1 i j i1 j1 ij]
      · rw [pceZ (fun z => by have := lt j j1; omega) (fun z => q ⟨nj x i hx i1 (by omega), nj y j hy j1 z.2⟩), gIn_ (fun z => q (cell_inj hy j1 z.2)), hG.2.1 x y hx hy hxy]
    · rw [gIn_ (fun z => by
        have := cell_inj hx j1 z.2
        exact ij (this.1.symm.trans this.2))]
      exact hG.2.2 x hx
  · have hd2 : 2 * j / 2 = j := by omega
    have hd3 : (2 * j + 1) / 2 = j := by omega
    unfold celV at hc0 hc9
    rw [if_pos (by omega), hd3] at hc0 hc9
    have em : adV m L.length (2 * j + 1) (2 * j) d = sI m 164120 j (gI m 164120 j + -d) := by
      unfold adV
      rw [if_pos (by omega), if_neg (by omega), hd3]
    have en : (-d).toInt = - d.toInt := by
      rw [Int32.toInt_neg]
      exact Int.bmod_eq_of_le (by omega) (by omega)
    have ev : (gI m 164120 j + -d).toInt = (gI m 164120 j).toInt - d.toInt := by
      rw [iI_add (by omega) (by omega), en]
      omega
    rw [em, nd5_0, nd5_1]
    refine ⟨fun x hx => ?_, fun x y hx hy hxy => ?_, fun x hx => ?_⟩
    · by_cases q : x = j
      · rw [q, pceM (by omega), gIy_, ev, hG.1 j j1]
      · rw [pceZ (fun z => by have := lt x hx; omega) (fun z => q (nj x j hx j1 z.1)), gIn_ (fun z => q z.2), hG.1 x hx]
    · rw [pceZ (fun z => hxy ((nj x j hx j1 (by omega)).trans (nj y j hy j1 z.2).symm)) (fun z => by have := lt j j1; omega), gIn_ (fun z => absurd z.1 (by decide)), hG.2.1 x y hx hy hxy]
    · rw [gIn_ (fun z => absurd z.1 (by decide))]
      exact hG.2.2 x hx
  · have hd2 : 2 * l / 2 = l := by omega
    have hd3 : (2 * j + 1) / 2 = j := by omega
    unfold celV at hc0 hc9
    rw [if_neg (by omega), if_neg (by omega), hd2, hd3] at hc0 hc9
    have em : adV m L.length (2 * j + 1) (2 * l) d = sI m 6553896 (j * L.length + l) (gI m 6553896 (j * L.length + l) + d) := by
      unfold adV
      rw [if_neg (by omega), if_neg (by omega), hd2, hd3]
    have ev : (gI m 6553896 (j * L.length + l) + d).toInt = (gI m 6553896 (j * L.length + l)).toInt + d.toInt := iI_add (by omega) (by omega)
    rw [em, nd5_0, nd5_1]
    refine ⟨fun x hx => ?_, fun x y hx hy hxy => ?_, fun x hx => ?_⟩
    · rw [pceZ (fun z => by have := lt x hx; omega) (fun z => jl ((nj x j hx j1 (by omega)).symm.trans (nj x l hx l1 z.1))), gIn_ (fun z => absurd z.1 (by decide)), hG.1 x hx]
    · by_cases q : x = j ∧ y = l
      · rw [q.1, q.2, pceY (by have := lt l l1; omega), gIy_, ev, hG.2.1 j l j1 l1 jl]
      · rw [pceZ (fun z => q ⟨nj x j hx j1 (by omega), nj y l hy l1 z.2⟩) (fun z => by have := lt l l1; omega), gIn_ (fun z => q (cell_inj hy l1 z.2)), hG.2.1 x y hx hy hxy]
    · rw [gIn_ (fun z => by
        have := cell_inj hx l1 z.2
        exact jl (this.1.symm.trans this.2))]
      exact hG.2.2 x hx
