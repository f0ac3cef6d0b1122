/-! signs of the model; signs and knew of both -/
section SgM
variable {m : MM} {f : Nat}
set_option maxRecDepth 100000 in
set_option maxHeartbeats 8000000 in
theorem s_under (hM : Mok TYg m) (hW : Wf (vw m)) (hf : f < 12) : CI 1 mX7_soldUnder [.ref 1175, .int (nI f)] m (fun r m' => m' = m ∧ z1 (SG1 (vw m) f) r) := by
  have h40 := hW.1.2.2.2
  have n6 : gI m 1175 6 = nI ((vw m).1 3) := nI_back (vw3 hM)
  have rr : ∀ r i, i < (vw m).1 3 → gI m (rowN r) (nI i).toNatClampNeg = (vw m).2 r i := fun r i hi => by rw [nI_clamp (by omega)]; rfl
  have lp : ∀ (d s : Nat) (v : Value), s + d = (vw m).1 3 → (∀ j, j < s → ¬ ((vw m).2 10 j = nI f ∧ ∃ b, b < (vw m).1 3 ∧ (vw m).2 11 b = nI f ∧ (vw m).2 13 b = (vw m).2 13 j ∧ ((vw m).2 15 b).toInt ≤ ((vw m).2 15 j).toInt ∧ ((vw m).2 14 j).toInt < ((vw m).2 14 b).toInt)) → At (E0 1) mX7_soldUnder (qi (fun r m' => m' = m ∧ z1 (SG1 (vw m) f) r)) 2 [.ref 1175, .int (nI f), .int (nI s), v] [] m := by
    intro d
    induction d with
    | zero =>
      intro s v hd hn
      refine At.ls okX7_soldUnder 60 ⟨_, _, rfl⟩ ?_
      (conv => whnf)
      refine And.intro (fun p => ?_) (fun p => ?_)
      · refine ⟨Or.inl rfl, rfl, Or.inr ⟨?_, rfl⟩⟩
        rintro ⟨j, j1, j2⟩
        exact hn j (by omega) j2
      · have p : ¬ gI m 1175 6 ≤ nI s := p
        rw [n6, le_i, nI_toInt (by omega), nI_toInt (by omega)] at p
        omega
    | succ d ih =>
      intro s v hd hn
      have hs : s < (vw m).1 3 := by omega
      have vs : vp_in (nI s) 80 := vp_in_nI (by omega) (by decide)
      have s10 : gI m 329048 (nI s).toNatClampNeg = (vw m).2 10 s := rr 10 s hs
      have s13 : gI m 329096 (nI s).toNatClampNeg = (vw m).2 13 s := rr 13 s hs
      have s14 : gI m 329112 (nI s).toNatClampNeg = (vw m).2 14 s := rr 14 s hs
      have s15 : gI m 329128 (nI s).toNatClampNeg = (vw m).2 15 s := rr 15 s hs
      have out : ∀ v : Value, ¬ ((vw m).2 10 s = nI f ∧ ∃ b, b < (vw m).1 3 ∧ (vw m).2 11 b = nI f ∧ (vw m).2 13 b = (vw m).2 13 s ∧ ((vw m).2 15 b).toInt ≤ ((vw m).2 15 s).toInt ∧ ((vw m).2 14 s).toInt < ((vw m).2 14 b).toInt) → At (E0 1) mX7_soldUnder (qi (fun r m' => m' = m ∧ z1 (SG1 (vw m) f) r)) 2 [.ref 1175, .int (nI f), .int (nI s + 1), v] [] m := by
        intro v hb2
        have z := ih (s + 1) v (by omega) (fun j hj => by
          by_cases q : j = s
          · rw [q]; exact hb2
          · exact hn j (by omega))
        rw [← nI_1] at z
        exact z
      have lp2 : ∀ (d2 b : Nat), b + d2 = (vw m).1 3 → (∀ j, j < b → ¬ ((vw m).2 11 j = nI f ∧ (vw m).2 13 j = (vw m).2 13 s ∧ ((vw m).2 15 j).toInt ≤ ((vw m).2 15 s).toInt ∧ ((vw m).2 14 s).toInt < ((vw m).2 14 j).toInt)) → At (E0 1) mX7_soldUnder (qi (fun r m' => m' = m ∧ z1 (SG1 (vw m) f) r)) 12 [.ref 1175, .int (nI f), .int (nI s), .int (nI b)] [] m := by
        intro d2
        induction d2 with
        | zero =>
          intro b hd2 hb
          refine At.ls okX7_soldUnder 60 ⟨_, _, rfl⟩ ?_
          (conv => whnf)
          refine And.intro (fun p => ?_) (fun p => ?_)
          · (conv => whnf)
            exact And.intro rfl (out _ (fun ⟨_, j, j1, j2⟩ => hb j (by omega) j2))
          · have p : ¬ gI m 1175 6 ≤ nI b := p
            rw [n6, le_i, nI_toInt (by omega), nI_toInt (by omega)] at p
            omega
        | succ d2 ih2 =>
          intro b hd2 hb
          have hbl : b < (vw m).1 3 := by omega
          have vb : vp_in (nI b) 80 := vp_in_nI (by omega) (by decide)
          have b11 : gI m 329064 (nI b).toNatClampNeg = (vw m).2 11 b := rr 11 b hbl
          have b13 : gI m 329096 (nI b).toNatClampNeg = (vw m).2 13 b := rr 13 b hbl
          have b14 : gI m 329112 (nI b).toNatClampNeg = (vw m).2 14 b := rr 14 b hbl
          have b15 : gI m 329128 (nI b).toNatClampNeg = (vw m).2 15 b := rr 15 b hbl
          have next : ¬ ((vw m).2 11 b = nI f ∧ (vw m).2 13 b = (vw m).2 13 s ∧ ((vw m).2 15 b).toInt ≤ ((vw m).2 15 s).toInt ∧ ((vw m).2 14 s).toInt < ((vw m).2 14 b).toInt) → At (E0 1) mX7_soldUnder (qi (fun r m' => m' = m ∧ z1 (SG1 (vw m) f) r)) 12 [.ref 1175, .int (nI f), .int (nI s), .int (nI b + 1)] [] m := by
            intro hb2
            have z := ih2 (b + 1) (by omega) (fun j hj => by
              by_cases q : j = b
              · rw [q]; exact hb2
              · exact hb j (by omega))
            rw [← nI_1] at z
            exact z
          refine At.ls okX7_soldUnder 100 ⟨_, _, rfl⟩ ?_
          (conv => whnf)
          refine And.intro (fun p => ?_) (fun p => ?_)
          · have p : gI m 1175 6 ≤ nI b := p
            rw [n6, le_i, nI_toInt (by omega), nI_toInt (by omega)] at p
            omega
          (conv => whnf)
          refine And.intro vs ?_
          (conv => whnf)
          refine And.intro (fun p0 => ?_) (fun p0 => ?_)
          · have p0 : ¬ gI m 329048 (nI s).toNatClampNeg = nI f := p0
            rw [s10] at p0
            (conv => whnf)
            exact And.intro rfl (out _ (fun z => p0 z.1))
          have p0 : gI m 329048 (nI s).toNatClampNeg = nI f := p0
          rw [s10] at p0
          (conv => whnf)
          refine And.intro vb ?_
          (conv => whnf)
          refine And.intro (fun p1 => ?_) (fun p1 => ?_)
          · have p1 : ¬ gI m 329064 (nI b).toNatClampNeg = nI f := p1
            rw [b11] at p1
            (conv => whnf)
            exact And.intro rfl (next (fun z => p1 z.1))
          have p1 : gI m 329064 (nI b).toNatClampNeg = nI f := p1
          rw [b11] at p1
          (conv => whnf)
          refine And.intro vb ?_
          (conv => whnf)
          refine And.intro vs ?_
          (conv => whnf)
          refine And.intro (fun p2 => ?_) (fun p2 => ?_)
          · have p2 : ¬ gI m 329096 (nI b).toNatClampNeg = gI m 329096 (nI s).toNatClampNeg := p2
            rw [b13, s13] at p2
            (conv => whnf)
            exact And.intro rfl (next (fun z => p2 z.2.1))
          have p2 : gI m 329096 (nI b).toNatClampNeg = gI m 329096 (nI s).toNatClampNeg := p2
          rw [b13, s13] at p2
          (conv => whnf)
          refine And.intro vb ?_
          (conv => whnf)
          refine And.intro vs ?_
          (conv => whnf)
          refine And.intro (fun p3 => ?_) (fun p3 => ?_)
          · have p3 : gI m 329128 (nI s).toNatClampNeg < gI m 329128 (nI b).toNatClampNeg := p3
            rw [b15, s15, lt_i] at p3
            (conv => whnf)
            exact And.intro rfl (next (fun z => by have := z.2.2.1; omega))
          have p3 : ¬ gI m 329128 (nI s).toNatClampNeg < gI m 329128 (nI b).toNatClampNeg := p3
          rw [b15, s15, lt_i] at p3
          (conv => whnf)
          refine And.intro vs ?_
          (conv => whnf)
          refine And.intro vb ?_
          (conv => whnf)
          refine And.intro (fun p4 => ?_) (fun p4 => ?_)
          · have p4 : gI m 329112 (nI b).toNatClampNeg ≤ gI m 329112 (nI s).toNatClampNeg := p4
            rw [b14, s14, le_i] at p4
            (conv => whnf)
            exact And.intro rfl (next (fun z => by have := z.2.2.2; omega))
          · have p4 : ¬ gI m 329112 (nI b).toNatClampNeg ≤ gI m 329112 (nI s).toNatClampNeg := p4
            rw [b14, s14, le_i] at p4
            exact ⟨Or.inr rfl, rfl, Or.inl ⟨⟨s, hs, p0, b, hbl, p1, p2, by omega, by omega⟩, rfl⟩⟩
      refine At.ls okX7_soldUnder 60 ⟨_, _, rfl⟩ ?_
      (conv => whnf)
      refine And.intro (fun p => ?_) (fun p => ?_)
      · have p : gI m 1175 6 ≤ nI s := p
        rw [n6, le_i, nI_toInt (by omega), nI_toInt (by omega)] at p
        omega
      (conv => whnf)
      exact And.intro rfl (lp2 ((vw m).1 3) 0 (by omega) (fun j hj => absurd hj (Nat.not_lt_zero _)))
  refine At.gs okX7_soldUnder 60 ?_
  (conv => whnf)
  exact And.intro rfl (lp ((vw m).1 3) 0 _ (by omega) (fun j hj => absurd hj (Nat.not_lt_zero _)))
/-- isMissing of a sale's seller -/
theorem s_missS (hM : Mok TYg m) (hW : Wf (vw m)) {s : Nat} {x : Int32} (hs : s < (vw m).1 3) (hx : x = (vw m).2 10 s) {ru : Int32} : CI 4 mX7_isMissing [.ref 1175, .int x, .int ru] m (fun r m' => m' = m ∧ r = if misB (vw m) ru ((vw m).2 10 s).toNatClampNeg = true then 1 else 0) := by
  obtain ⟨u, u1, u2, u3⟩ := hW.frm hs
  have h12 := hW.1.2.2.1
  rw [hx, u3, u2]
  exact s_missing hM (by omega)
theorem if_z1 {P : Bool} {r : Int32} (h : r = if P = true then 1 else 0) : z1 (P = true) r := by
  by_cases q : P = true
  · rw [if_pos q] at h; exact Or.inl ⟨q, h⟩
  · rw [if_neg q] at h; exact Or.inr ⟨q, h⟩
set_option maxRecDepth 100000 in
set_option maxHeartbeats 8000000 in
theorem s_bfm (hM : Mok TYg m) (hW : Wf (vw m)) {x : Int32} : CI 5 mX7_boughtFromMissing [.ref 1175, .int x] m (fun r m' => m' = m ∧ z1 (BFM (vw m) (gI m 1175 40) x) r) := by
  have h40 := hW.1.2.2.2
  have n6 : gI m 1175 6 = nI ((vw m).1 3) := nI_back (vw3 hM)
  have lp : ∀ (d s : Nat), s + d = (vw m).1 3 → (∀ j, j < s → ¬ ((vw m).2 11 j = x ∧ misB (vw m) (gI m 1175 40) ((vw m).2 10 j).toNatClampNeg = true)) → At (E0 5) mX7_boughtFromMissing (qi (fun r m' => m' = m ∧ z1 (BFM (vw m) (gI m 1175 40) x) r)) 2 [.ref 1175, .int x, .int (nI s)] [] m := by
    intro d
    induction d with
    | zero =>
      intro s hd hn
      refine At.ls okX7_boughtFromMissing 60 ⟨_, _, rfl⟩ ?_
      (conv => whnf)
      refine And.intro (fun p => ?_) (fun p => ?_)
      · refine ⟨Or.inl rfl, rfl, Or.inr ⟨?_, rfl⟩⟩
        rintro ⟨j, j1, j2⟩
        exact hn j (by omega) j2
      · have p : ¬ gI m 1175 6 ≤ nI s := p
        rw [n6, le_i, nI_toInt (by omega), nI_toInt (by omega)] at p
        omega
    | succ d ih =>
      intro s hd hn
      have hs : s < (vw m).1 3 := by omega
      have vs : vp_in (nI s) 80 := vp_in_nI (by omega) (by decide)
      have s10 : gI m 329048 (nI s).toNatClampNeg = (vw m).2 10 s := by rw [nI_clamp (by omega)]; rfl
      have s11 : gI m 329064 (nI s).toNatClampNeg = (vw m).2 11 s := by rw [nI_clamp (by omega)]; rfl
      have next : ¬ ((vw m).2 11 s = x ∧ misB (vw m) (gI m 1175 40) ((vw m).2 10 s).toNatClampNeg = true) → At (E0 5) mX7_boughtFromMissing (qi (fun r m' => m' = m ∧ z1 (BFM (vw m) (gI m 1175 40) x) r)) 2 [.ref 1175, .int x, .int (nI s + 1)] [] m := by
        intro hb2
        have z := ih (s + 1) (by omega) (fun j hj => by
          by_cases q : j = s
          · rw [q]; exact hb2
          · exact hn j (by omega))
        rw [← nI_1] at z
        exact z
      refine At.ls okX7_boughtFromMissing 80 ⟨_, _, rfl⟩ ?_
      (conv => whnf)
      refine And.intro (fun p => ?_) (fun p => ?_)
      · have p : gI m 1175 6 ≤ nI s := p
        rw [n6, le_i, nI_toInt (by omega), nI_toInt (by omega)] at p
        omega
      (conv => whnf)
      refine And.intro vs ?_
      (conv => whnf)
      refine And.intro (fun p1 => ?_) (fun p1 => ?_)
      · have p1 : ¬ gI m 329064 (nI s).toNatClampNeg = x := p1
        rw [s11] at p1
        (conv => whnf)
        exact And.intro rfl (next (fun z => p1 z.1))
      have p1 : gI m 329064 (nI s).toNatClampNeg = x := p1
      rw [s11] at p1
      (conv => whnf)
      refine And.intro vs ?_
      (conv => whnf)
      refine ⟨4, by decide, _, s_missS (ru := gI m 1175 40) hM hW hs s10, ?_⟩
      rintro r m' ⟨hmm, hq⟩; have hmm := hmm.symm; subst hmm
      have hz := if_z1 hq
      (conv => whnf)
      refine And.intro (fun q => ?_) (fun q => ?_)
      · have q : r = 0 := q
        rcases hz with ⟨y1, y2⟩ | ⟨y1, y2⟩
        · rw [y2] at q; exact absurd q (by decide)
        · (conv => whnf)
          exact And.intro rfl (next (fun z => y1 z.2))
      · rcases hz with ⟨y1, y2⟩ | ⟨y1, y2⟩
        · exact ⟨Or.inr rfl, rfl, Or.inl ⟨⟨s, hs, p1, y1⟩, rfl⟩⟩
        · exact absurd y2 q
  refine At.gs okX7_boughtFromMissing 60 ?_
  (conv => whnf)
  exact And.intro rfl (lp ((vw m).1 3) 0 (by omega) (fun j hj => absurd hj (Nat.not_lt_zero _)))
set_option maxRecDepth 100000 in
set_option maxHeartbeats 8000000 in
theorem s_such (hM : Mok TYg m) (hW : Wf (vw m)) : CI 6 mX7_boughtOfSuch [.ref 1175, .int (nI f)] m (fun r m' => m' = m ∧ z1 (SG2 (vw m) (gI m 1175 40) f) r) := by
  have h40 := hW.1.2.2.2
  have n6 : gI m 1175 6 = nI ((vw m).1 3) := nI_back (vw3 hM)
  have lp : ∀ (d s : Nat) (x : Int32), s + d = (vw m).1 3 → z1 (∃ j, j < s ∧ (vw m).2 11 j = nI f) x → (∀ j, j < s → (vw m).2 11 j = nI f → misB (vw m) (gI m 1175 40) ((vw m).2 10 j).toNatClampNeg = true ∨ BFM (vw m) (gI m 1175 40) ((vw m).2 10 j)) → At (E0 6) mX7_boughtOfSuch (qi (fun r m' => m' = m ∧ z1 (SG2 (vw m) (gI m 1175 40) f) r)) 4 [.ref 1175, .int (nI f), .int x, .int (nI s)] [] m := by
    intro d
    induction d with
    | zero =>
      intro s x hd hx hn
      have es : s = (vw m).1 3 := by omega
      rw [es] at hx hn
      refine At.ls okX7_boughtOfSuch 60 ⟨_, _, rfl⟩ ?_
      (conv => whnf)
      refine And.intro (fun p => ?_) (fun p => ?_)
      · rcases hx with ⟨y1, y2⟩ | ⟨y1, y2⟩
        · rw [y2]; exact ⟨Or.inr rfl, rfl, Or.inl ⟨⟨y1, hn⟩, rfl⟩⟩
        · rw [y2]; exact ⟨Or.inl rfl, rfl, Or.inr ⟨fun z => y1 z.1, rfl⟩⟩
      · have p : ¬ gI m 1175 6 ≤ nI s := p
        rw [n6, le_i, nI_toInt (by omega), nI_toInt (by omega)] at p
        omega
    | succ d ih =>
      intro s x hd hx hn
      have hs : s < (vw m).1 3 := by omega
      have vs : vp_in (nI s) 80 := vp_in_nI (by omega) (by decide)
      have s10 : gI m 329048 (nI s).toNatClampNeg = (vw m).2 10 s := by rw [nI_clamp (by omega)]; rfl
      have s11 : gI m 329064 (nI s).toNatClampNeg = (vw m).2 11 s := by rw [nI_clamp (by omega)]; rfl
      refine At.ls okX7_boughtOfSuch 100 ⟨_, _, rfl⟩ ?_
      (conv => whnf)
      refine And.intro (fun p => ?_) (fun p => ?_)
      · have p : gI m 1175 6 ≤ nI s := p
        rw [n6, le_i, nI_toInt (by omega), nI_toInt (by omega)] at p
        omega
      (conv => whnf)
      refine And.intro vs ?_
      (conv => whnf)
      refine And.intro (fun p1 => ?_) (fun p1 => ?_)
      case refine_2 =>
        have p1 : ¬ gI m 329064 (nI s).toNatClampNeg = nI f := p1
        rw [s11] at p1
        (conv => whnf)
        have z := ih (s + 1) x (by omega) (by
          rcases hx with ⟨⟨j, j1, j2⟩, y2⟩ | ⟨y1, y2⟩
          · exact Or.inl ⟨⟨j, by omega, j2⟩, y2⟩
          · refine Or.inr ⟨?_, y2⟩
            rintro ⟨j, j1, j2⟩
            by_cases y : j = s
            · rw [y] at j2; exact p1 j2
            · exact y1 ⟨j, by omega, j2⟩) (fun j j1 j2 => by
          by_cases y : j = s
          · rw [y] at j2; exact absurd j2 p1
          · exact hn j (by omega) j2)
        rw [← nI_1] at z
        exact And.intro rfl z
      have p1 : gI m 329064 (nI s).toNatClampNeg = nI f := p1
      rw [s11] at p1
      have yes : (misB (vw m) (gI m 1175 40) ((vw m).2 10 s).toNatClampNeg = true ∨ BFM (vw m) (gI m 1175 40) ((vw m).2 10 s)) → At (E0 6) mX7_boughtOfSuch (qi (fun r m' => m' = m ∧ z1 (SG2 (vw m) (gI m 1175 40) f) r)) 4 [.ref 1175, .int (nI f), .int 1, .int (nI s + 1)] [] m := by
        intro hy
        have z := ih (s + 1) 1 (by omega) (Or.inl ⟨⟨s, by omega, p1⟩, rfl⟩) (fun j j1 j2 => by
          by_cases y : j = s
          · rw [y]; exact hy
          · exact hn j (by omega) j2)
        rw [← nI_1] at z
        exact z
      (conv => whnf)
      refine And.intro vs ?_
      (conv => whnf)
      refine ⟨4, by decide, _, s_missS (ru := gI m 1175 40) hM hW hs s10, ?_⟩
      rintro r m' ⟨hmm, hq⟩; have hmm := hmm.symm; subst hmm
      have hz := if_z1 hq
      (conv => whnf)
      refine And.intro (fun q => ?_) (fun q => ?_)
      · rcases hz with ⟨y1, y2⟩ | ⟨y1, y2⟩
        · (conv => whnf)
          exact And.intro rfl (yes (Or.inl y1))
        · exact absurd y2 q
      have q : r = 0 := q
      rcases hz with ⟨y1, y2⟩ | ⟨y1, y2⟩
      · rw [y2] at q; exact absurd q (by decide)
      (conv => whnf)
      refine And.intro vs ?_
      (conv => whnf)
      refine ⟨5, by decide, _, s_bfm (x := gI m 329048 (nI s).toNatClampNeg) hM hW, ?_⟩
      rintro r2 m' ⟨hmm, hz2⟩; have hmm := hmm.symm; subst hmm
      rw [s10] at hz2
      (conv => whnf)
      refine And.intro (fun q2 => ?_) (fun q2 => ?_)
      · rcases hz2 with ⟨y3, y4⟩ | ⟨y3, y4⟩
        · (conv => whnf)
          exact And.intro rfl (yes (Or.inr y3))
        · exact absurd y4 q2
      · have q2 : r2 = 0 := q2
        rcases hz2 with ⟨y3, y4⟩ | ⟨y3, y4⟩
        · rw [y4] at q2; exact absurd q2 (by decide)
        · exact ⟨Or.inl rfl, rfl, Or.inr ⟨fun z => Or.elim (z.2 s hs p1) y1 y3, rfl⟩⟩
  refine At.gs okX7_boughtOfSuch 60 ?_
  (conv => whnf)
  exact And.intro rfl (lp ((vw m).1 3) 0 0 (by omega) (Or.inr ⟨fun z => by obtain ⟨j, j1, -⟩ := z; omega, rfl⟩) (fun j hj => absurd hj (Nat.not_lt_zero _)))
set_option maxRecDepth 100000 in
set_option maxHeartbeats 8000000 in
theorem s_rWith {L : List (List Nat)} (hF : MdS L m) (hl : L.length ≤ 200) (hr : ∀ i, i < L.length → ∀ j, j < (L.getD i []).length → (L.getD i []).getD j 0 < 40) : CI 2 mX7_roundsWith [.ref 1175, .int (nI f)] m (fun r m' => m' = m ∧ r = rwP (vw m) f L L.length) := by
  have e42 : gI m 1175 42 = nI L.length := Or.elim hF.1 (fun q => q.2.1) (fun q => absurd q.1 (by omega))
  have lp : ∀ (d i : Nat), i + d = L.length → At (E0 2) mX7_roundsWith (qi (fun r m' => m' = m ∧ r = rwP (vw m) f L L.length)) 4 [.ref 1175, .int (nI f), .int (rwP (vw m) f L i), .int (nI i)] [] m := by
    intro d
    induction d with
    | zero =>
      intro i hd
      refine At.ls okX7_roundsWith 60 ⟨_, _, rfl⟩ ?_
      (conv => whnf)
      refine And.intro (fun p => ?_) (fun p => ?_)
      · exact ⟨rfl, by rw [show i = L.length by omega]⟩
      · have p : ¬ gI m 1175 42 ≤ nI i := p
        rw [e42, le_i, nI_toInt (by omega), nI_toInt (by omega)] at p
        omega
    | succ d ih =>
      intro i hd
      refine At.ls okX7_roundsWith 60 ⟨_, _, rfl⟩ ?_
      (conv => whnf)
      refine And.intro (fun p => ?_) (fun p => ?_)
      · have p : gI m 1175 42 ≤ nI i := p
        rw [e42, le_i, nI_toInt (by omega), nI_toInt (by omega)] at p
        omega
      (conv => whnf)
      refine ⟨1, by decide, _, s_firmsOf (i := i) (by omega) (hF.2 i (by omega) (by omega)) (hr i (by omega)), ?_⟩
      rintro r m' ⟨hmm, hq⟩; have hmm := hmm.symm; subst hmm
      (conv => whnf)
      have z := ih (i + 1) (by omega)
      rw [show rwP (vw m) f L (i + 1) = rwP (vw m) f L i + bt (frmP (vw m) (L.getD i []) (L.getD i []).length) (nI f) from rfl, ← hq, ← nI_1] at z
      exact And.intro rfl z
  refine At.gs okX7_roundsWith 60 ?_
  (conv => whnf)
  exact And.intro rfl (lp L.length 0 (by omega))
set_option maxRecDepth 100000 in
set_option maxHeartbeats 8000000 in
theorem s_hasM (hM : Mok TYg m) (hW : Wf (vw m)) {p : Nat → Nat} (hp : ∀ f, f < (vw m).1 2 → gI m 50632 f = nI (p f)) (hpl : ∀ f, f < (vw m).1 2 → p f ≤ f) (hf : f < (vw m).1 2) : CI 5 mX7_hasMissing [.ref 1175, .int (nI f)] m (fun r m' => m' = m ∧ z1 (SG8 (vw m) p (gI m 1175 40) f) r) := by
  have h12 := hW.1.2.2.1
  have n5 : gI m 1175 5 = nI ((vw m).1 2) := nI_back (vw2 hM)
  have vf : vp_in (nI f) 12 := vp_in_nI (by omega) (by decide)
  have pf : gI m 50632 (nI f).toNatClampNeg = nI (p f) := by rw [nI_clamp (by omega)]; exact hp f hf
  have lp : ∀ (d t : Nat), t + d = (vw m).1 2 → (∀ j, j < t → ¬ (j ≠ f ∧ p j = p f ∧ misB (vw m) (gI m 1175 40) j = true)) → At (E0 5) mX7_hasMissing (qi (fun r m' => m' = m ∧ z1 (SG8 (vw m) p (gI m 1175 40) f) r)) 2 [.ref 1175, .int (nI f), .int (nI t)] [] m := by
    intro d
    induction d with
    | zero =>
      intro t hd hn
      refine At.ls okX7_hasMissing 60 ⟨_, _, rfl⟩ ?_
      (conv => whnf)
      refine And.intro (fun q => ?_) (fun q => ?_)
      · refine ⟨Or.inl rfl, rfl, Or.inr ⟨?_, rfl⟩⟩
        rintro ⟨j, j1, j2⟩
        exact hn j (by omega) j2
      · have q : ¬ gI m 1175 5 ≤ nI t := q
        rw [n5, le_i, nI_toInt (by omega), nI_toInt (by omega)] at q
        omega
    | succ d ih =>
      intro t hd hn
      have ht : t < (vw m).1 2 := by omega
      have vt : vp_in (nI t) 12 := vp_in_nI (by omega) (by decide)
      have pt : gI m 50632 (nI t).toNatClampNeg = nI (p t) := by rw [nI_clamp (by omega)]; exact hp t ht
      have lt1 := hpl t ht
      have lf1 := hpl f hf
      have next : ¬ (t ≠ f ∧ p t = p f ∧ misB (vw m) (gI m 1175 40) t = true) → At (E0 5) mX7_hasMissing (qi (fun r m' => m' = m ∧ z1 (SG8 (vw m) p (gI m 1175 40) f) r)) 2 [.ref 1175, .int (nI f), .int (nI t + 1)] [] m := by
        intro hb2
        have z := ih (t + 1) (by omega) (fun j hj => by
          by_cases q : j = t
          · rw [q]; exact hb2
          · exact hn j (by omega))
        rw [← nI_1] at z
        exact z
      refine At.ls okX7_hasMissing 80 ⟨_, _, rfl⟩ ?_
      (conv => whnf)
      refine And.intro (fun q => ?_) (fun q => ?_)
      · have q : gI m 1175 5 ≤ nI t := q
        rw [n5, le_i, nI_toInt (by omega), nI_toInt (by omega)] at q
        omega
      (conv => whnf)
      refine And.intro (fun q1 => ?_) (fun q1 => ?_)
      · have q1 : nI t = nI f := q1
        (conv => whnf)
        exact And.intro rfl (next (fun z => z.1 (nI_inj (by omega) (by omega) q1)))
      have q1 : ¬ nI t = nI f := q1
      have q1 : t ≠ f := fun z => q1 (by rw [z])
      (conv => whnf)
      refine And.intro vt ?_
      (conv => whnf)
      refine And.intro vf ?_
      (conv => whnf)
      refine And.intro (fun q2 => ?_) (fun q2 => ?_)
      · have q2 : ¬ gI m 50632 (nI t).toNatClampNeg = gI m 50632 (nI f).toNatClampNeg := q2
        rw [pt, pf] at q2
        (conv => whnf)
        exact And.intro rfl (next (fun z => q2 (by rw [z.2.1])))
      have q2 : gI m 50632 (nI t).toNatClampNeg = gI m 50632 (nI f).toNatClampNeg := q2
      rw [pt, pf] at q2
      have q2 := nI_inj (by omega) (by omega) q2
      (conv => whnf)
      refine ⟨4, by decide, _, s_missing (f := t) (ru := gI m 1175 40) hM (by omega), ?_⟩
      rintro r m' ⟨hmm, hq⟩; have hmm := hmm.symm; subst hmm
      have hz := if_z1 hq
      (conv => whnf)
      refine And.intro (fun q3 => ?_) (fun q3 => ?_)
      · have q3 : r = 0 := q3
        rcases hz with ⟨y1, y2⟩ | ⟨y1, y2⟩
        · rw [y2] at q3; exact absurd q3 (by decide)
        · (conv => whnf)
          exact And.intro rfl (next (fun z => y1 z.2.2))
      · rcases hz with ⟨y1, y2⟩ | ⟨y1, y2⟩
        · exact ⟨Or.inr rfl, rfl, Or.inl ⟨⟨t, ht, q1, q2, y1⟩, rfl⟩⟩
        · exact absurd y2 q3
  refine At.gs okX7_hasMissing 60 ?_
  (conv => whnf)
  exact And.intro rfl (lp ((vw m).1 2) 0 (by omega) (fun j hj => absurd hj (Nat.not_lt_zero _)))
def cdSo : List CE := stops [13, 26, 41, 56] cdX7_signsOf
set_option maxRecDepth 20000 in
theorem okSo : CodeOk mX7_signsOf cdSo := okX7_signsOf.st [13, 26, 41, 56] (by rfl)
set_option maxRecDepth 100000 in
set_option maxHeartbeats 8000000 in
theorem s_signsOf {L : List (List Nat)} {p : Nat → Nat} (hM : Mok TYg m) (hW : Wf (vw m)) (hF : MdS L m) (hl : L.length ≤ 200) (hr : ∀ i, i < L.length → ∀ j, j < (L.getD i []).length → (L.getD i []).getD j 0 < 40) (hp : ∀ f, f < (vw m).1 2 → gI m 50632 f = nI (p f)) (hpl : ∀ f, f < (vw m).1 2 → p f ≤ f) (hf : f < (vw m).1 2) : CI 7 mX7_signsOf [.ref 1175, .int (nI f)] m (fun r m' => m' = m ∧ SgR (vw m) p (gI m 1175 40) L f r) := by
  have h12 := hW.1.2.2.1
  have e1 : (1 : Int32).toInt = 1 := rfl
  have at56 : ∀ a b c d : Bool, (a = true ↔ SG1 (vw m) f) → (b = true ↔ SG2 (vw m) (gI m 1175 40) f) → (c = true ↔ SG4 (vw m) f L) → (d = true ↔ SG8 (vw m) p (gI m 1175 40) f) → At (E0 7) mX7_signsOf (qi (fun r m' => m' = m ∧ SgR (vw m) p (gI m 1175 40) L f r)) 56 [.ref 1175, .int (nI f)] [.int (if d = true then 8 else 0), .int (nI (sgN a b c false))] m := by
    intro a b c d ha hb hc hd
    refine At.ls okSo 40 ⟨_, _, rfl⟩ ?_
    (conv => whnf)
    refine ⟨rfl, a, b, c, d, ha, hb, hc, hd, ?_⟩
    cases a <;> cases b <;> cases c <;> cases d <;> decide
  have at41 : ∀ a b c : Bool, (a = true ↔ SG1 (vw m) f) → (b = true ↔ SG2 (vw m) (gI m 1175 40) f) → (c = true ↔ SG4 (vw m) f L) → At (E0 7) mX7_signsOf (qi (fun r m' => m' = m ∧ SgR (vw m) p (gI m 1175 40) L f r)) 41 [.ref 1175, .int (nI f)] [.int (if c = true then 4 else 0), .int (nI (sgN a b false false))] m := by
    intro a b c ha hb hc
    have eN : nI (sgN a b false false) + (if c = true then 4 else 0) = nI (sgN a b c false) := by cases a <;> cases b <;> cases c <;> decide
    refine At.ls okSo 60 ⟨_, _, rfl⟩ ?_
    (conv => whnf)
    refine ⟨5, by decide, _, s_hasM (f := f) hM hW hp hpl hf, ?_⟩
    rintro r m' ⟨hmm, hz⟩; have hmm := hmm.symm; subst hmm
    (conv => whnf)
    refine And.intro (fun q => ?_) (fun q => ?_)
    · have q : r = 0 := q
      rcases hz with ⟨y1, y2⟩ | ⟨y1, y2⟩
      · rw [y2] at q; exact absurd q (by decide)
      · have z := at56 a b c false ha hb hc ⟨fun z => (by cases z), fun z => absurd z y1⟩
        rw [← eN] at z
        exact And.intro rfl z
    · rcases hz with ⟨y1, y2⟩ | ⟨y1, y2⟩
      · (conv => whnf)
        have z := at56 a b c true ha hb hc ⟨fun _ => y1, fun _ => rfl⟩
        rw [← eN] at z
        exact And.intro rfl z
      · exact absurd y2 q
  have at26 : ∀ a b : Bool, (a = true ↔ SG1 (vw m) f) → (b = true ↔ SG2 (vw m) (gI m 1175 40) f) → At (E0 7) mX7_signsOf (qi (fun r m' => m' = m ∧ SgR (vw m) p (gI m 1175 40) L f r)) 26 [.ref 1175, .int (nI f)] [.int (if b = true then 2 else 0), .int (nI (sgN a false false false))] m := by
    intro a b ha hb
    have eN : nI (sgN a false false false) + (if b = true then 2 else 0) = nI (sgN a b false false) := by cases a <;> cases b <;> decide
    refine At.ls okSo 60 ⟨_, _, rfl⟩ ?_
    (conv => whnf)
    refine ⟨2, by decide, _, s_rWith (f := f) hF hl hr, ?_⟩
    rintro r m' ⟨hmm, hq⟩; have hmm := hmm.symm; subst hmm
    subst hq
    (conv => whnf)
    refine And.intro (fun q => ?_) (fun q => ?_)
    · have q : rwP (vw m) f L L.length ≤ 1 := q
      rw [le_i, e1] at q
      have z := at41 a b false ha hb ⟨fun z => (by cases z), fun z => by unfold SG4 at z; omega⟩
      rw [← eN] at z
      exact And.intro rfl z
    · have q : ¬ rwP (vw m) f L L.length ≤ 1 := q
      rw [le_i, e1] at q
      (conv => whnf)
      have z := at41 a b true ha hb ⟨fun _ => by unfold SG4; omega, fun _ => rfl⟩
      rw [← eN] at z
      exact And.intro rfl z
  have at13 : ∀ a : Bool, (a = true ↔ SG1 (vw m) f) → At (E0 7) mX7_signsOf (qi (fun r m' => m' = m ∧ SgR (vw m) p (gI m 1175 40) L f r)) 13 [.ref 1175, .int (nI f)] [.int (if a = true then 1 else 0)] m := by
    intro a ha
    have eN : (if a = true then (1 : Int32) else 0) = nI (sgN a false false false) := by cases a <;> decide
    rw [eN]
    refine At.ls okSo 60 ⟨_, _, rfl⟩ ?_
    (conv => whnf)
    refine ⟨6, by decide, _, s_such (f := f) hM hW, ?_⟩
    rintro r m' ⟨hmm, hz⟩; have hmm := hmm.symm; subst hmm
    (conv => whnf)
    refine And.intro (fun q => ?_) (fun q => ?_)
    · have q : r = 0 := q
      rcases hz with ⟨y1, y2⟩ | ⟨y1, y2⟩
      · rw [y2] at q; exact absurd q (by decide)
      · exact And.intro rfl (at26 a false ha ⟨fun z => (by cases z), fun z => absurd z y1⟩)
    · rcases hz with ⟨y1, y2⟩ | ⟨y1, y2⟩
      · (conv => whnf)
        exact And.intro rfl (at26 a true ha ⟨fun _ => y1, fun _ => rfl⟩)
      · exact absurd y2 q
  refine At.gs okSo 60 ?_
  (conv => whnf)
  refine ⟨1, by decide, _, s_under (f := f) hM hW (by omega), ?_⟩
  rintro r m' ⟨hmm, hz⟩; have hmm := hmm.symm; subst hmm
  (conv => whnf)
  refine And.intro (fun q => ?_) (fun q => ?_)
  · have q : r = 0 := q
    rcases hz with ⟨y1, y2⟩ | ⟨y1, y2⟩
    · rw [y2] at q; exact absurd q (by decide)
    · exact And.intro rfl (at13 false ⟨fun z => (by cases z), fun z => absurd z y1⟩)
  · rcases hz with ⟨y1, y2⟩ | ⟨y1, y2⟩
    · (conv => whnf)
      exact And.intro rfl (at13 true ⟨fun _ => y1, fun _ => rfl⟩)
    · exact absurd y2 q
end SgM
/-- the signs of a firm, whatever the labels -/
def SgL (m : MM) (wy k d : Int32) (f : Nat) (r : Int32) : Prop := ∃ p : Nat → Nat, LabOn (joV (vw m)) ((vw m).1 2) p ∧ SgR (vw m) p (gI m 1175 40) (rnL7 m wy k d) f r
theorem SgL_1 {m : MM} {wy k d r1 r2 : Int32} {f : Nat} (hf : f < (vw m).1 2) (h1 : SgL m wy k d f r1) (h2 : SgL m wy k d f r2) : r1 = r2 := by
  obtain ⟨p, a1, a2⟩ := h1
  obtain ⟨p', b1, b2⟩ := h2
  exact SgR_1 hf (fun f hf => a1.one b1 f hf) a2 b2
/-- what is answered to signs -/
def SnR (m : MM) (f wy k d r : Int32) : Prop := (¬ ((0 ≤ f.toInt ∧ f.toInt < (vw m).1 2) ∧ AsP wy k d) ∧ r = -1) ∨ (((0 ≤ f.toInt ∧ f.toInt < (vw m).1 2) ∧ AsP wy k d) ∧ ((200 < (rnL7 m wy k d).length ∧ r = -2) ∨ ((rnL7 m wy k d).length ≤ 200 ∧ SgL m wy k d f.toNatClampNeg r)))
theorem SnR_1 {m : MM} {f wy k d r1 r2 : Int32} (h1 : SnR m f wy k d r1) (h2 : SnR m f wy k d r2) : r1 = r2 := by
  rcases h1 with ⟨a, b⟩ | ⟨a, b⟩
  · rcases h2 with ⟨c, e⟩ | ⟨c, e⟩
    · rw [b, e]
    · exact absurd c a
  · rcases h2 with ⟨c, e⟩ | ⟨c, e⟩
    · exact absurd a c
    · rcases b with ⟨b1, b2⟩ | ⟨b1, b2⟩
      · rcases e with ⟨e1, e2⟩ | ⟨e1, e2⟩
        · rw [b2, e2]
        · omega
      · rcases e with ⟨e1, e2⟩ | ⟨e1, e2⟩
        · omega
        · exact SgL_1 (by rw [clamp_toNat]; omega) b2 e2
/-- bits of the firms below n that c holds of -/
noncomputable def kbF (c : Nat → Prop) : Nat → Int32
  | 0 => 0
  | n + 1 => @ite _ (c n) (Classical.propDecidable _) (kbF c n ||| ((1 : Int32) <<< (nI n &&& 31))) (kbF c n)
theorem kbF_y {c : Nat → Prop} {n : Nat} (h : c n) : kbF c (n + 1) = kbF c n ||| ((1 : Int32) <<< (nI n &&& 31)) := if_pos h
theorem kbF_n {c : Nat → Prop} {n : Nat} (h : ¬ c n) : kbF c (n + 1) = kbF c n := if_neg h
/-- told by signs -/
def kwG (sg wt x : Int32) : Prop := (wt = 0 ∧ x &&& sg = sg) ∨ (wt ≠ 0 ∧ ¬ x &&& sg = 0)
def kwC (m : MM) (sg wt wy k d : Int32) (f : Nat) : Prop := (∃ x, SgL m wy k d f x ∧ kwG sg wt x) ∧ ¬ misB (vw m) (gI m 1175 40) f = true
def KwR (m : MM) (sg wy k d wt r : Int32) : Prop := (¬ (((1 ≤ sg.toInt ∧ sg.toInt ≤ 15) ∧ (0 ≤ wt.toInt ∧ wt.toInt ≤ 1)) ∧ AsP wy k d) ∧ r = -1) ∨ ((((1 ≤ sg.toInt ∧ sg.toInt ≤ 15) ∧ (0 ≤ wt.toInt ∧ wt.toInt ≤ 1)) ∧ AsP wy k d) ∧ ((200 < (rnL7 m wy k d).length ∧ r = -2) ∨ ((rnL7 m wy k d).length ≤ 200 ∧ r = kbF (kwC m sg wt wy k d) ((vw m).1 2))))
theorem KwR_1 {m : MM} {sg wy k d wt r1 r2 : Int32} (h1 : KwR m sg wy k d wt r1) (h2 : KwR m sg wy k d wt r2) : r1 = r2 := by
  rcases h1 with ⟨a, b⟩ | ⟨a, b⟩
  · rcases h2 with ⟨c, e⟩ | ⟨c, e⟩
    · rw [b, e]
    · exact absurd c a
  · rcases h2 with ⟨c, e⟩ | ⟨c, e⟩
    · exact absurd a c
    · rcases b with ⟨b1, b2⟩ | ⟨b1, b2⟩
      · rcases e with ⟨e1, e2⟩ | ⟨e1, e2⟩
        · rw [b2, e2]
        · omega
      · rcases e with ⟨e1, e2⟩ | ⟨e1, e2⟩
        · omega
        · rw [b2, e2]
