/-! the class's streams: seekHome -/
theorem cn_same {f g : Nat → Int32} : ∀ n, (∀ w, w < n → g w = f w) → cn g n = cn f n
  | 0, _ => rfl
  | n + 1, h => by
    show cn g n + (if g n = -1 then 1 else 0) = cn f n + (if f n = -1 then 1 else 0)
    rw [cn_same n (fun w hw => h w (by omega)), h n (by omega)]
theorem BQ_grow {m0 m m' : MM} {k i q : Nat} {hm : Int32} (h : BQ m0 k i hm m q) (hm' : m' = sI (sI m 327992 (2 * i) (-1)) 327992 (2 * i + 1) (-1)) : BQ m0 k (i + 1) hm m' q ∧ (∀ v, v < 2 * i → gI m' 327992 v = gI m 327992 v) ∧ gI m' 327992 (2 * i) = -1 := by
  obtain ⟨h1, h2, h3, h4, pos, h5⟩ := h
  have cb : ∀ w, gI m' 327992 w = if w = 2 * i + 1 then -1 else if w = 2 * i then -1 else gI m 327992 w := fun w => by
    rw [hm', gI_if, gI_if]
    by_cases y : w = 2 * i + 1
    · rw [if_pos ⟨rfl, y⟩, if_pos y]
    · rw [if_neg (fun z => y z.2), if_neg y]
      by_cases y2 : w = 2 * i
      · rw [if_pos ⟨rfl, y2⟩, if_pos y2]
      · rw [if_neg (fun z => y2 z.2), if_neg y2]
  have lo : ∀ w, w < 2 * i → gI m' 327992 w = gI m 327992 w := fun w hw => by rw [cb, if_neg (by omega), if_neg (by omega)]
  have a0 : gI m' 327992 (2 * i) = -1 := by rw [cb, if_neg (by omega), if_pos rfl]
  have a1 : gI m' 327992 (2 * i + 1) = -1 := by rw [cb, if_pos rfl]
  have ln : ∀ w, gI m' 328008 w = gI m 328008 w := fun w => by
    rw [hm', gI_if, if_neg (fun z => absurd z.1 (by decide)), gI_if, if_neg (fun z => absurd z.1 (by decide))]
  have hi : ∀ w, w < 2 * (i + 1) → gI m' 327992 w ≠ -1 → w < 2 * i := fun w hw hc => by
    by_cases y : w = 2 * i
    · rw [y] at hc; exact absurd a0 hc
    · by_cases y2 : w = 2 * i + 1
      · rw [y2] at hc; exact absurd a1 hc
      · omega
  refine ⟨⟨?_, ?_, fun j hj => ?_, fun w hw hc => ?_, pos, fun w hw hc => ?_⟩, lo, a0⟩
  · rw [hm', gI_if, if_neg (fun z => absurd z.1 (by decide)), gI_if, if_neg (fun z => absurd z.1 (by decide))]
    exact h1
  · have e : cn (fun v => gI m' 327992 v) (2 * i + 1 + 1) = cn (fun v => gI m 327992 v) (2 * i) + 1 + 1 := by
      show cn (fun v => gI m' 327992 v) (2 * i) + (if gI m' 327992 (2 * i) = -1 then 1 else 0) + (if gI m' 327992 (2 * i + 1) = -1 then 1 else 0) = _
      rw [if_pos a0, if_pos a1, cn_same (f := fun v => gI m 327992 v) (2 * i) (fun w hw => lo w hw)]
    rw [show 2 * (i + 1) = 2 * i + 1 + 1 by omega, e]
    omega
  · obtain ⟨v, v1, v2, v3⟩ := h3 j hj
    exact ⟨v, by omega, by rw [ln]; exact v2, by rw [lo v v1]; exact v3⟩
  · have y := hi w hw hc
    rw [lo w y] at hc
    obtain ⟨j, j1, j2⟩ := h4 w y hc
    exact ⟨j, j1, by rw [ln]; exact j2⟩
  · have y := hi w hw hc
    rw [lo w y] at hc ⊢
    obtain ⟨p1, p2⟩ := h5 w y hc
    refine ⟨p1, ?_⟩
    rcases p2 with z | ⟨u, u1, u2, u3, u4, u5⟩
    · exact Or.inl z
    · exact Or.inr ⟨u, by omega, u2, by rw [lo u u1]; exact u3, u4, u5⟩
/-- nothing more is reached -/
def Clo (m0 : MM) (k : Nat) (hm : Int32) (m : MM) : Prop := (∀ j, j < k → gI m0 164056 j = hm → gI m 327992 (2 * j) ≠ -1) ∧ ∀ s, s < k → (gI m 327992 (2 * s) ≠ -1 → DnI m0 k m s) ∧ (gI m 327992 (2 * s + 1) ≠ -1 → gI m0 164072 s ≠ hm ∧ DnO m0 k m s)
def SkR (m0 : MM) (k : Nat) (hm : Int32) (r : Int32) (m : MM) : Prop := (r = -1 ∧ Clo m0 k hm m) ∨ ∃ s q, s < k ∧ r = nI (2 * s + 1) ∧ gI m0 164072 s = hm ∧ gI m 327992 (2 * s + 1) ≠ -1 ∧ BQ m0 k k hm m q ∧ ∀ j, j < k → gI m0 164056 j = hm → gI m 327992 (2 * j) = -2
section Xh
variable {m0 : MM} {k : Nat} {hm : Int32}
set_option maxRecDepth 100000 in
set_option maxHeartbeats 8000000 in
theorem r_seekHome (hM : Mok TYg m0) (hk : k ≤ 40) (e8 : gI m0 197 8 = nI k) (e10 : gI m0 197 10 = hm) : CI 3 mX5_seekHome [.ref 197] m0 (fun r m' => St wBq m0 m' ∧ SkR m0 k hm r m') := by
  have e80 : (80 : Int32).toInt = 80 := rfl
  have main : ∀ (n d q : Nat) (v2 v3 : Value) (m1 : MM), d + n = 80 → d ≤ q → St wBq m0 m1 → BQ m0 k k hm m1 q → (∀ j, j < k → gI m0 164056 j = hm → gI m1 327992 (2 * j) = -2) → (∀ j, j < d → ∀ v, v < 2 * k → gI m1 328008 j = nI v → (∀ s, v = 2 * s → DnI m0 k m1 s) ∧ ∀ s, v = 2 * s + 1 → gI m0 164072 s ≠ hm ∧ DnO m0 k m1 s) → At (E0 3) mX5_seekHome (qi (fun r m' => St wBq m0 m' ∧ SkR m0 k hm r m')) 65 [.ref 197, .int (nI d), v2, v3] [] m1 := by
    intro n
    induction n with
    | zero =>
      intro d q v2 v3 m1 hd hdq S1 hB hsr hpr
      have hq := hB.2.1
      have e9 := hB.1
      refine At.ls okX5_seekHome 60 ⟨_, _, rfl⟩ ?_
      (conv => whnf)
      refine And.intro (fun p => ?_) (fun p => ?_)
      · refine ⟨S1, Or.inl ⟨rfl, fun j hj hf => by rw [hsr j hj hf]; decide, fun s hs => ⟨fun hc => ?_, fun hc => ?_⟩⟩⟩
        · obtain ⟨j, j1, j2⟩ := hB.2.2.2.1 (2 * s) (by omega) hc
          exact (hpr j (by omega) (2 * s) (by omega) j2).1 s rfl
        · obtain ⟨j, j1, j2⟩ := hB.2.2.2.1 (2 * s + 1) (by omega) hc
          exact (hpr j (by omega) (2 * s + 1) (by omega) j2).2 s rfl
      · have p : ¬ gI m1 197 9 ≤ nI d := p
        rw [e9, le_i, nI_toInt (by omega), nI_toInt (by omega)] at p
        omega
    | succ n ih =>
      intro d q v2 v3 m1 hd hdq S1 hB hsr hpr
      have hq := hB.2.1
      have e9 := hB.1
      have vd : vp_in (nI d) 80 := vp_in_nI (by omega) (by decide)
      have dc : (nI d).toNatClampNeg = d := nI_clamp (by omega)
      have h10 : gI m1 197 10 = hm := by rw [fr1 S1.2.2 (by decide)]; exact e10
      refine At.ls okX5_seekHome 120 ⟨_, _, rfl⟩ ?_
      (conv => whnf)
      refine And.intro (fun p => ?_) (fun p => ?_)
      · have p : gI m1 197 9 ≤ nI d := p
        rw [e9, le_i, nI_toInt (by omega), nI_toInt (by omega)] at p
        refine ⟨S1, Or.inl ⟨rfl, fun j hj hf => by rw [hsr j hj hf]; decide, fun s hs => ⟨fun hc => ?_, fun hc => ?_⟩⟩⟩
        · obtain ⟨j, j1, j2⟩ := hB.2.2.2.1 (2 * s) (by omega) hc
          exact (hpr j (by omega) (2 * s) (by omega) j2).1 s rfl
        · obtain ⟨j, j1, j2⟩ := hB.2.2.2.1 (2 * s + 1) (by omega) hc
          exact (hpr j (by omega) (2 * s + 1) (by omega) j2).2 s rfl
      have p : ¬ gI m1 197 9 ≤ nI d := p
      rw [e9, le_i, nI_toInt (by omega), nI_toInt (by omega)] at p
      (conv => whnf)
      refine And.intro (fun p2 => ?_) (fun p2 => ?_)
      · have p2 : (80 : Int32) ≤ nI d := p2
        rw [le_i, e80, nI_toInt (by omega)] at p2
        omega
      obtain ⟨v, v1, w2, w3⟩ := hB.2.2.1 d (by omega)
      have ev : gI m1 328008 (nI d).toNatClampNeg = nI v := by rw [dc]; exact w2
      have eq : gI m1 328008 (nI d).toNatClampNeg / 2 = nI (v / 2) := by rw [ev]; exact pk_div (a := v) (d := 2) (by omega) (by decide) (by decide)
      have er : gI m1 328008 (nI d).toNatClampNeg - gI m1 328008 (nI d).toNatClampNeg / 2 * 2 = nI (v % 2) := by rw [ev]; exact pk_rem (a := v) (d := 2) (by omega) (by decide) (by decide)
      have next : ∀ (q2 : Nat) (v2 v3 : Value) (m2 : MM), St wBq m1 m2 → BQ m0 k k hm m2 q2 → BM m1 m2 q q2 → ((∀ s, v = 2 * s → DnI m0 k m2 s) ∧ ∀ s, v = 2 * s + 1 → gI m0 164072 s ≠ hm ∧ DnO m0 k m2 s) → At (E0 3) mX5_seekHome (qi (fun r m' => St wBq m0 m' ∧ SkR m0 k hm r m')) 65 [.ref 197, .int (nI d + 1), v2, v3] [] m2 := fun q2 v2 v3 m2 S2 b1 b2 b3 => by
        have z := ih (d + 1) q2 v2 v3 m2 (by omega) (by have := b2.1; omega) (S1.tr S2 (fun _ z => z)) b1 (fun j hj hf => by
          rw [b2.2.1 _ (by rw [hsr j hj hf]; decide)]
          exact hsr j hj hf) (fun j hj x hx hxe => by
          by_cases y : j = d
          · rw [y, b2.2.2 d (by omega), w2] at hxe
            rw [← nI_inj (by omega) (by omega) hxe]
            exact b3
          · rw [b2.2.2 j (by omega)] at hxe
            obtain ⟨c1, c2⟩ := hpr j (by omega) x hx hxe
            exact ⟨fun s hs => (c1 s hs).mo b2, fun s hs => ⟨(c2 s hs).1, (c2 s hs).2.mo b2⟩⟩)
        rw [show nI (d + 1) = nI d + 1 from (nI_1 d).symm] at z
        exact z
      (conv => whnf)
      refine And.intro vd ?_
      (conv => whnf)
      refine And.intro (show ¬ (2 : Int32) = 0 by decide) ?_
      (conv => whnf)
      refine And.intro (show ¬ (2 : Int32) = 0 by decide) ?_
      (conv => whnf)
      refine And.intro (fun p3 => ?_) (fun p3 => ?_)
      · have p3 : ¬ gI m1 328008 (nI d).toNatClampNeg - gI m1 328008 (nI d).toNatClampNeg / 2 * 2 = 0 := p3
        rw [er] at p3
        have odd : v % 2 = 1 := by
          rcases Nat.mod_two_eq_zero_or_one v with z | z
          · rw [z] at p3; exact absurd rfl p3
          · exact z
        have vs : vp_in (gI m1 328008 (nI d).toNatClampNeg / 2) 40 := by rw [eq]; exact vp_in_nI (by omega) (by decide)
        have c72 : gI m1 164072 (gI m1 328008 (nI d).toNatClampNeg / 2).toNatClampNeg = gI m0 164072 (v / 2) := by rw [eq, nI_clamp (by omega)]; exact row1 S1.2.2 rfl (by decide)
        (conv => whnf)
        refine And.intro vs ?_
        (conv => whnf)
        refine And.intro (fun p4 => ?_) (fun p4 => ?_)
        · have p4 : ¬ gI m1 164072 (gI m1 328008 (nI d).toNatClampNeg / 2).toNatClampNeg = gI m1 197 10 := p4
          rw [c72, h10] at p4
          have hc := r_spOut (m0 := m0) (m := m1) (s := v / 2) S1 hk e8 (by omega) p4 hB (by rw [show 2 * (v / 2) + 1 = v by omega]; exact w3)
          rw [← eq] at hc
          (conv => whnf)
          refine ⟨2, by decide, _, hc, ?_⟩
          rintro m2 ⟨S2, q2, b1, b2, b3⟩
          (conv => whnf)
          refine And.intro rfl (next q2 _ _ m2 S2 b1 b2 ⟨fun s hs => by omega, fun s hs => ?_⟩)
          rw [show s = v / 2 by omega]
          exact ⟨p4, b3⟩
        · have p4 : gI m1 164072 (gI m1 328008 (nI d).toNatClampNeg / 2).toNatClampNeg = gI m1 197 10 := p4
          rw [c72, h10] at p4
          refine ⟨S1, Or.inr ⟨v / 2, q, by omega, ?_, p4, ?_, hB, hsr⟩⟩
          · rw [ev, show 2 * (v / 2) + 1 = v by omega]
          · rw [show 2 * (v / 2) + 1 = v by omega]; exact w3
      · have p3 : gI m1 328008 (nI d).toNatClampNeg - gI m1 328008 (nI d).toNatClampNeg / 2 * 2 = 0 := p3
        rw [er] at p3
        have even : v % 2 = 0 := by
          rcases Nat.mod_two_eq_zero_or_one v with z | z
          · exact z
          · rw [z] at p3; exact absurd p3 (by decide)
        have hc := r_spIn (m0 := m0) (m := m1) (s := v / 2) (hm := hm) S1 hk e8 (by omega) hB (by rw [show 2 * (v / 2) = v by omega]; exact w3)
        rw [← eq] at hc
        (conv => whnf)
        refine ⟨2, by decide, _, hc, ?_⟩
        rintro m2 ⟨S2, q2, b1, b2, b3⟩
        (conv => whnf)
        refine And.intro rfl (next q2 _ _ m2 S2 b1 b2 ⟨fun s hs => ?_, fun s hs => by omega⟩)
        rw [show s = v / 2 by omega]
        exact b3
  have init : ∀ (n i q : Nat) (v2 v3 : Value) (m1 : MM), i + n = k → St wBq m0 m1 → BQ m0 k i hm m1 q → (∀ j, j < i → gI m0 164056 j = hm → gI m1 327992 (2 * j) = -2) → At (E0 3) mX5_seekHome (qi (fun r m' => St wBq m0 m' ∧ SkR m0 k hm r m')) 7 [.ref 197, .int (nI i), v2, v3] [] m1 := by
    intro n
    induction n with
    | zero =>
      intro i q v2 v3 m1 hi S1 hB hsr
      have e81 : gI m1 197 8 = nI k := by rw [fr1 S1.2.2 (by decide)]; exact e8
      rw [show i = k by omega] at hB hsr
      refine At.ls okX5_seekHome 60 ⟨_, _, rfl⟩ ?_
      (conv => whnf)
      refine And.intro (fun p => ?_) (fun p => ?_)
      · (conv => whnf)
        exact And.intro rfl (main 80 0 q _ _ m1 (by omega) (by omega) S1 hB hsr (fun j hj => absurd hj (Nat.not_lt_zero _)))
      · have p : ¬ gI m1 197 8 ≤ nI i := p
        rw [e81, le_i, nI_toInt (by omega), nI_toInt (by omega)] at p
        omega
    | succ n ih =>
      intro i q v2 v3 m1 hi S1 hB hsr
      have e81 : gI m1 197 8 = nI k := by rw [fr1 S1.2.2 (by decide)]; exact e8
      have vi : vp_in (nI i) 40 := vp_in_nI (by omega) (by decide)
      have ic : (nI i).toNatClampNeg = i := nI_clamp (by omega)
      have x0 : vp_in (2 * nI i) 80 := by rw [n2_0]; exact vp_in_nI (by omega) (by decide)
      have x1 : vp_in (2 * nI i + 1) 80 := by rw [n2_1]; exact vp_in_nI (by omega) (by decide)
      have y0 : (2 * nI i).toNatClampNeg = 2 * i := by rw [n2_0]; exact nI_clamp (by omega)
      have y1 : (2 * nI i + 1).toNatClampNeg = 2 * i + 1 := by rw [n2_1]; exact nI_clamp (by omega)
      have S2 : St wBq m0 (sI (sI m1 327992 (2 * nI i).toNatClampNeg (-1)) 327992 (2 * nI i + 1).toNatClampNeg (-1)) := (S1.row (a := 327992) rfl (by decide) (by decide) (by decide)).row (a := 327992) rfl (by decide) (by decide) (by decide)
      obtain ⟨B2, lo2, a2⟩ := BQ_grow (m' := sI (sI m1 327992 (2 * nI i).toNatClampNeg (-1)) 327992 (2 * nI i + 1).toNatClampNeg (-1)) hB (by rw [y0, y1])
      refine At.ls okX5_seekHome 120 ⟨_, _, rfl⟩ ?_
      (conv => whnf)
      refine And.intro (fun p => ?_) (fun p => ?_)
      · have p : gI m1 197 8 ≤ nI i := p
        rw [e81, le_i, nI_toInt (by omega), nI_toInt (by omega)] at p
        omega
      (conv => whnf)
      refine And.intro x0 ?_
      (conv => whnf)
      refine And.intro x1 ?_
      revert S2 B2 lo2 a2
      generalize sI (sI m1 327992 (2 * nI i).toNatClampNeg (-1)) 327992 (2 * nI i + 1).toNatClampNeg (-1) = m2
      intro S2 B2 lo2 a2
      have h10 : gI m2 197 10 = hm := by rw [fr1 S2.2.2 (by decide)]; exact e10
      have c56 : gI m2 164056 (nI i).toNatClampNeg = gI m0 164056 i := by rw [ic]; exact row1 S2.2.2 rfl (by decide)
      have hsr2 : ∀ j, j < i → gI m0 164056 j = hm → gI m2 327992 (2 * j) = -2 := fun j hj hf => by rw [lo2 _ (by omega)]; exact hsr j hj hf
      (conv => whnf)
      refine And.intro vi ?_
      (conv => whnf)
      refine And.intro (fun p2 => ?_) (fun p2 => ?_)
      · have p2 : ¬ gI m2 164056 (nI i).toNatClampNeg = gI m2 197 10 := p2
        rw [c56, h10] at p2
        have z := ih (i + 1) q v2 v3 m2 (by omega) S2 B2 (fun j hj hf => by
          by_cases y : j = i
          · rw [y] at hf; exact absurd hf p2
          · exact hsr2 j (by omega) hf)
        rw [show nI (i + 1) = nI i + 1 from (nI_1 i).symm] at z
        (conv => whnf)
        exact And.intro rfl z
      · have p2 : gI m2 164056 (nI i).toNatClampNeg = gI m2 197 10 := p2
        rw [c56, h10] at p2
        have hvis := r_visitS (m0 := m0) (v := i) (k := k) S2.1 (by omega) B2 a2 ⟨i, by omega, rfl, p2⟩
        rw [← n2_0] at hvis
        (conv => whnf)
        refine ⟨1, by decide, _, hvis, ?_⟩
        rintro m3 ⟨S3, q3, b1, b2, b3⟩
        have z := ih (i + 1) q3 v2 v3 m3 (by omega) (S2.tr S3 (fun _ z => z)) b1 (fun j hj hf => by
          by_cases y : j = i
          · rw [y]; exact b3
          · have y2 := hsr2 j (by omega) hf
            rw [b2.2.1 _ (by rw [y2]; decide)]
            exact y2)
        rw [show nI (i + 1) = nI i + 1 from (nI_1 i).symm] at z
        (conv => whnf)
        exact And.intro rfl z
  have S0 : St wBq m0 (sI m0 197 9 0) := (St.rf hM).fld (a := 197) (k := 9) (v := 0) (by decide) (by decide) (by decide) (fun _ z => by omega)
  refine At.gs okX5_seekHome 80 ?_
  (conv => whnf)
  refine And.intro rfl (init k 0 0 .null .null _ (by omega) S0 ⟨?_, rfl, fun j hj => absurd hj (Nat.not_lt_zero _), fun v hv => absurd hv (Nat.not_lt_zero _), fun _ => 0, fun v hv => absurd hv (Nat.not_lt_zero _)⟩ (fun j hj => absurd hj (Nat.not_lt_zero _)))
  rw [gI_if, if_pos ⟨rfl, rfl⟩]
  rfl
end Xh
