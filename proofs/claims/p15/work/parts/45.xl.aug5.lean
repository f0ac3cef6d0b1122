/-! the class's streams: send: one way more is a flow again -/
section Xl
variable {V : VW} {f w st : Int32} {L : List Nat} {m : MM} {g : Nat → Nat → Int}
theorem eg_shp (hW : Wf V) (hL : LG V st w L) (hG : GR L m g) (hX : SX V L m) {u v : Nat} (hE : Eg m L.length f u v) : Shp L.length u v := by
  rcases hE with ⟨j, j1, j2, j3, j4⟩ | ⟨i, j, i1, j1, j2, j3, j4⟩ | ⟨j, j1, j2, j3, j4⟩ | ⟨j, l, j1, l1, j2, j3, j4, j5, j6⟩
  · exact Or.inl ⟨j, j1, j2, j3⟩
  · refine Or.inr (Or.inl ⟨i, j, i1, j1, fun z => ?_, j2, j3⟩)
    rw [z, hG.2.2 j j1] at j4
    omega
  · exact Or.inr (Or.inr (Or.inl ⟨j, j1, j2, j3⟩))
  · refine Or.inr (Or.inr (Or.inr ⟨j, l, j1, l1, fun z => ?_, j2, j3⟩))
    rw [(hX.2 l l1).1, (hX.2 j j1).2.1, z] at j4
    exact (hW.2.2.2 _ (hL.2.1 l l1).1).2.2.1 j4
theorem cel_rng (hW : Wf V) (hL : LG V st w L) (hN : NF (cpF V f w st) g) (hG : GR L m g) {u v : Nat} (hS : Shp L.length u v) : 0 ≤ celV m L.length u v ∧ celV m L.length u v ≤ 999 := by
  unfold celV
  rcases hS with ⟨j, j1, rfl, rfl⟩ | ⟨i, j, i1, j1, ij, rfl, rfl⟩ | ⟨j, j1, rfl, rfl⟩ | ⟨j, l, j1, l1, jl, rfl, rfl⟩
  · rw [if_pos (by omega), show 2 * j / 2 = j by omega]
    have := gr_car hW hL hN hG j1
    omega
  · rw [if_neg (by omega), if_pos (by omega), show 2 * j / 2 = j by omega, show (2 * i + 1) / 2 = i by omega]
    have a := gr_car hW hL hN hG j1
    have b := gr_han hW hL hN hG i1 j1
    omega
  · rw [if_pos (by omega), show (2 * j + 1) / 2 = j by omega]
    have := gr_car hW hL hN hG j1
    omega
  · rw [if_neg (by omega), if_neg (by omega), show 2 * l / 2 = l by omega, show (2 * j + 1) / 2 = j by omega]
    have a := gr_car hW hL hN hG l1
    have b := gr_han hW hL hN hG j1 l1
    omega
theorem cel_eq (hW : Wf V) (hL : LG V st w L) {m3 : MM} {g3 : Nat → Nat → Int} (hG : GR L m g) (hG3 : GR L m3 g3) (hA : ∀ u v, u < 82 → v < 82 → g u v + g v u = 0) (hA3 : ∀ u v, u < 82 → v < 82 → g3 u v + g3 v u = 0) {u v : Nat} (hS : Shp L.length u v) (he : g3 (nd5 L u) (nd5 L v) = g (nd5 L u) (nd5 L v)) : celV m3 L.length u v = celV m L.length u v := by
  have h40 := hW.1.2.2.2
  unfold celV
  rcases hS with ⟨j, j1, rfl, rfl⟩ | ⟨i, j, i1, j1, ij, rfl, rfl⟩ | ⟨j, j1, rfl, rfl⟩ | ⟨j, l, j1, l1, jl, rfl, rfl⟩
  · rw [nd5_0, nd5_1, hG.1 j j1, hG3.1 j j1] at he
    rw [if_pos (by omega), if_pos (by omega), show 2 * j / 2 = j by omega]
    exact he
  · have s1 := (hL.2.1 j j1).1
    have t1 := (hL.2.1 i i1).1
    have a := hA (40 + L.getD i 0) (L.getD j 0) (by omega) (by omega)
    have b := hA3 (40 + L.getD i 0) (L.getD j 0) (by omega) (by omega)
    rw [nd5_0, nd5_1] at he
    rw [hG.2.1 i j i1 j1 ij] at a
    rw [hG3.2.1 i j i1 j1 ij] at b
    rw [if_neg (by omega), if_pos (by omega), if_neg (by omega), if_pos (by omega), show 2 * j / 2 = j by omega, show (2 * i + 1) / 2 = i by omega]
    omega
  · have s1 := (hL.2.1 j j1).1
    have a := hA (L.getD j 0) (40 + L.getD j 0) (by omega) (by omega)
    have b := hA3 (L.getD j 0) (40 + L.getD j 0) (by omega) (by omega)
    rw [nd5_0, nd5_1] at he
    rw [hG.1 j j1] at a
    rw [hG3.1 j j1] at b
    rw [if_pos (by omega), if_pos (by omega), show (2 * j + 1) / 2 = j by omega]
    omega
  · rw [nd5_0, nd5_1, hG.2.1 j l j1 l1 jl, hG3.2.1 j l j1 l1 jl] at he
    rw [if_neg (by omega), if_neg (by omega), if_neg (by omega), if_neg (by omega), show 2 * l / 2 = l by omega, show (2 * j + 1) / 2 = j by omega]
    exact he
theorem GR_80 (hW : Wf V) (hL : LG V st w L) (hG : GR L m g) {a b : Nat} {d : Int} (h : a = 80 ∨ b = 81) : GR L m (pce g a b d) := by
  have h40 := hW.1.2.2.2
  have lt : ∀ j, j < L.length → L.getD j 0 < 40 := fun j hj => by have := (hL.2.1 j hj).1; omega
  refine ⟨fun x hx => ?_, fun x y hx hy hxy => ?_, hG.2.2⟩
  · have := lt x hx
    unfold pce
    rw [if_neg (fun z => by omega), if_neg (fun z => by omega), hG.1 x hx]
    omega
  · have := lt x hx
    have := lt y hy
    unfold pce
    rw [if_neg (fun z => by omega), if_neg (fun z => by omega), hG.2.1 x y hx hy hxy]
    omega
set_option maxRecDepth 100000 in
set_option maxHeartbeats 8000000 in
theorem r_send {l N sl : Nat} {d : Int32} (hM : Mok TYg m) (hW : Wf V) (hL : LG V st w L) (hN : NF (cpF V f w st) g) (hG : GR L m g) (hX : SX V L m) (hP : PtR m m L.length f l N) (hN8 : N < 80) (hl : l = 2 * sl + 1) (hsl : sl < L.length) (hto : V.2 11 (L.getD sl 0) = f) (d1 : 1 ≤ d.toInt) (d9 : d.toInt ≤ 999) (hsp : ∀ i, i < N → d.toInt ≤ spV m L.length (p5 m l (i + 1)) (p5 m l i)) : CV 2 mX5_send [.ref 197, .int (nI l), .int d] m (fun m' => St wSd m m' ∧ ∃ g', NF (cpF V f w st) g' ∧ GR L m' g' ∧ nvl g' = nvl g + d.toInt) := by
  have h40 := hW.1.2.2.2
  have hk := hL.1
  have e0 : (0 : Int32).toInt = 0 := rfl
  have e80 : (80 : Int32).toInt = 80 := rfl
  obtain ⟨P1, P2, P3, P4, pos, P5, -⟩ := hP
  have N1 : 1 ≤ N := by
    rcases Nat.eq_zero_or_pos N with z | z
    · rw [z] at P4
      obtain ⟨j, -, y, -⟩ := P4
      have y : l = 2 * j := y
      omega
    · exact z
  have dis : ∀ i j, i < j → j ≤ N → p5 m l i ≠ p5 m l j := fun i j hij hj z => by
    have := P5 i j hij hj
    rw [z] at this
    omega
  have ndlt : ∀ i, i ≤ N → nd5 L (p5 m l i) < 80 := fun i hi => nd5_lt hW hL (P1 i hi)
  have ndne : ∀ i j, i < j → j ≤ N → nd5 L (p5 m l i) ≠ nd5 L (p5 m l j) := fun i j hij hj z => dis i j hij hj (nd5_inj hW hL (P1 i (by omega)) (P1 j hj) z)
  have shp : ∀ i, i < N → Shp L.length (p5 m l (i + 1)) (p5 m l i) := fun i hi => eg_shp (f := f) hW hL hG hX (P2 i hi).2
  have cap : ∀ i, i < N → g (nd5 L (p5 m l (i + 1))) (nd5 L (p5 m l i)) + d.toInt ≤ cpF V f w st (nd5 L (p5 m l (i + 1))) (nd5 L (p5 m l i)) := fun i hi => eg_cap hW hL hN hG hX d9 (P2 i hi).2 (hsp i hi)
  -- from the source
  obtain ⟨js, js1, js2, js3⟩ := P4
  rw [(hX.2 js js1).1] at js3
  have srcc : g 80 (nd5 L (p5 m l N)) + d.toInt ≤ cpF V f w st 80 (nd5 L (p5 m l N)) := by
    obtain ⟨s1, s2⟩ := hL.2.1 js js1
    obtain ⟨z0, z1⟩ := gr_src hW hL hN hG js1 js3
    have hE := (P2 (N - 1) (by omega)).2
    have hs := hsp (N - 1) (by omega)
    rw [show N - 1 + 1 = N by omega, js2] at hE hs
    rw [js2, nd5_0, z1, cp_src1 s1 s2 js3]
    rcases hE with ⟨j, j1, j2, j3, j4⟩ | ⟨i, j, i1, j1, j2, j3, j4⟩ | ⟨j, j1, j2, j3, j4⟩ | ⟨j, l2, j1, l1, j2, j3, j4, j5, j6⟩
    · obtain rfl : js = j := by omega
      rw [j3] at hs
      unfold spV at hs
      rw [if_pos (by omega), if_pos (by omega), show 2 * js / 2 = js by omega, (hX.2 js js1).2.2.2] at hs
      omega
    · obtain rfl : js = j := by omega
      rw [z0 i i1] at j4
      omega
    · omega
    · omega
  -- to the sink
  have snkc : g (nd5 L l) 81 + d.toInt ≤ cpF V f w st (nd5 L l) 81 := by
    obtain ⟨s1, s2⟩ := hL.2.1 sl hsl
    obtain ⟨z0, z1⟩ := gr_snk hW hL hN hG hsl hto
    have hE := (P2 0 (by omega)).2
    have hs := hsp 0 (by omega)
    have p0 : p5 m l 0 = 2 * sl + 1 := hl
    rw [p0] at hE hs
    rw [hl, nd5_1, z1, cp_sink s1 h40 s2 hto]
    rcases hE with ⟨j, j1, j2, j3, j4⟩ | ⟨i, j, i1, j1, j2, j3, j4⟩ | ⟨j, j1, j2, j3, j4⟩ | ⟨j, l2, j1, l1, j2, j3, j4, j5, j6⟩
    · obtain rfl : sl = j := by omega
      rw [j2] at hs
      unfold spV at hs
      rw [if_pos (by omega), if_pos (by omega), show 2 * sl / 2 = sl by omega, (hX.2 sl hsl).2.2.2] at hs
      omega
    · obtain rfl : sl = i := by omega
      rw [z0 j j1] at j4
      omega
    · omega
    · omega
  have lp : ∀ (n i : Nat) (gi : Nat → Nat → Int) (m3 : MM), i + n = N → St wSd m m3 → GR L m3 gi → WyI (cpF V f w st) g gi (nd5 L (p5 m l i)) d.toInt → (∀ j, i ≤ j → j < N → gi (nd5 L (p5 m l (j + 1))) (nd5 L (p5 m l j)) = g (nd5 L (p5 m l (j + 1))) (nd5 L (p5 m l j))) → gi 80 (nd5 L (p5 m l N)) = g 80 (nd5 L (p5 m l N)) → At (E0 2) mX5_send (qv (fun m' => St wSd m m' ∧ ∃ g', NF (cpF V f w st) g' ∧ GR L m' g' ∧ nvl g' = nvl g + d.toInt)) 5 [.ref 197, .int (nI l), .int d, .int (nI (p5 m l i)), .int (nI i)] [] m3 := by
    intro n
    induction n with
    | zero =>
      intro i gi m3 hi S3 hGi hy he h80
      obtain rfl : i = N := by omega
      have pb := P1 i (by omega)
      have vn : vp_in (nI (p5 m l i)) 80 := vp_in_nI (by omega) (by decide)
      have nc : (nI (p5 m l i)).toNatClampNeg = p5 m l i := nI_clamp (by omega)
      have ec : gI m3 327992 (nI (p5 m l i)).toNatClampNeg = -2 := by rw [nc, row1 S3.2.2 rfl (by decide)]; exact P3
      have hy2 := WyI_s (a := 80) hy (by decide) (by have := ndlt i (Nat.le_refl _); omega) (by omega) (by rw [h80]; exact srcc) (by have := ndlt i (Nat.le_refl _); omega)
      obtain ⟨n1, n2⟩ := WyI_e hN hy2
      refine At.ls okX5_send 60 ⟨_, _, rfl⟩ ?_
      (conv => whnf)
      refine And.intro (fun p => ?_) (fun p => ?_)
      · have p : (80 : Int32) ≤ nI i := p
        rw [le_i, e80, nI_toInt (by omega)] at p
        omega
      (conv => whnf)
      refine And.intro vn ?_
      (conv => whnf)
      refine And.intro (fun p2 => ?_) (fun p2 => ?_)
      · exact ⟨S3, _, n1, GR_80 hW hL hGi (Or.inl rfl), n2⟩
      · have p2 : ¬ gI m3 327992 (nI (p5 m l i)).toNatClampNeg < 0 := p2
        rw [ec] at p2
        exact absurd (show (-2 : Int32) < 0 by decide) p2
    | succ n ih =>
      intro i gi m3 hi S3 hGi hy he h80
      have pb := P1 i (by omega)
      have pc := P1 (i + 1) (by omega)
      have vn : vp_in (nI (p5 m l i)) 80 := vp_in_nI (by omega) (by decide)
      have nc : (nI (p5 m l i)).toNatClampNeg = p5 m l i := nI_clamp (by omega)
      have ec : gI m3 327992 (nI (p5 m l i)).toNatClampNeg = nI (p5 m l (i + 1)) := by rw [nc, row1 S3.2.2 rfl (by decide)]; exact (P2 i (by omega)).1
      have e83 : gI m3 197 8 = nI L.length := by rw [fr1 S3.2.2 (by decide)]; exact hX.1
      have hA := r_addB (m := m3) (a := p5 m l (i + 1)) (b := p5 m l i) (d := d) hk e83 pc pb
      rw [← ec] at hA
      have ndi := ndlt i (by omega)
      have ndj := ndlt (i + 1) (by omega)
      have cel := cel_eq hW hL hG hGi hN.1 hy.1 (shp i (by omega)) (he i (Nat.le_refl _) (by omega))
      have cr := cel_rng hW hL hN hG (shp i (by omega))
      have hG2 := GR_ad hW hL hGi (shp i (by omega)) (by omega) d9 (by rw [cel]; exact cr.1) (by rw [cel]; exact cr.2)
      have hy2 := WyI_s (a := nd5 L (p5 m l (i + 1))) hy (by omega) (by omega) (by omega) (by rw [he i (Nat.le_refl _) (by omega)]; exact cap i (by omega)) (fun z => ndne i (i + 1) (by omega) (by omega) z.symm)
      have z := ih (i + 1) _ (adV m3 L.length (p5 m l (i + 1)) (p5 m l i) d) (by omega) (adV_St S3) hG2 hy2 (fun j hj hjN => by
        unfold pce
        rw [if_neg (fun z => ndne i j (by omega) (by omega) z.2.symm), if_neg (fun z => ndne i (j + 1) (by omega) (by omega) z.1.symm), he j (by omega) hjN]
        omega) (by
        unfold pce
        rw [if_neg (fun z => by omega), if_neg (fun z => by omega), h80]
        omega)
      rw [show nI (i + 1) = nI i + 1 from (nI_1 i).symm, ← ec] at z
      refine At.ls okX5_send 100 ⟨_, _, rfl⟩ ?_
      (conv => whnf)
      refine And.intro (fun p => ?_) (fun p => ?_)
      · have p : (80 : Int32) ≤ nI i := p
        rw [le_i, e80, nI_toInt (by omega)] at p
        omega
      (conv => whnf)
      refine And.intro vn ?_
      (conv => whnf)
      refine And.intro (fun p2 => ?_) (fun p2 => ?_)
      · have p2 : gI m3 327992 (nI (p5 m l i)).toNatClampNeg < 0 := p2
        rw [ec, lt_i, e0, nI_toInt (by omega)] at p2
        omega
      (conv => whnf)
      refine And.intro vn ?_
      (conv => whnf)
      refine ⟨1, by decide, _, hA, ?_⟩
      rintro m4 hm4
      have ec4 : gI m4 327992 (nI (p5 m l i)).toNatClampNeg = gI m3 327992 (nI (p5 m l i)).toNatClampNeg := by
        rw [hm4, row1 (adV_St S3).2.2 rfl (by decide), row1 S3.2.2 rfl (by decide)]
      rw [← hm4, ← ec4] at z
      (conv => whnf)
      refine And.intro vn ?_
      (conv => whnf)
      exact And.intro rfl z
  have hy0 := WyI_s (a := nd5 L l) (b := 81) (WyI_0 (d := d.toInt) hN) (by have := ndlt 0 (by omega); have e : nd5 L (p5 m l 0) = nd5 L l := rfl; omega) (by decide) (by omega) snkc (by have := ndlt 0 (by omega); have e : nd5 L (p5 m l 0) = nd5 L l := rfl; omega)
  refine At.gs okX5_send 60 ?_
  (conv => whnf)
  refine And.intro rfl (lp N 0 _ m (by omega) (St.rf hM) (GR_80 hW hL hG (Or.inr rfl)) hy0 (fun j _ hj => ?_) ?_)
  · have a := ndlt j (by omega)
    have b := ndlt (j + 1) (by omega)
    unfold pce
    rw [if_neg (fun z => by omega), if_neg (fun z => by omega)]
    omega
  · have a := ndlt N (by omega)
    unfold pce
    rw [if_neg (fun z => by omega), if_neg (fun z => by omega)]
    omega
end Xl
