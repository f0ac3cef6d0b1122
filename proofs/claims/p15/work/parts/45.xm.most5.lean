/-! the class's streams: the most; flow of the class -/
noncomputable def bdX (L : List Nat) (m : MM) (u : Nat) : Bool := @decide (u = 80 ∨ ∃ v, v < 2 * L.length ∧ gI m 327992 v ≠ -1 ∧ nd5 L v = u) (Classical.propDecidable _)
theorem bdX_t {L : List Nat} {m : MM} {u : Nat} : bdX L m u = true ↔ (u = 80 ∨ ∃ v, v < 2 * L.length ∧ gI m 327992 v ≠ -1 ∧ nd5 L v = u) := ⟨fun h => @of_decide_eq_true _ (Classical.propDecidable _) h, fun h => @decide_eq_true _ (Classical.propDecidable _) h⟩
theorem bdX_f {L : List Nat} {m : MM} {u : Nat} (h : bdX L m u = false) : ¬ (u = 80 ∨ ∃ v, v < 2 * L.length ∧ gI m 327992 v ≠ -1 ∧ nd5 L v = u) := fun p => by
  rw [bdX_t.mpr p] at h
  cases h
section Xm
variable {V : VW} {f w st : Int32} {L : List Nat} {m m' : MM} {g : Nat → Nat → Int}
theorem cp_un {t v : Nat} (ht : t < 40) (h : ¬ (t < V.1 3 ∧ ctB V st w t = true)) : cpF V f w st (40 + t) v = 0 := by
  have e : 40 + t - 40 = t := by omega
  rw [cp_2 (by omega) (by omega), e, if_neg h]
theorem Clo_O (hW : Wf V) (hL : LG V st w L) (hN : NF (cpF V f w st) g) (hG : GR L m g) (hX : SX V L m) (hC : Clo m L.length f m') : FlO (cpF V f w st) (nvl g) := by
  have h40 := hW.1.2.2.2
  have z0 : ∀ u v, u < 82 → v < 82 → cpF V f w st u v = 0 → cpF V f w st v u = 0 → g u v = cpF V f w st u v := fun u v hu hv h1 h2 => by
    rw [h1]
    exact hN.zz hu hv (by rw [h1]; exact Int.le_refl 0) (by rw [h2]; exact Int.le_refl 0)
  refine ⟨g, bdX L m', hN, bdX_t.mpr (Or.inl rfl), ?_, fun u v hu hv hXu hXv => ?_, rfl⟩
  · cases hb : bdX L m' 81 with
    | false => rfl
    | true =>
      rcases bdX_t.mp hb with q | ⟨v, v1, v2, v3⟩
      · cases q
      · have := nd5_lt hW hL v1
        omega
  · have nX := bdX_f hXv
    have v80 : v ≠ 80 := fun z => nX (Or.inl z)
    have nv2 : ∀ x, x < 2 * L.length → nd5 L x = v → gI m' 327992 x = -1 := fun x hx hxe => Classical.byContradiction (fun z => nX (Or.inr ⟨x, hx, z, hxe⟩))
    rcases bdX_t.mp hXu with q | ⟨x, x1, x2, x3⟩
    · rw [q]
      by_cases y : v < V.1 3 ∧ ctB V st w v = true ∧ V.2 10 v = f
      · obtain ⟨j, j1, j2⟩ := hL.2.2.2 v y.1 y.2.1
        have a := hC.1 j j1 (by rw [(hX.2 j j1).1, j2]; exact y.2.2)
        exact absurd (nv2 (2 * j) (by omega) (by rw [nd5_0]; exact j2)) a
      · exact z0 80 v (by decide) hv (cp_src0 y) (cp_to80 hv h40)
    · obtain ⟨j, hj⟩ : ∃ j, j = x / 2 := ⟨_, rfl⟩
      have j1 : j < L.length := by omega
      obtain ⟨s1, s2⟩ := hL.2.1 j j1
      rcases Nat.mod_two_eq_zero_or_one x with e | e
      · have ex : x = 2 * j := by omega
        rw [ex, nd5_0] at x3
        rw [ex] at x2
        obtain ⟨D1, D2⟩ := (hC.2 j j1).1 x2
        rw [← x3]
        by_cases y : v = 40 + L.getD j 0
        · have nvis := nv2 (2 * j + 1) (by omega) (by rw [nd5_1]; exact y.symm)
          have hc := gr_car hW hL hN hG j1
          have nl : ¬ (gI m 164120 j).toInt < (gI m 164104 j).toInt := fun z => D1 z nvis
          rw [(hX.2 j j1).2.2.2] at nl
          rw [y, hG.1 j j1, cp_pipe s1 h40 s2]
          omega
        · have c1 : cpF V f w st (L.getD j 0) v = 0 := cp_in0 (by omega) y
          by_cases q1 : v < 40
          · exact z0 _ v (by omega) hv c1 (cp_in0 q1 (by omega))
          · by_cases q2 : v < 80
            · by_cases q3 : v - 40 < V.1 3 ∧ ctB V st w (v - 40) = true
              · obtain ⟨i, i1, i2⟩ := hL.2.2.2 (v - 40) q3.1 q3.2
                have ij : i ≠ j := fun z => by rw [z] at i2; omega
                have ve : v = 40 + L.getD i 0 := by omega
                have nvis := nv2 (2 * i + 1) (by omega) (by rw [nd5_1]; exact ve.symm)
                have nh : ¬ 0 < (gI m 6553896 (i * L.length + j)).toInt := fun z => D2 i i1 z nvis
                have hh := gr_han hW hL hN hG i1 j1
                have eg := hG.2.1 i j i1 j1 ij
                have sk := hN.1 (40 + L.getD i 0) (L.getD j 0) (by omega) (by omega)
                rw [c1, ve]
                omega
              · refine z0 _ v (by omega) hv c1 ?_
                rw [show v = 40 + (v - 40) by omega]
                exact cp_un (by omega) q3
            · rw [show v = 81 by omega] at c1 ⊢
              exact z0 _ 81 (by omega) (by decide) c1 cp_4
      · have ex : x = 2 * j + 1 := by omega
        rw [ex, nd5_1] at x3
        rw [ex] at x2
        obtain ⟨tn, D1, D2⟩ := (hC.2 j j1).2 x2
        rw [(hX.2 j j1).2.1] at tn
        rw [← x3]
        by_cases y : v = L.getD j 0
        · have nvis := nv2 (2 * j) (by omega) (by rw [nd5_0]; exact y.symm)
          have hc := gr_car hW hL hN hG j1
          have nl : ¬ 0 < (gI m 164120 j).toInt := fun z => D1 z nvis
          have eg := hG.1 j j1
          have sk := hN.1 (L.getD j 0) (40 + L.getD j 0) (by omega) (by omega)
          rw [y, cp_hand0 (by omega) (by omega) (fun z => mh_self hW s1 z.2.2)]
          omega
        · by_cases q1 : v < 40
          · have c2 : cpF V f w st v (40 + L.getD j 0) = 0 := cp_in0 q1 (by omega)
            by_cases q3 : v < V.1 3 ∧ ctB V st w v = true ∧ mhB V f (L.getD j 0) v = true
            · obtain ⟨l, l1, l2⟩ := hL.2.2.2 v q3.1 q3.2.1
              have nvis := nv2 (2 * l) (by omega) (by rw [nd5_0]; exact l2)
              have mh := q3.2.2
              unfold mhB at mh
              rw [Bool.and_eq_true, Bool.and_eq_true, ← l2] at mh
              have a := D2 l l1 (by rw [(hX.2 l l1).1, (hX.2 j j1).2.1]; exact (of_decide_eq_true mh.1.1).symm) (by rw [(hX.2 l l1).2.2.1, (hX.2 j j1).2.2.1]; exact of_decide_eq_true mh.2)
              exact absurd nvis a
            · exact z0 _ v (by omega) hv (cp_hand0 (by omega) (by omega) q3) c2
          · by_cases q2 : v < 80
            · refine z0 _ v (by omega) hv (cp_hand0 (by omega) (by omega) (fun z => by omega)) ?_
              rw [show v = 40 + (v - 40) by omega]
              exact cp_hand0 (by omega) (by omega) (fun z => by omega)
            · rw [show v = 81 by omega]
              exact z0 _ 81 (by omega) (by decide) (cp_sink0 (by omega) tn) cp_4
theorem sm_39960 : sm (fun v => if v < 40 then 999 else 0) 82 = 39960 := by decide +kernel
theorem cp_src9 (hW : Wf V) : sm (fun v => cpF V f w st 80 v) 82 ≤ 39960 := by
  have h40 := hW.1.2.2.2
  have := sm_le (f := fun v => cpF V f w st 80 v) (g := fun v => if v < 40 then 999 else 0) 82 (fun v _ => by
    show cpF V f w st 80 v ≤ (if v < 40 then 999 else 0)
    rw [cp_3]
    by_cases y : v < V.1 3 ∧ ctB V st w v = true ∧ V.2 10 v = f
    · rw [if_pos y, if_pos (by omega)]
      have := (hW.2.2.2 v y.1).2.2.2.1
      omega
    · rw [if_neg y]
      split <;> omega)
  rw [sm_39960] at this
  exact this
/-- as much as is sold from home -/
theorem full_O (hW : Wf V) (hN : NF (cpF V f w st) g) (h : 39960 ≤ nvl g) : FlO (cpF V f w st) (nvl g) := by
  have hs := cp_src9 (f := f) (w := w) (st := st) hW
  refine ⟨g, fun u => decide (u = 80), hN, rfl, rfl, fun u v hu hv hXu _ => ?_, rfl⟩
  rw [of_decide_eq_true hXu]
  exact sm_eqle (f := fun v => g 80 v) (g := fun v => cpF V f w st 80 v) 82 (fun i hi => hN.2.1 80 i (by decide) hi) (by unfold nvl at h; omega) v hv
theorem eg_pos (hW : Wf V) (hL : LG V st w L) (hG : GR L m g) (hX : SX V L m) {u v : Nat} (hE : Eg m L.length f u v) : 1 ≤ spV m L.length u v := by
  unfold spV
  rcases hE with ⟨j, j1, rfl, rfl, j4⟩ | ⟨i, j, i1, j1, rfl, rfl, j4⟩ | ⟨j, j1, rfl, rfl, j4⟩ | ⟨j, l, j1, l1, rfl, rfl, j4, j5, j6⟩
  · rw [if_pos (by omega), if_pos (by omega), show 2 * j / 2 = j by omega]; omega
  · have q : i ≠ j := fun z => by
      rw [z, hG.2.2 j j1] at j4
      omega
    rw [if_neg (by omega), if_pos (by omega), show 2 * j / 2 = j by omega, show (2 * i + 1) / 2 = i by omega]; omega
  · rw [if_pos (by omega), if_neg (by omega), show (2 * j + 1) / 2 = j by omega]; omega
  · rw [(hX.2 l l1).1, (hX.2 j j1).2.1] at j4
    have q : j ≠ l := fun z => by
      rw [z] at j4
      exact (hW.2.2.2 _ (hL.2.1 l l1).1).2.2.1 j4
    rw [if_neg (by omega), if_neg (by omega)]
    omega
theorem Eg_to {k u v : Nat} (hF : Fr wBq m m') (h : Eg m k f u v) : Eg m' k f u v := by
  unfold Eg
  have r : ∀ a j, Nat.ble 8 (a % 16) = true → ¬ a ∈ wBq → gI m' a j = gI m a j := fun a j h1 h2 => rowEq hF h1 h2
  rcases h with ⟨j, j1, j2, j3, j4⟩ | ⟨i, j, i1, j1, j2, j3, j4⟩ | ⟨j, j1, j2, j3, j4⟩ | ⟨j, l, j1, l1, j2, j3, j4, j5, j6⟩
  · exact Or.inl ⟨j, j1, j2, j3, by rw [r 164120 j rfl (by decide), r 164104 j rfl (by decide)]; exact j4⟩
  · exact Or.inr (Or.inl ⟨i, j, i1, j1, j2, j3, by rw [r 6553896 _ rfl (by decide)]; exact j4⟩)
  · exact Or.inr (Or.inr (Or.inl ⟨j, j1, j2, j3, by rw [r 164120 j rfl (by decide)]; exact j4⟩))
  · exact Or.inr (Or.inr (Or.inr ⟨j, l, j1, l1, j2, j3, by rw [r 164056 _ rfl (by decide), r 164072 _ rfl (by decide)]; exact j4, by rw [r 164088 _ rfl (by decide), r 164088 _ rfl (by decide)]; exact j5, by rw [r 164072 _ rfl (by decide)]; exact j6⟩))
theorem Sr_to {k v : Nat} (hF : Fr wBq m m') (h : Sr m k f v) : Sr m' k f v := by
  obtain ⟨j, j1, j2, j3⟩ := h
  exact ⟨j, j1, j2, by rw [rowEq hF rfl (by decide)]; exact j3⟩
theorem SX.fr {W : List Nat} (h : SX V L m) (hF : Fr W m m') (hW : (!(elm (wk 197 8) W) && !(elm 164056 W) && !(elm 164072 W) && !(elm 164088 W) && !(elm 164104 W)) = true) : SX V L m' := by
  simp only [Bool.and_eq_true] at hW
  obtain ⟨⟨⟨⟨w1, w2⟩, w3⟩, w4⟩, w5⟩ := hW
  refine ⟨by rw [fr1 hF (nelm6 w1)]; exact h.1, fun j hj => ?_⟩
  rw [row1 hF rfl (elm_no w2), row1 hF rfl (elm_no w3), row1 hF rfl (elm_no w4), row1 hF rfl (elm_no w5)]
  exact h.2 j hj
theorem GR.fr {W : List Nat} (h : GR L m g) (hF : Fr W m m') (h1 : elm 164120 W = false) (h2 : elm 6553896 W = false) : GR L m' g := ⟨fun j hj => by rw [row1 hF rfl h1]; exact h.1 j hj, fun i j hi hj hij => by rw [row1 hF rfl h2]; exact h.2.1 i j hi hj hij, fun j hj => by rw [row1 hF rfl h2]; exact h.2.2 j hj⟩
end Xm
def wMs : List Nat := [164056, 164072, 164088, 164104, 164120, 6553896, 38654705861, 47244640453, 327992, 328008, 42949673157]
section Xn
variable {m : MM} {f w st : Int32}
set_option maxRecDepth 100000 in
set_option maxHeartbeats 8000000 in
theorem r_most_336 (hM : Mok TYg m) (h : SB 336 m) : CI 4 mX5_most [.ref 197, .ref 452, .int f, .int w, .int st] m (fun r m' => St wMs m m' ∧ FlO (cpF (vw m) f w st) r.toInt) := by
  have hW := h.2.2.2.2.2
  have h40 := hW.1.2.2.2
  have e0 : (0 : Int32).toInt = 0 := rfl
  have e39 : (39960 : Int32).toInt = 39960 := rfl
  have hL : LG (vw m) st w (ctL (ctB (vw m) st w) ((vw m).1 3)) := LG_of hW
  have lp : ∀ (L : List Nat), LG (vw m) st w L → ∀ (n t : Nat) (sum : Int32) (g : Nat → Nat → Int) (v7 v8 : Value) (m3 : MM), t + n = 39960 → St wMs m m3 → gI m3 197 10 = f → SX (vw m) L m3 → GR L m3 g → NF (cpF (vw m) f w st) g → nvl g = sum.toInt → (t : Int) ≤ sum.toInt → At (E0 4) mX5_most (qi (fun r m' => St wMs m m' ∧ FlO (cpF (vw m) f w st) r.toInt)) 19 [.ref 197, .ref 452, .int f, .int w, .int st, .int sum, .int (nI t), v7, v8] [] m3 := by
    intro L hL n
    induction n with
    | zero =>
      intro t sum g v7 v8 m3 ht S3 h10 hX hG hN hs hts
      refine At.ls okX5_most 60 ⟨_, _, rfl⟩ ?_
      (conv => whnf)
      refine And.intro (fun p => ?_) (fun p => ?_)
      · refine ⟨S3, ?_⟩
        rw [← hs]
        exact full_O hW hN (by omega)
      · have p : ¬ (39960 : Int32) ≤ nI t := p
        rw [le_i, e39, nI_toInt (by omega)] at p
        omega
    | succ n ih =>
      intro t sum g v7 v8 m3 ht S3 h10 hX hG hN hs hts
      refine At.ls okX5_most 100 ⟨_, _, rfl⟩ ?_
      (conv => whnf)
      refine And.intro (fun p => ?_) (fun p => ?_)
      · have p : (39960 : Int32) ≤ nI t := p
        rw [le_i, e39, nI_toInt (by omega)] at p
        omega
      (conv => whnf)
      refine ⟨3, by decide, _, r_seekHome S3.1 hL.1 hX.1 h10, ?_⟩
      rintro r m4 ⟨S4, hr⟩
      have T4 : St wMs m m4 := S3.tr S4 (by decide)
      have hX4 : SX (vw m) L m4 := hX.fr S4.2.2 (by decide)
      have hG4 : GR L m4 g := hG.fr S4.2.2 (by decide) (by decide)
      have h104 : gI m4 197 10 = f := by rw [fr1 S4.2.2 (by decide)]; exact h10
      (conv => whnf)
      rcases hr with ⟨hr, hC⟩ | ⟨s, q, s1, hr, s3, s4, hB, -⟩
      · subst hr
        refine And.intro (fun z => absurd z (by decide)) (fun _ => ?_)
        refine ⟨T4, ?_⟩
        rw [← hs]
        exact Clo_O hW hL hN hG hX hC
      subst hr
      have hk := hL.1
      refine And.intro (fun _ => ?_) (fun z => absurd (show (0 : Int32) ≤ nI (2 * s + 1) by rw [le_i, e0, nI_toInt (by omega)]; omega) z)
      rw [(hX.2 s s1).2.1] at s3
      obtain ⟨N, N8, P1, P2, P3, P4, P5⟩ := BQ.way hL.1 hB (l := 2 * s + 1) (by omega) s4
      have hP : PtR m4 m4 L.length f (2 * s + 1) N := ⟨P1, fun i hi => ⟨(P2 i hi).1, Eg_to S4.2.2 (P2 i hi).2⟩, P3, Sr_to S4.2.2 P4, P5⟩
      have hCr : CrR m4 L.length := fun j hj => by
        have a := gr_car hW hL hN hG4 hj
        rw [(hX4.2 j hj).2.2.2]
        exact ⟨⟨by omega, by omega⟩, by omega, by omega⟩
      (conv => whnf)
      refine ⟨2, by decide, _, r_narrow hL.1 hX4.1 hCr N8 hP (fun i hi => eg_pos hW hL hG4 hX4 (hP.2.1 i hi).2), ?_⟩
      rintro mo m5 ⟨hmm, m1, m9, hsp⟩; have hmm := hmm.symm; subst hmm
      (conv => whnf)
      refine ⟨2, by decide, _, r_send (d := mo) T4.1 hW hL hN hG4 hX4 hP N8 rfl s1 s3 m1 m9 hsp, ?_⟩
      rintro m6 ⟨S6, g', n1, n2, n3⟩
      have b1 := nvl_le n1
      have b2 := cp_src9 (f := f) (w := w) (st := st) hW
      have ea : (sum + mo).toInt = sum.toInt + mo.toInt := iI_add (by omega) (by omega)
      have z := ih (t + 1) (sum + mo) g' (.int (nI (2 * s + 1))) (.int mo) m6 (by omega) (T4.tr S6 (by decide)) (by rw [fr1 S6.2.2 (by decide)]; exact h104) (hX4.fr S6.2.2 (by decide)) n2 n1 (by rw [ea]; omega) (by rw [ea]; omega)
      rw [show nI (t + 1) = nI t + 1 from (nI_1 t).symm] at z
      (conv => whnf)
      exact And.intro rfl z
  refine At.gs okX5_most 60 ?_
  (conv => whnf)
  refine ⟨1, by decide, _, r_load5_336 (w := w) (st := st) hM h, ?_⟩
  rintro m1 ⟨S1, hX1, hc1, hz1⟩
  have S2 : St wMs m (sI m1 197 10 f) := ((St.rf hM).tr S1 (by decide)).fld (a := 197) (k := 10) (v := f) (by decide) (tI_lo _) (tI_hi _) (fun _ z => by omega)
  have F2 : Fr [47244640453] m1 (sI m1 197 10 f) := Fr_sI (Fr_rfl _ _) (by decide) (fun _ z => by omega)
  have G0 : GR (ctL (ctB (vw m) st w) ((vw m).1 3)) m1 (fun _ _ => 0) := by
    have ix : ∀ i j, i < (ctL (ctB (vw m) st w) ((vw m).1 3)).length → j < (ctL (ctB (vw m) st w) ((vw m).1 3)).length → i * (ctL (ctB (vw m) st w) ((vw m).1 3)).length + j < (ctL (ctB (vw m) st w) ((vw m).1 3)).length * (ctL (ctB (vw m) st w) ((vw m).1 3)).length := fun i j hi hj => by
      have := Nat.mul_le_mul_right (ctL (ctB (vw m) st w) ((vw m).1 3)).length (show i + 1 ≤ (ctL (ctB (vw m) st w) ((vw m).1 3)).length by omega)
      rw [Nat.add_mul, Nat.one_mul] at this
      omega
    exact ⟨fun j hj => by rw [hc1 j hj]; rfl, fun i j hi hj _ => by rw [hz1 _ (ix i j hi hj)]; rfl, fun j hj => by rw [hz1 _ (ix j j hj hj)]; rfl⟩
  have N0 : NF (cpF (vw m) f w st) (fun _ _ => 0) := ⟨fun _ _ _ _ => rfl, fun u v hu _ => (cp_rng hW hu).1, fun _ _ => sm_z 82 (fun _ _ => rfl)⟩
  (conv => whnf)
  exact And.intro rfl (lp _ hL 39960 0 0 _ .null .null _ (by omega) S2 (by rw [gI_if, if_pos ⟨rfl, rfl⟩]) (hX1.fr F2 (by decide)) (G0.fr F2 (by decide) (by decide)) N0 (sm_z 82 (fun _ _ => rfl)) (by decide))
set_option maxRecDepth 100000 in
set_option maxHeartbeats 8000000 in
theorem r_flow_336 (hM : Mok TYg m) (h : SB 336 m) (hc : m.2.2 = (336, 720)) : CI 5 mX6_flow [.ref 6, .int f, .int w] m (fun r m' => St wMs m m' ∧ FlR m f w r) := by
  obtain ⟨ff, g, c⟩ := m
  obtain rfl : c = (336, 720) := hc
  have hW := h.2.2.2.2.2
  have e0 : (0 : Int32).toInt = 0 := rfl
  have ee2 : gI (ff, g, (336, 720)) 418 1 = gI (ff, g, (336, 720)) 1175 5 := h.1 2 (by decide)
  have c2 : (gI (ff, g, (336, 720)) 418 1).toInt = (vw (ff, g, (336, 720))).1 2 := by rw [ee2]; exact vw2 hM
  have ee1 : gI (ff, g, (336, 720)) 386 1 = gI (ff, g, (336, 720)) 1175 4 := h.1 1 (by decide)
  have c1 : (gI (ff, g, (336, 720)) 386 1).toInt = (vw (ff, g, (336, 720))).1 1 := by rw [ee1]; exact vw_n (k := 1) hM
  have est : gI (ff, g, (336, 720)) 6 5 = gI (ff, g, (336, 720)) 1175 39 := h.2.2.2.1
  refine At.gs okX6_flow 80 ?_
  (conv => whnf)
  refine ⟨1, by decide, _, r_has_418, ?_⟩
  rintro rh mh ⟨hmm, hz⟩; have hmm := hmm.symm; subst hmm
  rw [c2] at hz
  (conv => whnf)
  refine And.intro (fun qh => ?_) (fun qh => ?_)
  · have qh : rh = 0 := qh
    rcases hz with ⟨y1, y2⟩ | ⟨y1, y2⟩
    · rw [y2] at qh; exact absurd qh (by decide)
    · exact ⟨St.rf hM, Or.inl ⟨fun z => y1 z.1, rfl⟩⟩
  have qh : ¬ rh = 0 := qh
  rcases hz with ⟨y1, y2⟩ | ⟨y1, y2⟩
  case inr => exact absurd y2 qh
  (conv => whnf)
  refine ⟨1, by decide, _, r_has_386, ?_⟩
  rintro rg mg ⟨hmm, hz⟩; have hmm := hmm.symm; subst hmm
  rw [c1] at hz
  (conv => whnf)
  refine And.intro (fun qg => ?_) (fun qg => ?_)
  case refine_2 =>
    have qg : rg = 0 := qg
    rcases hz with ⟨y3, y4⟩ | ⟨y3, y4⟩
    · rw [y4] at qg; exact absurd qg (by decide)
    · exact ⟨St.rf hM, Or.inl ⟨fun z => y3 z.2, rfl⟩⟩
  rcases hz with ⟨y3, y4⟩ | ⟨y3, y4⟩
  case inr => exact absurd y4 qg
  have hm := r_most_336 (m := (ff, g, (336, 720))) (f := f) (w := w) (st := gI (ff, g, (336, 720)) 6 5) hM h
  (conv => whnf)
  dsimp only
  (conv => whnf)
  refine ⟨4, by decide, _, hm, ?_⟩
  rintro r m2 ⟨S2, hO⟩
  rw [est] at hO
  exact ⟨S2, Or.inr ⟨⟨y1, y3⟩, hO⟩⟩
set_option maxRecDepth 100000 in
set_option maxHeartbeats 8000000 in
theorem r_most_720 (hM : Mok TYg m) (h : SB 720 m) : CI 4 mX5_most [.ref 197, .ref 836, .int f, .int w, .int st] m (fun r m' => St wMs m m' ∧ FlO (cpF (vw m) f w st) r.toInt) := by
  have hW := h.2.2.2.2.2
  have h40 := hW.1.2.2.2
  have e0 : (0 : Int32).toInt = 0 := rfl
  have e39 : (39960 : Int32).toInt = 39960 := rfl
  have hL : LG (vw m) st w (ctL (ctB (vw m) st w) ((vw m).1 3)) := LG_of hW
  have lp : ∀ (L : List Nat), LG (vw m) st w L → ∀ (n t : Nat) (sum : Int32) (g : Nat → Nat → Int) (v7 v8 : Value) (m3 : MM), t + n = 39960 → St wMs m m3 → gI m3 197 10 = f → SX (vw m) L m3 → GR L m3 g → NF (cpF (vw m) f w st) g → nvl g = sum.toInt → (t : Int) ≤ sum.toInt → At (E0 4) mX5_most (qi (fun r m' => St wMs m m' ∧ FlO (cpF (vw m) f w st) r.toInt)) 19 [.ref 197, .ref 836, .int f, .int w, .int st, .int sum, .int (nI t), v7, v8] [] m3 := by
    intro L hL n
    induction n with
    | zero =>
      intro t sum g v7 v8 m3 ht S3 h10 hX hG hN hs hts
      refine At.ls okX5_most 60 ⟨_, _, rfl⟩ ?_
      (conv => whnf)
      refine And.intro (fun p => ?_) (fun p => ?_)
      · refine ⟨S3, ?_⟩
        rw [← hs]
        exact full_O hW hN (by omega)
      · have p : ¬ (39960 : Int32) ≤ nI t := p
        rw [le_i, e39, nI_toInt (by omega)] at p
        omega
    | succ n ih =>
      intro t sum g v7 v8 m3 ht S3 h10 hX hG hN hs hts
      refine At.ls okX5_most 100 ⟨_, _, rfl⟩ ?_
      (conv => whnf)
      refine And.intro (fun p => ?_) (fun p => ?_)
      · have p : (39960 : Int32) ≤ nI t := p
        rw [le_i, e39, nI_toInt (by omega)] at p
        omega
      (conv => whnf)
      refine ⟨3, by decide, _, r_seekHome S3.1 hL.1 hX.1 h10, ?_⟩
      rintro r m4 ⟨S4, hr⟩
      have T4 : St wMs m m4 := S3.tr S4 (by decide)
      have hX4 : SX (vw m) L m4 := hX.fr S4.2.2 (by decide)
      have hG4 : GR L m4 g := hG.fr S4.2.2 (by decide) (by decide)
      have h104 : gI m4 197 10 = f := by rw [fr1 S4.2.2 (by decide)]; exact h10
      (conv => whnf)
      rcases hr with ⟨hr, hC⟩ | ⟨s, q, s1, hr, s3, s4, hB, -⟩
      · subst hr
        refine And.intro (fun z => absurd z (by decide)) (fun _ => ?_)
        refine ⟨T4, ?_⟩
        rw [← hs]
        exact Clo_O hW hL hN hG hX hC
      subst hr
      have hk := hL.1
      refine And.intro (fun _ => ?_) (fun z => absurd (show (0 : Int32) ≤ nI (2 * s + 1) by rw [le_i, e0, nI_toInt (by omega)]; omega) z)
      rw [(hX.2 s s1).2.1] at s3
      obtain ⟨N, N8, P1, P2, P3, P4, P5⟩ := BQ.way hL.1 hB (l := 2 * s + 1) (by omega) s4
      have hP : PtR m4 m4 L.length f (2 * s + 1) N := ⟨P1, fun i hi => ⟨(P2 i hi).1, Eg_to S4.2.2 (P2 i hi).2⟩, P3, Sr_to S4.2.2 P4, P5⟩
      have hCr : CrR m4 L.length := fun j hj => by
        have a := gr_car hW hL hN hG4 hj
        rw [(hX4.2 j hj).2.2.2]
        exact ⟨⟨by omega, by omega⟩, by omega, by omega⟩
      (conv => whnf)
      refine ⟨2, by decide, _, r_narrow hL.1 hX4.1 hCr N8 hP (fun i hi => eg_pos hW hL hG4 hX4 (hP.2.1 i hi).2), ?_⟩
      rintro mo m5 ⟨hmm, m1, m9, hsp⟩; have hmm := hmm.symm; subst hmm
      (conv => whnf)
      refine ⟨2, by decide, _, r_send (d := mo) T4.1 hW hL hN hG4 hX4 hP N8 rfl s1 s3 m1 m9 hsp, ?_⟩
      rintro m6 ⟨S6, g', n1, n2, n3⟩
      have b1 := nvl_le n1
      have b2 := cp_src9 (f := f) (w := w) (st := st) hW
      have ea : (sum + mo).toInt = sum.toInt + mo.toInt := iI_add (by omega) (by omega)
      have z := ih (t + 1) (sum + mo) g' (.int (nI (2 * s + 1))) (.int mo) m6 (by omega) (T4.tr S6 (by decide)) (by rw [fr1 S6.2.2 (by decide)]; exact h104) (hX4.fr S6.2.2 (by decide)) n2 n1 (by rw [ea]; omega) (by rw [ea]; omega)
      rw [show nI (t + 1) = nI t + 1 from (nI_1 t).symm] at z
      (conv => whnf)
      exact And.intro rfl z
  refine At.gs okX5_most 60 ?_
  (conv => whnf)
  refine ⟨1, by decide, _, r_load5_720 (w := w) (st := st) hM h, ?_⟩
  rintro m1 ⟨S1, hX1, hc1, hz1⟩
  have S2 : St wMs m (sI m1 197 10 f) := ((St.rf hM).tr S1 (by decide)).fld (a := 197) (k := 10) (v := f) (by decide) (tI_lo _) (tI_hi _) (fun _ z => by omega)
  have F2 : Fr [47244640453] m1 (sI m1 197 10 f) := Fr_sI (Fr_rfl _ _) (by decide) (fun _ z => by omega)
  have G0 : GR (ctL (ctB (vw m) st w) ((vw m).1 3)) m1 (fun _ _ => 0) := by
    have ix : ∀ i j, i < (ctL (ctB (vw m) st w) ((vw m).1 3)).length → j < (ctL (ctB (vw m) st w) ((vw m).1 3)).length → i * (ctL (ctB (vw m) st w) ((vw m).1 3)).length + j < (ctL (ctB (vw m) st w) ((vw m).1 3)).length * (ctL (ctB (vw m) st w) ((vw m).1 3)).length := fun i j hi hj => by
      have := Nat.mul_le_mul_right (ctL (ctB (vw m) st w) ((vw m).1 3)).length (show i + 1 ≤ (ctL (ctB (vw m) st w) ((vw m).1 3)).length by omega)
      rw [Nat.add_mul, Nat.one_mul] at this
      omega
    exact ⟨fun j hj => by rw [hc1 j hj]; rfl, fun i j hi hj _ => by rw [hz1 _ (ix i j hi hj)]; rfl, fun j hj => by rw [hz1 _ (ix j j hj hj)]; rfl⟩
  have N0 : NF (cpF (vw m) f w st) (fun _ _ => 0) := ⟨fun _ _ _ _ => rfl, fun u v hu _ => (cp_rng hW hu).1, fun _ _ => sm_z 82 (fun _ _ => rfl)⟩
  (conv => whnf)
  exact And.intro rfl (lp _ hL 39960 0 0 _ .null .null _ (by omega) S2 (by rw [gI_if, if_pos ⟨rfl, rfl⟩]) (hX1.fr F2 (by decide)) (G0.fr F2 (by decide) (by decide)) N0 (sm_z 82 (fun _ _ => rfl)) (by decide))
set_option maxRecDepth 100000 in
set_option maxHeartbeats 8000000 in
theorem r_flow_720 (hM : Mok TYg m) (h : SB 720 m) (hc : m.2.2 = (720, 336)) : CI 5 mX6_flow [.ref 6, .int f, .int w] m (fun r m' => St wMs m m' ∧ FlR m f w r) := by
  obtain ⟨ff, g, c⟩ := m
  obtain rfl : c = (720, 336) := hc
  have hW := h.2.2.2.2.2
  have e0 : (0 : Int32).toInt = 0 := rfl
  have ee2 : gI (ff, g, (720, 336)) 802 1 = gI (ff, g, (720, 336)) 1175 5 := h.1 2 (by decide)
  have c2 : (gI (ff, g, (720, 336)) 802 1).toInt = (vw (ff, g, (720, 336))).1 2 := by rw [ee2]; exact vw2 hM
  have ee1 : gI (ff, g, (720, 336)) 770 1 = gI (ff, g, (720, 336)) 1175 4 := h.1 1 (by decide)
  have c1 : (gI (ff, g, (720, 336)) 770 1).toInt = (vw (ff, g, (720, 336))).1 1 := by rw [ee1]; exact vw_n (k := 1) hM
  have est : gI (ff, g, (720, 336)) 6 5 = gI (ff, g, (720, 336)) 1175 39 := h.2.2.2.1
  refine At.gs okX6_flow 80 ?_
  (conv => whnf)
  refine ⟨1, by decide, _, r_has_802, ?_⟩
  rintro rh mh ⟨hmm, hz⟩; have hmm := hmm.symm; subst hmm
  rw [c2] at hz
  (conv => whnf)
  refine And.intro (fun qh => ?_) (fun qh => ?_)
  · have qh : rh = 0 := qh
    rcases hz with ⟨y1, y2⟩ | ⟨y1, y2⟩
    · rw [y2] at qh; exact absurd qh (by decide)
    · exact ⟨St.rf hM, Or.inl ⟨fun z => y1 z.1, rfl⟩⟩
  have qh : ¬ rh = 0 := qh
  rcases hz with ⟨y1, y2⟩ | ⟨y1, y2⟩
  case inr => exact absurd y2 qh
  (conv => whnf)
  refine ⟨1, by decide, _, r_has_770, ?_⟩
  rintro rg mg ⟨hmm, hz⟩; have hmm := hmm.symm; subst hmm
  rw [c1] at hz
  (conv => whnf)
  refine And.intro (fun qg => ?_) (fun qg => ?_)
  case refine_2 =>
    have qg : rg = 0 := qg
    rcases hz with ⟨y3, y4⟩ | ⟨y3, y4⟩
    · rw [y4] at qg; exact absurd qg (by decide)
    · exact ⟨St.rf hM, Or.inl ⟨fun z => y3 z.2, rfl⟩⟩
  rcases hz with ⟨y3, y4⟩ | ⟨y3, y4⟩
  case inr => exact absurd y4 qg
  have hm := r_most_720 (m := (ff, g, (720, 336))) (f := f) (w := w) (st := gI (ff, g, (720, 336)) 6 5) hM h
  (conv => whnf)
  dsimp only
  (conv => whnf)
  refine ⟨4, by decide, _, hm, ?_⟩
  rintro r m2 ⟨S2, hO⟩
  rw [est] at hO
  exact ⟨S2, Or.inr ⟨⟨y1, y3⟩, hO⟩⟩
end Xn
