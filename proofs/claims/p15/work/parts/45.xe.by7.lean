/-! flowBy and flow of the model -/
section Xf
variable {m : MM} {f w : Int32}
theorem FB_of {V : VW} {f w st : Int32} {m1 : MM} {P : Nat → Nat → Prop} [∀ u v, Decidable (P u v)] (hW : Wf V) (h : ∀ u v, u < 82 → v < 82 → Lf m1 (82 * u + v) = if P u v then cpF V f w st u v else 0) : FB m1 := fun k hk => by
  have e : 82 * (k / 82) + k % 82 = k := Nat.div_add_mod k 82
  have h1 : k / 82 < 82 := Nat.div_lt_of_lt_mul (by omega)
  have h2 : k % 82 < 82 := Nat.mod_lt _ (by decide)
  have y := h (k / 82) (k % 82) h1 h2
  rw [e] at y
  rw [y]
  split
  · exact cp_rng hW h1
  · omega
set_option maxRecDepth 100000 in
set_option maxHeartbeats 4000000 in
/-- what is handed on -/
theorem fvIn {s : Nat} (hW : Wf (vw m)) (hs : s < (vw m).1 3) (hc : ctB (vw m) (gI m 1175 39) w s = true) (hgo : ∀ (x y : Value) (m1 : MM), St wFl m m1 → FIs (vw m) f w (gI m 1175 39) (s + 1) m1 → At (E0 3) mX7_flowBy (qi (QFV (cpF (vw m) f w (gI m 1175 39)) m)) 26 [.ref 1175, .int f, .int w, .int (nI s + 1), x, y] [] m1) :
    ∀ (d b : Nat) (w5 : Value) (m1 : MM), gI m 1175 6 = nI ((vw m).1 3) → b + d = (vw m).1 3 → St wFl m m1 → FIb (vw m) f w (gI m 1175 39) s b m1 → At (E0 3) mX7_flowBy (qi (QFV (cpF (vw m) f w (gI m 1175 39)) m)) 126 [.ref 1175, .int f, .int w, .int (nI s), .int (nI b), w5] [] m1 := by
  have h40 := hW.1.2.2.2
  intro d
  induction d with
  | zero =>
    intro b w5 m1 n6 hb hS hF
    have c6 : gI m1 1175 6 = nI ((vw m).1 3) := by rw [fr1 hS.2.2 (by decide)]; exact n6
    refine At.ls okX7_flowBy 80 ⟨_, _, rfl⟩ ?_
    (conv => whnf)
    refine And.intro (fun p => ?_) (fun p => ?_)
    · rw [show b = (vw m).1 3 by omega] at hF ⊢
      (conv => whnf)
      exact And.intro rfl (hgo _ _ m1 hS (hF.end (by omega)))
    · have p : ¬ gI m1 1175 6 ≤ nI b := p
      rw [c6, le_i, nI_toInt (by omega), nI_toInt (by omega)] at p
      omega
  | succ d ih =>
    intro b w5 m1 n6 hb hS hF
    have c6 : gI m1 1175 6 = nI ((vw m).1 3) := by rw [fr1 hS.2.2 (by decide)]; exact n6
    have hv1 : vw m1 = vw m := vw_fr hS.2.2 (by decide +kernel)
    have h39 : gI m1 1175 39 = gI m 1175 39 := fr1 hS.2.2 (by decide)
    have hct := s_counts (m := m1) (s := b) (w := w) (by omega)
    have hmh := s_mayHand (m := m1) (a := s) (b := b) (f := f) (by omega) (by omega)
    rw [hv1, h39] at hct
    rw [hv1] at hmh
    have next : ∀ m2, St wFl m m2 → FIb (vw m) f w (gI m 1175 39) s (b + 1) m2 → At (E0 3) mX7_flowBy (qi (QFV (cpF (vw m) f w (gI m 1175 39)) m)) 126 [.ref 1175, .int f, .int w, .int (nI s), .int (nI b + 1), w5] [] m2 := fun m2 h1 h2 => by
      have z := ih (b + 1) w5 m2 n6 (by omega) h1 h2
      rw [show nI (b + 1) = nI b + 1 from (nI_1 b).symm] at z
      exact z
    have ex : 82 * (40 + nI s) + nI b = nI (82 * (40 + s) + b) := by
      show nI 82 * (nI 40 + nI s) + nI b = _
      rw [nI_add, pk_mul, nI_add]
    refine At.ls okX7_flowBy 80 ⟨_, _, rfl⟩ ?_
    (conv => whnf)
    refine And.intro (fun p => ?_) (fun p => ?_)
    · have p : gI m1 1175 6 ≤ nI b := p
      rw [c6, le_i, nI_toInt (by omega), nI_toInt (by omega)] at p
      omega
    (conv => whnf)
    refine ⟨1, by decide, _, hct, ?_⟩
    rintro r m' ⟨hmm, hz⟩; have hmm := hmm.symm; subst hmm
    (conv => whnf)
    refine And.intro (fun q => ?_) (fun q => ?_)
    · have q : r = 0 := q
      rcases hz with ⟨y1, y2⟩ | ⟨y1, y2⟩
      · rw [y2] at q; exact absurd q (by decide)
      · (conv => whnf)
        exact And.intro rfl (next m1 hS (hF.go hs h40 (by omega) hc (fun z => y1 z.1)))
    have q : ¬ r = 0 := q
    rcases hz with ⟨hd, y2⟩ | ⟨y1, y2⟩
    case inr => exact absurd y2 q
    (conv => whnf)
    refine ⟨1, by decide, _, hmh, ?_⟩
    rintro r2 m' ⟨hmm, hz⟩; have hmm := hmm.symm; subst hmm
    (conv => whnf)
    refine And.intro (fun q2 => ?_) (fun q2 => ?_)
    · have q2 : r2 = 0 := q2
      rcases hz with ⟨y1, y2⟩ | ⟨y1, y2⟩
      · rw [y2] at q2; exact absurd q2 (by decide)
      · (conv => whnf)
        exact And.intro rfl (next m1 hS (hF.go hs h40 (by omega) hc (fun z => y1 z.2)))
    · have q2 : ¬ r2 = 0 := q2
      rcases hz with ⟨he, y2⟩ | ⟨y1, y2⟩
      case inr => exact absurd y2 q2
      (conv => whnf)
      refine And.intro (show vp_in (82 * (40 + nI s) + nI b) 6724 by rw [ex]; exact vp_in_nI (by omega) (by decide)) ?_
      (conv => whnf)
      refine And.intro rfl (next _ hS.lrow (hF.put hs h40 (by omega) hc hd he (fun k => ?_)))
      rw [ex, nI_clamp (by omega), Lf_sI]
      rfl
set_option maxRecDepth 100000 in
set_option maxHeartbeats 4000000 in
theorem fvFill (hW : Wf (vw m)) (n6 : gI m 1175 6 = nI ((vw m).1 3)) : ∀ (d s : Nat) (x y : Value) (m1 : MM), s + d = (vw m).1 3 → St wFl m m1 → FIs (vw m) f w (gI m 1175 39) s m1 → At (E0 3) mX7_flowBy (qi (QFV (cpF (vw m) f w (gI m 1175 39)) m)) 26 [.ref 1175, .int f, .int w, .int (nI s), x, y] [] m1 := by
  have h40 := hW.1.2.2.2
  intro d
  induction d with
  | zero =>
    intro s x y m1 hs hS hF
    have c6 : gI m1 1175 6 = nI ((vw m).1 3) := by rw [fr1 hS.2.2 (by decide)]; exact n6
    refine At.ls okX7_flowBy 80 ⟨_, _, rfl⟩ ?_
    (conv => whnf)
    refine And.intro (fun p => ?_) (fun p => ?_)
    · rw [show s = (vw m).1 3 by omega] at hF
      have hA := hF.all
      have z0 : ∀ u v, u < 82 → v < 82 → gM (cpF (vw m) f w (gI m 1175 39)) m1 u v = 0 := fun u v hu hv => by
        unfold gM
        rw [hA u v hu hv]
        omega
      have c0 : NF (cpF (vw m) f w (gI m 1175 39)) (gM (cpF (vw m) f w (gI m 1175 39)) m1) := by
        refine ⟨fun u v hu hv => by rw [z0 u v hu hv, z0 v u hv hu]; rfl, fun u v hu hv => ?_, fun u hu => sm_z 82 (fun v hv => z0 u v (by omega) hv)⟩
        rw [z0 u v hu hv]
        exact (cp_rng hW hu).1
      (conv => whnf)
      exact And.intro rfl (fvMain (cp_src hW) _ 0 _ _ m1 rfl hS (FB_of (P := fun u v => ow7 u v < (vw m).1 3) hW hF).gf c0 (sm_z 82 (fun v hv => z0 80 v (by decide) hv)) (by decide))
    · have p : ¬ gI m1 1175 6 ≤ nI s := p
      rw [c6, le_i, nI_toInt (by omega), nI_toInt (by omega)] at p
      omega
  | succ d ih =>
    intro s x y m1 hs hS hF
    have c6 : gI m1 1175 6 = nI ((vw m).1 3) := by rw [fr1 hS.2.2 (by decide)]; exact n6
    have hv1 : vw m1 = vw m := vw_fr hS.2.2 (by decide +kernel)
    have h39 : gI m1 1175 39 = gI m 1175 39 := fr1 hS.2.2 (by decide)
    have hct := s_counts (m := m1) (s := s) (w := w) (by omega)
    rw [hv1, h39] at hct
    have vs : vp_in (nI s) 80 := vp_in_nI (by omega) (by decide)
    have sc : (nI s).toNatClampNeg = s := nI_clamp (by omega)
    have next : ∀ (x y : Value) (m2 : MM), St wFl m m2 → FIs (vw m) f w (gI m 1175 39) (s + 1) m2 → At (E0 3) mX7_flowBy (qi (QFV (cpF (vw m) f w (gI m 1175 39)) m)) 26 [.ref 1175, .int f, .int w, .int (nI s + 1), x, y] [] m2 := fun x y m2 h1 h2 => by
      have z := ih (s + 1) x y m2 (by omega) h1 h2
      rw [show nI (s + 1) = nI s + 1 from (nI_1 s).symm] at z
      exact z
    have k1 : (82 * nI s + 40 + nI s) = nI (82 * s + 40 + s) := by
      show nI 82 * nI s + nI 40 + nI s = _
      rw [pk_mul, nI_add, nI_add]
    have k2 : (6560 + nI s) = nI (6560 + s) := nI_add 6560 s
    have k3 : 82 * (40 + nI s) + 81 = nI (82 * (40 + s) + 81) := by
      show nI 82 * (nI 40 + nI s) + nI 81 = _
      rw [nI_add, pk_mul, nI_add]
    have c1 : (82 * nI s + 40 + nI s).toNatClampNeg = 82 * s + 40 + s := by rw [k1]; exact nI_clamp (by omega)
    have c2 : (6560 + nI s).toNatClampNeg = 6560 + s := by rw [k2]; exact nI_clamp (by omega)
    have c3 : (82 * (40 + nI s) + 81).toNatClampNeg = 82 * (40 + s) + 81 := by rw [k3]; exact nI_clamp (by omega)
    have v1 : vp_in (82 * nI s + 40 + nI s) 6724 := by rw [k1]; exact vp_in_nI (by omega) (by decide)
    have v2 : vp_in (6560 + nI s) 6724 := by rw [k2]; exact vp_in_nI (by omega) (by decide)
    have v3 : vp_in (82 * (40 + nI s) + 81) 6724 := by rw [k3]; exact vp_in_nI (by omega) (by decide)
    have rw12 : ∀ m2, St wFl m m2 → gI m2 329080 (nI s).toNatClampNeg = (vw m).2 12 s ∧ gI m2 329048 (nI s).toNatClampNeg = (vw m).2 10 s ∧ gI m2 329064 (nI s).toNatClampNeg = (vw m).2 11 s := fun m2 h2 => by
      rw [sc]
      exact ⟨row1 h2.2.2 rfl (by decide), row1 h2.2.2 rfl (by decide), row1 h2.2.2 rfl (by decide)⟩
    obtain ⟨a1, a2, a3⟩ := rw12 m1 hS
    have hS3 : St wFl m (sI m1 27543064 (82 * nI s + 40 + nI s).toNatClampNeg (gI m1 329080 (nI s).toNatClampNeg)) := hS.lrow
    have e3 : ∀ k, Lf (sI m1 27543064 (82 * nI s + 40 + nI s).toNatClampNeg (gI m1 329080 (nI s).toNatClampNeg)) k = if k = 82 * s + 40 + s then ((vw m).2 12 s).toInt else Lf m1 k := fun k => by rw [Lf_sI, c1, a1]
    refine At.ls okX7_flowBy 120 ⟨_, _, rfl⟩ ?_
    (conv => whnf)
    refine And.intro (fun p => ?_) (fun p => ?_)
    · have p : gI m1 1175 6 ≤ nI s := p
      rw [c6, le_i, nI_toInt (by omega), nI_toInt (by omega)] at p
      omega
    (conv => whnf)
    refine ⟨1, by decide, _, hct, ?_⟩
    rintro r m' ⟨hmm, hz⟩; have hmm := hmm.symm; subst hmm
    (conv => whnf)
    refine And.intro (fun q => ?_) (fun q => ?_)
    case refine_2 =>
      have q : r = 0 := q
      rcases hz with ⟨y1, y2⟩ | ⟨y1, y2⟩
      · rw [y2] at q; exact absurd q (by decide)
      · (conv => whnf)
        exact And.intro rfl (next _ _ m1 hS (hF.no (by omega) (by
          cases hb : ctB (vw m) (gI m 1175 39) w s with
          | true => exact absurd hb y1
          | false => rfl)))
    have q : ¬ r = 0 := q
    rcases hz with ⟨hd, y2⟩ | ⟨y1, y2⟩
    case inr => exact absurd y2 q
    (conv => whnf)
    refine And.intro vs ?_
    (conv => whnf)
    refine And.intro v1 ?_
    revert e3 hS3
    generalize sI m1 27543064 (82 * nI s + 40 + nI s).toNatClampNeg (gI m1 329080 (nI s).toNatClampNeg) = m3
    intro hS3 e3
    obtain ⟨b1, b2, b3⟩ := rw12 m3 hS3
    have hS5 : St wFl m (sI m3 27543064 (6560 + nI s).toNatClampNeg (gI m3 329080 (nI s).toNatClampNeg)) := hS3.lrow
    have e5 : ∀ k, Lf (sI m3 27543064 (6560 + nI s).toNatClampNeg (gI m3 329080 (nI s).toNatClampNeg)) k = if k = 6560 + s then ((vw m).2 12 s).toInt else Lf m3 k := fun k => by rw [Lf_sI, c2, b1]
    -- behind the source
    have sink : ∀ m5, St wFl m m5 → (∀ k, Lf m5 k = if k = 6560 + s ∧ (vw m).2 10 s = f then ((vw m).2 12 s).toInt else if k = 82 * s + 40 + s then ((vw m).2 12 s).toInt else Lf m1 k) → ∀ m6, St wFl m m6 → (∀ k, Lf m6 k = if k = 82 * (40 + s) + 81 ∧ (vw m).2 11 s = f then ((vw m).2 12 s).toInt else Lf m5 k) → ∀ w5 : Value, At (E0 3) mX7_flowBy (qi (QFV (cpF (vw m) f w (gI m 1175 39)) m)) 126 [.ref 1175, .int f, .int w, .int (nI s), .int (nI 0), w5] [] m6 := fun m5 h5 e5 m6 h6 e6 w5 => fvIn hW (by omega) hd next ((vw m).1 3) 0 w5 m6 n6 (by omega) h6 (hF.lay (by omega) h40 hd (fun k => by rw [e6, e5]))
    (conv => whnf)
    refine And.intro vs ?_
    (conv => whnf)
    refine And.intro (fun q1 => ?_) (fun q1 => ?_)
    · have q1 : ¬ gI m3 329048 (nI s).toNatClampNeg = f := q1
      rw [b2] at q1
      have e5b : ∀ k, Lf m3 k = if k = 6560 + s ∧ (vw m).2 10 s = f then ((vw m).2 12 s).toInt else if k = 82 * s + 40 + s then ((vw m).2 12 s).toInt else Lf m1 k := fun k => by rw [if_neg (fun z => q1 z.2)]; exact e3 k
      (conv => whnf)
      refine And.intro vs ?_
      (conv => whnf)
      refine And.intro (fun q2 => ?_) (fun q2 => ?_)
      · have q2 : ¬ gI m3 329064 (nI s).toNatClampNeg = f := q2
        rw [b3] at q2
        (conv => whnf)
        exact And.intro rfl (sink m3 hS3 e5b m3 hS3 (fun k => by rw [if_neg (fun z => q2 z.2)]) _)
      · have q2 : gI m3 329064 (nI s).toNatClampNeg = f := q2
        rw [b3] at q2
        (conv => whnf)
        refine And.intro vs ?_
        (conv => whnf)
        refine And.intro v3 ?_
        (conv => whnf)
        refine And.intro rfl (sink m3 hS3 e5b _ hS3.lrow (fun k => ?_) _)
        rw [Lf_sI, c3, b1]
        by_cases y : k = 82 * (40 + s) + 81
        · rw [if_pos y, if_pos ⟨y, q2⟩]
        · rw [if_neg y, if_neg (fun z => y z.1)]
    · have q1 : gI m3 329048 (nI s).toNatClampNeg = f := q1
      rw [b2] at q1
      (conv => whnf)
      refine And.intro vs ?_
      (conv => whnf)
      refine And.intro v2 ?_
      revert e5 hS5
      generalize sI m3 27543064 (6560 + nI s).toNatClampNeg (gI m3 329080 (nI s).toNatClampNeg) = m5
      intro hS5 e5
      obtain ⟨d1, d2, d3⟩ := rw12 m5 hS5
      have e5b : ∀ k, Lf m5 k = if k = 6560 + s ∧ (vw m).2 10 s = f then ((vw m).2 12 s).toInt else if k = 82 * s + 40 + s then ((vw m).2 12 s).toInt else Lf m1 k := fun k => by
        rw [e5, e3]
        by_cases y : k = 6560 + s
        · rw [if_pos y, if_pos ⟨y, q1⟩]
        · rw [if_neg y, if_neg (show ¬ (k = 6560 + s ∧ (vw m).2 10 s = f) from fun z => y z.1)]
      (conv => whnf)
      refine And.intro vs ?_
      (conv => whnf)
      refine And.intro (fun q2 => ?_) (fun q2 => ?_)
      · have q2 : ¬ gI m5 329064 (nI s).toNatClampNeg = f := q2
        rw [d3] at q2
        (conv => whnf)
        exact And.intro rfl (sink m5 hS5 e5b m5 hS5 (fun k => by rw [if_neg (fun z => q2 z.2)]) _)
      · have q2 : gI m5 329064 (nI s).toNatClampNeg = f := q2
        rw [d3] at q2
        (conv => whnf)
        refine And.intro vs ?_
        (conv => whnf)
        refine And.intro v3 ?_
        (conv => whnf)
        refine And.intro rfl (sink m5 hS5 e5b _ hS5.lrow (fun k => ?_) _)
        rw [Lf_sI, c3, d1]
        by_cases y : k = 82 * (40 + s) + 81
        · rw [if_pos y, if_pos ⟨y, q2⟩]
        · rw [if_neg y, if_neg (fun z => y z.1)]
set_option maxRecDepth 100000 in
set_option maxHeartbeats 4000000 in
theorem fvZero (hW : Wf (vw m)) (n6 : gI m 1175 6 = nI ((vw m).1 3)) : ∀ (d k : Nat) (m1 : MM), k + d = 6724 → St wFl m m1 → (∀ j : Nat, j < k → gI m1 27543064 j = 0) → At (E0 3) mX7_flowBy (qi (QFV (cpF (vw m) f w (gI m 1175 39)) m)) 2 [.ref 1175, .int f, .int w, .int (nI k), .null, .null] [] m1 := by
  have e6 : (6724 : Int32).toInt = 6724 := rfl
  intro d
  induction d with
  | zero =>
    intro k m1 hk hS hall
    refine At.ls okX7_flowBy 80 ⟨_, _, rfl⟩ ?_
    (conv => whnf)
    refine And.intro (fun p => ?_) (fun p => ?_)
    · (conv => whnf)
      refine And.intro rfl (fvFill hW n6 ((vw m).1 3) 0 _ _ m1 (by omega) hS (fun u v hu hv => ?_))
      rw [if_neg (Nat.not_lt_zero _)]
      unfold Lf
      rw [hall _ (by omega)]
      rfl
    · have p : ¬ (6724 : Int32) ≤ nI k := p
      rw [le_i, e6, nI_toInt (by omega)] at p
      omega
  | succ d ih =>
    intro k m1 hk hS hall
    refine At.ls okX7_flowBy 80 ⟨_, _, rfl⟩ ?_
    (conv => whnf)
    refine And.intro (fun p => ?_) (fun p => ?_)
    · have p : (6724 : Int32) ≤ nI k := p
      rw [le_i, e6, nI_toInt (by omega)] at p
      omega
    (conv => whnf)
    refine And.intro (vp_in_nI (by omega) (by decide)) ?_
    have z := ih (k + 1) (sI m1 27543064 (nI k).toNatClampNeg 0) (by omega) hS.lrow (fun j hj => by
      rw [gI_if, nI_clamp (by omega)]
      by_cases q : j = k
      · rw [if_pos ⟨rfl, q⟩]
      · rw [if_neg (fun y => q y.2)]
        exact hall j (by omega))
    rw [show nI (k + 1) = nI k + 1 from (nI_1 k).symm] at z
    (conv => whnf)
    exact And.intro rfl z
set_option maxRecDepth 100000 in
theorem s_flowBy (hM : Mok TYg m) (hW : Wf (vw m)) : CI 3 mX7_flowBy [.ref 1175, .int f, .int w] m (QFV (cpF (vw m) f w (gI m 1175 39)) m) := by
  have n6 : gI m 1175 6 = nI ((vw m).1 3) := nI_back (vw3 hM)
  refine At.gs okX7_flowBy 80 ?_
  (conv => whnf)
  exact And.intro rfl (fvZero hW n6 6724 0 m (by decide) (St.rf hM) (fun j hj => absurd hj (Nat.not_lt_zero _)))
end Xf
/-- what is answered to flow -/
def FlR (m : MM) (f w r : Int32) : Prop := (¬ ((0 ≤ f.toInt ∧ f.toInt < (vw m).1 2) ∧ 0 ≤ w.toInt ∧ w.toInt < (vw m).1 1) ∧ r = -1) ∨ (((0 ≤ f.toInt ∧ f.toInt < (vw m).1 2) ∧ 0 ≤ w.toInt ∧ w.toInt < (vw m).1 1) ∧ FlO (cpF (vw m) f w (gI m 1175 39)) r.toInt)
theorem FlR_1 {m : MM} {f w r1 r2 : Int32} (h1 : FlR m f w r1) (h2 : FlR m f w r2) : r1 = r2 := by
  rcases h1 with ⟨a, b⟩ | ⟨a, b⟩
  · rcases h2 with ⟨c, e⟩ | ⟨c, e⟩
    · rw [b, e]
    · exact absurd c a
  · rcases h2 with ⟨c, e⟩ | ⟨c, e⟩
    · exact absurd a c
    · exact Int32.toInt_inj.mp (FlO_1 b e)
theorem FlR_to {m m' : MM} {f w r : Int32} (hv : vw m' = vw m) (h39 : gI m' 1175 39 = gI m 1175 39) (h : FlR m f w r) : FlR m' f w r := by
  unfold FlR
  rw [hv, h39]
  exact h
set_option maxRecDepth 100000 in
set_option maxHeartbeats 4000000 in
theorem s_flow {m : MM} {f w : Int32} (hM : Mok TYg m) (hW : Wf (vw m)) : CI 5 mX7_flow [.ref 1175, .int f, .int w] m (fun r m' => St wFw m m' ∧ FlR m f w r) := by
  have e0 : (0 : Int32).toInt = 0 := rfl
  have S0 : St wFw m (sI m 1175 0 0) := (St.rf hM).fld (a := 1175) (k := 0) (v := 0) (by decide) (by decide) (by decide) (fun _ z => by omega)
  have g5 : (gI m 1175 5).toInt = (vw m).1 2 := vw2 hM
  have g4 : (gI m 1175 4).toInt = (vw m).1 1 := vw_n (k := 1) hM
  refine At.gs okX7_flow 60 ?_
  (conv => whnf)
  refine ⟨1, by decide, _, s_isFirm (m := sI m 1175 0 0), ?_⟩
  rintro r m1 ⟨hmm, hz⟩; have hmm := hmm.symm; subst hmm
  have hz : z1 (0 ≤ f.toInt ∧ f.toInt < (gI m 1175 5).toInt) r := hz
  rw [g5] at hz
  (conv => whnf)
  refine And.intro (fun q => ?_) (fun q => ?_)
  · have q : r = 0 := q
    rcases hz with ⟨y1, y2⟩ | ⟨y1, y2⟩
    · rw [y2] at q; exact absurd q (by decide)
    · exact ⟨S0, Or.inl ⟨fun z => y1 z.1, rfl⟩⟩
  have q : ¬ r = 0 := q
  rcases hz with ⟨hf, y2⟩ | ⟨y1, y2⟩
  case inr => exact absurd y2 q
  (conv => whnf)
  refine And.intro (fun q1 => ?_) (fun q1 => ?_)
  · have q1 : w < 0 := q1
    rw [lt_i, e0] at q1
    exact ⟨S0, Or.inl ⟨fun z => by omega, rfl⟩⟩
  have q1 : ¬ w < 0 := q1
  rw [lt_i, e0] at q1
  (conv => whnf)
  refine And.intro (fun q2 => ?_) (fun q2 => ?_)
  case refine_2 =>
    have q2 : ¬ w < gI m 1175 4 := q2
    rw [lt_i, g4] at q2
    exact ⟨S0, Or.inl ⟨fun z => by omega, rfl⟩⟩
  have q2 : w < gI m 1175 4 := q2
  rw [lt_i, g4] at q2
  have hb := s_flowBy (m := sI m 1175 0 0) (f := f) (w := w) S0.1 (by rw [vw_z]; exact hW)
  rw [vw_z] at hb
  (conv => whnf)
  refine ⟨3, by decide, _, hb, ?_⟩
  rintro r3 m3 ⟨S3, hO⟩
  exact ⟨S0.tr S3 (by decide), Or.inr ⟨⟨hf, by omega, q2⟩, hO⟩⟩
