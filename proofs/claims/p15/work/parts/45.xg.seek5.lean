/-! the class's streams: a way home, or a border -/
def wBq : List Nat := [327992, 328008, 42949673157]
/-- over which ends one can go on: by what is carried and handed on -/
def Eg (m : MM) (k : Nat) (hm : Int32) (u v : Nat) : Prop :=
  (∃ j, j < k ∧ u = 2 * j ∧ v = 2 * j + 1 ∧ (gI m 164120 j).toInt < (gI m 164104 j).toInt) ∨
  (∃ i j, i < k ∧ j < k ∧ u = 2 * j ∧ v = 2 * i + 1 ∧ 0 < (gI m 6553896 (i * k + j)).toInt) ∨
  (∃ j, j < k ∧ u = 2 * j + 1 ∧ v = 2 * j ∧ 0 < (gI m 164120 j).toInt) ∨
  (∃ j l, j < k ∧ l < k ∧ u = 2 * j + 1 ∧ v = 2 * l ∧ gI m 164056 l = gI m 164072 j ∧ (gI m 164088 j).toInt ≤ (gI m 164088 l).toInt ∧ gI m 164072 j ≠ hm)
def Sr (m : MM) (k : Nat) (hm : Int32) (v : Nat) : Prop := ∃ j, j < k ∧ v = 2 * j ∧ gI m 164056 j = hm
def egFree (W : List Nat) : Bool := !(elm 164056 W) && !(elm 164072 W) && !(elm 164088 W) && !(elm 164104 W) && !(elm 164120 W) && !(elm 6553896 W)
/-- what is queued: q ends, each reached from one ahead of it -/
def BQ (m0 : MM) (k n : Nat) (hm : Int32) (m : MM) (q : Nat) : Prop :=
  gI m 197 9 = nI q ∧ cn (fun v => gI m 327992 v) (2 * n) + q = 2 * n ∧
  (∀ j, j < q → ∃ v, v < 2 * n ∧ gI m 328008 j = nI v ∧ gI m 327992 v ≠ -1) ∧
  (∀ v, v < 2 * n → gI m 327992 v ≠ -1 → ∃ j, j < q ∧ gI m 328008 j = nI v) ∧
  ∃ pos : Nat → Nat, ∀ v, v < 2 * n → gI m 327992 v ≠ -1 → pos v < q ∧ ((gI m 327992 v = -2 ∧ Sr m0 k hm v) ∨ ∃ u, u < 2 * n ∧ gI m 327992 v = nI u ∧ gI m 327992 u ≠ -1 ∧ pos u < pos v ∧ Eg m0 k hm u v)
/-- more is queued -/
def BM (m m' : MM) (q q' : Nat) : Prop := q ≤ q' ∧ (∀ v, gI m 327992 v ≠ -1 → gI m' 327992 v = gI m 327992 v) ∧ ∀ j, j < q → gI m' 328008 j = gI m 328008 j
theorem BM.vis {m m' : MM} {q q' v : Nat} (h : BM m m' q q') (hv : gI m 327992 v ≠ -1) : gI m' 327992 v ≠ -1 := by rw [h.2.1 v hv]; exact hv
theorem BM.rf {m : MM} {q : Nat} : BM m m q q := ⟨Nat.le_refl _, fun _ _ => rfl, fun _ _ => rfl⟩
theorem BM.tr {m1 m2 m3 : MM} {q1 q2 q3 : Nat} (a : BM m1 m2 q1 q2) (b : BM m2 m3 q2 q3) : BM m1 m3 q1 q3 := ⟨Nat.le_trans a.1 b.1, fun v h => (b.2.1 v (a.vis h)).trans (a.2.1 v h), fun j h => (b.2.2 j (by have := a.1; omega)).trans (a.2.2 j h)⟩
theorem cn_le (f : Nat → Int32) : ∀ n, cn f n ≤ n
  | 0 => Nat.le_refl 0
  | n + 1 => by
    have := cn_le f n
    unfold cn
    split <;> omega
theorem BQ_put {m0 m : MM} {k n q v : Nat} {hm o : Int32} (hk : n ≤ 40) (h : BQ m0 k n hm m q) (hv : v < 2 * n) (hc : gI m 327992 v = -1) (ho : (o = -2 ∧ Sr m0 k hm v) ∨ ∃ u, u < 2 * n ∧ o = nI u ∧ gI m 327992 u ≠ -1 ∧ Eg m0 k hm u v) :
    q < 2 * n ∧ ∀ m', m' = sI (sI (sI m 327992 v o) 328008 q (nI v)) 197 9 (nI (q + 1)) → BQ m0 k n hm m' (q + 1) ∧ BM m m' q (q + 1) ∧ gI m' 327992 v ≠ -1 := by
  obtain ⟨h1, h2, h3, h4, pos, h5⟩ := h
  have hp := cn_pos (f := fun v => gI m 327992 v) hc (2 * n) hv
  refine ⟨by omega, fun m' hm' => ?_⟩
  have on : o ≠ -1 := by
    rcases ho with ⟨z, -⟩ | ⟨u, hu, z, -, -⟩
    · rw [z]; decide
    · rw [z]
      exact ne_m1 (by rw [nI_toInt (by omega)]; omega)
  have cb : ∀ w, gI m' 327992 w = if w = v then o else gI m 327992 w := fun w => by
    rw [hm', gI_if, if_neg (fun z => absurd z.1 (by decide)), gI_if, if_neg (fun z => absurd z.1 (by decide)), gI_if]
    by_cases y : w = v
    · rw [if_pos ⟨rfl, y⟩, if_pos y]
    · rw [if_neg (fun z => y z.2), if_neg y]
  have ln : ∀ w, gI m' 328008 w = if w = q then nI v else gI m 328008 w := fun w => by
    rw [hm', gI_if, if_neg (fun z => absurd z.1 (by decide)), gI_if]
    by_cases y : w = q
    · rw [if_pos ⟨rfl, y⟩, if_pos y]
    · rw [if_neg (fun z => y z.2), if_neg y, gI_if, if_neg (fun z => absurd z.1 (by decide))]
  have nz : ∀ w, gI m 327992 w ≠ -1 → gI m' 327992 w ≠ -1 := fun w hw => by
    rw [cb]
    by_cases y : w = v
    · rw [if_pos y]; exact on
    · rw [if_neg y]; exact hw
  have vv : gI m' 327992 v ≠ -1 := by rw [cb, if_pos rfl]; exact on
  refine ⟨⟨?_, ?_, fun j hj => ?_, fun w hw hc2 => ?_, fun w => if w = v then q else pos w, fun w hw hc2 => ?_⟩, ⟨by omega, fun w hw => by rw [cb, if_neg (fun z => hw (by rw [z]; exact hc))], fun j hj => by rw [ln, if_neg (by omega)]⟩, vv⟩
  · rw [hm', gI_if, if_pos ⟨rfl, rfl⟩]
  · have := cn_upd (f := fun v => gI m 327992 v) (g := fun v => gI m' 327992 v) (v := v) hc vv (fun w hw => by show gI m' 327992 w = gI m 327992 w; rw [cb, if_neg hw]) (2 * n)
    rw [if_pos hv] at this
    omega
  · by_cases y : j = q
    · exact ⟨v, hv, by rw [ln, if_pos y], vv⟩
    · obtain ⟨w, w1, w2, w3⟩ := h3 j (by omega)
      exact ⟨w, w1, by rw [ln, if_neg y]; exact w2, nz w w3⟩
  · by_cases y : w = v
    · exact ⟨q, by omega, by rw [ln, if_pos rfl, y]⟩
    · rw [cb, if_neg y] at hc2
      obtain ⟨j, j1, j2⟩ := h4 w hw hc2
      exact ⟨j, by omega, by rw [ln, if_neg (by omega)]; exact j2⟩
  · by_cases y : w = v
    · simp only [y, if_true]
      refine ⟨by omega, ?_⟩
      rw [cb, if_pos rfl]
      rcases ho with z | ⟨u, u1, u2, u3, u4⟩
      · exact Or.inl z
      · have uv : u ≠ v := fun z => u3 (by rw [z]; exact hc)
        refine Or.inr ⟨u, u1, u2, nz u u3, ?_, u4⟩
        rw [if_neg uv]
        exact (h5 u u1 u3).1
    · rw [cb, if_neg y] at hc2 ⊢
      simp only [if_neg y]
      obtain ⟨p1, p2⟩ := h5 w hw hc2
      refine ⟨by omega, ?_⟩
      rcases p2 with z | ⟨u, u1, u2, u3, u4, u5⟩
      · exact Or.inl z
      · have uv : u ≠ v := fun z => u3 (by rw [z]; exact hc)
        refine Or.inr ⟨u, u1, u2, nz u u3, ?_, u5⟩
        rw [if_neg uv]
        exact u4
section Xg
variable {m0 m : MM} {k n q : Nat} {hm : Int32}
set_option maxRecDepth 100000 in
set_option maxHeartbeats 4000000 in
theorem r_visit {v : Nat} {o : Int32} (hM : Mok TYg m) (hk : n ≤ 40) (h : BQ m0 k n hm m q) (hv : v < 2 * n) (ho : (o = -2 ∧ Sr m0 k hm v) ∨ ∃ u, u < 2 * n ∧ o = nI u ∧ gI m 327992 u ≠ -1 ∧ Eg m0 k hm u v) : CV 1 mX5_visit [.ref 197, .int (nI v), .int o] m (fun m' => St wBq m m' ∧ ∃ q', BQ m0 k n hm m' q' ∧ BM m m' q q' ∧ gI m' 327992 v ≠ -1) := by
  have vv : vp_in (nI v) 80 := vp_in_nI (by omega) (by decide)
  have vc : (nI v).toNatClampNeg = v := nI_clamp (by omega)
  have e9 := h.1
  have e80 : (80 : Int32).toInt = 80 := rfl
  have hq := h.2.1
  refine At.gs okX5_visit 80 ?_
  (conv => whnf)
  refine And.intro vv ?_
  (conv => whnf)
  refine And.intro (fun p => ?_) (fun p => ?_)
  · have p : ¬ gI m 327992 (nI v).toNatClampNeg = -1 := p
    rw [vc] at p
    exact ⟨St.rf hM, q, h, BM.rf, p⟩
  have p : gI m 327992 (nI v).toNatClampNeg = -1 := p
  rw [vc] at p
  obtain ⟨ql, hput⟩ := BQ_put hk h hv p ho
  have vq : vp_in (gI m 197 9) 80 := by rw [e9]; exact vp_in_nI (by omega) (by decide)
  have qc : (gI m 197 9).toNatClampNeg = q := by rw [e9]; exact nI_clamp (by omega)
  have orng : -2 ≤ o.toInt ∧ o.toInt ≤ 79 := by
    rcases ho with ⟨z, -⟩ | ⟨u, hu, z, -, -⟩
    · rw [z]; exact ⟨by decide, by decide⟩
    · rw [z, nI_toInt (by omega)]; omega
  (conv => whnf)
  refine And.intro (fun p2 => ?_) (fun p2 => ?_)
  · have p2 : (80 : Int32) ≤ gI m 197 9 := p2
    rw [e9, le_i, e80, nI_toInt (by omega)] at p2
    omega
  (conv => whnf)
  refine And.intro vv ?_
  (conv => whnf)
  refine And.intro vq ?_
  (conv => whnf)
  have S1 : St wBq m (sI m 327992 (nI v).toNatClampNeg o) := (St.rf hM).row (a := 327992) rfl (by decide) (show (-2 : Int) ≤ _ by omega) (show _ ≤ (79 : Int) by omega)
  have S2 : St wBq m (sI (sI m 327992 (nI v).toNatClampNeg o) 328008 (gI m 197 9).toNatClampNeg (nI v)) := S1.row (a := 328008) rfl (by decide) (show (0 : Int) ≤ _ by rw [nI_toInt (by omega)]; omega) (show _ ≤ (79 : Int) by rw [nI_toInt (by omega)]; omega)
  have S3 : St wBq m (sI (sI (sI m 327992 (nI v).toNatClampNeg o) 328008 (gI m 197 9).toNatClampNeg (nI v)) 197 9 (gI m 197 9 + 1)) := S2.fld (a := 197) (k := 9) (by decide) (show (0 : Int) ≤ _ by rw [e9, nI_1, nI_toInt (by omega)]; omega) (show _ ≤ (80 : Int) by rw [e9, nI_1, nI_toInt (by omega)]; omega) (fun _ z => by omega)
  refine ⟨S3, q + 1, ?_⟩
  have e : sI (sI (sI m 327992 (nI v).toNatClampNeg o) 328008 (gI m 197 9).toNatClampNeg (nI v)) 197 9 (gI m 197 9 + 1) = sI (sI (sI m 327992 v o) 328008 q (nI v)) 197 9 (nI (q + 1)) := by rw [vc, qc, e9, nI_1]
  obtain ⟨d1, d2, d3⟩ := hput _ e
  exact ⟨d1, d2, d3⟩
set_option maxRecDepth 100000 in
set_option maxHeartbeats 4000000 in
/-- a place from which it begins -/
theorem r_visitS {v : Nat} (hM : Mok TYg m) (hk : n ≤ 40) (h : BQ m0 k n hm m q) (hc : gI m 327992 (2 * v) = -1) (hs : Sr m0 k hm (2 * v)) (hv : 2 * v < 2 * n := by omega) : CV 1 mX5_visit [.ref 197, .int (nI (2 * v)), .int (-2)] m (fun m' => St wBq m m' ∧ ∃ q', BQ m0 k n hm m' q' ∧ BM m m' q q' ∧ gI m' 327992 (2 * v) = -2) := by
  have e80 : (80 : Int32).toInt = 80 := rfl
  have vv : vp_in (nI (2 * v)) 80 := vp_in_nI (by omega) (by decide)
  have vc : (nI (2 * v)).toNatClampNeg = 2 * v := nI_clamp (by omega)
  have e9 := h.1
  have hq := h.2.1
  obtain ⟨ql, hput⟩ := BQ_put (o := -2) hk h hv hc (Or.inl ⟨rfl, hs⟩)
  have vq : vp_in (gI m 197 9) 80 := by rw [e9]; exact vp_in_nI (by omega) (by decide)
  have qc : (gI m 197 9).toNatClampNeg = q := by rw [e9]; exact nI_clamp (by omega)
  refine At.gs okX5_visit 80 ?_
  (conv => whnf)
  refine And.intro vv ?_
  (conv => whnf)
  refine And.intro (fun p => ?_) (fun p => ?_)
  · have p : ¬ gI m 327992 (nI (2 * v)).toNatClampNeg = -1 := p
    rw [vc] at p
    exact absurd hc p
  (conv => whnf)
  refine And.intro (fun p2 => ?_) (fun p2 => ?_)
  · have p2 : (80 : Int32) ≤ gI m 197 9 := p2
    rw [e9, le_i, e80, nI_toInt (by omega)] at p2
    omega
  (conv => whnf)
  refine And.intro vv ?_
  (conv => whnf)
  refine And.intro vq ?_
  (conv => whnf)
  have S1 : St wBq m (sI m 327992 (nI (2 * v)).toNatClampNeg (-2)) := (St.rf hM).row (a := 327992) rfl (by decide) (by decide) (by decide)
  have S2 : St wBq m (sI (sI m 327992 (nI (2 * v)).toNatClampNeg (-2)) 328008 (gI m 197 9).toNatClampNeg (nI (2 * v))) := S1.row (a := 328008) rfl (by decide) (show (0 : Int) ≤ _ by rw [nI_toInt (by omega)]; omega) (show _ ≤ (79 : Int) by rw [nI_toInt (by omega)]; omega)
  have S3 : St wBq m (sI (sI (sI m 327992 (nI (2 * v)).toNatClampNeg (-2)) 328008 (gI m 197 9).toNatClampNeg (nI (2 * v))) 197 9 (gI m 197 9 + 1)) := S2.fld (a := 197) (k := 9) (by decide) (show (0 : Int) ≤ _ by rw [e9, nI_1, nI_toInt (by omega)]; omega) (show _ ≤ (80 : Int) by rw [e9, nI_1, nI_toInt (by omega)]; omega) (fun _ z => by omega)
  have e : sI (sI (sI m 327992 (nI (2 * v)).toNatClampNeg (-2)) 328008 (gI m 197 9).toNatClampNeg (nI (2 * v))) 197 9 (gI m 197 9 + 1) = sI (sI (sI m 327992 (2 * v) (-2)) 328008 q (nI (2 * v))) 197 9 (nI (q + 1)) := by rw [vc, qc, e9, nI_1]
  obtain ⟨d1, d2, d3⟩ := hput _ e
  refine ⟨S3, q + 1, d1, d2, ?_⟩
  have z : gI (sI (sI (sI m 327992 (nI (2 * v)).toNatClampNeg (-2)) 328008 (gI m 197 9).toNatClampNeg (nI (2 * v))) 197 9 (gI m 197 9 + 1)) 327992 (2 * v) = -2 := by
    rw [e, gI_if, if_neg (fun z => absurd z.1 (by decide)), gI_if, if_neg (fun z => absurd z.1 (by decide)), gI_if, if_pos ⟨rfl, rfl⟩]
  exact z
def DnI (m0 : MM) (k : Nat) (m : MM) (s : Nat) : Prop := ((gI m0 164120 s).toInt < (gI m0 164104 s).toInt → gI m 327992 (2 * s + 1) ≠ -1) ∧ ∀ i, i < k → 0 < (gI m0 6553896 (i * k + s)).toInt → gI m 327992 (2 * i + 1) ≠ -1
def DnO (m0 : MM) (k : Nat) (m : MM) (s : Nat) : Prop := (0 < (gI m0 164120 s).toInt → gI m 327992 (2 * s) ≠ -1) ∧ ∀ l, l < k → gI m0 164056 l = gI m0 164072 s → (gI m0 164088 s).toInt ≤ (gI m0 164088 l).toInt → gI m 327992 (2 * l) ≠ -1
theorem DnI.mo {m' : MM} {q' s : Nat} (h : DnI m0 k m s) (b : BM m m' q q') : DnI m0 k m' s := ⟨fun z => b.vis (h.1 z), fun i hi z => b.vis (h.2 i hi z)⟩
theorem DnO.mo {m' : MM} {q' s : Nat} (h : DnO m0 k m s) (b : BM m m' q q') : DnO m0 k m' s := ⟨fun z => b.vis (h.1 z), fun i hi z z2 => b.vis (h.2 i hi z z2)⟩
theorem n2_1 (s : Nat) : 2 * nI s + 1 = nI (2 * s + 1) := by
  show nI 2 * nI s + 1 = _
  rw [pk_mul, nI_1]
theorem n2_0 (s : Nat) : 2 * nI s = nI (2 * s) := pk_mul 2 s
set_option maxRecDepth 100000 in
set_option maxHeartbeats 4000000 in
theorem r_spIn {s : Nat} (T : St wBq m0 m) (hk : k ≤ 40) (e8 : gI m0 197 8 = nI k) (hs : s < k) (h : BQ m0 k k hm m q) (hv : gI m 327992 (2 * s) ≠ -1) : CV 2 mX5_spreadIn [.ref 197, .int (nI s)] m (fun m' => St wBq m m' ∧ ∃ q', BQ m0 k k hm m' q' ∧ BM m m' q q' ∧ DnI m0 k m' s) := by
  have e0 : (0 : Int32).toInt = 0 := rfl
  have vs : vp_in (nI s) 40 := vp_in_nI (by omega) (by decide)
  have sc : (nI s).toNatClampNeg = s := nI_clamp (by omega)
  have c20 : gI m 164120 (nI s).toNatClampNeg = gI m0 164120 s := by rw [sc]; exact row1 T.2.2 rfl (by decide)
  have c04 : gI m 164104 (nI s).toNatClampNeg = gI m0 164104 s := by rw [sc]; exact row1 T.2.2 rfl (by decide)
  have lp : ∀ (d i : Nat) (m1 : MM) (q1 : Nat), i + d = k → St wBq m m1 → BQ m0 k k hm m1 q1 → BM m m1 q q1 → ((gI m0 164120 s).toInt < (gI m0 164104 s).toInt → gI m1 327992 (2 * s + 1) ≠ -1) → (∀ j, j < i → 0 < (gI m0 6553896 (j * k + s)).toInt → gI m1 327992 (2 * j + 1) ≠ -1) → At (E0 2) mX5_spreadIn (qv (fun m' => St wBq m m' ∧ ∃ q', BQ m0 k k hm m' q' ∧ BM m m' q q' ∧ DnI m0 k m' s)) 29 [.ref 197, .int (nI s), .int (nI i)] [] m1 := by
    intro d
    induction d with
    | zero =>
      intro i m1 q1 hi S1 hB hM1 hp hh
      have e81 : gI m1 197 8 = nI k := by rw [fr1 S1.2.2 (by decide), fr1 T.2.2 (by decide)]; exact e8
      refine At.ls okX5_spreadIn 60 ⟨_, _, rfl⟩ ?_
      (conv => whnf)
      refine And.intro (fun p => ?_) (fun p => ?_)
      · exact ⟨S1, q1, hB, hM1, hp, fun j hj => hh j (by omega)⟩
      · have p : ¬ gI m1 197 8 ≤ nI i := p
        rw [e81, le_i, nI_toInt (by omega), nI_toInt (by omega)] at p
        omega
    | succ d ih =>
      intro i m1 q1 hi S1 hB hM1 hp hh
      have T1 := T.tr S1 (fun _ z => z)
      have e81 : gI m1 197 8 = nI k := by rw [fr1 S1.2.2 (by decide), fr1 T.2.2 (by decide)]; exact e8
      have hik : i * k + s < 1600 := by
        have : i * k ≤ 39 * 40 := Nat.mul_le_mul (by omega) hk
        omega
      have ex : nI i * gI m1 197 8 + nI s = nI (i * k + s) := by rw [e81, pk_mul, nI_add]
      have vx : vp_in (nI i * gI m1 197 8 + nI s) 1600 := by rw [ex]; exact vp_in_nI hik (by decide)
      have ch : gI m1 6553896 (nI i * gI m1 197 8 + nI s).toNatClampNeg = gI m0 6553896 (i * k + s) := by rw [ex, nI_clamp (by omega)]; exact row1 T1.2.2 rfl (by decide)
      refine At.ls okX5_spreadIn 100 ⟨_, _, rfl⟩ ?_
      (conv => whnf)
      refine And.intro (fun p => ?_) (fun p => ?_)
      · have p : gI m1 197 8 ≤ nI i := p
        rw [e81, le_i, nI_toInt (by omega), nI_toInt (by omega)] at p
        omega
      (conv => whnf)
      refine And.intro vx ?_
      (conv => whnf)
      refine And.intro (fun p2 => ?_) (fun p2 => ?_)
      · have p2 : gI m1 6553896 (nI i * gI m1 197 8 + nI s).toNatClampNeg ≤ 0 := p2
        rw [ch, le_i, e0] at p2
        have z := ih (i + 1) m1 q1 (by omega) S1 hB hM1 hp (fun j hj hx => by
          by_cases y : j = i
          · rw [y] at hx; omega
          · exact hh j (by omega) hx)
        rw [show nI (i + 1) = nI i + 1 from (nI_1 i).symm] at z
        (conv => whnf)
        exact And.intro rfl z
      have p2 : ¬ gI m1 6553896 (nI i * gI m1 197 8 + nI s).toNatClampNeg ≤ 0 := p2
      rw [ch, le_i, e0] at p2
      have hvis := r_visit (v := 2 * i + 1) (o := nI (2 * s)) S1.1 hk hB (by omega) (Or.inr ⟨2 * s, by omega, rfl, hM1.vis hv, Or.inr (Or.inl ⟨i, s, by omega, hs, rfl, rfl, by omega⟩)⟩)
      rw [← n2_1, ← n2_0] at hvis
      (conv => whnf)
      refine ⟨1, by decide, _, hvis, ?_⟩
      rintro m2 ⟨S2, q2, b1, b2, b3⟩
      have z := ih (i + 1) m2 q2 (by omega) (S1.tr S2 (fun _ z => z)) b1 (hM1.tr b2) (fun x => b2.vis (hp x)) (fun j hj hx => by
        by_cases y : j = i
        · rw [y]; exact b3
        · exact b2.vis (hh j (by omega) hx))
      rw [show nI (i + 1) = nI i + 1 from (nI_1 i).symm] at z
      (conv => whnf)
      exact And.intro rfl z
  refine At.gs okX5_spreadIn 80 ?_
  (conv => whnf)
  refine And.intro vs ?_
  (conv => whnf)
  refine And.intro vs ?_
  (conv => whnf)
  refine And.intro (fun p => ?_) (fun p => ?_)
  · have p : gI m 164104 (nI s).toNatClampNeg ≤ gI m 164120 (nI s).toNatClampNeg := p
    rw [c20, c04, le_i] at p
    (conv => whnf)
    exact And.intro rfl (lp k 0 m q (by omega) (St.rf T.1) h BM.rf (fun z => by omega) (fun j hj => absurd hj (Nat.not_lt_zero _)))
  have p : ¬ gI m 164104 (nI s).toNatClampNeg ≤ gI m 164120 (nI s).toNatClampNeg := p
  rw [c20, c04, le_i] at p
  have hvis := r_visit (v := 2 * s + 1) (o := nI (2 * s)) T.1 hk h (by omega) (Or.inr ⟨2 * s, by omega, rfl, hv, Or.inl ⟨s, hs, rfl, rfl, by omega⟩⟩)
  rw [← n2_1, ← n2_0] at hvis
  (conv => whnf)
  refine ⟨1, by decide, _, hvis, ?_⟩
  rintro m2 ⟨S2, q2, b1, b2, b3⟩
  (conv => whnf)
  exact And.intro rfl (lp k 0 m2 q2 (by omega) S2 b1 b2 (fun _ => b3) (fun j hj => absurd hj (Nat.not_lt_zero _)))
set_option maxRecDepth 100000 in
set_option maxHeartbeats 4000000 in
theorem r_spOut {s : Nat} (T : St wBq m0 m) (hk : k ≤ 40) (e8 : gI m0 197 8 = nI k) (hs : s < k) (hto : gI m0 164072 s ≠ hm) (h : BQ m0 k k hm m q) (hv : gI m 327992 (2 * s + 1) ≠ -1) : CV 2 mX5_spreadOut [.ref 197, .int (nI s)] m (fun m' => St wBq m m' ∧ ∃ q', BQ m0 k k hm m' q' ∧ BM m m' q q' ∧ DnO m0 k m' s) := by
  have e0 : (0 : Int32).toInt = 0 := rfl
  have vs : vp_in (nI s) 40 := vp_in_nI (by omega) (by decide)
  have sc : (nI s).toNatClampNeg = s := nI_clamp (by omega)
  have c20 : gI m 164120 (nI s).toNatClampNeg = gI m0 164120 s := by rw [sc]; exact row1 T.2.2 rfl (by decide)
  have lp : ∀ (d i : Nat) (m1 : MM) (q1 : Nat), i + d = k → St wBq m m1 → BQ m0 k k hm m1 q1 → BM m m1 q q1 → (0 < (gI m0 164120 s).toInt → gI m1 327992 (2 * s) ≠ -1) → (∀ l, l < i → gI m0 164056 l = gI m0 164072 s → (gI m0 164088 s).toInt ≤ (gI m0 164088 l).toInt → gI m1 327992 (2 * l) ≠ -1) → At (E0 2) mX5_spreadOut (qv (fun m' => St wBq m m' ∧ ∃ q', BQ m0 k k hm m' q' ∧ BM m m' q q' ∧ DnO m0 k m' s)) 23 [.ref 197, .int (nI s), .int (nI i)] [] m1 := by
    intro d
    induction d with
    | zero =>
      intro i m1 q1 hi S1 hB hM1 hp hh
      have e81 : gI m1 197 8 = nI k := by rw [fr1 S1.2.2 (by decide), fr1 T.2.2 (by decide)]; exact e8
      refine At.ls okX5_spreadOut 60 ⟨_, _, rfl⟩ ?_
      (conv => whnf)
      refine And.intro (fun p => ?_) (fun p => ?_)
      · exact ⟨S1, q1, hB, hM1, hp, fun j hj => hh j (by omega)⟩
      · have p : ¬ gI m1 197 8 ≤ nI i := p
        rw [e81, le_i, nI_toInt (by omega), nI_toInt (by omega)] at p
        omega
    | succ d ih =>
      intro i m1 q1 hi S1 hB hM1 hp hh
      have T1 := T.tr S1 (fun _ z => z)
      have vi : vp_in (nI i) 40 := vp_in_nI (by omega) (by decide)
      have ic : (nI i).toNatClampNeg = i := nI_clamp (by omega)
      have e81 : gI m1 197 8 = nI k := by rw [fr1 S1.2.2 (by decide), fr1 T.2.2 (by decide)]; exact e8
      have d56 : gI m1 164056 (nI i).toNatClampNeg = gI m0 164056 i := by rw [ic]; exact row1 T1.2.2 rfl (by decide)
      have d72 : gI m1 164072 (nI s).toNatClampNeg = gI m0 164072 s := by rw [sc]; exact row1 T1.2.2 rfl (by decide)
      have d88 : gI m1 164088 (nI i).toNatClampNeg = gI m0 164088 i := by rw [ic]; exact row1 T1.2.2 rfl (by decide)
      have q88 : gI m1 164088 (nI s).toNatClampNeg = gI m0 164088 s := by rw [sc]; exact row1 T1.2.2 rfl (by decide)
      have skip : ¬ (gI m0 164056 i = gI m0 164072 s ∧ (gI m0 164088 s).toInt ≤ (gI m0 164088 i).toInt) → At (E0 2) mX5_spreadOut (qv (fun m' => St wBq m m' ∧ ∃ q', BQ m0 k k hm m' q' ∧ BM m m' q q' ∧ DnO m0 k m' s)) 23 [.ref 197, .int (nI s), .int (nI i + 1)] [] m1 := fun hne => by
        have z := ih (i + 1) m1 q1 (by omega) S1 hB hM1 hp (fun j hj hx hy => by
          by_cases y : j = i
          · rw [y] at hx hy; exact absurd ⟨hx, hy⟩ hne
          · exact hh j (by omega) hx hy)
        rw [show nI (i + 1) = nI i + 1 from (nI_1 i).symm] at z
        exact z
      refine At.ls okX5_spreadOut 100 ⟨_, _, rfl⟩ ?_
      (conv => whnf)
      refine And.intro (fun p => ?_) (fun p => ?_)
      · have p : gI m1 197 8 ≤ nI i := p
        rw [e81, le_i, nI_toInt (by omega), nI_toInt (by omega)] at p
        omega
      (conv => whnf)
      refine And.intro vi ?_
      (conv => whnf)
      refine And.intro vs ?_
      (conv => whnf)
      refine And.intro (fun p2 => ?_) (fun p2 => ?_)
      · have p2 : ¬ gI m1 164056 (nI i).toNatClampNeg = gI m1 164072 (nI s).toNatClampNeg := p2
        rw [d56, d72] at p2
        (conv => whnf)
        exact And.intro rfl (skip (fun z => p2 z.1))
      have p2 : gI m1 164056 (nI i).toNatClampNeg = gI m1 164072 (nI s).toNatClampNeg := p2
      rw [d56, d72] at p2
      (conv => whnf)
      refine And.intro vi ?_
      (conv => whnf)
      refine And.intro vs ?_
      (conv => whnf)
      refine And.intro (fun p3 => ?_) (fun p3 => ?_)
      · have p3 : gI m1 164088 (nI i).toNatClampNeg < gI m1 164088 (nI s).toNatClampNeg := p3
        rw [d88, q88, lt_i] at p3
        (conv => whnf)
        exact And.intro rfl (skip (fun z => by omega))
      have p3 : ¬ gI m1 164088 (nI i).toNatClampNeg < gI m1 164088 (nI s).toNatClampNeg := p3
      rw [d88, q88, lt_i] at p3
      have hvis := r_visit (v := 2 * i) (o := nI (2 * s + 1)) S1.1 hk hB (by omega) (Or.inr ⟨2 * s + 1, by omega, rfl, hM1.vis hv, Or.inr (Or.inr (Or.inr ⟨s, i, hs, by omega, rfl, rfl, p2, by omega, hto⟩))⟩)
      rw [← n2_1, ← n2_0] at hvis
      (conv => whnf)
      refine ⟨1, by decide, _, hvis, ?_⟩
      rintro m2 ⟨S2, q2, b1, b2, b3⟩
      have z := ih (i + 1) m2 q2 (by omega) (S1.tr S2 (fun _ z => z)) b1 (hM1.tr b2) (fun x => b2.vis (hp x)) (fun j hj hx hy => by
        by_cases y : j = i
        · rw [y]; exact b3
        · exact b2.vis (hh j (by omega) hx hy))
      rw [show nI (i + 1) = nI i + 1 from (nI_1 i).symm] at z
      (conv => whnf)
      exact And.intro rfl z
  refine At.gs okX5_spreadOut 80 ?_
  (conv => whnf)
  refine And.intro vs ?_
  (conv => whnf)
  refine And.intro (fun p => ?_) (fun p => ?_)
  · have p : gI m 164120 (nI s).toNatClampNeg ≤ 0 := p
    rw [c20, le_i, e0] at p
    (conv => whnf)
    exact And.intro rfl (lp k 0 m q (by omega) (St.rf T.1) h BM.rf (fun z => by omega) (fun j hj => absurd hj (Nat.not_lt_zero _)))
  have p : ¬ gI m 164120 (nI s).toNatClampNeg ≤ 0 := p
  rw [c20, le_i, e0] at p
  have hvis := r_visit (v := 2 * s) (o := nI (2 * s + 1)) T.1 hk h (by omega) (Or.inr ⟨2 * s + 1, by omega, rfl, hv, Or.inr (Or.inr (Or.inl ⟨s, hs, rfl, rfl, by omega⟩))⟩)
  rw [← n2_1, ← n2_0] at hvis
  (conv => whnf)
  refine ⟨1, by decide, _, hvis, ?_⟩
  rintro m2 ⟨S2, q2, b1, b2, b3⟩
  (conv => whnf)
  exact And.intro rfl (lp k 0 m2 q2 (by omega) S2 b1 b2 (fun _ => b3) (fun j hj => absurd hj (Nat.not_lt_zero _)))
end Xg
