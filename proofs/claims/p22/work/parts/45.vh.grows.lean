/-! the model: all rounds -/
/-- the model's rows hold the first of L -/
def MdS (L : List (List Nat)) (m : MM) : Prop := ((L.length ≤ 200 ∧ gI m 1175 42 = nI L.length ∧ gI m 1175 47 = 0) ∨ (200 < L.length ∧ gI m 1175 42 = nI 200 ∧ gI m 1175 47 = 1)) ∧
  ∀ i, i < 200 → i < L.length → (L.getD i []).length ≤ 6 ∧ gI m 820712 i = nI (L.getD i []).length ∧ ∀ j, j < (L.getD i []).length → gI m 4916696 (6 * i + j) = nI ((L.getD i []).getD j 0)
theorem MdS.more {L M : List (List Nat)} {m : MM} (h : MdS L m) (hl : 200 < L.length) : MdS (L ++ M) m := by
  refine ⟨Or.inr ⟨by rw [List.length_append]; omega, ?_⟩, fun i hi _ => ?_⟩
  · rcases h.1 with q | q
    · omega
    · exact q.2
  · rw [gL_l (by omega)]
    exact h.2 i hi (by omega)
theorem MdS.fr {L : List (List Nat)} {W : List Nat} {m m' : MM} (h : MdS L m) (hF : Fr W m m') (hW : (!(elm (wk 1175 42) W) && !(elm (wk 1175 47) W) && !(elm 820712 W) && !(elm 4916696 W)) = true) : MdS L m' := by
  simp only [Bool.and_eq_true] at hW
  obtain ⟨⟨⟨w1, w2⟩, w3⟩, w4⟩ := hW
  refine ⟨?_, fun i hi hl => ?_⟩
  · rw [fr1 hF (nelm6 w1 : ¬ wk 1175 42 ∈ W), fr1 hF (nelm6 w2 : ¬ wk 1175 47 ∈ W)]
    exact h.1
  · obtain ⟨l6, a, b⟩ := h.2 i hi hl
    refine ⟨l6, by rw [row1 hF rfl (elm_no w3)]; exact a, fun j hj => ?_⟩
    rw [row1 hF rfl (elm_no w4)]
    exact b j hj
/-- what stays while the model seeks -/
def GX (V : VW) (g : Nat → Int32) (st wy : Int32) (k : Nat) (d : Int32) (m : MM) : Prop := gI m 1175 6 = nI (V.1 3) ∧ gI m 1175 39 = st ∧ gI m 1175 48 = wy ∧ gI m 1175 49 = nI k ∧ gI m 1175 50 = d ∧ vw m = V ∧ ∀ s, s < V.1 3 → gI m 165384 s = g s
def gxFree (W : List Nat) : Bool := vFree W && !(elm (wk 1175 39) W) && !(elm (wk 1175 48) W) && !(elm (wk 1175 49) W) && !(elm (wk 1175 50) W) && !(elm 165384 W)
theorem GX.fr {V : VW} {g : Nat → Int32} {st wy d : Int32} {k : Nat} {W : List Nat} {m m' : MM} (h : GX V g st wy k d m) (hF : Fr W m m') (hW : gxFree W = true) : GX V g st wy k d m' := by
  unfold gxFree at hW
  simp only [Bool.and_eq_true] at hW
  obtain ⟨⟨⟨⟨⟨w1, w2⟩, w3⟩, w4⟩, w5⟩, w6⟩ := hW
  have w1b := w1
  unfold vFree at w1b
  rw [Bool.and_eq_true, List.all_eq_true, List.all_eq_true] at w1b
  refine ⟨?_, ?_, ?_, ?_, ?_, ?_, fun s hs => ?_⟩
  · rw [fr1 hF (nelm6 (w1b.2 6 (by decide)) : ¬ wk 1175 6 ∈ W)]; exact h.1
  · rw [fr1 hF (nelm6 w2 : ¬ wk 1175 39 ∈ W)]; exact h.2.1
  · rw [fr1 hF (nelm6 w3 : ¬ wk 1175 48 ∈ W)]; exact h.2.2.1
  · rw [fr1 hF (nelm6 w4 : ¬ wk 1175 49 ∈ W)]; exact h.2.2.2.1
  · rw [fr1 hF (nelm6 w5 : ¬ wk 1175 50 ∈ W)]; exact h.2.2.2.2.1
  · rw [vw_fr hF w1]; exact h.2.2.2.2.2.1
  · rw [row1 hF rfl (elm_no w6)]; exact h.2.2.2.2.2.2 s hs
theorem fitP_c2 {V : VW} {g g' : Nat → Int32} {st wy : Int32} {t : Nat → Nat} {k s : Nat} (h1 : g s = g' s) (h2 : g (t (k - 1)) = g' (t (k - 1))) : fitP V g st wy t k s ↔ fitP V g' st wy t k s := by
  unfold fitP
  rw [h1, h2]
def wGr : List Nat := [26104, 4916696, 820712, 184683594903, 206158431383]
/-- what grows out of a row by sale s, as the model has it -/
noncomputable def rnH (V : VW) (g : Nat → Int32) (st wy hm : Int32) (d : Int) (n : Nat) (row : List Nat) (s : Nat) : List (List Nat) := rnP (rnT V g st wy d row s) (rnM (V.1 3) g hm (rnT V g st wy d) n (row ++ [s]) s)
theorem rnH_n {V : VW} {g : Nat → Int32} {st wy hm : Int32} {d : Int} {n : Nat} {row : List Nat} {s : Nat} (h : ¬ rnT V g st wy d row s) : rnH V g st wy hm d n row s = [] := rnP_n h
theorem rnH_y {V : VW} {g : Nat → Int32} {st wy hm : Int32} {d : Int} {n : Nat} {row : List Nat} {s : Nat} (h : rnT V g st wy d row s) : rnH V g st wy hm d n row s = rnM (V.1 3) g hm (rnT V g st wy d) n (row ++ [s]) s := rnP_y h
theorem rnM_home {N : Nat} {g : Nat → Int32} {hm : Int32} {ft : List Nat → Nat → Prop} {row : List Nat} {last : Nat} (h : g last = hm ∧ 2 ≤ row.length) : ∀ n, rnM N g hm ft n row last = [row]
  | 0 => rnP_y h
  | n + 1 => by
    show rnP _ _ ++ rnP _ _ = _
    rw [rnP_y h, rnP_n (fun z : ¬ (g last = hm ∧ 2 ≤ row.length) => z h), List.append_nil]
theorem rnM_0 {N : Nat} {g : Nat → Int32} {hm : Int32} {ft : List Nat → Nat → Prop} {row : List Nat} {last : Nat} (h : ¬ (g last = hm ∧ 2 ≤ row.length)) : rnM N g hm ft 0 row last = [] := rnP_n h
theorem rnM_s {V : VW} {g : Nat → Int32} {st wy hm : Int32} {d : Int} {n : Nat} {row : List Nat} {last : Nat} (h : ¬ (g last = hm ∧ 2 ≤ row.length)) : rnM (V.1 3) g hm (rnT V g st wy d) (n + 1) row last = rnF (rnH V g st wy hm d n row) (V.1 3) := by
  show rnP _ _ ++ rnP _ _ = _
  rw [rnP_n h, rnP_y h]
  rfl
def cdGr : List CE := stops [110] cdX7_grows
set_option maxRecDepth 20000 in
theorem okGr : CodeOk mX7_grows cdGr := okX7_grows.st [110] (by rfl)
section Gr
variable {V : VW} {g : Nat → Int32} {st wy d : Int32} {k : Nat} {m0 : MM}
def GrQ (V : VW) (g : Nat → Int32) (st wy : Int32) (d : Int) (m0 : MM) (L : List (List Nat)) (n : Nat) (row : List Nat) (last : Nat) (m' : MM) : Prop := St wGr m0 m' ∧ MdS (L ++ rnM (V.1 3) g (V.2 10 (row.getD 0 0)) (rnT V g st wy d) n row last) m' ∧ ∀ i, i < row.length → gI m' 26104 i = nI (row.getD i 0)
/-! a round is found: it is laid, or they are too many -/
set_option maxRecDepth 100000 in
set_option maxHeartbeats 8000000 in
theorem gr_lay7 {D : Nat} {L : List (List Nat)} {row : List Nat} {P : MM → Prop} {m1 : MM} (hS : St wGr m0 m1) (hF : MdS L m1) (hl : L.length < 200) (h6 : row.length ≤ 6) (hr : ∀ i, i < row.length → gI m1 26104 i = nI (row.getD i 0) ∧ row.getD i 0 < 40) (hP : ∀ m', St wGr m0 m' → MdS (L ++ [row]) m' → (∀ i, i < row.length → gI m' 26104 i = nI (row.getD i 0)) → P m') :
    ∀ (j s : Nat) (m2 : MM), s + j = row.length → St wGr m0 m2 → MdS L m2 → (∀ i, i < row.length → gI m2 26104 i = nI (row.getD i 0)) → (∀ i, i < s → gI m2 4916696 (6 * L.length + i) = nI (row.getD i 0)) → At (E0 D) mX7_grows (qv P) 58 [.ref 1175, .int (nI row.length), .int (nI s)] [] m2 := by
  intro j
  induction j with
  | zero =>
    intro s m2 hs hS2 hF2 hr2 hN
    have e42 : gI m2 1175 42 = nI L.length := Or.elim hF2.1 (fun q => q.2.1) (fun q => absurd q.1 (by omega))
    have e47 : gI m2 1175 47 = 0 := Or.elim hF2.1 (fun q => q.2.2) (fun q => absurd q.1 (by omega))
    have v2 : vp_in (gI m2 1175 42) 200 := by rw [e42]; exact vp_in_nI hl (by decide)
    have c42 : (gI m2 1175 42).toNatClampNeg = L.length := by rw [e42, nI_clamp (by omega)]
    refine At.ls okGr 80 ⟨_, _, rfl⟩ ?_
    (conv => whnf)
    refine And.intro (fun p => ?_) (fun p => ?_)
    · (conv => whnf)
      refine And.intro v2 ?_
      (conv => whnf)
      have SM : St wGr m0 (sI (sI m2 820712 (gI m2 1175 42).toNatClampNeg (nI row.length)) 1175 42 (gI m2 1175 42 + 1)) := (hS2.row (a := 820712) rfl (by decide) (show (0 : Int) ≤ _ by rw [nI_toInt (by omega)]; omega) (show _ ≤ (6 : Int) by rw [nI_toInt (by omega)]; omega)).fld (a := 1175) (k := 42) (by decide) (show (0 : Int) ≤ _ by rw [e42, nI_1, nI_toInt (by omega)]; omega) (show _ ≤ (200 : Int) by rw [e42, nI_1, nI_toInt (by omega)]; omega) (fun _ z => by omega)
      refine hP (sI (sI m2 820712 (gI m2 1175 42).toNatClampNeg (nI row.length)) 1175 42 (gI m2 1175 42 + 1)) SM ⟨Or.inl ⟨?_, ?_, ?_⟩, fun i hi hil => ?_⟩ (fun i hi => ?_)
      · rw [List.length_append]
        show L.length + 1 ≤ 200
        omega
      · rw [gI_if, if_pos ⟨rfl, rfl⟩, e42, nI_1, List.length_append]
        rfl
      · rw [gI_if, if_neg (fun z => absurd z.2 (by decide)), gI_if, if_neg (fun z => absurd z.1 (by decide))]
        exact e47
      · rw [List.length_append] at hil
        have hil : i < L.length + 1 := hil
        rw [gI_if, if_neg (fun z => absurd z.1 (by decide)), gI_if, c42]
        by_cases z : i = L.length
        · rw [if_pos ⟨rfl, z⟩, z, gL_r]
          refine ⟨h6, rfl, fun j hj => ?_⟩
          rw [gI_if, if_neg (fun z => absurd z.1 (by decide)), gI_if, if_neg (fun z => absurd z.1 (by decide))]
          exact hN j (by omega)
        · rw [if_neg (fun y => z y.2), gL_l (by omega)]
          refine ⟨(hF2.2 i hi (by omega)).1, (hF2.2 i hi (by omega)).2.1, fun j hj => ?_⟩
          rw [gI_if, if_neg (fun z => absurd z.1 (by decide)), gI_if, if_neg (fun z => absurd z.1 (by decide))]
          exact (hF2.2 i hi (by omega)).2.2 j hj
      · rw [gI_if, if_neg (fun z => absurd z.1 (by decide)), gI_if, if_neg (fun z => absurd z.1 (by decide))]
        exact hr2 i hi
    · have p : ¬ nI row.length ≤ nI s := p
      rw [le_i, nI_toInt (by omega), nI_toInt (by omega)] at p
      omega
  | succ j ih =>
    intro s m2 hs hS2 hF2 hr2 hN
    have e42 : gI m2 1175 42 = nI L.length := Or.elim hF2.1 (fun q => q.2.1) (fun q => absurd q.1 (by omega))
    have ix : 6 * gI m2 1175 42 + nI s = nI (6 * L.length + s) := by
      rw [e42]
      show nI 6 * nI L.length + nI s = _
      rw [pk_mul, nI_add]
    have v6 : vp_in (nI s) 6 := vp_in_nI (by omega) (by decide)
    have vx : vp_in (6 * gI m2 1175 42 + nI s) 1200 := by rw [ix]; exact vp_in_nI (by omega) (by decide)
    have xc : (6 * gI m2 1175 42 + nI s).toNatClampNeg = 6 * L.length + s := by rw [ix, nI_clamp (by omega)]
    have sc : (nI s).toNatClampNeg = s := nI_clamp (by omega)
    have hrs := hr2 s (by omega)
    have h40 := (hr s (by omega)).2
    refine At.ls okGr 80 ⟨_, _, rfl⟩ ?_
    (conv => whnf)
    refine And.intro (fun p => ?_) (fun p => ?_)
    · have p : nI row.length ≤ nI s := p
      rw [le_i, nI_toInt (by omega), nI_toInt (by omega)] at p
      omega
    (conv => whnf)
    refine And.intro v6 ?_
    (conv => whnf)
    refine And.intro vx ?_
    (conv => whnf)
    have SM : St wGr m0 (sI m2 4916696 (6 * gI m2 1175 42 + nI s).toNatClampNeg (gI m2 26104 (nI s).toNatClampNeg)) := hS2.row (a := 4916696) rfl (by decide) (show (0 : Int) ≤ _ by rw [sc, hrs, nI_toInt (by omega)]; omega) (show _ ≤ (39 : Int) by rw [sc, hrs, nI_toInt (by omega)]; omega)
    have z := ih (s + 1) (sI m2 4916696 (6 * gI m2 1175 42 + nI s).toNatClampNeg (gI m2 26104 (nI s).toNatClampNeg)) (by omega) SM ⟨by
      rw [gI_if, if_neg (fun z => absurd z.1 (by decide)), gI_if, if_neg (fun z => absurd z.1 (by decide))]
      exact hF2.1, fun i hi hil => by
      rw [gI_if, if_neg (fun z => absurd z.1 (by decide))]
      obtain ⟨l6, a1, a2⟩ := hF2.2 i hi hil
      refine ⟨l6, a1, fun j hj => ?_⟩
      rw [gI_if, xc, if_neg (fun z => by omega)]
      exact a2 j hj⟩ (fun i hi => by
      rw [gI_if, if_neg (fun z => absurd z.1 (by decide))]
      exact hr2 i hi) (fun i hi => by
      rw [gI_if, xc, sc]
      by_cases q : i = s
      · rw [if_pos ⟨rfl, by rw [q]⟩, q]; exact hrs
      · rw [if_neg (fun y => q (by omega))]; exact hN i (by omega))
    rw [← nI_1] at z
    exact And.intro rfl z
theorem z1_cg {p q : Prop} {r : Int32} (h : p ↔ q) : z1 p r ↔ z1 q r := by
  unfold z1
  rw [h]
/-! the first half of grows: spent already; a round; else on at 110 -/
set_option maxRecDepth 100000 in
set_option maxHeartbeats 8000000 in
theorem gr_go7 {n : Nat} {row : List Nat} {last : Nat} {L : List (List Nat)} {m1 : MM} (hX : GX V g st wy k d m1) (hW : Wf V) (hG : GW (V.1 3) g) (h6 : row.length ≤ 6) (h1 : 1 ≤ row.length) (hS : St wGr m0 m1) (hF : MdS L m1) (hr : ∀ i, i < row.length → gI m1 26104 i = nI (row.getD i 0) ∧ row.getD i 0 < V.1 3) (hl : row.getD (row.length - 1) 0 = last) (l3 : last < V.1 3)
    (K : ¬ (g last = V.2 10 (row.getD 0 0) ∧ 2 ≤ row.length) → At (E0 (n + 2)) mX7_grows (qv (GrQ V g st wy d.toInt m0 L n row last)) 110 [.ref 1175, .int (nI row.length), .null] [] m1) : CV (n + 2) mX7_grows [.ref 1175, .int (nI row.length)] m1 (GrQ V g st wy d.toInt m0 L n row last) := by
  have h40 := hW.1.2.2.2
  have e1 : (1 : Int32).toInt = 1 := rfl
  have hv : vw m1 = V := hX.2.2.2.2.2.1
  have r10 : ∀ i, gI m1 329048 i = V.2 10 i := fun i => by rw [← hv]; rfl
  have r0 := hr 0 (by omega)
  have rl := hr (row.length - 1) (by omega)
  rw [hl] at rl
  refine At.gs okGr 160 ?_
  (conv => whnf)
  refine And.intro (fun p => ?_) (fun p => ?_)
  case refine_2 =>
    have p : ¬ gI m1 1175 47 = 0 := p
    rcases hF.1 with q | q
    · exact absurd q.2.2 p
    · have key : GrQ V g st wy d.toInt m0 L n row last m1 := ⟨hS, hF.more q.1, fun i hi => (hr i hi).1⟩
      exact key
  have p : gI m1 1175 47 = 0 := p
  have hL : L.length ≤ 200 ∧ gI m1 1175 42 = nI L.length := by
    rcases hF.1 with q | q
    · exact ⟨q.1, q.2.1⟩
    · rw [q.2.2] at p; exact absurd p (by decide)
  (conv => whnf)
  refine And.intro (fun p1 => ?_) (fun p1 => ?_)
  · have p1 : nI row.length ≤ 1 := p1
    rw [le_i, nI_toInt (by omega), e1] at p1
    exact And.intro rfl (K (fun z => by omega))
  have p1 : ¬ nI row.length ≤ 1 := p1
  rw [le_i, nI_toInt (by omega), e1] at p1
  have em : nI row.length - 1 = nI (row.length - 1) := pk_sub (a := row.length) (b := 1) (by omega)
  have cm : (nI row.length - 1).toNatClampNeg = row.length - 1 := by rw [em]; exact nI_clamp (by omega)
  (conv => whnf)
  refine And.intro (show vp_in (nI row.length - 1) 6 by rw [em]; exact vp_in_nI (by omega) (by decide)) ?_
  (conv => whnf)
  refine And.intro (show vp_in (gI m1 26104 (nI row.length - 1).toNatClampNeg) 40 by rw [cm, rl.1]; exact vp_in_nI (by omega) (by decide)) ?_
  (conv => whnf)
  refine And.intro (show vp_in (nI 0) 6 from vp_in_nI (by decide) (by decide)) ?_
  (conv => whnf)
  refine And.intro (show vp_in (gI m1 26104 0) 80 by rw [r0.1]; exact vp_in_nI (by omega) (by decide)) ?_
  (conv => whnf)
  have eq1 : gI m1 165384 (gI m1 26104 (nI row.length - 1).toNatClampNeg).toNatClampNeg = g last := by rw [cm, rl.1, nI_clamp (by omega)]; exact hX.2.2.2.2.2.2 last l3
  have eq2 : gI m1 329048 (gI m1 26104 0).toNatClampNeg = V.2 10 (row.getD 0 0) := by rw [r0.1, nI_clamp (by omega), r10]
  refine And.intro (fun p2 => ?_) (fun p2 => ?_)
  · have p2 : ¬ gI m1 165384 (gI m1 26104 (nI row.length - 1).toNatClampNeg).toNatClampNeg = gI m1 329048 (gI m1 26104 0).toNatClampNeg := p2
    rw [eq1, eq2] at p2
    exact And.intro rfl (K (fun z => p2 z.1))
  have p2 : gI m1 165384 (gI m1 26104 (nI row.length - 1).toNatClampNeg).toNatClampNeg = gI m1 329048 (gI m1 26104 0).toNatClampNeg := p2
  rw [eq1, eq2] at p2
  have eR : rnM (V.1 3) g (V.2 10 (row.getD 0 0)) (rnT V g st wy d.toInt) n row last = [row] := rnM_home ⟨p2, by omega⟩ n
  (conv => whnf)
  refine And.intro (fun p3 => ?_) (fun p3 => ?_)
  · have p3 : ¬ gI m1 1175 42 = 200 := p3
    have lt : L.length < 200 := by
      refine Nat.lt_of_le_of_ne hL.1 (fun z => p3 ?_)
      rw [hL.2, z]
      rfl
    (conv => whnf)
    refine And.intro rfl ?_
    refine gr_lay7 (m0 := m0) (m1 := m1) (L := L) (row := row) hS hF lt h6 (fun i hi => ⟨(hr i hi).1, by have := (hr i hi).2; omega⟩) (fun m' a b c => ?_) row.length 0 m1 (by omega) hS hF (fun i hi => (hr i hi).1) (fun i hi => absurd hi (Nat.not_lt_zero _))
    exact ⟨a, by rw [eR]; exact b, c⟩
  · have p3 : gI m1 1175 42 = 200 := p3
    have l200 : L.length = 200 := by
      rw [hL.2] at p3
      exact nI_inj (b := 200) (by omega) (by omega) p3
    (conv => whnf)
    refine And.intro (Or.inr rfl) ?_
    have SZ : St wGr m0 (sI m1 1175 47 1) := hS.fld (a := 1175) (k := 47) (v := 1) (by decide) (by decide) (by decide) (fun _ z => by omega)
    have key : GrQ V g st wy d.toInt m0 L n row last (sI m1 1175 47 1) := by
      refine ⟨SZ, ?_, fun i hi => ?_⟩
      · rw [eR]
        refine ⟨Or.inr ⟨by rw [List.length_append, l200]; show 200 < 200 + 1; decide, ?_, ?_⟩, fun i hi _ => ?_⟩
        · rw [gI_if, if_neg (fun z => absurd z.2 (by decide)), hL.2, l200]
        · rw [gI_if, if_pos ⟨rfl, rfl⟩]
        · rw [gL_l (by omega), gI_if, if_neg (fun z => absurd z.1 (by decide))]
          obtain ⟨l6, a, b⟩ := hF.2 i hi (by omega)
          refine ⟨l6, a, fun j hj => ?_⟩
          rw [gI_if, if_neg (fun z => absurd z.1 (by decide))]
          exact b j hj
      · rw [gI_if, if_neg (fun z => absurd z.1 (by decide))]
        exact (hr i hi).1
    exact key
/-! all that grows out of a row -/
set_option maxRecDepth 100000 in
set_option maxHeartbeats 16000000 in
theorem s_grows (hX0 : GX V g st wy k d m0) (hW : Wf V) (hG : GW (V.1 3) g) (k6 : k ≤ 6) (d0 : 0 ≤ d.toInt) (d4 : d.toInt ≤ 400) : ∀ (n : Nat) (row : List Nat) (last : Nat) (L : List (List Nat)) (m1 : MM), St wGr m0 m1 → MdS L m1 → row.length + n = k → 1 ≤ row.length → (∀ i, i < row.length → gI m1 26104 i = nI (row.getD i 0) ∧ row.getD i 0 < V.1 3) → row.getD (row.length - 1) 0 = last →
    CV (n + 2) mX7_grows [.ref 1175, .int (nI row.length)] m1 (GrQ V g st wy d.toInt m0 L n row last) := by
  have h40 := hW.1.2.2.2
  have e0 : (0 : Int32).toInt = 0 := rfl
  have e1 : (1 : Int32).toInt = 1 := rfl
  have c0 : (0 : Int32).toNatClampNeg = 0 := rfl
  intro n
  induction n with
  | zero =>
    intro row last L m1 hS hF hk h1 hr hl
    have hX := hX0.fr hS.2.2 (by decide +kernel)
    have l3 : last < V.1 3 := by rw [← hl]; exact (hr _ (by omega)).2
    have at110 : ¬ (g last = V.2 10 (row.getD 0 0) ∧ 2 ≤ row.length) → At (E0 (0 + 2)) mX7_grows (qv (GrQ V g st wy d.toInt m0 L 0 row last)) 110 [.ref 1175, .int (nI row.length), .null] [] m1 := by
      intro hn
      refine At.ls okGr 60 ⟨_, _, rfl⟩ ?_
      (conv => whnf)
      refine And.intro (fun p => ?_) (fun p => ?_)
      · have p : ¬ nI row.length = gI m1 1175 49 := p
        rw [hX.2.2.2.1, show row.length = k by omega] at p
        exact absurd rfl p
      · have key : GrQ V g st wy d.toInt m0 L 0 row last m1 := ⟨hS, by rw [rnM_0 hn, List.append_nil]; exact hF, fun i hi => (hr i hi).1⟩
        exact key
    exact gr_go7 hX hW hG (by omega) h1 hS hF hr hl l3 at110
  | succ n ih =>
    intro row last L m1 hS hF hk h1 hr hl
    have hX := hX0.fr hS.2.2 (by decide +kernel)
    have l3 : last < V.1 3 := by rw [← hl]; exact (hr _ (by omega)).2
    have r0 := hr 0 (by omega)
    have at110 : ¬ (g last = V.2 10 (row.getD 0 0) ∧ 2 ≤ row.length) → At (E0 (n + 1 + 2)) mX7_grows (qv (GrQ V g st wy d.toInt m0 L (n + 1) row last)) 110 [.ref 1175, .int (nI row.length), .null] [] m1 := by
      intro hn
      have lp : ∀ (j s : Nat) (m2 : MM), s + j = V.1 3 → St wGr m0 m2 → MdS (L ++ rnF (rnH V g st wy (V.2 10 (row.getD 0 0)) d.toInt n row) s) m2 → (∀ i, i < row.length → gI m2 26104 i = nI (row.getD i 0)) → At (E0 (n + 1 + 2)) mX7_grows (qv (GrQ V g st wy d.toInt m0 L (n + 1) row last)) 121 [.ref 1175, .int (nI row.length), .int (nI s)] [] m2 := by
        intro j
        induction j with
        | zero =>
          intro s m2 hs hS2 hF2 hr2
          have hX2 := hX0.fr hS2.2.2 (by decide +kernel)
          refine At.ls okGr 60 ⟨_, _, rfl⟩ ?_
          (conv => whnf)
          refine And.intro (fun p => ?_) (fun p => ?_)
          · have key : GrQ V g st wy d.toInt m0 L (n + 1) row last m2 := ⟨hS2, by rw [rnM_s hn, show V.1 3 = s by omega]; exact hF2, hr2⟩
            exact key
          · have p : ¬ gI m2 1175 6 ≤ nI s := p
            rw [hX2.1, le_i, nI_toInt (by omega), nI_toInt (by omega)] at p
            omega
        | succ j ihj =>
          intro s m2 hs hS2 hF2 hr2
          have hX2 := hX0.fr hS2.2.2 (by decide +kernel)
          have hv2 : vw m2 = V := hX2.2.2.2.2.2.1
          have vs : vp_in (nI s) 80 := vp_in_nI (by omega) (by decide)
          have sc : (nI s).toNatClampNeg = s := nI_clamp (by omega)
          have r15 : ∀ i, gI m2 329128 i = V.2 15 i := fun i => by rw [← hv2]; rfl
          have next : ∀ m3, St wGr m0 m3 → MdS (L ++ (rnF (rnH V g st wy (V.2 10 (row.getD 0 0)) d.toInt n row) s ++ rnH V g st wy (V.2 10 (row.getD 0 0)) d.toInt n row s)) m3 → (∀ i, i < row.length → gI m3 26104 i = nI (row.getD i 0)) → At (E0 (n + 1 + 2)) mX7_grows (qv (GrQ V g st wy d.toInt m0 L (n + 1) row last)) 121 [.ref 1175, .int (nI row.length), .int (nI s + 1)] [] m3 := by
            intro m3 hS3 hF3 hr3
            have z := ihj (s + 1) m3 (by omega) hS3 hF3 hr3
            rw [← nI_1] at z
            exact z
          refine At.ls okGr 120 ⟨_, _, rfl⟩ ?_
          (conv => whnf)
          refine And.intro (fun p => ?_) (fun p => ?_)
          · have p : gI m2 1175 6 ≤ nI s := p
            rw [hX2.1, le_i, nI_toInt (by omega), nI_toInt (by omega)] at p
            omega
          have hfit := s_fits (m := m2) (k := row.length) (s := s) (t := fun i => row.getD i 0) h1 (by omega) (by omega) (fun i hi => ⟨hr2 i hi, by have := (hr i hi).2; omega⟩)
          rw [hX2.2.1, hX2.2.2.1, hv2] at hfit
          have cg : fitP V (fun i => gI m2 165384 i) st wy (fun i => row.getD i 0) row.length s ↔ fitP V g st wy (fun i => row.getD i 0) row.length s := fitP_c2 (hX2.2.2.2.2.2.2 s (by omega)) (hX2.2.2.2.2.2.2 _ (by show row.getD (row.length - 1) 0 < V.1 3; rw [hl]; exact l3))
          (conv => whnf)
          refine ⟨2, (show 2 < n + 1 + 2 by omega), _, hfit, ?_⟩
          rintro r m3 ⟨hmm, hz⟩; have hmm := hmm.symm; subst hmm
          rw [z1_cg cg] at hz
          (conv => whnf)
          refine And.intro (fun q => ?_) (fun q => ?_)
          · rcases hz with ⟨y1, y2⟩ | ⟨y1, y2⟩
            · rw [y2] at q; exact absurd q (by decide)
            (conv => whnf)
            refine And.intro rfl (next m2 hS2 ?_ hr2)
            rw [rnH_n (fun u => y1 u.1), List.append_nil]
            exact hF2
          rcases hz with ⟨y1, y2⟩ | ⟨y1, y2⟩
          case inr => exact absurd y2 q
          have d15 : gI m2 329128 (nI s).toNatClampNeg - gI m2 329128 (gI m2 26104 0).toNatClampNeg = V.2 15 s - V.2 15 (row.getD 0 0) := by
            rw [sc, r15, r15, hr2 0 (by omega), nI_clamp (by omega)]
          have ds := (hW.2.2.2 s (by omega)).2.2.2.2.2.2.1
          have dr := (hW.2.2.2 (row.getD 0 0) r0.2).2.2.2.2.2.2.1
          have td : (V.2 15 s - V.2 15 (row.getD 0 0)).toInt = (V.2 15 s).toInt - (V.2 15 (row.getD 0 0)).toInt := tI_sub (by unfold i32lo; omega) (by unfold i32hi; omega)
          (conv => whnf)
          refine And.intro vs ?_
          (conv => whnf)
          refine And.intro (show vp_in (nI 0) 6 from vp_in_nI (by decide) (by decide)) ?_
          (conv => whnf)
          refine And.intro (show vp_in (gI m2 26104 0) 80 by rw [hr2 0 (by omega)]; exact vp_in_nI (by omega) (by decide)) ?_
          (conv => whnf)
          refine And.intro (fun q2 => ?_) (fun q2 => ?_)
          case refine_2 =>
            have q2 : ¬ gI m2 329128 (nI s).toNatClampNeg - gI m2 329128 (gI m2 26104 0).toNatClampNeg ≤ gI m2 1175 50 := q2
            rw [d15, hX2.2.2.2.2.1, le_i, td] at q2
            (conv => whnf)
            refine And.intro rfl (next m2 hS2 ?_ hr2)
            rw [rnH_n (fun u => q2 u.2), List.append_nil]
            exact hF2
          have q2 : gI m2 329128 (nI s).toNatClampNeg - gI m2 329128 (gI m2 26104 0).toNatClampNeg ≤ gI m2 1175 50 := q2
          rw [d15, hX2.2.2.2.2.1, le_i, td] at q2
          have ft : rnT V g st wy d.toInt row s := ⟨y1, q2⟩
          have SR : St wGr m0 (sI m2 26104 (nI row.length).toNatClampNeg (nI s)) := hS2.row (a := 26104) rfl (by decide) (show (0 : Int) ≤ _ by rw [nI_toInt (by omega)]; omega) (show _ ≤ (39 : Int) by rw [nI_toInt (by omega)]; omega)
          have FR : Fr [26104] m2 (sI m2 26104 (nI row.length).toNatClampNeg (nI s)) := Fr_sI (Fr_rfl _ _) (by rw [wk_row (by decide)]; decide) (fun _ z => by omega)
          have lc : (nI row.length).toNatClampNeg = row.length := nI_clamp (by omega)
          have cells : ∀ i, i < (row ++ [s]).length → gI (sI m2 26104 (nI row.length).toNatClampNeg (nI s)) 26104 i = nI ((row ++ [s]).getD i 0) ∧ (row ++ [s]).getD i 0 < V.1 3 := by
            intro i hi
            rw [len_r] at hi
            rw [gI_if, lc]
            by_cases z : i = row.length
            · rw [if_pos ⟨rfl, z⟩, z, gD_r]; exact ⟨rfl, by omega⟩
            · rw [if_neg (fun y => z y.2), gD_l (by omega)]; exact ⟨hr2 i (by omega), (hr i (by omega)).2⟩
          have hc : CV (n + 2) mX7_grows [.ref 1175, .int (nI row.length + 1)] (sI m2 26104 (nI row.length).toNatClampNeg (nI s)) (GrQ V g st wy d.toInt m0 (L ++ rnF (rnH V g st wy (V.2 10 (row.getD 0 0)) d.toInt n row) s) n (row ++ [s]) s) := by
            rw [show nI row.length + 1 = nI (row ++ [s]).length by rw [len_r, nI_1]]
            exact ih (row ++ [s]) s _ _ SR (hF2.fr FR (by decide)) (by rw [len_r]; omega) (by rw [len_r]; omega) cells (by rw [len_r, Nat.add_sub_cancel]; exact gD_r)
          (conv => whnf)
          refine And.intro (show vp_in (nI row.length) 6 from vp_in_nI (by omega) (by decide)) ?_
          (conv => whnf)
          refine ⟨n + 2, (show n + 2 < n + 1 + 2 by omega), _, hc, ?_⟩
          rintro m4 ⟨S4, F4, R4⟩
          (conv => whnf)
          refine And.intro rfl (next m4 S4 ?_ (fun i hi => ?_))
          · rw [rnH_y ft, ← List.append_assoc]
            rw [gD_l (by omega)] at F4
            exact F4
          · rw [R4 i (by rw [len_r]; omega), gD_l hi]
      refine At.ls okGr 60 ⟨_, _, rfl⟩ ?_
      (conv => whnf)
      refine And.intro (fun p => ?_) (fun p => ?_)
      · (conv => whnf)
        exact And.intro rfl (lp (V.1 3) 0 m1 (by omega) hS (by rw [show rnF _ 0 = [] from rfl, List.append_nil]; exact hF) (fun i hi => (hr i hi).1))
      · have p : nI row.length = gI m1 1175 49 := p
        rw [hX.2.2.2.1] at p
        have := nI_inj (by omega) (by omega) p
        omega
    exact gr_go7 hX hW hG (by omega) h1 hS hF hr hl l3 at110
end Gr
