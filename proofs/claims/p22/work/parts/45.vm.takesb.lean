/-! takes of both -/
/-- the rounds that are asked for -/
noncomputable def rnL7 (m : MM) (wy k d : Int32) : List (List Nat) := rnAC (vw m) ((vw m).2 11) (gI m 1175 39) wy k.toNatClampNeg d.toInt
theorem gL_mem {L : List (List Nat)} {i : Nat} (h : i < L.length) : L.getD i [] ∈ L := by
  rw [List.getD_eq_getElem?_getD, List.getElem?_eq_getElem h]
  exact List.getElem_mem h
theorem L_row {m : MM} {wy k d : Int32} {i : Nat} (hA : AsP wy k d) (hi : i < (rnL7 m wy k d).length) : 2 ≤ ((rnL7 m wy k d).getD i []).length ∧ ((rnL7 m wy k d).getD i []).length ≤ 6 ∧ ∀ j, j < ((rnL7 m wy k d).getD i []).length → ((rnL7 m wy k d).getD i []).getD j 0 < (vw m).1 3 := by
  have hk := hA.2.1
  have y := rnAC_ok (V := vw m) (g := (vw m).2 11) (st := gI m 1175 39) (wy := wy) (k := k.toNatClampNeg) (d := d.toInt) (by rw [clamp_toNat]; omega) (gL_mem hi)
  have y2 := Nat.le_trans y.2.1 (show k.toNatClampNeg ≤ 6 by rw [clamp_toNat]; omega)
  exact ⟨y.1, y2, y.2.2⟩
/-- what gather leaves: not asked, too many, or the rounds -/
theorem ga_cs {wy k d r : Int32} {m m' : MM} (hM : Mok TYg m) (hF : FM (vw m) m) (h : (¬ AsP wy k d ∧ r = -1 ∧ m' = m) ∨ (AsP wy k d ∧ FnQ (vw m) (gI m 1175 39) wy k.toNatClampNeg d.toInt m r m')) :
    FmP m m' ∧ ((¬ AsP wy k d ∧ r = -1) ∨ (AsP wy k d ∧ 200 < (rnL7 m wy k d).length ∧ r = -2) ∨ (AsP wy k d ∧ (rnL7 m wy k d).length ≤ 200 ∧ r = nI (rnL7 m wy k d).length ∧ FS (rnL7 m wy k d) m' ∧ St wFn m m')) := by
  refine ⟨(ga_of hM hF h).1, ?_⟩
  rcases h with ⟨q1, q2, q3⟩ | ⟨q1, q2, q3, q4, q5⟩
  · exact Or.inl ⟨q1, q2⟩
  · unfold spR at q5
    by_cases y : 200 < (rnAC (vw m) ((vw m).2 11) (gI m 1175 39) wy k.toNatClampNeg d.toInt).length
    · rw [if_pos y] at q5
      exact Or.inr (Or.inl ⟨q1, y, q5⟩)
    · rw [if_neg y] at q5
      exact Or.inr (Or.inr ⟨q1, Nat.le_of_not_lt y, q5, q4, q2⟩)
def sumT (f : List Nat → Int32) (L : List (List Nat)) : Nat → Int64
  | 0 => 0
  | n + 1 => sumT f L n + (f (L.getD n [])).toInt64
/-- what is answered to takes -/
def TkR (m : MM) (wy k d : Int32) (r : Int64) : Prop := (¬ AsP wy k d ∧ r = -1) ∨ (AsP wy k d ∧ ((200 < (rnL7 m wy k d).length ∧ r = -2) ∨ ((rnL7 m wy k d).length ≤ 200 ∧ r = sumT (takP (vw m) (ckM (vw m) (gI m 1175 40)) (gI m 1175 40)) (rnL7 m wy k d) (rnL7 m wy k d).length)))
theorem TkR_1 {m : MM} {wy k d : Int32} {r1 r2 : Int64} (h1 : TkR m wy k d r1) (h2 : TkR m wy k d r2) : r1 = r2 := by
  rcases h1 with ⟨a, b⟩ | ⟨a, b⟩
  · rcases h2 with ⟨c, e⟩ | ⟨c, e⟩
    · rw [b, e]
    · exact absurd c a
  · rcases h2 with ⟨c, e⟩ | ⟨c, e⟩
    · exact absurd a c
    · rcases b with ⟨b1, b2⟩ | ⟨b1, b2⟩
      · rcases e with ⟨e1, e2⟩ | ⟨e1, e2⟩
        · rw [b2, e2]
        · omega
      · rcases e with ⟨e1, e2⟩ | ⟨e1, e2⟩
        · omega
        · rw [b2, e2]
theorem TkR_to {m m' : MM} {wy k d : Int32} {r : Int64} (hv : vw m' = vw m) (h39 : gI m' 1175 39 = gI m 1175 39) (h40 : gI m' 1175 40 = gI m 1175 40) (h : TkR m wy k d r) : TkR m' wy k d r := by
  unfold TkR rnL7
  rw [hv, h39, h40]
  exact h
set_option maxRecDepth 100000 in
set_option maxHeartbeats 8000000 in
theorem r_takes_336 {m : MM} {wy k d : Int32} (hM : Mok TYg m) (h : SB 336 m) (hc : m.2.2 = (336, 720)) (hF : FM (vw m) m) : CJ 11 mX6_takes [.ref 6, .int wy, .int k, .int d] m (fun r m' => FmP m m' ∧ TkR m wy k d r) := by
  obtain ⟨ff, g, c⟩ := m
  obtain rfl : c = (336, 720) := hc
  have hW := h.2.2.2.2.2
  have e0 : (0 : Int32).toInt = 0 := rfl
  have e1 : (-1 : Int32).toInt = -1 := rfl
  have e2 : (-2 : Int32).toInt = -2 := rfl
  refine At.gs okX6_takes 60 ?_
  (conv => whnf)
  refine ⟨10, by decide, _, r_gather_336 hM h rfl hF, ?_⟩
  rintro r m1 hq
  obtain ⟨P1, A1⟩ := ga_cs hM hF hq
  clear hq
  (conv => whnf)
  rcases A1 with ⟨a1, a2⟩ | ⟨a1, a2, a3⟩ | ⟨hA, hl, hr, hS, S1⟩
  · subst a2
    refine And.intro (fun q => absurd q (by decide)) (fun _ => ?_)
    exact ⟨P1, Or.inl ⟨a1, rfl⟩⟩
  · subst a3
    refine And.intro (fun q => absurd q (by decide)) (fun _ => ?_)
    exact ⟨P1, Or.inr ⟨a1, Or.inl ⟨a2, rfl⟩⟩⟩
  subst hr
  refine And.intro (fun _ => ?_) (fun q => absurd (show (0 : Int32) ≤ nI (rnL7 (ff, g, (336, 720)) wy k d).length by rw [le_i, e0, nI_toInt (by omega)]; omega) q)
  have h1 : SB 336 m1 := h.fr (by unfold isBk; omega) S1.2.2 (by decide +kernel)
  have hv1 : vw m1 = vw (ff, g, (336, 720)) := vw_fr S1.2.2 (by decide +kernel)
  have hc1 : m1.2.2 = (336, 720) := P1.1.2.1
  obtain ⟨f1, g1, c1⟩ := m1
  obtain rfl : c1 = (336, 720) := hc1
  have ru1 : gI (f1, g1, (336, 720)) 6 6 = gI (ff, g, (336, 720)) 1175 40 := (h1.2.2.2.2.1).trans (fr1 S1.2.2 (by decide))
  (conv => whnf)
  dsimp only
  (conv => whnf)
  refine ⟨4, by decide, _, r_missing_336 S1.1 h1, ?_⟩
  rintro mi m2 ⟨S2, hmi⟩
  rw [hv1, ru1] at hmi
  have P2 : FmP (ff, g, (336, 720)) m2 := P1.sc S2 (by decide) (by decide)
  have hS2 : FS (rnL7 (ff, g, (336, 720)) wy k d) m2 := hS.fr S2.2.2 (by decide)
  have h2 : SB 336 m2 := h1.fr (by unfold isBk; omega) S2.2.2 (by decide +kernel)
  have hv2 : vw m2 = vw (ff, g, (336, 720)) := (vw_fr S2.2.2 (by decide +kernel)).trans hv1
  have ru2 : gI m2 6 6 = gI (ff, g, (336, 720)) 1175 40 := (fr1 S2.2.2 (by decide)).trans ru1
  have hc2 : m2.2.2 = (336, 720) := P2.1.2.1
  clear hS h1 hv1 P1 S1 S2
  obtain ⟨f2, g2, c2⟩ := m2
  obtain rfl : c2 = (336, 720) := hc2
  have lp : ∀ (dd i : Nat) (sm : Int64), i + dd = (rnL7 (ff, g, (336, 720)) wy k d).length → sm = sumT (takP (vw (ff, g, (336, 720))) (ckM (vw (ff, g, (336, 720))) (gI (ff, g, (336, 720)) 1175 40)) (gI (ff, g, (336, 720)) 1175 40)) (rnL7 (ff, g, (336, 720)) wy k d) i → At (E0 11) mX6_takes (qj (fun r m' => FmP (ff, g, (336, 720)) m' ∧ TkR (ff, g, (336, 720)) wy k d r)) 37 [.ref 6, .int wy, .int k, .int d, .int (nI (rnL7 (ff, g, (336, 720)) wy k d).length), .int mi, .long sm, .null, .int (nI i)] [] (f2, g2, (336, 720)) := by
    intro dd
    induction dd with
    | zero =>
      intro i sm hi hs
      refine At.ls okX6_takes 60 ⟨_, _, rfl⟩ ?_
      (conv => whnf)
      refine And.intro (fun p => ?_) (fun p => ?_)
      · exact ⟨P2, Or.inr ⟨hA, Or.inr ⟨hl, by rw [hs, show i = (rnL7 (ff, g, (336, 720)) wy k d).length by omega]⟩⟩⟩
      · have p : ¬ nI (rnL7 (ff, g, (336, 720)) wy k d).length ≤ nI i := p
        rw [le_i, nI_toInt (by omega), nI_toInt (by omega)] at p
        omega
    | succ dd ih =>
      intro i sm hi hs
      have ic : (nI i).toNatClampNeg = i := nI_clamp (by omega)
      obtain ⟨y1, y2⟩ := hS2.2 i (by omega) (by omega)
      obtain ⟨w1, w2, w3⟩ := L_row (m := (ff, g, (336, 720))) hA (show i < (rnL7 (ff, g, (336, 720)) wy k d).length by omega)
      have vi : vp_in (nI i) 200 := vp_in_nI (by omega) (by decide)
      have hc : CI 3 mX0_takenBy [.ref 336, .long (gJ (f2, g2, (336, 720)) 819273 (nI i).toNatClampNeg), .int (gI (f2, g2, (336, 720)) 819288 (nI i).toNatClampNeg), .int mi, .int (gI (f2, g2, (336, 720)) 6 6)] (f2, g2, (336, 720)) (fun r m' => m' = (f2, g2, (336, 720)) ∧ r = takP (vw (ff, g, (336, 720))) (ckM (vw (ff, g, (336, 720))) (gI (ff, g, (336, 720)) 1175 40)) (gI (ff, g, (336, 720)) 1175 40) ((rnL7 (ff, g, (336, 720)) wy k d).getD i [])) := by
        rw [ic, y2, ru2]
        have z := r_taken_336 (m := (f2, g2, (336, 720))) (ms := mi) (ru := gI (ff, g, (336, 720)) 1175 40) P2.1.1 h2 y1 (by rw [hv2]; exact w3) (by omega) w2
        rw [hv2] at z
        refine CI.mono z (fun r m' hq => ⟨hq.1, ?_⟩)
        rw [hq.2, hmi]
        exact takP_cg (fun j hj => ck_eq hW (w3 j hj))
      refine At.ls okX6_takes 80 ⟨_, _, rfl⟩ ?_
      (conv => whnf)
      refine And.intro (fun p => ?_) (fun p => ?_)
      · have p : nI (rnL7 (ff, g, (336, 720)) wy k d).length ≤ nI i := p
        rw [le_i, nI_toInt (by omega), nI_toInt (by omega)] at p
        omega
      (conv => whnf)
      dsimp only
      (conv => whnf)
      refine And.intro vi ?_
      (conv => whnf)
      refine And.intro vi ?_
      (conv => whnf)
      refine ⟨3, by decide, _, hc, ?_⟩
      rintro r m' ⟨hmm, hq⟩; have hmm := hmm.symm; subst hmm
      (conv => whnf)
      have z := ih (i + 1) (sm + r.toInt64) (by omega) (by rw [hs, hq]; rfl)
      rw [← nI_1] at z
      exact And.intro rfl z
  (conv => whnf)
  exact And.intro rfl (lp (rnL7 (ff, g, (336, 720)) wy k d).length 0 0 (by omega) rfl)
set_option maxRecDepth 100000 in
set_option maxHeartbeats 8000000 in
theorem r_takes_720 {m : MM} {wy k d : Int32} (hM : Mok TYg m) (h : SB 720 m) (hc : m.2.2 = (720, 336)) (hF : FM (vw m) m) : CJ 11 mX6_takes [.ref 6, .int wy, .int k, .int d] m (fun r m' => FmP m m' ∧ TkR m wy k d r) := by
  obtain ⟨ff, g, c⟩ := m
  obtain rfl : c = (720, 336) := hc
  have hW := h.2.2.2.2.2
  have e0 : (0 : Int32).toInt = 0 := rfl
  have e1 : (-1 : Int32).toInt = -1 := rfl
  have e2 : (-2 : Int32).toInt = -2 := rfl
  refine At.gs okX6_takes 60 ?_
  (conv => whnf)
  refine ⟨10, by decide, _, r_gather_720 hM h rfl hF, ?_⟩
  rintro r m1 hq
  obtain ⟨P1, A1⟩ := ga_cs hM hF hq
  clear hq
  (conv => whnf)
  rcases A1 with ⟨a1, a2⟩ | ⟨a1, a2, a3⟩ | ⟨hA, hl, hr, hS, S1⟩
  · subst a2
    refine And.intro (fun q => absurd q (by decide)) (fun _ => ?_)
    exact ⟨P1, Or.inl ⟨a1, rfl⟩⟩
  · subst a3
    refine And.intro (fun q => absurd q (by decide)) (fun _ => ?_)
    exact ⟨P1, Or.inr ⟨a1, Or.inl ⟨a2, rfl⟩⟩⟩
  subst hr
  refine And.intro (fun _ => ?_) (fun q => absurd (show (0 : Int32) ≤ nI (rnL7 (ff, g, (720, 336)) wy k d).length by rw [le_i, e0, nI_toInt (by omega)]; omega) q)
  have h1 : SB 720 m1 := h.fr (by unfold isBk; omega) S1.2.2 (by decide +kernel)
  have hv1 : vw m1 = vw (ff, g, (720, 336)) := vw_fr S1.2.2 (by decide +kernel)
  have hc1 : m1.2.2 = (720, 336) := P1.1.2.1
  obtain ⟨f1, g1, c1⟩ := m1
  obtain rfl : c1 = (720, 336) := hc1
  have ru1 : gI (f1, g1, (720, 336)) 6 6 = gI (ff, g, (720, 336)) 1175 40 := (h1.2.2.2.2.1).trans (fr1 S1.2.2 (by decide))
  (conv => whnf)
  dsimp only
  (conv => whnf)
  refine ⟨4, by decide, _, r_missing_720 S1.1 h1, ?_⟩
  rintro mi m2 ⟨S2, hmi⟩
  rw [hv1, ru1] at hmi
  have P2 : FmP (ff, g, (720, 336)) m2 := P1.sc S2 (by decide) (by decide)
  have hS2 : FS (rnL7 (ff, g, (720, 336)) wy k d) m2 := hS.fr S2.2.2 (by decide)
  have h2 : SB 720 m2 := h1.fr (by unfold isBk; omega) S2.2.2 (by decide +kernel)
  have hv2 : vw m2 = vw (ff, g, (720, 336)) := (vw_fr S2.2.2 (by decide +kernel)).trans hv1
  have ru2 : gI m2 6 6 = gI (ff, g, (720, 336)) 1175 40 := (fr1 S2.2.2 (by decide)).trans ru1
  have hc2 : m2.2.2 = (720, 336) := P2.1.2.1
  clear hS h1 hv1 P1 S1 S2
  obtain ⟨f2, g2, c2⟩ := m2
  obtain rfl : c2 = (720, 336) := hc2
  have lp : ∀ (dd i : Nat) (sm : Int64), i + dd = (rnL7 (ff, g, (720, 336)) wy k d).length → sm = sumT (takP (vw (ff, g, (720, 336))) (ckM (vw (ff, g, (720, 336))) (gI (ff, g, (720, 336)) 1175 40)) (gI (ff, g, (720, 336)) 1175 40)) (rnL7 (ff, g, (720, 336)) wy k d) i → At (E0 11) mX6_takes (qj (fun r m' => FmP (ff, g, (720, 336)) m' ∧ TkR (ff, g, (720, 336)) wy k d r)) 37 [.ref 6, .int wy, .int k, .int d, .int (nI (rnL7 (ff, g, (720, 336)) wy k d).length), .int mi, .long sm, .null, .int (nI i)] [] (f2, g2, (720, 336)) := by
    intro dd
    induction dd with
    | zero =>
      intro i sm hi hs
      refine At.ls okX6_takes 60 ⟨_, _, rfl⟩ ?_
      (conv => whnf)
      refine And.intro (fun p => ?_) (fun p => ?_)
      · exact ⟨P2, Or.inr ⟨hA, Or.inr ⟨hl, by rw [hs, show i = (rnL7 (ff, g, (720, 336)) wy k d).length by omega]⟩⟩⟩
      · have p : ¬ nI (rnL7 (ff, g, (720, 336)) wy k d).length ≤ nI i := p
        rw [le_i, nI_toInt (by omega), nI_toInt (by omega)] at p
        omega
    | succ dd ih =>
      intro i sm hi hs
      have ic : (nI i).toNatClampNeg = i := nI_clamp (by omega)
      obtain ⟨y1, y2⟩ := hS2.2 i (by omega) (by omega)
      obtain ⟨w1, w2, w3⟩ := L_row (m := (ff, g, (720, 336))) hA (show i < (rnL7 (ff, g, (720, 336)) wy k d).length by omega)
      have vi : vp_in (nI i) 200 := vp_in_nI (by omega) (by decide)
      have hc : CI 3 mX0_takenBy [.ref 720, .long (gJ (f2, g2, (720, 336)) 819273 (nI i).toNatClampNeg), .int (gI (f2, g2, (720, 336)) 819288 (nI i).toNatClampNeg), .int mi, .int (gI (f2, g2, (720, 336)) 6 6)] (f2, g2, (720, 336)) (fun r m' => m' = (f2, g2, (720, 336)) ∧ r = takP (vw (ff, g, (720, 336))) (ckM (vw (ff, g, (720, 336))) (gI (ff, g, (720, 336)) 1175 40)) (gI (ff, g, (720, 336)) 1175 40) ((rnL7 (ff, g, (720, 336)) wy k d).getD i [])) := by
        rw [ic, y2, ru2]
        have z := r_taken_720 (m := (f2, g2, (720, 336))) (ms := mi) (ru := gI (ff, g, (720, 336)) 1175 40) P2.1.1 h2 y1 (by rw [hv2]; exact w3) (by omega) w2
        rw [hv2] at z
        refine CI.mono z (fun r m' hq => ⟨hq.1, ?_⟩)
        rw [hq.2, hmi]
        exact takP_cg (fun j hj => ck_eq hW (w3 j hj))
      refine At.ls okX6_takes 80 ⟨_, _, rfl⟩ ?_
      (conv => whnf)
      refine And.intro (fun p => ?_) (fun p => ?_)
      · have p : nI (rnL7 (ff, g, (720, 336)) wy k d).length ≤ nI i := p
        rw [le_i, nI_toInt (by omega), nI_toInt (by omega)] at p
        omega
      (conv => whnf)
      dsimp only
      (conv => whnf)
      refine And.intro vi ?_
      (conv => whnf)
      refine And.intro vi ?_
      (conv => whnf)
      refine ⟨3, by decide, _, hc, ?_⟩
      rintro r m' ⟨hmm, hq⟩; have hmm := hmm.symm; subst hmm
      (conv => whnf)
      have z := ih (i + 1) (sm + r.toInt64) (by omega) (by rw [hs, hq]; rfl)
      rw [← nI_1] at z
      exact And.intro rfl z
  (conv => whnf)
  exact And.intro rfl (lp (rnL7 (ff, g, (720, 336)) wy k d).length 0 0 (by omega) rfl)
theorem and0 (x : Int32) : x &&& 0 = 0 := by
  apply Int32.toBitVec_inj.mp
  rw [Int32.toBitVec_and]
  show x.toBitVec &&& 0#32 = 0#32
  exact BitVec.and_zero
set_option maxRecDepth 100000 in
set_option maxHeartbeats 8000000 in
theorem s_allTakes {m : MM} {mb tb : Int32} {L : List (List Nat)} (hM : Mok TYg m) (hW : Wf (vw m)) (hF : MdS L m) (hl : L.length ≤ 200) (hr : ∀ i, i < L.length → 2 ≤ (L.getD i []).length ∧ (L.getD i []).length ≤ 6 ∧ ∀ j, j < (L.getD i []).length → (L.getD i []).getD j 0 < (vw m).1 3) : CJ 6 mX7_allTakes [.ref 1175, .int 0, .int mb, .int tb] m (fun r m' => m' = m ∧ r = sumT (takP (vw m) (ckM (vw m) mb) tb) L L.length) := by
  have h40 := hW.1.2.2.2
  have e42 : gI m 1175 42 = nI L.length := Or.elim hF.1 (fun q => q.2.1) (fun q => absurd q.1 (by omega))
  have lp : ∀ (dd i : Nat) (sm : Int64), i + dd = L.length → sm = sumT (takP (vw m) (ckM (vw m) mb) tb) L i → At (E0 6) mX7_allTakes (qj (fun r m' => m' = m ∧ r = sumT (takP (vw m) (ckM (vw m) mb) tb) L L.length)) 6 [.ref 1175, .int 0, .int mb, .int tb, .long sm, .null, .int (nI i)] [] m := by
    intro dd
    induction dd with
    | zero =>
      intro i sm hi hs
      refine At.ls okX7_allTakes 60 ⟨_, _, rfl⟩ ?_
      (conv => whnf)
      refine And.intro (fun p => ?_) (fun p => ?_)
      · exact ⟨rfl, by rw [hs, show i = L.length by omega]⟩
      · have p : ¬ gI m 1175 42 ≤ nI i := p
        rw [e42, le_i, nI_toInt (by omega), nI_toInt (by omega)] at p
        omega
    | succ dd ih =>
      intro i sm hi hs
      obtain ⟨w1, w2, w3⟩ := hr i (by omega)
      have hRo : RoM m i (L.getD i []) := hF.2 i (by omega) (by omega)
      refine At.ls okX7_allTakes 80 ⟨_, _, rfl⟩ ?_
      (conv => whnf)
      refine And.intro (fun p => ?_) (fun p => ?_)
      · have p : gI m 1175 42 ≤ nI i := p
        rw [e42, le_i, nI_toInt (by omega), nI_toInt (by omega)] at p
        omega
      (conv => whnf)
      refine ⟨1, by decide, _, s_firmsOf (i := i) (by omega) hRo (fun j hj => by have := w3 j hj; omega), ?_⟩
      rintro r1 m' ⟨hmm, -⟩; have hmm := hmm.symm; subst hmm
      (conv => whnf)
      refine And.intro (fun _ => ?_) (fun q => absurd (and0 r1) q)
      (conv => whnf)
      refine ⟨5, by decide, _, s_takesOf (i := i) (mb := mb) (tb := tb) hM hW (by omega) hRo (by omega) w3, ?_⟩
      rintro r m' ⟨hmm, hq⟩; have hmm := hmm.symm; subst hmm
      (conv => whnf)
      have z := ih (i + 1) (sm + r.toInt64) (by omega) (by rw [hs, hq]; rfl)
      rw [← nI_1] at z
      exact And.intro rfl z
  refine At.gs okX7_allTakes 60 ?_
  (conv => whnf)
  exact And.intro rfl (lp L.length 0 0 (by omega) rfl)
/-- the beginning of all of the model's that seek rounds: thrown, asked -/
theorem sk_of {m m1 : MM} {wy k d : Int32} (hA : AsP wy k d) (hM : Mok TYg m1) (hv : vw m1 = vw m) (h39 : gI m1 1175 39 = gI m 1175 39) (hW : Wf (vw m)) : CV 9 mX7_seeksNow [.ref 1175, .int wy, .int k, .int d] m1 (fun m' => St wSn m1 m' ∧ MdS (rnL7 m wy k d) m') := by
  have ek : k = nI k.toNatClampNeg := nI_back (by rw [clamp_toNat]; have := hA.2.1; omega)
  have hc := s_seeksNow (m := m1) (wy := wy) (d := d) (k := k.toNatClampNeg) hM (by rw [hv]; exact hW) (by rw [clamp_toNat]; have := hA.2.1; omega) (by rw [clamp_toNat]; have := hA.2.1; omega) hA.2.2.1 hA.2.2.2
  rw [← ek, hv, h39, ← rn_all] at hc
  exact hc
set_option maxRecDepth 100000 in
set_option maxHeartbeats 4000000 in
theorem s_takes {m : MM} {wy k d : Int32} (hM : Mok TYg m) (hW : Wf (vw m)) : CJ 10 mX7_takes [.ref 1175, .int wy, .int k, .int d] m (fun r m' => St wRo m m' ∧ TkR m wy k d r) := by
  have S0 := St_z7 hM
  refine At.gs okX7_takes 60 ?_
  (conv => whnf)
  refine ⟨1, by decide, _, s_isAsked (m := sI m 1175 0 0), ?_⟩
  rintro r m1 ⟨hmm, hz⟩; have hmm := hmm.symm; subst hmm
  (conv => whnf)
  refine And.intro (fun q => ?_) (fun q => ?_)
  case refine_2 =>
    have q : r = 0 := q
    rcases hz with ⟨y1, y2⟩ | ⟨y1, y2⟩
    · rw [y2] at q; exact absurd q (by decide)
    · exact ⟨S0, Or.inl ⟨y1, rfl⟩⟩
  have q : ¬ r = 0 := q
  rcases hz with ⟨hA, y2⟩ | ⟨y1, y2⟩
  case inr => exact absurd y2 q
  (conv => whnf)
  refine ⟨9, by decide, _, sk_of (m := m) (m1 := sI m 1175 0 0) hA S0.1 vw_z rfl hW, ?_⟩
  rintro m2 ⟨S2, F2⟩
  have T2 : St wRo m m2 := S0.tr S2 (by decide)
  have hv2 : vw m2 = vw m := vw_fr T2.2.2 (by decide +kernel)
  have r40 : gI m2 1175 40 = gI m 1175 40 := fr1 T2.2.2 (by decide)
  have sp := spM F2
  (conv => whnf)
  refine And.intro (fun p => ?_) (fun p => ?_)
  · have p : gI m2 1175 47 = 0 := p
    rcases sp with ⟨a, b, c⟩ | ⟨a, b, c⟩
    · have hc := s_allTakes (m := m2) (mb := gI m2 1175 40) (tb := gI m2 1175 40) T2.1 (by rw [hv2]; exact hW) F2 c (fun i hi => by rw [hv2]; exact L_row hA hi)
      rw [hv2] at hc
      (conv => whnf)
      refine ⟨6, by decide, _, hc, ?_⟩
      rintro r3 m3 ⟨hmm, hq⟩; have hmm := hmm.symm; subst hmm
      exact ⟨T2, Or.inr ⟨hA, Or.inr ⟨c, by rw [hq, r40]⟩⟩⟩
    · rw [a] at p; exact absurd p (by decide)
  · have p : ¬ gI m2 1175 47 = 0 := p
    rcases sp with ⟨a, b, c⟩ | ⟨a, b, c⟩
    · exact absurd a p
    · exact ⟨T2, Or.inr ⟨hA, Or.inl ⟨c, rfl⟩⟩⟩
