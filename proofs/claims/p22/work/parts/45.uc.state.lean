/-! what stands between two calls: the class's book beside the model's first rows -/
/-- counts (lands, goods, firms, sales) and rows -/
abbrev VW : Type := (Nat → Nat) × (Nat → Nat → Int32)
def cntM (k : Nat) : Nat := match k with
  | 0 => 3
  | 1 => 4
  | 2 => 5
  | _ => 6
def rowsN : List Nat := [42168, 42184, 34008, 99560, 99576, 99592, 99608, 99624, 99640, 99659, 329048, 329064, 329080, 329096, 329112, 329128, 329144]
def rowN (r : Nat) : Nat := rowsN.getD r 42168
theorem rowN_M : ∀ r, r < 17 → rowN r = rowM r := by decide +kernel
theorem rowN_in (r : Nat) : rowN r ∈ rowsN := by
  by_cases h : r < 17
  · have : ∀ r, r < 17 → rowN r ∈ rowsN := by decide +kernel
    exact this r h
  · have e : rowN r = 42168 := by
      unfold rowN rowsN
      rw [List.getD_eq_getElem?_getD, List.getElem?_eq_none (by show 17 ≤ r; omega)]
      rfl
    rw [e]
    decide
theorem rowsN_8 : ∀ a ∈ rowsN, Nat.ble 8 (a % 16) = true := by decide +kernel
def vw (m : MM) : VW := (fun k => (gI m 1175 (cntM k)).toInt.toNat, fun r i => gI m (rowN r) i)
def vFree (W : List Nat) : Bool := rowsN.all (fun a => !(elm a W)) && [3, 4, 5, 6].all (fun k => !(elm (wk 1175 k) W))
theorem cntM_in (k : Nat) : cntM k ∈ [3, 4, 5, 6] := by
  unfold cntM
  split <;> decide
theorem elm_no {a : Nat} {W : List Nat} (h : (!(elm a W)) = true) : elm a W = false := by
  cases hq : elm a W with
  | false => rfl
  | true => rw [hq] at h; cases h
theorem vw_fr {W : List Nat} {m m' : MM} (hF : Fr W m m') (hW : vFree W = true) : vw m' = vw m := by
  unfold vFree at hW
  rw [Bool.and_eq_true, List.all_eq_true, List.all_eq_true] at hW
  unfold vw
  have h1 : (fun k => (gI m' 1175 (cntM k)).toInt.toNat) = (fun k => (gI m 1175 (cntM k)).toInt.toNat) := by
    funext k
    rw [fr1 hF (nelm6 (hW.2 _ (cntM_in k)))]
  have h2 : (fun r i => gI m' (rowN r) i) = (fun r i => gI m (rowN r) i) := by
    funext r i
    exact row1 hF (rowsN_8 _ (rowN_in r)) (elm_no (hW.1 _ (rowN_in r)))
  rw [h1, h2]
/-- numbers are what a book may hold -/
def Wf (V : VW) : Prop := (V.1 0 ≤ 5 ∧ V.1 1 ≤ 4 ∧ V.1 2 ≤ 12 ∧ V.1 3 ≤ 40) ∧ (∀ l, l < V.1 0 → 0 ≤ (V.2 1 l).toInt ∧ (V.2 1 l).toInt ≤ 40) ∧
  (∀ f, f < V.1 2 → (0 ≤ (V.2 4 f).toInt ∧ (V.2 4 f).toInt < V.1 0) ∧ (0 ≤ (V.2 5 f).toInt ∧ (V.2 5 f).toInt ≤ 400) ∧ (0 ≤ (V.2 8 f).toInt ∧ (V.2 8 f).toInt ≤ 999999)) ∧
  (∀ s, s < V.1 3 → (0 ≤ (V.2 10 s).toInt ∧ (V.2 10 s).toInt < V.1 2) ∧ (0 ≤ (V.2 11 s).toInt ∧ (V.2 11 s).toInt < V.1 2) ∧ V.2 10 s ≠ V.2 11 s ∧ (1 ≤ (V.2 12 s).toInt ∧ (V.2 12 s).toInt ≤ 999) ∧ (0 ≤ (V.2 13 s).toInt ∧ (V.2 13 s).toInt < V.1 1) ∧ (1 ≤ (V.2 14 s).toInt ∧ (V.2 14 s).toInt ≤ 999) ∧ (0 ≤ (V.2 15 s).toInt ∧ (V.2 15 s).toInt ≤ 400) ∧ (0 ≤ (V.2 16 s).toInt ∧ (V.2 16 s).toInt ≤ 99))
/-- the class's book bk beside the model -/
def SB (bk : Nat) (m : MM) : Prop := (∀ k, k < 4 → gI m (cntC bk k) (cntF k) = gI m 1175 (cntM k)) ∧
  (∀ r, r < 17 → r ≠ 9 → ∀ i, i < (vw m).1 (own r) → gI m (rowC bk r) i = (vw m).2 r i) ∧
  (gI m (cntC bk 3) 8).toInt = (gI m 1175 6).toInt - (gI m 1175 7).toInt ∧ gI m 6 5 = gI m 1175 39 ∧ gI m 6 6 = gI m 1175 40 ∧ Wf (vw m)
def sFree (bk : Nat) (W : List Nat) : Bool := vFree W && bkFree bk W && !(elm (wk (cntC bk 3) 8) W) && !(elm (wk 1175 7) W) && !(elm (wk 6 5) W) && !(elm (wk 6 6) W) && !(elm (wk 1175 39) W) && !(elm (wk 1175 40) W)
theorem SB.fr {bk : Nat} {W : List Nat} {m m' : MM} (h : SB bk m) (hb : isBk bk) (hF : Fr W m m') (hW : sFree bk W = true) : SB bk m' := by
  unfold sFree bkFree at hW
  simp only [Bool.and_eq_true] at hW
  obtain ⟨⟨⟨⟨⟨⟨⟨w1, w2, w3⟩, w4⟩, w5⟩, w6⟩, w7⟩, w8⟩, w9⟩ := hW
  rw [List.all_eq_true] at w2 w3
  obtain ⟨h1, h2, h3, h4, h5, h6⟩ := h
  have hv := vw_fr hF w1
  have w1b := w1
  unfold vFree at w1b
  rw [Bool.and_eq_true, List.all_eq_true, List.all_eq_true] at w1b
  have hc : ∀ k, gI m' 1175 (cntM k) = gI m 1175 (cntM k) := fun k => fr1 hF (nelm6 (w1b.2 _ (cntM_in k)))
  refine ⟨fun k hk => ?_, fun r hr h9 i hi => ?_, ?_, ?_, ?_, by rw [hv]; exact h6⟩
  · rw [fr1 hF (nelm6 (w3 k (List.mem_range.mpr hk))), hc k]
    exact h1 k hk
  · rw [hv] at hi ⊢
    rw [row1 hF (rowC_8 hb r hr) (elm_no (w2 r (List.mem_range.mpr hr)))]
    exact h2 r hr h9 i hi
  · have e6 : gI m' 1175 6 = gI m 1175 6 := hc 3
    rw [fr1 hF (nelm6 w4), e6, fr1 hF (nelm6 w5 : ¬ wk 1175 7 ∈ W)]
    exact h3
  · rw [fr1 hF (nelm6 w6 : ¬ wk 6 5 ∈ W), fr1 hF (nelm6 w8 : ¬ wk 1175 39 ∈ W)]
    exact h4
  · rw [fr1 hF (nelm6 w7 : ¬ wk 6 6 ∈ W), fr1 hF (nelm6 w9 : ¬ wk 1175 40 ∈ W)]
    exact h5
/-- bits of the first n places -/
def areP (a : Int32) (n : Nat) : Prop := 0 ≤ a.toInt ∧ a.toInt < ((2 ^ n : Nat) : Int)
/-- those stopped are firms, the rule is in lands -/
def ST (m : MM) : Prop := areP (gI m 1175 39) ((vw m).1 2) ∧ areP (gI m 1175 40) ((vw m).1 0)
theorem ST.fr {W : List Nat} {m m' : MM} (h : ST m) (hF : Fr W m m') (hW : [3, 5, 39, 40].all (fun k => !(elm (wk 1175 k) W)) = true) : ST m' := by
  rw [List.all_eq_true] at hW
  have e : ∀ k ∈ [3, 5, 39, 40], gI m' 1175 k = gI m 1175 k := fun k hk => fr1 hF (nelm6 (hW k hk))
  have e5 : (vw m').1 2 = (vw m).1 2 := by
    show (gI m' 1175 5).toInt.toNat = (gI m 1175 5).toInt.toNat
    rw [e 5 (by decide)]
  have e3 : (vw m').1 0 = (vw m).1 0 := by
    show (gI m' 1175 3).toInt.toNat = (gI m 1175 3).toInt.toNat
    rw [e 3 (by decide)]
  unfold ST
  rw [e5, e3, e 39 (by decide), e 40 (by decide)]
  exact h
/-- joined, by the model's rows -/
def joV (V : VW) : Nat → Nat → Prop := joP (V.2 6) (V.2 7)
/-- the party row of book bk holds the labels -/
def PTb (bk : Nat) (m : MM) : Prop := ∃ p : Nat → Nat, LabOn (joV (vw m)) ((vw m).1 2) p ∧ ∀ f, f < (vw m).1 2 → gI m (rowP bk) f = nI (p f)
def PT (m : MM) : Prop := PTb m.2.2.1 m
theorem PTb.cg {bk : Nat} {m m' : MM} (h : PTb bk m) (hn : (vw m').1 2 = (vw m).1 2) (h6 : ∀ i, i < (vw m).1 2 → (vw m').2 6 i = (vw m).2 6 i) (h7 : ∀ i, i < (vw m).1 2 → (vw m').2 7 i = (vw m).2 7 i) (hp : ∀ i, i < (vw m).1 2 → gI m' (rowP bk) i = gI m (rowP bk) i) : PTb bk m' := by
  obtain ⟨p, q1, q2⟩ := h
  refine ⟨p, ?_, fun f hf => ?_⟩
  · rw [hn]
    exact LabOn.cg q1 (fun a b ha hb => joP_cg (h6 a ha).symm (h6 b hb).symm (h7 a ha).symm (h7 b hb).symm) (fun f _ => rfl)
  · rw [hn] at hf
    rw [hp f hf]
    exact q2 f hf
def pFree (W : List Nat) : Bool := !(elm 99608 W) && !(elm 99624 W) && !(elm (wk 1175 5) W) && !(elm 49848 W) && !(elm 50232 W)
theorem PT.fr {W : List Nat} {m m' : MM} (h : PT m) (hc : m.2.2 = cA ∨ m.2.2 = cB) (e : m'.2.2 = m.2.2) (hF : Fr W m m') (hW : pFree W = true) : PT m' := by
  unfold pFree at hW
  simp only [Bool.and_eq_true] at hW
  obtain ⟨⟨⟨⟨w6, w7⟩, w5⟩, wa⟩, wb⟩ := hW
  unfold PT at h ⊢
  rw [e]
  refine h.cg ?_ (fun i _ => ?_) (fun i _ => ?_) (fun i _ => ?_)
  · show (gI m' 1175 5).toInt.toNat = (gI m 1175 5).toInt.toNat
    rw [fr1 hF (nelm6 w5 : ¬ wk 1175 5 ∈ W)]
  · show gI m' 99608 i = gI m 99608 i
    exact row1 hF (by decide) (elm_no w6)
  · show gI m' 99624 i = gI m 99624 i
    exact row1 hF (by decide) (elm_no w7)
  · rcases hc with q | q
    · rw [q]
      show gI m' 49848 i = gI m 49848 i
      exact row1 hF (by decide) (elm_no wa)
    · rw [q]
      show gI m' 50232 i = gI m 50232 i
      exact row1 hF (by decide) (elm_no wb)
/-- labels of the class's rows are labels of the model's, where the rows are alike -/
theorem PTb.of {bk n : Nat} {m : MM} (hS : SB bk m) (h : LbC bk n m) (hn : (vw m).1 2 = n) : PTb bk m := by
  obtain ⟨p, q1, q2⟩ := h
  have e6 : ∀ i, i < n → gI m (rowC bk 6) i = (vw m).2 6 i := fun i hi => hS.2.1 6 (by decide) (by decide) i (by show i < (vw m).1 2; omega)
  have e7 : ∀ i, i < n → gI m (rowC bk 7) i = (vw m).2 7 i := fun i hi => hS.2.1 7 (by decide) (by decide) i (by show i < (vw m).1 2; omega)
  refine ⟨p, ?_, fun f hf => q2 f (by omega)⟩
  rw [hn]
  exact LabOn.cg q1 (fun a b ha hb => joP_cg (hd := fun k => gI m (rowC bk 6) k) (rm := fun k => gI m (rowC bk 7) k) (e6 a ha) (e6 b hb) (e7 a ha) (e7 b hb)) (fun f _ => rfl)
/-- the book that is now, those stopped, the rule, the parties -/
def SR (m : MM) : Prop := SB m.2.2.1 m ∧ ST m ∧ PT m
def sRF (W : List Nat) : Bool := sFree 336 W && sFree 720 W && pFree W
theorem SR.fr {W : List Nat} {m m' : MM} (h : SR m) (hc : m.2.2 = cA ∨ m.2.2 = cB) (e : m'.2.2 = m.2.2) (hF : Fr W m m') (hW : sRF W = true) : SR m' := by
  unfold sRF at hW
  rw [Bool.and_eq_true, Bool.and_eq_true] at hW
  obtain ⟨⟨hW1, hW2⟩, hW3⟩ := hW
  have hq := hW1
  unfold sFree vFree at hq
  simp only [Bool.and_eq_true] at hq
  obtain ⟨⟨⟨⟨⟨⟨⟨⟨-, w1⟩, -⟩, -⟩, -⟩, -⟩, -⟩, w8⟩, w9⟩ := hq
  rw [List.all_eq_true] at w1
  refine ⟨?_, h.2.1.fr hF ?_, h.2.2.fr hc e hF hW3⟩
  · have h := h.1
    rw [e]
    rcases hc with q | q
    · rw [q] at h ⊢
      exact SB.fr h (Or.inl rfl) hF hW1
    · rw [q] at h ⊢
      exact SB.fr h (Or.inr rfl) hF hW2
  · rw [List.all_eq_true]
    intro k hk
    simp only [List.mem_cons, List.not_mem_nil, or_false] at hk
    rcases hk with rfl | rfl | rfl | rfl
    · exact w1 3 (by decide)
    · exact w1 5 (by decide)
    · exact w8
    · exact w9
/-- counts as numbers -/
theorem vw_n {m : MM} {k : Nat} (hM : Mok TYg m) : (gI m 1175 (cntM k)).toInt = (vw m).1 k := by
  have h : 0 ≤ (gI m 1175 (cntM k)).toInt := by
    rcases (List.mem_cons.mp (cntM_in k)) with q | q
    · rw [q]; exact (hM.1 1175 3).1
    · rcases (List.mem_cons.mp q) with q | q
      · rw [q]; exact (hM.1 1175 4).1
      · rcases (List.mem_cons.mp q) with q | q
        · rw [q]; exact (hM.1 1175 5).1
        · rw [List.mem_singleton.mp q]; exact (hM.1 1175 6).1
  show _ = (((gI m 1175 (cntM k)).toInt.toNat : Nat) : Int)
  omega
/-- what a book that is read leaves on both sides -/
theorem SB_book {bk : Nat} {B : TB} {m1 m : MM} (hw : WfS B) (h1 : BkI bk B m1) (hb : isBk bk) (hF : ∀ r, r < 17 → ∀ i, gI m (rowC bk r) i = gI m1 (rowC bk r) i) (hC : ∀ k, k < 4 → gI m (cntC bk k) (cntF k) = gI m1 (cntC bk k) (cntF k)) (h2 : MoN B m)
    (h3 : gI m (cntC bk 3) 8 = 0) (h4 : gI m 1175 7 = gI m 1175 6) (h5 : gI m 6 5 = gI m 1175 39) (h6 : gI m 6 6 = gI m 1175 40) : SB bk m := by
  have c : ∀ k, k < 4 → (gI m 1175 (cntM k)).toInt = B.1 k := fun k hk => by
    have := h2.1 k hk
    rcases (by omega : k = 0 ∨ k = 1 ∨ k = 2 ∨ k = 3) with rfl | rfl | rfl | rfl <;> exact this
  have cn : ∀ k, k < 4 → (vw m).1 k = B.1 k := fun k hk => by
    show (gI m 1175 (cntM k)).toInt.toNat = B.1 k
    rw [c k hk]; omega
  have rw' : ∀ r, r < 17 → r ≠ 9 → ∀ i, i < B.1 (own r) → ((vw m).2 r i).toInt = B.2 r i := fun r hr h9 i hi => by
    show (gI m (rowN r) i).toInt = _
    rw [rowN_M r hr]
    exact h2.2 r hr h9 i hi
  obtain ⟨ok1, ok2, ok3, ok4, -⟩ := h1.2.2
  refine ⟨fun k hk => Int32.toInt_inj.mp ?_, fun r hr h9 i hi => Int32.toInt_inj.mp ?_, ?_, h5, h6, ?_⟩
  · rw [hC k hk, h1.1 k hk, c k hk]
  · rw [cn _ (own_4 r)] at hi
    rw [hF r hr, h1.2.1 r hr i hi, rw' r hr h9 i hi]
  · rw [h3, h4]
    have : (0 : Int32).toInt = 0 := rfl
    omega
  · refine ⟨⟨?_, ?_, ?_, ?_⟩, fun l hl => ?_, fun f hf => ?_, fun s hs => ?_⟩
    · rw [cn 0 (by omega)]; exact ok1
    · rw [cn 1 (by omega)]; exact ok2
    · rw [cn 2 (by omega)]; exact ok3
    · rw [cn 3 (by omega)]; omega
    · rw [cn 0 (by omega)] at hl
      rw [rw' 1 (by omega) (by omega) l hl]
      exact hw.1 l hl
    · rw [cn 2 (by omega)] at hf
      rw [rw' 4 (by omega) (by omega) f hf, rw' 5 (by omega) (by omega) f hf, rw' 8 (by omega) (by omega) f hf, cn 0 (by omega)]
      exact hw.2.1 f hf
    · rw [cn 3 (by omega)] at hs
      have y := hw.2.2 s hs
      have e10 := rw' 10 (by omega) (by omega) s hs
      have e11 := rw' 11 (by omega) (by omega) s hs
      rw [e10, e11, rw' 12 (by omega) (by omega) s hs, rw' 13 (by omega) (by omega) s hs, rw' 14 (by omega) (by omega) s hs, rw' 15 (by omega) (by omega) s hs, rw' 16 (by omega) (by omega) s hs, cn 1 (by omega), cn 2 (by omega)]
      refine ⟨y.1, y.2.1, fun z => y.2.2.1 ?_, y.2.2.2⟩
      rw [← e10, ← e11, z]
