/-! the finder's memory: rounds depend on the sales that there are alone -/
/-- alike as far as rounds ask -/
def rnQ (V V' : VW) : Prop := V'.1 3 = V.1 3 ∧ ∀ s, s < V.1 3 → V'.2 10 s = V.2 10 s ∧ V'.2 11 s = V.2 11 s ∧ V'.2 13 s = V.2 13 s ∧ V'.2 15 s = V.2 15 s ∧ V'.2 16 s = V.2 16 s
theorem rnO_cg {N : Nat} {fr fr' g g' : Nat → Int32} {hm : Int32} {cd cd' : Nat → Nat → Nat → Prop} (h1 : ∀ s, s < N → fr' s = fr s) (h2 : ∀ s, s < N → g' s = g s) (h3 : ∀ n a b, a < N → b < N → (cd' n a b ↔ cd n a b)) : ∀ n row last, (∀ i, i < row.length → row.getD i 0 < N) → last < N → rnO N fr' g' hm cd' n row last = rnO N fr g hm cd n row last
  | 0, row, last, _, hl => by
    show rnP _ _ = rnP _ _
    rw [h2 last hl]
  | n + 1, row, last, hr, hl => by
    show rnP _ _ ++ rnP _ _ = rnP _ _ ++ rnP _ _
    rw [h2 last hl]
    congr 1
    refine rnP_cg ⟨fun z => ⟨z.1, fun i hi => by rw [← h1 _ (hr i hi)]; exact z.2 i hi⟩, fun z => ⟨z.1, fun i hi => by rw [h1 _ (hr i hi)]; exact z.2 i hi⟩⟩ (fun _ => ?_)
    refine rnF_cg _ (fun s hs => rnP_cg (h3 n last s hl hs) (fun _ => ?_))
    exact rnO_cg h1 h2 h3 n (row ++ [s]) s (fun i hi => by
      rw [len_r] at hi
      by_cases z : i < row.length
      · rw [gD_l z]; exact hr i z
      · rw [show i = row.length by omega, gD_r]; exact hs) hs
theorem rnN_cg {N : Nat} {g g' : Nat → Int32} {hm : Int32} {lk lk' : Nat → Nat → Prop} {ok ok' : Nat → Prop} (h2 : ∀ s, s < N → g' s = g s) (h3 : ∀ a b, a < N → b < N → (lk' a b ↔ lk a b)) (h4 : ∀ s, s < N → (ok' s ↔ ok s)) : ∀ t s, s < N → (rnN N g' hm lk' ok' t s ↔ rnN N g hm lk ok t s)
  | 0, s, hs => by
    show (ok' s ∧ g' s = hm) ↔ (ok s ∧ g s = hm)
    rw [h2 s hs, h4 s hs]
  | t + 1, s, hs => by
    show (rnN N g' hm lk' ok' t s ∨ ∃ j, j < N ∧ lk' s j ∧ rnN N g' hm lk' ok' t j) ↔ (rnN N g hm lk ok t s ∨ ∃ j, j < N ∧ lk s j ∧ rnN N g hm lk ok t j)
    rw [rnN_cg h2 h3 h4 t s hs]
    constructor
    · rintro (z | ⟨j, j1, j2, j3⟩)
      · exact Or.inl z
      · exact Or.inr ⟨j, j1, (h3 s j hs j1).mp j2, (rnN_cg h2 h3 h4 t j j1).mp j3⟩
    · rintro (z | ⟨j, j1, j2, j3⟩)
      · exact Or.inl z
      · exact Or.inr ⟨j, j1, (h3 s j hs j1).mpr j2, (rnN_cg h2 h3 h4 t j j1).mpr j3⟩
theorem rnAC_cg {V V' : VW} {st wy : Int32} {k : Nat} {d : Int} (h : rnQ V V') : rnAC V' (V'.2 11) st wy k d = rnAC V (V.2 11) st wy k d := by
  obtain ⟨h3, hr⟩ := h
  have hK : ∀ s, s < V.1 3 → (rnK V' st wy s ↔ rnK V st wy s) := fun s hs => by
    obtain ⟨a, -, -, -, e⟩ := hr s hs
    unfold rnK
    rw [a, e]
  have hL : ∀ a b, a < V.1 3 → b < V.1 3 → (rnL V' (V'.2 11) st wy a b ↔ rnL V (V.2 11) st wy a b) := fun a b ha hb => by
    obtain ⟨a1, a2, a3, a4, a5⟩ := hr a ha
    obtain ⟨b1, b2, b3, b4, b5⟩ := hr b hb
    unfold rnL
    rw [hK a ha, hK b hb, b1, a2, b3, a3, b5, a5, a4, b4]
  unfold rnAC
  rw [h3]
  refine rnF_cg _ (fun s hs => rnP_cg (hK s hs) (fun _ => ?_))
  obtain ⟨a1, a2, a3, a4, a5⟩ := hr s hs
  rw [a1, a4]
  refine rnO_cg (fun s hs => (hr s hs).1) (fun s hs => (hr s hs).2.1) (fun n a b ha hb => ?_) (k - 1) [s] s (fun i hi => ?_) hs
  · unfold rnC
    rw [hL a b ha hb, h3, rnN_cg (fun s hs => (hr s hs).2.1) hL hK n b hb, (hr b hb).2.2.2.1]
  · have hi : i < 1 := hi
    rw [show i = 0 by omega]
    exact hs
/-- the finder's memory is right -/
def FMm (m : MM) : Prop := FM (vw m) m
theorem FMm.cg {W : List Nat} {m m' : MM} (h : FMm m) (hF : Fr W m m') (hW : fmFree W = true) (hv : rnQ (vw m) (vw m')) : FMm m' := by
  have h1 := FM.fr h hF hW
  intro hz
  rw [rnAC_cg hv]
  exact h1 hz
def fmR5 (W : List Nat) : Bool := !(elm 329048 W) && !(elm 329064 W) && !(elm 329096 W) && !(elm 329128 W) && !(elm 329144 W) && !(elm (wk 1175 6) W)
theorem rnQ_fr {W : List Nat} {m m' : MM} (hF : Fr W m m') (hW : fmR5 W = true) : rnQ (vw m) (vw m') := by
  unfold fmR5 at hW
  simp only [Bool.and_eq_true] at hW
  obtain ⟨⟨⟨⟨⟨w1, w2⟩, w3⟩, w4⟩, w5⟩, w6⟩ := hW
  refine ⟨?_, fun s _ => ⟨?_, ?_, ?_, ?_, ?_⟩⟩
  · show (gI m' 1175 6).toInt.toNat = (gI m 1175 6).toInt.toNat
    rw [fr1 hF (nelm6 w6 : ¬ wk 1175 6 ∈ W)]
  · show gI m' 329048 s = gI m 329048 s
    exact row1 hF rfl (elm_no w1)
  · show gI m' 329064 s = gI m 329064 s
    exact row1 hF rfl (elm_no w2)
  · show gI m' 329096 s = gI m 329096 s
    exact row1 hF rfl (elm_no w3)
  · show gI m' 329128 s = gI m 329128 s
    exact row1 hF rfl (elm_no w4)
  · show gI m' 329144 s = gI m 329144 s
    exact row1 hF rfl (elm_no w5)
def fmAll (W : List Nat) : Bool := fmFree W && fmR5 W
theorem FMm.fr {W : List Nat} {m m' : MM} (h : FMm m) (hF : Fr W m m') (hW : fmAll W = true) : FMm m' := by
  unfold fmAll at hW
  rw [Bool.and_eq_true] at hW
  exact h.cg hF hW.1 (rnQ_fr hF hW.2)
theorem FMm.none {m : MM} (h : gI m 49 13 = 0) : FMm m := fun z => absurd h z
