/-! book of the model -/
def wB7 : List Nat := wBk ++ wLi
def wB0 : List Nat := [7, 4294968471, 133143987351, 12884903063, 137438954647, 154618823831, 158913791127, 111669150871, 115964118167, 120259085463, 124554052759, 128849020055]
def Bk7 (b : BT) (m : MM) (n : Int32) (r : Int32) (m' : MM) : Prop :=
  Mok TYg m' ∧ m'.2.2 = m.2.2 ∧ Fr wB7 m m' ∧ ((¬ (0 ≤ n.toInt ∧ n.toInt ≤ (gI m 1175 2).toInt) ∧ r = -2 ∧ m' = sI m 1175 0 0) ∨
  ((0 ≤ n.toInt ∧ n.toInt ≤ (gI m 1175 2).toInt) ∧ gI m' 1175 2 = 0 ∧
    ((∃ er, readS b n.toInt.toNat = .inl er ∧ r = -1 ∧ (gI m' 1175 37).toInt = er.1 ∧ (gI m' 1175 38).toInt = er.2 ∧ KeepM m m') ∨
     (∃ x, readS b n.toInt.toNat = .inr x ∧ r.toInt = x.2 ∧ gI m' 1175 37 = 0 ∧ gI m' 1175 38 = -1 ∧ MoN x.1 m' ∧ gI m' 1175 7 = gI m' 1175 6 ∧ gI m' 1175 39 = 0 ∧ gI m' 1175 40 = 0))))
section Bo
variable {b : BT} {e : Nat} {m : MM} {n : Int32} {c : Nat × Nat}
def BoI (m : MM) (m1 : MM) : Prop := St wB7 m m1 ∧ gI m1 1175 2 = 0 ∧ KeepM m m1
set_option maxRecDepth 100000 in
set_option maxHeartbeats 4000000 in
theorem boDead {er : Nat × Nat} {m1 : MM} (hn : 0 ≤ n.toInt ∧ n.toInt ≤ (gI m 1175 2).toInt) (h : BoI m m1) (hx : Sx b e (.inl er) m1) (hR : readS b n.toInt.toNat = .inl er) : At (E0 9) mX7_book (qi (Bk7 b m n)) 74 [.ref 1175, .int n] [] m1 := by
  obtain ⟨hS, h2, h6⟩ := h
  have hf : ¬ gI m1 1175 35 = 0 := fun z => by
    obtain ⟨t, ht, -⟩ := hx.z z
    cases ht
  obtain ⟨r1, r2, r3, r4⟩ := hx.2.2.2.2
  have S2 : St wB7 m (sI (sI m1 1175 37 (gI m1 1175 35)) 1175 38 (gI m1 1175 36)) := (hS.fld (a := 1175) (k := 37) (v := gI m1 1175 35) (by decide) (show (0 : Int) ≤ _ by omega) (show _ ≤ (5 : Int) by omega) (fun z => absurd (by decide) z)).fld (a := 1175) (k := 38) (v := gI m1 1175 36) (by decide) (tI_lo _) (tI_hi _) (fun z => absurd (by decide) z)
  have S2' : St [163208758423, 167503725719] m1 (sI (sI m1 1175 37 (gI m1 1175 35)) 1175 38 (gI m1 1175 36)) := ((St.rf hS.1).fld (a := 1175) (k := 37) (v := gI m1 1175 35) (by decide) (show (0 : Int) ≤ _ by omega) (show _ ≤ (5 : Int) by omega) (fun _ z => by omega)).fld (a := 1175) (k := 38) (v := gI m1 1175 36) (by decide) (tI_lo _) (tI_hi _) (fun _ z => by omega)
  refine At.ls okX7_book 60 ⟨_, _, rfl⟩ ?_
  (conv => whnf)
  refine And.intro (fun _ => ?_) (fun z => absurd z hf)
  (conv => whnf)
  refine And.intro (fun z => absurd z hf) (fun _ => ?_)
  exact ⟨S2.1, S2.2.1, S2.2.2, Or.inr ⟨hn, h2, Or.inl ⟨er, hR, rfl, r3, r4, h6.fr S2'.2.2 (by decide)⟩⟩⟩
set_option maxRecDepth 100000 in
set_option maxHeartbeats 4000000 in
theorem bo74 (hc : c = cA ∨ c = cB) (hb : m.2.2 = c) (hn : 0 ≤ n.toInt ∧ n.toInt ≤ (gI m 1175 2).toInt) (he : e ≤ 800) : ∀ (f : Nat) (B : TB) (t : TK) (ln : Nat) (m1 : MM), BoI m m1 → Sx b e (.inr t) m1 → MoI B m1 → (gI m1 1175 29).toInt = ln → TO b e t → ln ≤ t.2.1 → bookS b e f B t ln = readS b n.toInt.toNat → f + ln = 801 → At (E0 9) mX7_book (qi (Bk7 b m n)) 74 [.ref 1175, .int n] [] m1 := by
  intro f
  induction f with
  | zero =>
    intro B t ln m1 h hx hB hl hT hle hR hf
    have := hT.s
    omega
  | succ f ih =>
    intro B t ln m1 h hx hB hl hT hle hR hf
    obtain ⟨hS, h2, h6⟩ := id h
    have hs := hT.s
    have z35 : gI m1 1175 35 = 0 := hx.2.2.2.2.2.2.1
    have z36 : gI m1 1175 36 = -1 := hx.2.2.2.2.2.2.2
    have ht : tkM m1 t := hx.2.2.2.2.1
    have s4 : gI m1 1175 33 = 4 ↔ t.1 = 0 := by
      rcases ht.2.2 with y | y | y | y | y | y
      · rw [y.2, y.1]; decide
      · rw [y.2.2.1, y.1]; decide
      · rw [y.2.2.1, y.1]; decide
      · rw [y.2.1, y.1]; decide
      · rw [y.2, y.1]; decide
      · rw [y.2, y.1]; decide
    have hR : (if t.1 = 0 then (.inr (B, ln) : ER (TB × Nat)) else bd (lineS b e B t) fun x => bookS b e f x.1 x.2 (ln + 1)) = readS b n.toInt.toNat := hR
    refine At.ls okX7_book 80 ⟨_, _, rfl⟩ ?_
    (conv => whnf)
    refine And.intro (fun z => absurd z35 z) (fun _ => ?_)
    (conv => whnf)
    refine And.intro (fun q => ?_) (fun q => ?_)
    · have q : gI m1 1175 33 = 4 := q
      rw [if_pos (s4.mp q)] at hR
      have S2 : St wB7 m (sI (sI m1 1175 37 (gI m1 1175 35)) 1175 38 (gI m1 1175 36)) := (hS.fld (a := 1175) (k := 37) (v := gI m1 1175 35) (by decide) (show (0 : Int) ≤ _ by rw [z35]; decide) (show _ ≤ (5 : Int) by rw [z35]; decide) (fun z => absurd (by decide) z)).fld (a := 1175) (k := 38) (v := gI m1 1175 36) (by decide) (tI_lo _) (tI_hi _) (fun z => absurd (by decide) z)
      have S2' : St [163208758423, 167503725719] m1 (sI (sI m1 1175 37 (gI m1 1175 35)) 1175 38 (gI m1 1175 36)) := ((St.rf hS.1).fld (a := 1175) (k := 37) (v := gI m1 1175 35) (by decide) (show (0 : Int) ≤ _ by rw [z35]; decide) (show _ ≤ (5 : Int) by rw [z35]; decide) (fun _ z => by omega)).fld (a := 1175) (k := 38) (v := gI m1 1175 36) (by decide) (tI_lo _) (tI_hi _) (fun _ z => by omega)
      (conv => whnf)
      refine And.intro (fun _ => ?_) (fun z => absurd z35 z)
      (conv => whnf)
      refine ⟨1, by decide, _, s_lays (B := B) S2.1 (hB.fr S2'.2.2 (by decide)), ?_⟩
      rintro m3 ⟨S3, y3, y4⟩
      have T3 := S2.tr S3 (by decide)
      refine ⟨T3.1, T3.2.1, T3.2.2, Or.inr ⟨hn, (fr1 S3.2.2 (by decide)).trans h2, Or.inr ⟨(B, ln), hR.symm, ?_, ?_, ?_, y3, y4⟩⟩⟩
      · show (gI m3 1175 29).toInt = ln
        rw [fr1 S3.2.2 (by decide : ¬ wk 1175 29 ∈ wLy)]
        exact hl
      · exact (fr1 S3.2.2 (by decide)).trans z35
      · exact (fr1 S3.2.2 (by decide)).trans z36
    · have q : ¬ gI m1 1175 33 = 4 := q
      have ht0 : ¬ t.1 = 0 := fun z => q (s4.mpr z)
      rw [if_neg ht0] at hR
      (conv => whnf)
      refine ⟨7, by decide, _, s_line hx hB hl (by omega), ?_⟩
      rintro m2 ⟨S2, x2, A2⟩
      have h' : BoI m m2 := ⟨hS.tr S2.1 (by decide), (fr1 S2.1.2.2 (by decide)).trans h2, h6.sm S2 (by decide)⟩
      (conv => whnf)
      cases hL : lineS b e B t with
      | inl er =>
        rw [hL] at hR x2
        exact And.intro rfl (boDead hn h' x2 hR.symm)
      | inr x =>
        rw [hL] at hR x2
        have g := lineS_go hT hL
        obtain ⟨A3, A4⟩ := A2 x hL
        exact And.intro rfl (ih x.1 x.2 (ln + 1) m2 h' x2 A3 (by rw [A4]; omega) g.1 (by omega) hR (by omega))
set_option maxRecDepth 100000 in
set_option maxHeartbeats 4000000 in
theorem s_book (hc : c = cA ∨ c = cB) (hb : m.2.2 = c) (hM : Mok TYg m) (hm : mbR m b n.toInt.toNat) : CI 9 mX7_book [.ref 1175, .int n] m (Bk7 b m n) := by
  have q2 : (0 : Int) ≤ (gI m 1175 2).toInt ∧ (gI m 1175 2).toInt ≤ 800 := hM.1 1175 2
  have e0 : (0 : Int32).toInt = 0 := rfl
  have S0 : St wB0 m (sI m 1175 0 0) := (St.rf hM).fld (a := 1175) (k := 0) (v := 0) (by decide) (by decide) (by decide) (fun z => absurd (by decide) z)
  refine At.gs okX7_book 100 ?_
  (conv => whnf)
  refine And.intro (fun h => ?_) (fun h => ?_)
  · rw [lt_i] at h
    exact ⟨S0.1, S0.2.1, Fr_tr (Fr_rfl _ _) S0.2.2 (by decide), Or.inl ⟨by omega, rfl, rfl⟩⟩
  · rw [lt_i] at h
    (conv => whnf)
    refine And.intro (fun h2 => ?_) (fun h2 => ?_)
    · have h2 : n ≤ gI m 1175 2 := h2
      rw [le_i] at h2
      have f2 : ∀ {m1 : MM} {k : Nat}, St wB0 m m1 → wk 1175 k ∈ wB0 → (tyF TYg.1 TYg.2 1175 k).1 ≤ 0 → 0 ≤ (tyF TYg.1 TYg.2 1175 k).2 → St wB0 m (sI m1 1175 k 0) := fun hS ha h1 h2 => hS.fld ha (by rw [e0]; exact h1) (by rw [e0]; exact h2) (fun z => absurd (by decide) z)
      have S1 : St wB0 m (sI (sI m 1175 0 0) 1175 30 n) := S0.fld (a := 1175) (k := 30) (v := n) (by decide) (show (0 : Int) ≤ _ by omega) (show _ ≤ (800 : Int) by omega) (fun z => absurd (by decide) z)
      have S2 := f2 (k := 35) (f2 (k := 31) (f2 (k := 2) S1 (by decide) (by decide) (by decide)) (by decide) (by decide) (by decide)) (by decide) (by decide) (by decide)
      have S3 := S2.fld (a := 1175) (k := 36) (v := -1) (by decide) (by decide) (by decide) (fun z => absurd (by decide) z)
      have S4 := f2 (k := 29) (f2 (k := 28) (f2 (k := 27) (f2 (k := 26) (f2 (k := 25) S3 (by decide) (by decide) (by decide)) (by decide) (by decide) (by decide)) (by decide) (by decide) (by decide)) (by decide) (by decide) (by decide)) (by decide) (by decide) (by decide)
      (conv => whnf)
      refine ⟨4, by decide, _, h_next7 (b := b) (e := n.toInt.toNat) (p0 := 0) S4.1 (hm.fr S4.2.2 (by decide)) (show n.toInt = _ by omega) rfl (Nat.zero_le _) (by omega), ?_⟩
      rintro m2 ⟨S5, t5⟩
      have T5 : St wB7 m m2 := St.tr (W := wB7) ⟨S4.1, S4.2.1, Fr_tr (Fr_rfl _ _) S4.2.2 (by decide)⟩ S5 (by decide)
      have u : ∀ k, ¬ wk 1175 k ∈ wN7 → gI m2 1175 k = gI (sI (sI (sI (sI (sI (sI (sI (sI (sI (sI (sI m 1175 0 0) 1175 30 n) 1175 2 0) 1175 31 0) 1175 35 0) 1175 36 (-1)) 1175 25 0) 1175 26 0) 1175 27 0) 1175 28 0) 1175 29 0) 1175 k := fun k hk => fr1 S5.2.2 hk
      (conv => whnf)
      refine And.intro rfl (bo74 hc hb ⟨by omega, h2⟩ (e := n.toInt.toNat) (by omega) 801 B0 (tok b n.toInt.toNat 0) 0 m2 ⟨T5, u 2 (by decide), (KeepM.rf.fr S4.2.2 (by decide)).fr S5.2.2 (by decide)⟩ ⟨S5.1, hm.fr T5.2.2 (by decide), ?_, by omega, t5, (tok_s (Nat.zero_le _)).2.2.2.1, u 35 (by decide), u 36 (by decide)⟩ ⟨fun k hk => ?_, fun r hr i hi => absurd hi (Nat.not_lt_zero _), Nat.zero_le _, Nat.zero_le _, Nat.zero_le _, Nat.zero_le _, fun i hi => absurd hi (Nat.not_lt_zero _)⟩ ?_ ⟨0, Nat.zero_le _, rfl⟩ (Nat.zero_le _) rfl rfl)
      · rw [u 30 (by decide)]
        show n.toInt = _
        omega
      · rcases (by omega : k = 0 ∨ k = 1 ∨ k = 2 ∨ k = 3) with rfl | rfl | rfl | rfl
        · rw [u 25 (by decide)]; rfl
        · rw [u 26 (by decide)]; rfl
        · rw [u 27 (by decide)]; rfl
        · rw [u 28 (by decide)]; rfl
      · rw [u 29 (by decide)]; rfl
    · have h2 : ¬ n ≤ gI m 1175 2 := h2
      rw [le_i] at h2
      exact ⟨S0.1, S0.2.1, Fr_tr (Fr_rfl _ _) S0.2.2 (by decide), Or.inl ⟨by omega, rfl, rfl⟩⟩
end Bo
