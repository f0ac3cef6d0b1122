/-! look: what is told of a sale -/
def lkR (w : Int32) : Nat := if w = 0 then 10 else if w = 1 then 11 else if w = 2 then 12 else if w = 3 then 13 else if w = 4 then 14 else if w = 5 then 15 else 16
def lkV (V : VW) (ru : Int32) (s : Nat) (w : Int32) : Int32 := if w = 7 then taxP V ru s else V.2 (lkR w) s
def lkP (V : VW) (ru x w k v : Int32) : Prop := (¬ (0 ≤ x.toInt ∧ x.toInt < V.1 3) ∧ k = 1) ∨ ((0 ≤ x.toInt ∧ x.toInt < V.1 3) ∧ ((¬ (0 ≤ w.toInt ∧ w.toInt ≤ 7) ∧ k = 2) ∨ ((0 ≤ w.toInt ∧ w.toInt ≤ 7) ∧ k = 0 ∧ v = lkV V ru x.toNatClampNeg w)))
theorem lkP_1 {V : VW} {ru x w k1 v1 k2 v2 : Int32} (h1 : lkP V ru x w k1 v1) (h2 : lkP V ru x w k2 v2) : k1 = k2 ∧ (k1 = 0 → v1 = v2) := by
  rcases h1 with ⟨a, b⟩ | ⟨a, ⟨b, c⟩ | ⟨b, c, d⟩⟩
  · rcases h2 with ⟨a2, b2⟩ | ⟨a2, -⟩
    · rw [b, b2]; exact ⟨rfl, fun z => absurd z (by decide)⟩
    · exact absurd a2 a
  · rcases h2 with ⟨a2, -⟩ | ⟨a2, ⟨b2, c2⟩ | ⟨b2, c2, d2⟩⟩
    · exact absurd a a2
    · rw [c, c2]; exact ⟨rfl, fun z => absurd z (by decide)⟩
    · exact absurd b2 b
  · rcases h2 with ⟨a2, -⟩ | ⟨a2, ⟨b2, c2⟩ | ⟨b2, c2, d2⟩⟩
    · exact absurd a a2
    · exact absurd b b2
    · rw [c, c2, d, d2]; exact ⟨rfl, fun _ => rfl⟩
theorem lkV_r {V : VW} {ru w : Int32} {s n : Nat} (h7 : ¬ w = 7) (h : lkR w = n) : V.2 n s = lkV V ru s w := by
  unfold lkV
  rw [if_neg h7, h]
theorem lkV_7 {V : VW} {ru w : Int32} {s : Nat} (h7 : w = 7) : taxP V ru s = lkV V ru s w := by
  unfold lkV
  rw [if_pos h7]
def LooQ (m : MM) (x w k v : Int32) : Prop := lkP (vw m) (gI m 1175 40) x w k v
/-- behind the law's look -/
def LkO (m u : MM) (x w k : Int32) : Prop := vw u = vw m ∧ gI u 1175 40 = gI m 1175 40 ∧ ∃ v, LooQ m x w k v ∧ (k = 0 → gJ u 5737 0 = v.toInt64)
set_option maxRecDepth 100000 in
set_option maxHeartbeats 4000000 in
theorem s_look {m : MM} {x w : Int32} (hM : Mok TYg m) : CI 3 mX7_look [.ref 1175, .int x, .int w] m (fun r m' => St [4294968471] m m' ∧ LooQ m x w (gI m' 1175 0) r) := by
  have e0 : (0 : Int32).toInt = 0 := rfl
  have e7 : (7 : Int32).toInt = 7 := rfl
  have h40 : (gI m 1175 6).toInt ≤ 40 := (hM.1 1175 6).2
  have c6 : (gI m 1175 6).toInt = (vw m).1 3 := vw3 hM
  have S0 : ∀ v : Int32, 0 ≤ v.toInt → v.toInt ≤ 2 → St [4294968471] m (sI m 1175 0 v) := fun v h1 h2 => (St.rf hM).fld (a := 1175) (k := 0) (v := v) (by decide) (tI_lo _) (tI_hi _) (fun _ z => by omega)
  have g0 : ∀ v : Int32, gI (sI m 1175 0 v) 1175 0 = v := fun v => by rw [gI_if, if_pos ⟨rfl, rfl⟩]
  refine At.gs okX7_look 120 ?_
  (conv => whnf)
  refine ⟨1, by decide, _, s_isSale, ?_⟩
  rintro r m1 ⟨hmm, hz⟩; have hmm := hmm.symm; subst hmm
  rw [c6] at hz
  (conv => whnf)
  refine And.intro (fun q => ?_) (fun q => ?_)
  case refine_2 =>
    have q : r = 0 := q
    rcases hz with ⟨y1, y2⟩ | ⟨y1, y2⟩
    · rw [y2] at q; exact absurd q (by decide)
    · (conv => whnf)
      refine And.intro (fun z => ?_) (fun _ => ?_)
      · have z : gI (sI m 1175 0 1) 1175 0 = 0 := z
        rw [g0] at z; exact absurd z (by decide)
      · exact ⟨S0 1 (by decide) (by decide), Or.inl ⟨y1, g0 1⟩⟩
  have q : ¬ r = 0 := q
  rcases hz with ⟨hs, y2⟩ | ⟨y1, y2⟩
  case inr => exact absurd y2 q
  have hx : 0 ≤ x.toInt ∧ x.toInt < (vw m).1 3 := hs
  have v1 : vp_in x 80 := vp_in_iff.mpr ⟨hx.1, show x.toInt < ((80 : Nat) : Int) by omega⟩
  (conv => whnf)
  refine And.intro (fun p => ?_) (fun p => ?_)
  · have p : w < 0 := p
    rw [lt_i, e0] at p
    (conv => whnf)
    refine And.intro (fun z => ?_) (fun _ => ?_)
    · have z : gI (sI m 1175 0 2) 1175 0 = 0 := z
      rw [g0] at z; exact absurd z (by decide)
    · exact ⟨S0 2 (by decide) (by decide), Or.inr ⟨hx, Or.inl ⟨fun z => by omega, g0 2⟩⟩⟩
  have p : ¬ w < 0 := p
  rw [lt_i, e0] at p
  (conv => whnf)
  refine And.intro (fun p2 => ?_) (fun p2 => ?_)
  case refine_2 =>
    have p2 : ¬ w ≤ 7 := p2
    rw [le_i, e7] at p2
    (conv => whnf)
    refine And.intro (fun z => ?_) (fun _ => ?_)
    · have z : gI (sI m 1175 0 2) 1175 0 = 0 := z
      rw [g0] at z; exact absurd z (by decide)
    · exact ⟨S0 2 (by decide) (by decide), Or.inr ⟨hx, Or.inl ⟨fun z => by omega, g0 2⟩⟩⟩
  have p2 : w ≤ 7 := p2
  rw [le_i, e7] at p2
  have hw : 0 ≤ w.toInt ∧ w.toInt ≤ 7 := ⟨by omega, p2⟩
  have S1 := S0 0 (by decide) (by decide)
  have rr : ∀ a j, Nat.ble 8 (a % 16) = true → elm a [4294968471] = false → gI (sI m 1175 0 0) a j = gI m a j := fun a j h1 h2 => row1 S1.2.2 h1 h2
  have done : ∀ r, r = lkV (vw m) (gI m 1175 40) x.toNatClampNeg w → St [4294968471] m (sI m 1175 0 0) ∧ LooQ m x w (gI (sI m 1175 0 0) 1175 0) r := fun r hr => ⟨S1, Or.inr ⟨hx, Or.inr ⟨hw, g0 0, hr⟩⟩⟩
  (conv => whnf)
  refine And.intro (fun _ => ?_) (fun z => ?_)
  case refine_2 =>
    have z : ¬ gI (sI m 1175 0 0) 1175 0 = 0 := z
    rw [g0] at z; exact absurd rfl z
  (conv => whnf)
  refine And.intro (fun z0 => ?_) (fun z0 => ?_)
  · have z : w = 0 := z0
    (conv => whnf)
    refine And.intro v1 ?_
    exact done _ ((rr 329048 _ rfl (by decide)).trans (lkV_r (V := vw m) (ru := gI m 1175 40) (w := w) (s := x.toNatClampNeg) (n := 10) (by rw [z]; decide) (by rw [z]; decide)))
  have z0 : ¬ w = 0 := z0
  refine And.intro (fun z1 => ?_) (fun z1 => ?_)
  · have z : w = 1 := z1
    (conv => whnf)
    refine And.intro v1 ?_
    exact done _ ((rr 329064 _ rfl (by decide)).trans (lkV_r (V := vw m) (ru := gI m 1175 40) (w := w) (s := x.toNatClampNeg) (n := 11) (by rw [z]; decide) (by rw [z]; decide)))
  have z1 : ¬ w = 1 := z1
  refine And.intro (fun z2 => ?_) (fun z2 => ?_)
  · have z : w = 2 := z2
    (conv => whnf)
    refine And.intro v1 ?_
    exact done _ ((rr 329080 _ rfl (by decide)).trans (lkV_r (V := vw m) (ru := gI m 1175 40) (w := w) (s := x.toNatClampNeg) (n := 12) (by rw [z]; decide) (by rw [z]; decide)))
  have z2 : ¬ w = 2 := z2
  refine And.intro (fun z3 => ?_) (fun z3 => ?_)
  · have z : w = 3 := z3
    (conv => whnf)
    refine And.intro v1 ?_
    exact done _ ((rr 329096 _ rfl (by decide)).trans (lkV_r (V := vw m) (ru := gI m 1175 40) (w := w) (s := x.toNatClampNeg) (n := 13) (by rw [z]; decide) (by rw [z]; decide)))
  have z3 : ¬ w = 3 := z3
  refine And.intro (fun z4 => ?_) (fun z4 => ?_)
  · have z : w = 4 := z4
    (conv => whnf)
    refine And.intro v1 ?_
    exact done _ ((rr 329112 _ rfl (by decide)).trans (lkV_r (V := vw m) (ru := gI m 1175 40) (w := w) (s := x.toNatClampNeg) (n := 14) (by rw [z]; decide) (by rw [z]; decide)))
  have z4 : ¬ w = 4 := z4
  refine And.intro (fun z5 => ?_) (fun z5 => ?_)
  · have z : w = 5 := z5
    (conv => whnf)
    refine And.intro v1 ?_
    exact done _ ((rr 329128 _ rfl (by decide)).trans (lkV_r (V := vw m) (ru := gI m 1175 40) (w := w) (s := x.toNatClampNeg) (n := 15) (by rw [z]; decide) (by rw [z]; decide)))
  have z5 : ¬ w = 5 := z5
  refine And.intro (fun z6 => ?_) (fun z6 => ?_)
  · have z : w = 6 := z6
    (conv => whnf)
    refine And.intro v1 ?_
    exact done _ ((rr 329144 _ rfl (by decide)).trans (lkV_r (V := vw m) (ru := gI m 1175 40) (w := w) (s := x.toNatClampNeg) (n := 16) (by rw [z]; decide) (by rw [z]; decide)))
  have z6 : ¬ w = 6 := z6
  have ne : ∀ i : Int32, ¬ w = i → w.toInt ≠ i.toInt := fun i h z => h (Int32.toInt_inj.mp z)
  have n0 := ne 0 z0
  have n1 := ne 1 z1
  have n2 := ne 2 z2
  have n3 := ne 3 z3
  have n4 := ne 4 z4
  have n5 := ne 5 z5
  have n6 := ne 6 z6
  have e1 : (1 : Int32).toInt = 1 := rfl
  have e2 : (2 : Int32).toInt = 2 := rfl
  have e3 : (3 : Int32).toInt = 3 := rfl
  have e4 : (4 : Int32).toInt = 4 := rfl
  have e5 : (5 : Int32).toInt = 5 := rfl
  have e6 : (6 : Int32).toInt = 6 := rfl
  have w7 : w = 7 := Int32.toInt_inj.mp (by omega)
  have hk : x.toInt = (x.toInt.toNat : Int) := by omega
  have hv : vw (sI m 1175 0 0) = vw m := vw_fr S1.2.2 (by decide +kernel)
  have hr : gI (sI m 1175 0 0) 1175 40 = gI m 1175 40 := fr1 S1.2.2 (by decide)
  (conv => whnf)
  refine ⟨2, by decide, _, s_taxOf (m := sI m 1175 0 0) (ru := gI (sI m 1175 0 0) 1175 40) S1.1 hk (by omega), ?_⟩
  rintro r2 m2 ⟨hmm, hr2⟩; have hmm := hmm.symm; subst hmm
  rw [hv, hr, ← nat_c hk] at hr2
  exact done _ (hr2.trans (lkV_7 w7))
theorem s_thrown {m : MM} : CI 1 mX7_thrown [.ref 1175] m (fun r m' => m' = m ∧ r = gI m 1175 0) := by
  refine At.gs okX7_thrown 20 ?_
  (conv => whnf)
  exact ⟨rfl, rfl⟩
theorem lgc_eq (x y : Int64) : lg_cmp x y = 0 ↔ x = y := by
  constructor
  · intro h
    unfold lg_cmp at h
    split at h
    · exact absurd h (by decide)
    · split at h
      · assumption
      · exact absurd h (by decide)
  · intro h
    subst h
    unfold lg_cmp
    rw [if_neg (fun z => absurd (Int64.lt_iff_toInt_lt.mp z) (Int.lt_irrefl _)), if_pos rfl]
