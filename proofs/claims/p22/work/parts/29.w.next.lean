/-! next, by hand: the reader goes on -/
def wNx : List Nat := [137438954647, 141733921943, 146028889239, 150323856535]
def wN7 : List Nat := 7 :: wNx
set_option maxRecDepth 100000 in
theorem h_here {m : MM} (hM : Mok TYg m) : CI 1 mX7_here [.ref 1175] m (fun r m' => m' = m ∧ (((gI m 1175 31).toInt < (gI m 1175 30).toInt ∧ r = gI m 3277992 (gI m 1175 31).toNatClampNeg) ∨ (¬ (gI m 1175 31).toInt < (gI m 1175 30).toInt ∧ r = -1))) := by
  have h1 : (0 : Int) ≤ (gI m 1175 31).toInt ∧ (gI m 1175 31).toInt ≤ 800 := hM.1 1175 31
  have h2 : (0 : Int) ≤ (gI m 1175 30).toInt ∧ (gI m 1175 30).toInt ≤ 800 := hM.1 1175 30
  refine At.gs okX7_here 40 ?_
  (conv => whnf)
  refine And.intro (fun h => ?_) (fun h => ?_)
  · have h : gI m 1175 30 ≤ gI m 1175 31 := h
    rw [le_i] at h
    exact ⟨rfl, Or.inr ⟨by omega, rfl⟩⟩
  · have h : ¬ gI m 1175 30 ≤ gI m 1175 31 := h
    rw [le_i] at h
    (conv => whnf)
    refine And.intro (vp_in_iff.mpr ⟨show 0 ≤ (gI m 1175 31).toInt from h1.1, show (gI m 1175 31).toInt < _ by omega⟩) ?_
    exact ⟨rfl, Or.inl ⟨by omega, rfl⟩⟩
/-- a pure answer, 0 or 1 -/
def z1 (p : Prop) (r : Int32) : Prop := (p ∧ r = 1) ∨ (¬ p ∧ r = 0)
set_option maxRecDepth 100000 in
theorem h_isSmall {m : MM} {x : Int32} : CI 1 mX7_isSmall [.int x] m (fun r m' => m' = m ∧ z1 (97 ≤ x.toInt ∧ x.toInt ≤ 122) r) := by
  refine At.gs okX7_isSmall 40 ?_
  have e1 : (97 : Int32).toInt = 97 := rfl
  have e2 : (122 : Int32).toInt = 122 := rfl
  (conv => whnf)
  refine And.intro (fun h1 => ?_) (fun h1 => ?_)
  · rw [lt_i] at h1
    exact ⟨Or.inl rfl, rfl, Or.inr ⟨by omega, rfl⟩⟩
  · rw [lt_i] at h1
    (conv => whnf)
    refine And.intro (fun h2 => ?_) (fun h2 => ?_)
    · rw [lt_i] at h2
      exact ⟨Or.inl rfl, rfl, Or.inr ⟨by omega, rfl⟩⟩
    · rw [lt_i] at h2
      exact ⟨Or.inr rfl, rfl, Or.inl ⟨by omega, rfl⟩⟩
set_option maxRecDepth 100000 in
theorem h_isDigit {m : MM} {x : Int32} : CI 1 mX7_isDigit [.int x] m (fun r m' => m' = m ∧ z1 (48 ≤ x.toInt ∧ x.toInt ≤ 57) r) := by
  refine At.gs okX7_isDigit 40 ?_
  have e1 : (48 : Int32).toInt = 48 := rfl
  have e2 : (57 : Int32).toInt = 57 := rfl
  (conv => whnf)
  refine And.intro (fun h1 => ?_) (fun h1 => ?_)
  · rw [lt_i] at h1
    exact ⟨Or.inl rfl, rfl, Or.inr ⟨by omega, rfl⟩⟩
  · rw [lt_i] at h1
    (conv => whnf)
    refine And.intro (fun h2 => ?_) (fun h2 => ?_)
    · rw [lt_i] at h2
      exact ⟨Or.inl rfl, rfl, Or.inr ⟨by omega, rfl⟩⟩
    · rw [lt_i] at h2
      exact ⟨Or.inr rfl, rfl, Or.inl ⟨by omega, rfl⟩⟩
/-! the way on -/
def acNext : AC := ([(2, 1175, 0)], 4, [((9, 0, 0), [], [])], wNx, [])
theorem wk_ne7 (a k : Nat) : wk a k ≠ 7 := by
  unfold wk
  split
  · omega
  · rename_i h
    intro q
    subst q
    cases h
def QN (m : MM) : QQ := fun r m' => PC TYg acNext m [.ref 1175] r m' ∧ (gI m 1175 33 ≠ 4 → psi m' < psi m)
theorem psi_le {m : MM} (h : Mok TYg m) : psi m ≤ 2 * (1000 - (gI m 1175 31).toInt).toNat + 1 ∧ 2 * (1000 - (gI m 1175 31).toInt).toNat ≤ psi m ∧ (gI m 1175 33 = 4 → psi m = 2 * (1000 - (gI m 1175 31).toInt).toNat) ∧ (gI m 1175 33 ≠ 4 → psi m = 2 * (1000 - (gI m 1175 31).toInt).toNat + 1) := by
  unfold psi
  by_cases q : gI m 1175 33 = 4
  · rw [if_pos q]; exact ⟨by omega, by omega, fun _ => rfl, fun n => absurd q n⟩
  · rw [if_neg q]; exact ⟨by omega, by omega, fun n => absurd n q, fun _ => rfl⟩
theorem nEnd {m m' : MM} (hM : Mok TYg m) (hS : St wN7 m m') (h : ((gI m 1175 31).toInt < (gI m' 1175 31).toInt) ∨ ((gI m 1175 31).toInt ≤ (gI m' 1175 31).toInt ∧ gI m' 1175 33 = 4)) : QN m none m' := by
  have a0 : (0 : Int) ≤ (gI m 1175 31).toInt ∧ (gI m 1175 31).toInt ≤ 800 := hM.1 1175 31
  have a1 : (0 : Int) ≤ (gI m' 1175 31).toInt ∧ (gI m' 1175 31).toInt ≤ 800 := hS.1.1 1175 31
  have p0 := psi_le hM
  have p1 := psi_le hS.1
  have hle : psi m' ≤ psi m := by
    rcases h with h | ⟨h, q⟩
    · omega
    · have := p1.2.2.1 q; omega
  refine ⟨⟨hS.1, hS.2.1, ⟨fun a k hk => hS.2.2.1 a k (fun q => (List.mem_cons.mp q).elim (wk_ne7 a k) hk), fun _ => hle⟩, _, List.mem_singleton.mpr rfl, rfl, (fun _ h => by cases h), (fun _ h => by cases h)⟩, fun h4 => ?_⟩
  have := p0.2.2.2 h4
  rcases h with h | ⟨h, q⟩
  · omega
  · have := p1.2.2.1 q; omega
theorem St.nf {m m1 : MM} {k : Nat} {v : Int32} (h : St wN7 m m1) (ha : wk 1175 k ∈ wN7) (h1 : (tyF TYg.1 TYg.2 1175 k).1 ≤ v.toInt) (h2 : v.toInt ≤ (tyF TYg.1 TYg.2 1175 k).2) : St wN7 m (sI m1 1175 k v) := h.fld ha h1 h2 (fun q => absurd List.mem_cons_self q)
theorem szSame {m m1 : MM} (h : St wN7 m m1) : gI m1 1175 30 = gI m 1175 30 := fr1 h.2.2 (by decide)
theorem incAt {m m1 : MM} (h : St wN7 m m1) (hl : (gI m1 1175 31).toInt < (gI m1 1175 30).toInt) : St wN7 m (sI m1 1175 31 (gI m1 1175 31 + 1)) ∧ (gI m1 1175 31 + 1).toInt = (gI m1 1175 31).toInt + 1 := by
  have a1 : (0 : Int) ≤ (gI m1 1175 31).toInt ∧ (gI m1 1175 31).toInt ≤ 800 := h.1.1 1175 31
  have a2 : (0 : Int) ≤ (gI m1 1175 30).toInt ∧ (gI m1 1175 30).toInt ≤ 800 := h.1.1 1175 30
  have e := inc1 (k := gI m1 1175 31) (by omega)
  exact ⟨h.nf (by decide) (show (0 : Int) ≤ _ by omega) (show _ ≤ (800 : Int) by omega), e⟩
section Nx
variable {c : Nat × Nat} {m : MM}
set_option maxRecDepth 100000 in
set_option maxHeartbeats 4000000 in
theorem nxS (hc : c = cA ∨ c = cB) (hb : m.2.2 = c) (hM : Mok TYg m) : ∀ (n : Nat) (x : Int32) (m1 : MM), St wN7 m m1 → (gI m 1175 31).toInt ≤ (gI m1 1175 31).toInt → ((gI m 1175 31).toInt < (gI m1 1175 31).toInt ∨ ((gI m1 1175 31).toInt < (gI m1 1175 30).toInt ∧ 97 ≤ (gI m1 3277992 (gI m1 1175 31).toNatClampNeg).toInt ∧ (gI m1 3277992 (gI m1 1175 31).toNatClampNeg).toInt ≤ 122)) → (800 - (gI m1 1175 31).toInt).toNat = n → At (E0 4) mX7_next (QN m) 64 [.ref 1175, .int x] [] m1 := by
  have step : ∀ (x : Int32) (m1 : MM), St wN7 m m1 → (gI m 1175 31).toInt ≤ (gI m1 1175 31).toInt → ((gI m 1175 31).toInt < (gI m1 1175 31).toInt ∨ ((gI m1 1175 31).toInt < (gI m1 1175 30).toInt ∧ 97 ≤ (gI m1 3277992 (gI m1 1175 31).toNatClampNeg).toInt ∧ (gI m1 3277992 (gI m1 1175 31).toNatClampNeg).toInt ≤ 122)) → ((gI m1 1175 31).toInt < 800 → ∀ m2, St wN7 m m2 → (gI m2 1175 31).toInt = (gI m1 1175 31).toInt + 1 → At (E0 4) mX7_next (QN m) 64 [.ref 1175, .int x] [] m2) → At (E0 4) mX7_next (QN m) 64 [.ref 1175, .int x] [] m1 := by
    intro x m1 hS hle hor hgo
    have a2 : (0 : Int) ≤ (gI m1 1175 30).toInt ∧ (gI m1 1175 30).toInt ≤ 800 := hS.1.1 1175 30
    refine At.ls okX7_next 60 ⟨_, _, rfl⟩ ?_
    (conv => whnf)
    refine ⟨1, by decide, _, h_here hS.1, ?_⟩
    rintro r m' ⟨hmm, hr⟩; have hmm := hmm.symm; subst hmm
    (conv => whnf)
    refine ⟨1, by decide, _, h_isSmall, ?_⟩
    rintro z m' ⟨hmm, hz⟩; have hmm := hmm.symm; subst hmm
    (conv => whnf)
    refine And.intro (fun h0 => ?_) (fun h0 => ?_)
    · have hlt : (gI m 1175 31).toInt < (gI m1 1175 31).toInt := by
        rcases hor with q | ⟨q1, q2, q3⟩
        · exact q
        · rcases hz with ⟨p1, p2⟩ | ⟨p1, p2⟩
          · rw [p2] at h0; exact absurd h0 (by decide)
          · rcases hr with ⟨s1, s2⟩ | ⟨s1, s2⟩
            · rw [s2] at p1; exact absurd ⟨q2, q3⟩ p1
            · exact absurd q1 s1
      (conv => whnf)
      refine ⟨1, by decide, _, SafeC.ci (hpWord c) (by decide) ⟨rfl, trivial⟩ hS.1 (hS.2.1.trans hb) noPre, ?_⟩
      intro w m2 hP
      have hS2 := hS.call hP (fun _ h => by cases h)
      have e2 : gI m2 1175 31 = gI m1 1175 31 := fr1 hP.2.2.1 (by decide)
      have hS3 := hS2.nf (k := 34) (v := w) (by decide) (tI_lo w) (tI_hi w)
      (conv => whnf)
      refine And.intro (fun _ => ?_) (fun _ => ?_)
      · (conv => whnf)
        refine And.intro (fun _ => ?_) (fun _ => ?_)
        · skip
          have hS4 := hS3.nf (k := 33) (v := 1) (by decide) (by decide) (by decide)
          (conv => whnf)
          refine And.intro (fun _ => ?_) (fun _ => ?_)
          · exact nEnd hM hS4 (Or.inl (show _ < (gI m2 1175 31).toInt by rw [e2]; exact hlt))
          · (conv => whnf)
            refine ⟨1, by decide, _, SafeC.cv (sfX7_name c hc _ (List.mem_singleton.mpr rfl)) (by decide) ⟨rfl, trivial⟩ hS4.1 (hS4.2.1.trans hb) noPre, ?_⟩
            intro m9 hP9
            exact nEnd hM (hS4.call hP9 (by decide)) (Or.inl (by rw [show gI m9 1175 31 = gI m2 1175 31 from (fr1 hP9.2.2.1 (by decide)).trans rfl, e2]; exact hlt))
        · skip
          have hS4 := hS3.nf (k := 33) (v := 5) (by decide) (by decide) (by decide)
          (conv => whnf)
          refine And.intro (fun _ => ?_) (fun _ => ?_)
          · exact nEnd hM hS4 (Or.inl (show _ < (gI m2 1175 31).toInt by rw [e2]; exact hlt))
          · (conv => whnf)
            refine ⟨1, by decide, _, SafeC.cv (sfX7_name c hc _ (List.mem_singleton.mpr rfl)) (by decide) ⟨rfl, trivial⟩ hS4.1 (hS4.2.1.trans hb) noPre, ?_⟩
            intro m9 hP9
            exact nEnd hM (hS4.call hP9 (by decide)) (Or.inl (by rw [show gI m9 1175 31 = gI m2 1175 31 from (fr1 hP9.2.2.1 (by decide)).trans rfl, e2]; exact hlt))
      · skip
        have hS4 := hS3.nf (k := 33) (v := 0) (by decide) (by decide) (by decide)
        (conv => whnf)
        refine And.intro (fun _ => ?_) (fun _ => ?_)
        · exact nEnd hM hS4 (Or.inl (show _ < (gI m2 1175 31).toInt by rw [e2]; exact hlt))
        · (conv => whnf)
          refine ⟨1, by decide, _, SafeC.cv (sfX7_name c hc _ (List.mem_singleton.mpr rfl)) (by decide) ⟨rfl, trivial⟩ hS4.1 (hS4.2.1.trans hb) noPre, ?_⟩
          intro m9 hP9
          exact nEnd hM (hS4.call hP9 (by decide)) (Or.inl (by rw [show gI m9 1175 31 = gI m2 1175 31 from (fr1 hP9.2.2.1 (by decide)).trans rfl, e2]; exact hlt))
    · have hl : (gI m1 1175 31).toInt < (gI m1 1175 30).toInt := by
        rcases hz with ⟨p1, p2⟩ | ⟨p1, p2⟩
        · rcases hr with ⟨s1, s2⟩ | ⟨s1, s2⟩
          · exact s1
          · rw [s2] at p1; exact absurd p1 (by decide)
        · exact absurd p2 h0
      obtain ⟨hS2, e2⟩ := incAt hS hl
      (conv => whnf)
      exact And.intro rfl (hgo (by omega) _ hS2 e2)
  intro n
  induction n with
  | zero =>
    intro x m1 hS hle hor hn
    exact step x m1 hS hle hor (fun h => by omega)
  | succ n ih =>
    intro x m1 hS hle hor hn
    exact step x m1 hS hle hor (fun h m2 hS2 e2 => ih x m2 hS2 (by omega) (Or.inl (by omega)) (by omega))
set_option maxRecDepth 100000 in
set_option maxHeartbeats 4000000 in
theorem nxD (hc : c = cA ∨ c = cB) (hb : m.2.2 = c) (hM : Mok TYg m) : ∀ (n : Nat) (x : Int32) (m1 : MM), St wN7 m m1 → (gI m 1175 31).toInt ≤ (gI m1 1175 31).toInt → ((gI m 1175 31).toInt < (gI m1 1175 31).toInt ∨ ((gI m1 1175 31).toInt < (gI m1 1175 30).toInt ∧ 48 ≤ (gI m1 3277992 (gI m1 1175 31).toNatClampNeg).toInt ∧ (gI m1 3277992 (gI m1 1175 31).toNatClampNeg).toInt ≤ 57)) → (800 - (gI m1 1175 31).toInt).toNat = n → At (E0 4) mX7_next (QN m) 162 [.ref 1175, .int x] [] m1 := by
  have step : ∀ (x : Int32) (m1 : MM), St wN7 m m1 → (gI m 1175 31).toInt ≤ (gI m1 1175 31).toInt → ((gI m 1175 31).toInt < (gI m1 1175 31).toInt ∨ ((gI m1 1175 31).toInt < (gI m1 1175 30).toInt ∧ 48 ≤ (gI m1 3277992 (gI m1 1175 31).toNatClampNeg).toInt ∧ (gI m1 3277992 (gI m1 1175 31).toNatClampNeg).toInt ≤ 57)) → ((gI m1 1175 31).toInt < 800 → ∀ m2, St wN7 m m2 → (gI m2 1175 31).toInt = (gI m1 1175 31).toInt + 1 → At (E0 4) mX7_next (QN m) 162 [.ref 1175, .int x] [] m2) → At (E0 4) mX7_next (QN m) 162 [.ref 1175, .int x] [] m1 := by
    intro x m1 hS hle hor hgo
    have a2 : (0 : Int) ≤ (gI m1 1175 30).toInt ∧ (gI m1 1175 30).toInt ≤ 800 := hS.1.1 1175 30
    refine At.ls okX7_next 60 ⟨_, _, rfl⟩ ?_
    (conv => whnf)
    refine ⟨1, by decide, _, h_here hS.1, ?_⟩
    rintro r m' ⟨hmm, hr⟩; have hmm := hmm.symm; subst hmm
    (conv => whnf)
    refine ⟨1, by decide, _, h_isDigit, ?_⟩
    rintro z m' ⟨hmm, hz⟩; have hmm := hmm.symm; subst hmm
    (conv => whnf)
    refine And.intro (fun h0 => ?_) (fun h0 => ?_)
    · have hlt : (gI m 1175 31).toInt < (gI m1 1175 31).toInt := by
        rcases hor with q | ⟨q1, q2, q3⟩
        · exact q
        · rcases hz with ⟨p1, p2⟩ | ⟨p1, p2⟩
          · rw [p2] at h0; exact absurd h0 (by decide)
          · rcases hr with ⟨s1, s2⟩ | ⟨s1, s2⟩
            · rw [s2] at p1; exact absurd ⟨q2, q3⟩ p1
            · exact absurd q1 s1
      exact nEnd hM hS (Or.inl hlt)
    · have hl : (gI m1 1175 31).toInt < (gI m1 1175 30).toInt := by
        rcases hz with ⟨p1, p2⟩ | ⟨p1, p2⟩
        · rcases hr with ⟨s1, s2⟩ | ⟨s1, s2⟩
          · exact s1
          · rw [s2] at p1; exact absurd p1 (by decide)
        · exact absurd p2 h0
      have key : ∀ v : Int32, St wN7 m (sI (sI m1 1175 34 v) 1175 31 (gI m1 1175 31 + 1)) ∧ (gI m1 1175 31 + 1).toInt = (gI m1 1175 31).toInt + 1 := fun v => incAt (m1 := sI m1 1175 34 v) (hS.nf (by decide) (tI_lo v) (tI_hi v)) hl
      (conv => whnf)
      refine And.intro (fun _ => ?_) (fun _ => ?_)
      · (conv => whnf)
        refine ⟨1, by decide, _, h_here hS.1, ?_⟩
        rintro r2 m' ⟨hmm, -⟩; have hmm := hmm.symm; subst hmm
        (conv => whnf)
        exact And.intro rfl (hgo (by omega) _ (key _).1 (key 0).2)
      · (conv => whnf)
        exact And.intro rfl (hgo (by omega) _ (key _).1 (key 0).2)
  intro n
  induction n with
  | zero =>
    intro x m1 hS hle hor hn
    exact step x m1 hS hle hor (fun h => by omega)
  | succ n ih =>
    intro x m1 hS hle hor hn
    exact step x m1 hS hle hor (fun h m2 hS2 e2 => ih x m2 hS2 (by omega) (Or.inl (by omega)) (by omega))
set_option maxRecDepth 100000 in
set_option maxHeartbeats 4000000 in
theorem nxM (hc : c = cA ∨ c = cB) (hb : m.2.2 = c) (hM : Mok TYg m) : ∀ (n : Nat) (m1 : MM), St wN7 m m1 → (gI m 1175 31).toInt ≤ (gI m1 1175 31).toInt → (800 - (gI m1 1175 31).toInt).toNat = n → At (E0 4) mX7_next (QN m) 0 [.ref 1175, .null] [] m1 := by
  have step : ∀ (m1 : MM), St wN7 m m1 → (gI m 1175 31).toInt ≤ (gI m1 1175 31).toInt → ((gI m1 1175 31).toInt < 800 → ∀ m2, St wN7 m m2 → (gI m2 1175 31).toInt = (gI m1 1175 31).toInt + 1 → At (E0 4) mX7_next (QN m) 0 [.ref 1175, .null] [] m2) → At (E0 4) mX7_next (QN m) 0 [.ref 1175, .null] [] m1 := by
    intro m1 hS hle hgo
    have a2 : (0 : Int) ≤ (gI m1 1175 30).toInt ∧ (gI m1 1175 30).toInt ≤ 800 := hS.1.1 1175 30
    have a1 : (0 : Int) ≤ (gI m1 1175 31).toInt ∧ (gI m1 1175 31).toInt ≤ 800 := hS.1.1 1175 31
    refine At.ls okX7_next 90 ⟨_, _, rfl⟩ ?_
    (conv => whnf)
    refine ⟨1, by decide, _, h_here hS.1, ?_⟩
    rintro r m' ⟨hmm, hr⟩; have hmm := hmm.symm; subst hmm
    (conv => whnf)
    refine And.intro (fun h0 => ?_) (fun h0 => ?_)
    · have hl : (gI m1 1175 31).toInt < (gI m1 1175 30).toInt := by
        rcases hr with ⟨s1, s2⟩ | ⟨s1, s2⟩
        · exact s1
        · rw [s2] at h0; exact absurd h0 (by decide)
      obtain ⟨hS2, e2⟩ := incAt hS hl
      (conv => whnf)
      exact And.intro rfl (hgo (by omega) _ hS2 e2)
    · (conv => whnf)
      refine ⟨1, by decide, _, h_here hS.1, ?_⟩
      rintro r2 m' ⟨hmm, hr2⟩; have hmm := hmm.symm; subst hmm
      (conv => whnf)
      refine And.intro (fun h1 => ?_) (fun h1 => ?_)
      · have hS2 := hS.nf (k := 32) (v := gI m1 1175 31) (by decide) (show (0 : Int) ≤ _ from a1.1) (show _ ≤ (800 : Int) from a1.2)
        (conv => whnf)
        refine ⟨1, by decide, _, h_here hS2.1, ?_⟩
        rintro x m' ⟨rfl, hx⟩
        have hx : ((gI m1 1175 31).toInt < (gI m1 1175 30).toInt ∧ x = gI m1 3277992 (gI m1 1175 31).toNatClampNeg) ∨ (¬ (gI m1 1175 31).toInt < (gI m1 1175 30).toInt ∧ x = -1) := hx
        (conv => whnf)
        refine And.intro (fun h2 => ?_) (fun h2 => ?_)
        · have hx : (gI m1 1175 31).toInt < (gI m1 1175 30).toInt ∧ x = gI m1 3277992 (gI m1 1175 31).toNatClampNeg := by
            rcases hx with q | q
            · exact q
            · exact absurd q.2 h2
          (conv => whnf)
          refine ⟨1, by decide, _, h_isSmall, ?_⟩
          rintro z m' ⟨rfl, hz⟩
          (conv => whnf)
          refine And.intro (fun h3 => ?_) (fun h3 => ?_)
          · (conv => whnf)
            refine ⟨1, by decide, _, h_isDigit, ?_⟩
            rintro z2 m' ⟨rfl, hz2⟩
            (conv => whnf)
            refine And.intro (fun h4 => ?_) (fun h4 => ?_)
            · have key : ∀ v : Int32, 0 ≤ v.toInt → v.toInt ≤ 5 → St wN7 m (sI (sI (sI m1 1175 32 (gI m1 1175 31)) 1175 33 v) 1175 31 (gI m1 1175 31 + 1)) ∧ (gI m1 1175 31 + 1).toInt = (gI m1 1175 31).toInt + 1 := fun v _ _ => incAt (m1 := sI (sI m1 1175 32 (gI m1 1175 31)) 1175 33 v) (hS2.nf (by decide) (tI_lo v) (tI_hi v)) hx.1
              (conv => whnf)
              refine And.intro (fun _ => ?_) (fun _ => ?_)
              · obtain ⟨k1, k2⟩ := key 5 (by decide) (by decide)
                exact nEnd hM k1 (Or.inl (show _ < (gI m1 1175 31 + 1).toInt by omega))
              · obtain ⟨k1, k2⟩ := key 3 (by decide) (by decide)
                exact nEnd hM k1 (Or.inl (show _ < (gI m1 1175 31 + 1).toInt by omega))
            · have hS4 := (hS2.nf (k := 33) (v := 2) (by decide) (by decide) (by decide)).nf (k := 34) (v := 0) (by decide) (by decide) (by decide)
              (conv => whnf)
              refine And.intro rfl (nxD hc hb hM _ x _ hS4 hle (Or.inr ⟨hx.1, ?_⟩) rfl)
              rcases hz2 with ⟨p1, p2⟩ | ⟨p1, p2⟩
              · rw [hx.2] at p1; exact p1
              · exact absurd p2 h4
          · (conv => whnf)
            refine And.intro rfl (nxS hc hb hM _ x _ hS2 hle (Or.inr ⟨hx.1, ?_⟩) rfl)
            rcases hz with ⟨p1, p2⟩ | ⟨p1, p2⟩
            · rw [hx.2] at p1; exact p1
            · exact absurd p2 h3
        · exact nEnd hM (hS2.nf (k := 33) (v := 4) (by decide) (by decide) (by decide)) (Or.inr ⟨hle, rfl⟩)
      · have hl : (gI m1 1175 31).toInt < (gI m1 1175 30).toInt := by
          rcases hr2 with ⟨s1, s2⟩ | ⟨s1, s2⟩
          · exact s1
          · rw [s2] at h1; exact absurd h1 (by decide)
        obtain ⟨hS2, e2⟩ := incAt hS hl
        (conv => whnf)
        exact And.intro rfl (hgo (by omega) _ hS2 e2)
  intro n
  induction n with
  | zero =>
    intro m1 hS hle hn
    exact step m1 hS hle (fun h => by omega)
  | succ n ih =>
    intro m1 hS hle hn
    exact step m1 hS hle (fun h m2 hS2 e2 => ih m2 hS2 (by omega) (by omega))
end Nx
set_option maxRecDepth 100000 in
theorem nextQ (c : Nat × Nat) (hc : c = cA ∨ c = cB) {m : MM} (hM : Mok TYg m) (hb : m.2.2 = c) : At (E0 4) mX7_next (QN m) 0 [.ref 1175, .null] [] m := nxM hc hb hM _ m (St.rf hM) (Int.le_refl _) rfl
theorem hpNext (c : Nat × Nat) (hc : c = cA ∨ c = cB) : SafeC TYg c mX7_next acNext := by
  intro as m hF hM hb _
  match as, hF with
  | [x0], hF =>
    have e0 : x0 = .ref 1175 := hF.1
    subst e0
    exact At.mono (nextQ c hc hM hb) (fun r m' q => q.1)
