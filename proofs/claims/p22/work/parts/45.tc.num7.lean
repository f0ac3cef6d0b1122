/-! the model: faults, words, numbers, names -/
def wRd7 : List Nat := [7, 137438954647, 141733921943, 146028889239, 150323856535, 154618823831, 158913791127]
/-- where the model's reader stands: at a token, or behind a fault -/
def Sx (b : BT) (e : Nat) (x : ER TK) (m : MM) : Prop := Mok TYg m ∧ mbR m b e ∧ (gI m 1175 30).toInt = e ∧ e ≤ 800 ∧ match x with
  | .inl er => 1 ≤ er.1 ∧ er.1 ≤ 5 ∧ (gI m 1175 35).toInt = er.1 ∧ (gI m 1175 36).toInt = er.2
  | .inr t => tkM m t ∧ t.2.2.2 ≤ e ∧ gI m 1175 35 = 0 ∧ gI m 1175 36 = -1
def mxFree (W : List Nat) : Bool := !(elm 3277992 W) && (List.range 7).all (fun k => !(elm (wk 1175 (k + 30)) W))
theorem tkM.cg {m m' : MM} {t : TK} (h : tkM m t) (h1 : gI m' 1175 31 = gI m 1175 31) (h2 : gI m' 1175 32 = gI m 1175 32) (h3 : gI m' 1175 33 = gI m 1175 33) (h4 : gI m' 1175 34 = gI m 1175 34) : tkM m' t := by
  unfold tkM at h ⊢
  rw [h1, h2, h3, h4]
  exact h
theorem Sx.fr {b : BT} {e : Nat} {x : ER TK} {W : List Nat} {m m' : MM} (h : Sx b e x m) (hS : St W m m') (hW : mxFree W = true) : Sx b e x m' := by
  unfold mxFree at hW
  rw [Bool.and_eq_true, List.all_eq_true] at hW
  have f : ∀ k, k < 7 → gI m' 1175 (k + 30) = gI m 1175 (k + 30) := fun k hk => fr1 hS.2.2 (nelm6 (hW.2 k (List.mem_range.mpr hk)))
  refine ⟨hS.1, h.2.1.fr hS.2.2 (by cases hq : elm 3277992 W with
    | false => rfl
    | true => rw [hq] at hW; cases hW.1), by rw [f 0 (by omega)]; exact h.2.2.1, h.2.2.2.1, ?_⟩
  have hx := h.2.2.2.2
  cases x with
  | inl er => exact ⟨hx.1, hx.2.1, by rw [f 5 (by omega)]; exact hx.2.2.1, by rw [f 6 (by omega)]; exact hx.2.2.2⟩
  | inr t => exact ⟨hx.1.cg (f 1 (by omega)) (f 2 (by omega)) (f 3 (by omega)) (f 4 (by omega)), hx.2.1, (f 5 (by omega)).trans hx.2.2.1, (f 6 (by omega)).trans hx.2.2.2⟩
theorem Sx.z {b : BT} {e : Nat} {x : ER TK} {m : MM} (h : Sx b e x m) (hz : gI m 1175 35 = 0) : ∃ t, x = .inr t ∧ tkM m t ∧ t.2.2.2 ≤ e := by
  have hx := h.2.2.2.2
  cases x with
  | inl er =>
    have h1 : (gI m 1175 35).toInt = er.1 := hx.2.2.1
    have h2 := hx.1
    rw [hz] at h1
    have : (0 : Int32).toInt = 0 := rfl
    omega
  | inr t => exact ⟨t, rfl, hx.1, hx.2.1⟩
theorem Sx.n {b : BT} {e : Nat} {x : ER TK} {m : MM} (h : Sx b e x m) (hz : ¬ gI m 1175 35 = 0) : ∃ er, x = .inl er := by
  cases x with
  | inl er => exact ⟨er, rfl⟩
  | inr t => exact absurd h.2.2.2.2.2.2.1 hz
def tl {α : Type} (x : ER (α × TK)) : ER TK := bd x fun a => .inr a.2
section Mn
variable {b : BT} {e : Nat} {x : ER TK} {t : TK} {m : MM}
set_option maxRecDepth 100000 in
theorem s_wrong {k : Int32} {n : Nat} (h : Sx b e x m) (hk : k.toInt = n) (h1 : 1 ≤ n ∧ n ≤ 5) : CV 1 mX7_wrong [.ref 1175, .int k] m (fun m' => St wRd7 m m' ∧ Sx b e (bd x fun t => .inl (n, t.2.1)) m') := by
  refine At.gs okX7_wrong 40 ?_
  (conv => whnf)
  refine And.intro (fun q => ?_) (fun q => ?_)
  · have q : gI m 1175 35 = 0 := q
    obtain ⟨t, rfl, ht, hq⟩ := h.z q
    have S : St wRd7 m (sI (sI m 1175 35 k) 1175 36 (gI m 1175 32)) := ((St.rf h.1).fld (a := 1175) (k := 35) (v := k) (by decide) (show (0 : Int) ≤ _ by omega) (show _ ≤ (5 : Int) by omega) (fun z => absurd (by decide) z)).fld (a := 1175) (k := 36) (v := gI m 1175 32) (by decide) (tI_lo _) (tI_hi _) (fun z => absurd (by decide) z)
    exact ⟨S, S.1, h.2.1.fr S.2.2 (by decide), h.2.2.1, h.2.2.2.1, h1.1, h1.2, hk, ht.2.1⟩
  · have q : ¬ gI m 1175 35 = 0 := q
    obtain ⟨er, rfl⟩ := h.n q
    exact ⟨St.rf h.1, h⟩
set_option maxRecDepth 100000 in
theorem s_isWord {w : Int32} (h : Sx b e x m) (h0 : 0 ≤ w.toInt) : CI 1 mX7_isWord [.ref 1175, .int w] m (fun r m' => m' = m ∧ z1 (∃ t, x = .inr t ∧ t.1 = 1 ∧ lg t.2.2.1 = w.toInt) r) := by
  refine At.gs okX7_isWord 40 ?_
  (conv => whnf)
  refine And.intro (fun q => ?_) (fun q => ?_)
  · have q : ¬ gI m 1175 35 = 0 := q
    obtain ⟨er, rfl⟩ := h.n q
    exact ⟨Or.inl rfl, rfl, Or.inr ⟨(fun ⟨t, h, _⟩ => by cases h), rfl⟩⟩
  · have q : gI m 1175 35 = 0 := q
    obtain ⟨t, rfl, ⟨t1, t2, t3⟩, hq⟩ := h.z q
    (conv => whnf)
    refine And.intro (fun q1 => ?_) (fun q1 => ?_)
    · have q1 : ¬ gI m 1175 33 = 0 := q1
      refine ⟨Or.inl rfl, rfl, Or.inr ⟨fun ⟨t', h, z1, z2⟩ => ?_, rfl⟩⟩
      cases h
      rcases t3 with y | y | y | y | y | y
      · omega
      · exact q1 y.2.2.1
      · omega
      · omega
      · omega
      · omega
    · have q1 : gI m 1175 33 = 0 := q1
      have t4 : t.1 = 1 ∧ lg t.2.2.1 ≠ -1 ∧ gI m 1175 33 = 0 ∧ (gI m 1175 34).toInt = lg t.2.2.1 := by
        rcases t3 with y | y | y | y | y | y
        · rw [y.2] at q1; exact absurd q1 (by decide)
        · exact y
        · rw [y.2.2.1] at q1; exact absurd q1 (by decide)
        · rw [y.2.1] at q1; exact absurd q1 (by decide)
        · rw [y.2] at q1; exact absurd q1 (by decide)
        · rw [y.2] at q1; exact absurd q1 (by decide)
      (conv => whnf)
      refine And.intro (fun q2 => ?_) (fun q2 => ?_)
      · have q2 : ¬ gI m 1175 34 = w := q2
        refine ⟨Or.inl rfl, rfl, Or.inr ⟨fun ⟨t', h, z1, z2⟩ => ?_, rfl⟩⟩
        cases h
        exact q2 (Int32.toInt_inj.mp (by rw [t4.2.2.2, z2]))
      · have q2 : gI m 1175 34 = w := q2
        exact ⟨Or.inr rfl, rfl, Or.inl ⟨⟨t, rfl, t4.1, by rw [← t4.2.2.2, q2]⟩, rfl⟩⟩
theorem s_next (h : Sx b e (.inr t) m) : CV 4 mX7_next [.ref 1175] m (fun m' => St wRd7 m m' ∧ Sx b e (.inr (nx b e t)) m') :=
  CV.mono (h_next7 h.1 h.2.1 h.2.2.1 h.2.2.2.2.1.1 h.2.2.2.2.2.1 h.2.2.2.1) (fun m' q => by
    refine ⟨⟨q.1.1, q.1.2.1, Fr_tr (Fr_rfl _ _) q.1.2.2 (by decide)⟩, q.1.1, h.2.1.fr q.1.2.2 (by decide), ?_, h.2.2.2.1, q.2, nx_le h.2.2.2.2.2.1, (fr1 q.1.2.2 (by decide)).trans h.2.2.2.2.2.2.1, (fr1 q.1.2.2 (by decide)).trans h.2.2.2.2.2.2.2⟩
    rw [fr1 q.1.2.2 (by decide : ¬ wk 1175 30 ∈ wN7)]
    exact h.2.2.1)
set_option maxRecDepth 100000 in
theorem s_goOn (h : Sx b e x m) : CV 5 mX7_goOn [.ref 1175] m (fun m' => St wRd7 m m' ∧ Sx b e (bd x fun t => .inr (nx b e t)) m') := by
  refine At.gs okX7_goOn 40 ?_
  (conv => whnf)
  refine And.intro (fun q => ?_) (fun q => ?_)
  · have q : ¬ gI m 1175 35 = 0 := q
    obtain ⟨er, rfl⟩ := h.n q
    exact ⟨St.rf h.1, h⟩
  · have q : gI m 1175 35 = 0 := q
    obtain ⟨t, rfl, -, -⟩ := h.z q
    (conv => whnf)
    refine ⟨4, by decide, _, s_next h, ?_⟩
    rintro m' hq
    exact hq
/-- sorts of a token, as the model has them -/
theorem tkM.s2 (h : tkM m t) : gI m 1175 33 = 2 ↔ t.1 = 2 := by
  rcases h.2.2 with y | y | y | y | y | y
  · rw [y.2, y.1]; decide
  · rw [y.2.2.1, y.1]; decide
  · rw [y.2.2.1, y.1]; decide
  · rw [y.2.1, y.1]; decide
  · rw [y.2, y.1]; decide
  · rw [y.2, y.1]; decide
theorem tkM.s1 (h : tkM m t) : gI m 1175 33 = 1 ↔ (t.1 = 1 ∧ lg t.2.2.1 = -1) := by
  rcases h.2.2 with y | y | y | y | y | y
  · rw [y.2, y.1]; exact ⟨fun q => absurd q (by decide), fun q => absurd q.1 (by decide)⟩
  · rw [y.2.2.1]; exact ⟨fun q => absurd q (by decide), fun q => absurd q.2 y.2.1⟩
  · exact ⟨fun _ => ⟨y.1, y.2.1⟩, fun _ => y.2.2.1⟩
  · rw [y.2.1, y.1]; exact ⟨fun q => absurd q (by decide), fun q => absurd q.1 (by decide)⟩
  · rw [y.2, y.1]; exact ⟨fun q => absurd q (by decide), fun q => absurd q.1 (by decide)⟩
  · rw [y.2, y.1]; exact ⟨fun q => absurd q (by decide), fun q => absurd q.1 (by decide)⟩
theorem tkM.v2 (h : tkM m t) (h2 : t.1 = 2) : NV t.2.2.1 (gI m 1175 34).toInt := by
  rcases h.2.2 with y | y | y | y | y | y
  · omega
  · omega
  · omega
  · exact y.2.2
  · omega
  · omega
theorem tkM.v1 (h : tkM m t) (h1 : t.1 = 1) (h2 : lg t.2.2.1 = -1) : (gI m 1175 34).toInt = t.2.2.1 := by
  rcases h.2.2 with y | y | y | y | y | y
  · omega
  · exact absurd h2 y.2.1
  · exact y.2.2.2
  · omega
  · omega
  · omega
def cdNu : List CE := stops [46] cdX7_numeral
theorem okNu : CodeOk mX7_numeral cdNu := okX7_numeral.st [46] (by rfl)
set_option maxRecDepth 100000 in
set_option maxHeartbeats 4000000 in
theorem s_num {lo hi : Int32} (h : Sx b e x m) (h0 : 0 ≤ lo.toInt) (h1 : lo.toInt ≤ hi.toInt) (h9 : hi.toInt ≤ 999999) : CI 5 mX7_numeral [.ref 1175, .int lo, .int hi] m (fun r m' => St wRd7 m m' ∧ Sx b e (tl (bd x (numS b e lo.toInt hi.toInt))) m' ∧ (∀ a, bd x (numS b e lo.toInt hi.toInt) = .inr a → r.toInt = a.1) ∧ lo.toInt ≤ r.toInt ∧ r.toInt ≤ hi.toInt) := by
  have dead : ∀ m1 : MM, St wRd7 m m1 → ∀ er, bd x (numS b e lo.toInt hi.toInt) = .inl er → Sx b e (.inl er) m1 → At (E0 5) mX7_numeral (qi (fun r m' => St wRd7 m m' ∧ Sx b e (tl (bd x (numS b e lo.toInt hi.toInt))) m' ∧ (∀ a, bd x (numS b e lo.toInt hi.toInt) = .inr a → r.toInt = a.1) ∧ lo.toInt ≤ r.toInt ∧ r.toInt ≤ hi.toInt)) 46 [.ref 1175, .int lo, .int hi, .null] [] m1 := by
    intro m1 S1 er ex h1'
    refine At.ls okNu 40 ⟨_, _, rfl⟩ ?_
    (conv => whnf)
    refine And.intro (fun q => ?_) (fun q => ?_)
    · have q : gI m1 1175 35 = 0 := q
      obtain ⟨t, ht, -⟩ := h1'.z q
      cases ht
    · refine ⟨S1, ?_, fun a ha => (by rw [ex] at ha; cases ha), Int.le_refl _, h1⟩
      rw [ex]
      exact h1'
  refine At.gs okNu 60 ?_
  (conv => whnf)
  refine And.intro (fun q => ?_) (fun q => ?_)
  · have q : gI m 1175 35 = 0 := q
    obtain ⟨t, rfl, ht, hq⟩ := h.z q
    (conv => whnf)
    refine And.intro (fun q1 => ?_) (fun q1 => ?_)
    · have q1 : gI m 1175 33 = 2 := q1
      have et := ht.s2.mp q1
      have hv := ht.v2 et
      have tooMuch : ¬ (lo.toInt ≤ t.2.2.1 ∧ t.2.2.1 ≤ hi.toInt) → ∀ m1, (St wRd7 m m1 ∧ Sx b e (bd (.inr t) fun t => .inl (2, t.2.1)) m1) → At (E0 5) mX7_numeral (qi (fun r m' => St wRd7 m m' ∧ Sx b e (tl (bd (.inr t) (numS b e lo.toInt hi.toInt))) m' ∧ (∀ a, bd (.inr t) (numS b e lo.toInt hi.toInt) = .inr a → r.toInt = a.1) ∧ lo.toInt ≤ r.toInt ∧ r.toInt ≤ hi.toInt)) 46 [.ref 1175, .int lo, .int hi, .null] [] m1 := fun hn m1 hq => dead m1 hq.1 (2, t.2.1) (by
        show numS b e lo.toInt hi.toInt t = _
        unfold numS
        rw [if_pos et, if_neg hn]) hq.2
      (conv => whnf)
      refine And.intro (fun q2 => ?_) (fun q2 => ?_)
      · have q2 : gI m 1175 34 < lo := q2
        rw [lt_i] at q2
        (conv => whnf)
        refine ⟨1, by decide, _, s_wrong (n := 2) h rfl (by omega), ?_⟩
        rintro m1 hq
        (conv => whnf)
        exact And.intro rfl (tooMuch (fun z => by rcases hv with y | y <;> omega) m1 hq)
      · have q2 : ¬ gI m 1175 34 < lo := q2
        rw [lt_i] at q2
        (conv => whnf)
        refine And.intro (fun q3 => ?_) (fun q3 => ?_)
        · have q3 : gI m 1175 34 ≤ hi := q3
          rw [le_i] at q3
          have hv1 : (gI m 1175 34).toInt = t.2.2.1 := by rcases hv with y | y <;> omega
          have es : numS b e lo.toInt hi.toInt t = .inr (t.2.2.1, nx b e t) := by
            unfold numS
            rw [if_pos et, if_pos (by omega)]
          (conv => whnf)
          refine And.intro rfl ?_
          refine At.ls okNu 40 ⟨_, _, rfl⟩ ?_
          (conv => whnf)
          refine And.intro (fun _ => ?_) (fun z => absurd q z)
          (conv => whnf)
          refine ⟨4, by decide, _, s_next h, ?_⟩
          rintro m1 ⟨S1, h1'⟩
          refine ⟨S1, ?_, fun a ha => ?_, by omega, by omega⟩
          · show Sx b e (tl (numS b e lo.toInt hi.toInt t)) m1
            rw [es]
            exact h1'
          · have ha : numS b e lo.toInt hi.toInt t = .inr a := ha
            rw [es] at ha
            cases ha
            exact hv1
        · have q3 : ¬ gI m 1175 34 ≤ hi := q3
          rw [le_i] at q3
          (conv => whnf)
          refine ⟨1, by decide, _, s_wrong (n := 2) h rfl (by omega), ?_⟩
          rintro m1 hq
          (conv => whnf)
          exact And.intro rfl (tooMuch (fun z => by rcases hv with y | y <;> omega) m1 hq)
    · have q1 : ¬ gI m 1175 33 = 2 := q1
      (conv => whnf)
      refine ⟨1, by decide, _, s_wrong (n := 1) h rfl (by omega), ?_⟩
      rintro m1 hq
      (conv => whnf)
      exact And.intro rfl (dead m1 hq.1 (1, t.2.1) (by
        show numS b e lo.toInt hi.toInt t = _
        unfold numS
        rw [if_neg (fun z => q1 (ht.s2.mpr z))]) hq.2)
  · have q : ¬ gI m 1175 35 = 0 := q
    obtain ⟨er, rfl⟩ := h.n q
    exact ⟨St.rf h.1, h, fun a ha => (by cases ha), Int.le_refl _, h1⟩
set_option maxRecDepth 100000 in
set_option maxHeartbeats 4000000 in
theorem s_found_42168 {nm mnI : Int32} {mn : Nat} (hn : mnI.toInt = mn) (h0 : mn ≤ 5) : CI 1 mX7_found [.ref 42168, .int 5, .int mnI, .int nm] m (fun r m' => m' = m ∧ r.toInt = fIx (fun i => (gI m 42168 (5 + i)).toInt) nm.toInt mn 0) := by
  have eo : (5 : Int32).toInt = 5 := rfl
  have lp : ∀ (n j : Nat) (i : Int32), i.toInt = j → mn = j + n → At (E0 1) mX7_found (qi (fun r m' => m' = m ∧ r.toInt = fIx (fun i => (gI m 42168 (5 + i)).toInt) nm.toInt n j)) 3 [.ref 42168, .int 5, .int mnI, .int nm, .int i] [] m := by
    intro n
    induction n with
    | zero =>
      intro j i hi hj
      refine At.ls okX7_found 40 ⟨_, _, rfl⟩ ?_
      (conv => whnf)
      refine And.intro (fun h => ?_) (fun h => ?_)
      · exact ⟨rfl, rfl⟩
      · rw [le_i] at h
        omega
    | succ n ih =>
      intro j i hi hj
      have e1 : (i + 1).toInt = (j + 1 : Nat) := by rw [inc1 (by omega), hi]; omega
      have e5 : ((5 : Int32) + i).toInt = ((5 + j : Nat) : Int) := by
        rw [tI_add (by rw [eo]; unfold i32lo; omega) (by rw [eo]; unfold i32hi; omega), eo, hi]; omega
      refine At.ls okX7_found 40 ⟨_, _, rfl⟩ ?_
      (conv => whnf)
      refine And.intro (fun h => ?_) (fun h => ?_)
      · rw [le_i] at h
        omega
      · (conv => whnf)
        refine And.intro (vp_in_iff.mpr ⟨by omega, show ((5 : Int32) + i).toInt < ((10 : Nat) : Int) by omega⟩) ?_
        (conv => whnf)
        refine And.intro (fun h2 => ?_) (fun h2 => ?_)
        · have h2 : ¬ gI m 42168 ((5 : Int32) + i).toNatClampNeg = nm := h2
          rw [nat_c e5] at h2
          (conv => whnf)
          refine And.intro rfl (At.mono (ih (j + 1) (i + 1) e1 (by omega)) (fun r m' q => ?_))
          unfold qi at q ⊢
          split at q
          · refine ⟨q.1, q.2.trans ?_⟩
            show _ = (if (gI m 42168 (5 + j)).toInt = nm.toInt then (j : Int) else _)
            rw [if_neg (fun z => h2 (Int32.toInt_inj.mp z))]
          · exact q.elim
        · have h2 : gI m 42168 ((5 : Int32) + i).toNatClampNeg = nm := h2
          rw [nat_c e5] at h2
          refine ⟨rfl, ?_⟩
          show i.toInt = (if (gI m 42168 (5 + j)).toInt = nm.toInt then (j : Int) else _)
          rw [if_pos (by rw [h2]), hi]
  refine At.gs okX7_found 40 ?_
  (conv => whnf)
  exact And.intro rfl (lp _ 0 0 rfl (by omega))
set_option maxRecDepth 100000 in
set_option maxHeartbeats 4000000 in
theorem s_found_34008 {nm mnI : Int32} {mn : Nat} (hn : mnI.toInt = mn) (h0 : mn ≤ 4) : CI 1 mX7_found [.ref 34008, .int 4, .int mnI, .int nm] m (fun r m' => m' = m ∧ r.toInt = fIx (fun i => (gI m 34008 (4 + i)).toInt) nm.toInt mn 0) := by
  have eo : (4 : Int32).toInt = 4 := rfl
  have lp : ∀ (n j : Nat) (i : Int32), i.toInt = j → mn = j + n → At (E0 1) mX7_found (qi (fun r m' => m' = m ∧ r.toInt = fIx (fun i => (gI m 34008 (4 + i)).toInt) nm.toInt n j)) 3 [.ref 34008, .int 4, .int mnI, .int nm, .int i] [] m := by
    intro n
    induction n with
    | zero =>
      intro j i hi hj
      refine At.ls okX7_found 40 ⟨_, _, rfl⟩ ?_
      (conv => whnf)
      refine And.intro (fun h => ?_) (fun h => ?_)
      · exact ⟨rfl, rfl⟩
      · rw [le_i] at h
        omega
    | succ n ih =>
      intro j i hi hj
      have e1 : (i + 1).toInt = (j + 1 : Nat) := by rw [inc1 (by omega), hi]; omega
      have e5 : ((4 : Int32) + i).toInt = ((4 + j : Nat) : Int) := by
        rw [tI_add (by rw [eo]; unfold i32lo; omega) (by rw [eo]; unfold i32hi; omega), eo, hi]; omega
      refine At.ls okX7_found 40 ⟨_, _, rfl⟩ ?_
      (conv => whnf)
      refine And.intro (fun h => ?_) (fun h => ?_)
      · rw [le_i] at h
        omega
      · (conv => whnf)
        refine And.intro (vp_in_iff.mpr ⟨by omega, show ((4 : Int32) + i).toInt < ((8 : Nat) : Int) by omega⟩) ?_
        (conv => whnf)
        refine And.intro (fun h2 => ?_) (fun h2 => ?_)
        · have h2 : ¬ gI m 34008 ((4 : Int32) + i).toNatClampNeg = nm := h2
          rw [nat_c e5] at h2
          (conv => whnf)
          refine And.intro rfl (At.mono (ih (j + 1) (i + 1) e1 (by omega)) (fun r m' q => ?_))
          unfold qi at q ⊢
          split at q
          · refine ⟨q.1, q.2.trans ?_⟩
            show _ = (if (gI m 34008 (4 + j)).toInt = nm.toInt then (j : Int) else _)
            rw [if_neg (fun z => h2 (Int32.toInt_inj.mp z))]
          · exact q.elim
        · have h2 : gI m 34008 ((4 : Int32) + i).toNatClampNeg = nm := h2
          rw [nat_c e5] at h2
          refine ⟨rfl, ?_⟩
          show i.toInt = (if (gI m 34008 (4 + j)).toInt = nm.toInt then (j : Int) else _)
          rw [if_pos (by rw [h2]), hi]
  refine At.gs okX7_found 40 ?_
  (conv => whnf)
  exact And.intro rfl (lp _ 0 0 rfl (by omega))
set_option maxRecDepth 100000 in
set_option maxHeartbeats 4000000 in
theorem s_found_99560 {nm mnI : Int32} {mn : Nat} (hn : mnI.toInt = mn) (h0 : mn ≤ 12) : CI 1 mX7_found [.ref 99560, .int 12, .int mnI, .int nm] m (fun r m' => m' = m ∧ r.toInt = fIx (fun i => (gI m 99560 (12 + i)).toInt) nm.toInt mn 0) := by
  have eo : (12 : Int32).toInt = 12 := rfl
  have lp : ∀ (n j : Nat) (i : Int32), i.toInt = j → mn = j + n → At (E0 1) mX7_found (qi (fun r m' => m' = m ∧ r.toInt = fIx (fun i => (gI m 99560 (12 + i)).toInt) nm.toInt n j)) 3 [.ref 99560, .int 12, .int mnI, .int nm, .int i] [] m := by
    intro n
    induction n with
    | zero =>
      intro j i hi hj
      refine At.ls okX7_found 40 ⟨_, _, rfl⟩ ?_
      (conv => whnf)
      refine And.intro (fun h => ?_) (fun h => ?_)
      · exact ⟨rfl, rfl⟩
      · rw [le_i] at h
        omega
    | succ n ih =>
      intro j i hi hj
      have e1 : (i + 1).toInt = (j + 1 : Nat) := by rw [inc1 (by omega), hi]; omega
      have e5 : ((12 : Int32) + i).toInt = ((12 + j : Nat) : Int) := by
        rw [tI_add (by rw [eo]; unfold i32lo; omega) (by rw [eo]; unfold i32hi; omega), eo, hi]; omega
      refine At.ls okX7_found 40 ⟨_, _, rfl⟩ ?_
      (conv => whnf)
      refine And.intro (fun h => ?_) (fun h => ?_)
      · rw [le_i] at h
        omega
      · (conv => whnf)
        refine And.intro (vp_in_iff.mpr ⟨by omega, show ((12 : Int32) + i).toInt < ((24 : Nat) : Int) by omega⟩) ?_
        (conv => whnf)
        refine And.intro (fun h2 => ?_) (fun h2 => ?_)
        · have h2 : ¬ gI m 99560 ((12 : Int32) + i).toNatClampNeg = nm := h2
          rw [nat_c e5] at h2
          (conv => whnf)
          refine And.intro rfl (At.mono (ih (j + 1) (i + 1) e1 (by omega)) (fun r m' q => ?_))
          unfold qi at q ⊢
          split at q
          · refine ⟨q.1, q.2.trans ?_⟩
            show _ = (if (gI m 99560 (12 + j)).toInt = nm.toInt then (j : Int) else _)
            rw [if_neg (fun z => h2 (Int32.toInt_inj.mp z))]
          · exact q.elim
        · have h2 : gI m 99560 ((12 : Int32) + i).toNatClampNeg = nm := h2
          rw [nat_c e5] at h2
          refine ⟨rfl, ?_⟩
          show i.toInt = (if (gI m 99560 (12 + j)).toInt = nm.toInt then (j : Int) else _)
          rw [if_pos (by rw [h2]), hi]
  refine At.gs okX7_found 40 ?_
  (conv => whnf)
  exact And.intro rfl (lp _ 0 0 rfl (by omega))
end Mn
