/-! the model: names told ahead, new names -/
def cdTo : List CE := stops [44] cdX7_told
theorem okTo : CodeOk mX7_told cdTo := okX7_told.st [44] (by rfl)
def cdFh : List CE := stops [44] cdX7_fresh
theorem okFh : CodeOk mX7_fresh cdFh := okX7_fresh.st [44] (by rfl)
section Mt
variable {b : BT} {e : Nat} {x : ER TK} {t : TK} {m : MM} {B : TB}
set_option maxRecDepth 100000 in
set_option maxHeartbeats 4000000 in
theorem s_told_42168 {mnI : Int32} (h : Sx b e x m) (hn : mnI.toInt = B.1 0) (h0 : B.1 0 ≤ 5) (hT : ∀ i, i < B.1 0 → (gI m 42168 (5 + i)).toInt = B.2 0 i) : CI 2 mX7_told [.ref 1175, .ref 42168, .int 5, .int mnI] m (fun r m' => St wRd7 m m' ∧ Sx b e (bd x fun t => bd (tolS B 0 t) fun _ => .inr t) m' ∧ (∀ v, bd x (tolS B 0) = .inr v → r.toInt = v) ∧ 0 ≤ r.toInt ∧ (r.toInt = 0 ∨ r.toInt < B.1 0)) := by
  have em1 : (-1 : Int32).toInt = -1 := rfl
  refine At.gs okTo 60 ?_
  (conv => whnf)
  refine And.intro (fun q => ?_) (fun q => ?_)
  · have q : gI m 1175 35 = 0 := q
    obtain ⟨t, rfl, ht, hq⟩ := h.z q
    have dead : ∀ m1 : MM, St wRd7 m m1 → ∀ er, tolS B 0 t = .inl er → Sx b e (.inl er) m1 → At (E0 2) mX7_told (qi (fun r m' => St wRd7 m m' ∧ Sx b e (bd (.inr t) fun t => bd (tolS B 0 t) fun _ => .inr t) m' ∧ (∀ v, bd (.inr t) (tolS B 0) = .inr v → r.toInt = v) ∧ 0 ≤ r.toInt ∧ (r.toInt = 0 ∨ r.toInt < B.1 0))) 44 [.ref 1175, .ref 42168, .int 5, .int mnI] [] m1 := by
      intro m1 S1 er ex h1'
      refine At.ls okTo 40 ⟨_, _, rfl⟩ ?_
      (conv => whnf)
      refine And.intro (fun q => ?_) (fun q => ?_)
      · have q : gI m1 1175 35 = 0 := q
        obtain ⟨t, ht, -⟩ := h1'.z q
        cases ht
      · refine ⟨S1, ?_, fun v hv => ?_, Int.le_refl _, Or.inl rfl⟩
        · show Sx b e (bd (tolS B 0 t) fun _ => .inr t) m1
          rw [ex]
          exact h1'
        · have hv : tolS B 0 t = .inr v := hv
          rw [ex] at hv
          cases hv
    (conv => whnf)
    refine And.intro (fun q1 => ?_) (fun q1 => ?_)
    · have q1 : gI m 1175 33 = 1 := q1
      have et := ht.s1.mp q1
      have hv := ht.v1 et.1 et.2
      have ix : fIx (fun i => (gI m 42168 (5 + i)).toInt) (gI m 1175 34).toInt (B.1 0) 0 = fIx (B.2 0) t.2.2.1 (B.1 0) 0 := by
        rw [hv]
        exact fIx_cg _ _ (fun i hi => hT i (by omega))
      have hin := fIx_in (f := B.2 0) (v := t.2.2.1) (B.1 0) 0
      (conv => whnf)
      refine ⟨1, by decide, _, s_found_42168 hn h0, ?_⟩
      rintro r1 m' ⟨hmm, hr⟩; have hmm := hmm.symm; subst hmm
      have hr : r1.toInt = fIx (fun i => (gI m 42168 (5 + i)).toInt) (gI m 1175 34).toInt (B.1 0) 0 := hr
      rw [ix] at hr
      (conv => whnf)
      refine And.intro (fun q2 => ?_) (fun q2 => ?_)
      · have q2 : ¬ r1 = -1 := q2
        have hne : ¬ fIx (B.2 0) t.2.2.1 (B.1 0) 0 = -1 := fun z => q2 (Int32.toInt_inj.mp (by rw [hr, z, em1]))
        have hin := hin.resolve_left hne
        have es : tolS B 0 t = .inr (fIx (B.2 0) t.2.2.1 (B.1 0) 0) := by
          unfold tolS
          rw [if_pos et, show own 0 = 0 from rfl, if_neg hne]
        (conv => whnf)
        refine And.intro rfl ?_
        refine At.ls okTo 40 ⟨_, _, rfl⟩ ?_
        (conv => whnf)
        refine And.intro (fun _ => ?_) (fun z => absurd q z)
        (conv => whnf)
        refine ⟨1, by decide, _, s_found_42168 hn h0, ?_⟩
        rintro r2 m' ⟨hmm, hr2⟩; have hmm := hmm.symm; subst hmm
        have hr2 : r2.toInt = fIx (fun i => (gI m 42168 (5 + i)).toInt) (gI m 1175 34).toInt (B.1 0) 0 := hr2
        rw [ix] at hr2
        refine ⟨St.rf h.1, ?_, fun v hv => ?_, by omega, Or.inr (by omega)⟩
        · show Sx b e (bd (tolS B 0 t) fun _ => .inr t) m
          rw [es]
          exact h
        · have hv : tolS B 0 t = .inr v := hv
          rw [es] at hv
          cases hv
          exact hr2
      · have q2 : r1 = -1 := q2
        have hne : fIx (B.2 0) t.2.2.1 (B.1 0) 0 = -1 := by rw [← hr, q2, em1]
        (conv => whnf)
        refine ⟨1, by decide, _, s_wrong (n := 4) h rfl (by omega), ?_⟩
        rintro m1 hq
        (conv => whnf)
        exact And.intro rfl (dead m1 hq.1 (4, t.2.1) (by
          unfold tolS
          rw [if_pos et, show own 0 = 0 from rfl, if_pos hne]) hq.2)
    · have q1 : ¬ gI m 1175 33 = 1 := q1
      (conv => whnf)
      refine ⟨1, by decide, _, s_wrong (n := 1) h rfl (by omega), ?_⟩
      rintro m1 hq
      (conv => whnf)
      exact And.intro rfl (dead m1 hq.1 (1, t.2.1) (by
        unfold tolS
        rw [if_neg (fun z => q1 (ht.s1.mpr z))]) hq.2)
  · have q : ¬ gI m 1175 35 = 0 := q
    obtain ⟨er, rfl⟩ := h.n q
    exact ⟨St.rf h.1, h, (fun a ha => by cases ha), Int.le_refl _, Or.inl rfl⟩
set_option maxRecDepth 100000 in
set_option maxHeartbeats 4000000 in
theorem s_fresh_42168 {mnI : Int32} (h : Sx b e x m) (hn : mnI.toInt = B.1 0) (h0 : B.1 0 ≤ 5) (hT : ∀ i, i < B.1 0 → (gI m 42168 (5 + i)).toInt = B.2 0 i) : CI 5 mX7_fresh [.ref 1175, .ref 42168, .int 5, .int mnI] m (fun r m' => St wRd7 m m' ∧ Sx b e (tl (bd x (newS b e B 0))) m' ∧ ∀ v, bd x (newS b e B 0) = .inr v → r.toInt = v.1) := by
  have em1 : (-1 : Int32).toInt = -1 := rfl
  refine At.gs okFh 60 ?_
  (conv => whnf)
  refine And.intro (fun q => ?_) (fun q => ?_)
  · have q : gI m 1175 35 = 0 := q
    obtain ⟨t, rfl, ht, hq⟩ := h.z q
    have dead : ∀ m1 : MM, St wRd7 m m1 → ∀ er, newS b e B 0 t = .inl er → Sx b e (.inl er) m1 → At (E0 5) mX7_fresh (qi (fun r m' => St wRd7 m m' ∧ Sx b e (tl (bd (.inr t) (newS b e B 0))) m' ∧ ∀ v, bd (.inr t) (newS b e B 0) = .inr v → r.toInt = v.1)) 44 [.ref 1175, .ref 42168, .int 5, .int mnI, .null] [] m1 := by
      intro m1 S1 er ex h1'
      refine At.ls okFh 40 ⟨_, _, rfl⟩ ?_
      (conv => whnf)
      refine And.intro (fun q => ?_) (fun q => ?_)
      · have q : gI m1 1175 35 = 0 := q
        obtain ⟨t, ht, -⟩ := h1'.z q
        cases ht
      · refine ⟨S1, ?_, fun v hv => ?_⟩
        · show Sx b e (tl (newS b e B 0 t)) m1
          rw [ex]
          exact h1'
        · have hv : newS b e B 0 t = .inr v := hv
          rw [ex] at hv
          cases hv
    (conv => whnf)
    refine And.intro (fun q1 => ?_) (fun q1 => ?_)
    · have q1 : gI m 1175 33 = 1 := q1
      have et := ht.s1.mp q1
      have hv := ht.v1 et.1 et.2
      have ix : fIx (fun i => (gI m 42168 (5 + i)).toInt) (gI m 1175 34).toInt (B.1 0) 0 = fIx (B.2 0) t.2.2.1 (B.1 0) 0 := by
        rw [hv]
        exact fIx_cg _ _ (fun i hi => hT i (by omega))
      (conv => whnf)
      refine ⟨1, by decide, _, s_found_42168 hn h0, ?_⟩
      rintro r1 m' ⟨hmm, hr⟩; have hmm := hmm.symm; subst hmm
      have hr : r1.toInt = fIx (fun i => (gI m 42168 (5 + i)).toInt) (gI m 1175 34).toInt (B.1 0) 0 := hr
      rw [ix] at hr
      (conv => whnf)
      refine And.intro (fun q2 => ?_) (fun q2 => ?_)
      · have q2 : r1 = -1 := q2
        have hne : fIx (B.2 0) t.2.2.1 (B.1 0) 0 = -1 := by rw [← hr, q2, em1]
        have es : newS b e B 0 t = .inr (t.2.2.1, nx b e t) := by
          unfold newS
          rw [if_pos et, show own 0 = 0 from rfl, if_pos hne]
        (conv => whnf)
        refine And.intro rfl ?_
        refine At.ls okFh 40 ⟨_, _, rfl⟩ ?_
        (conv => whnf)
        refine And.intro (fun _ => ?_) (fun z => absurd q z)
        (conv => whnf)
        refine ⟨4, by decide, _, s_next h, ?_⟩
        rintro m1 ⟨S1, h1'⟩
        refine ⟨S1, ?_, fun v hv' => ?_⟩
        · show Sx b e (tl (newS b e B 0 t)) m1
          rw [es]
          exact h1'
        · have hv' : newS b e B 0 t = .inr v := hv'
          rw [es] at hv'
          cases hv'
          exact hv
      · have q2 : ¬ r1 = -1 := q2
        have hne : ¬ fIx (B.2 0) t.2.2.1 (B.1 0) 0 = -1 := fun z => q2 (Int32.toInt_inj.mp (by rw [hr, z, em1]))
        (conv => whnf)
        refine ⟨1, by decide, _, s_wrong (n := 3) h rfl (by omega), ?_⟩
        rintro m1 hq
        (conv => whnf)
        exact And.intro rfl (dead m1 hq.1 (3, t.2.1) (by
          unfold newS
          rw [if_pos et, show own 0 = 0 from rfl, if_neg hne]) hq.2)
    · have q1 : ¬ gI m 1175 33 = 1 := q1
      (conv => whnf)
      refine ⟨1, by decide, _, s_wrong (n := 1) h rfl (by omega), ?_⟩
      rintro m1 hq
      (conv => whnf)
      exact And.intro rfl (dead m1 hq.1 (1, t.2.1) (by
        unfold newS
        rw [if_neg (fun z => q1 (ht.s1.mpr z))]) hq.2)
  · have q : ¬ gI m 1175 35 = 0 := q
    obtain ⟨er, rfl⟩ := h.n q
    exact ⟨St.rf h.1, h, (fun a ha => by cases ha)⟩
set_option maxRecDepth 100000 in
set_option maxHeartbeats 4000000 in
theorem s_told_34008 {mnI : Int32} (h : Sx b e x m) (hn : mnI.toInt = B.1 1) (h0 : B.1 1 ≤ 4) (hT : ∀ i, i < B.1 1 → (gI m 34008 (4 + i)).toInt = B.2 2 i) : CI 2 mX7_told [.ref 1175, .ref 34008, .int 4, .int mnI] m (fun r m' => St wRd7 m m' ∧ Sx b e (bd x fun t => bd (tolS B 2 t) fun _ => .inr t) m' ∧ (∀ v, bd x (tolS B 2) = .inr v → r.toInt = v) ∧ 0 ≤ r.toInt ∧ (r.toInt = 0 ∨ r.toInt < B.1 1)) := by
  have em1 : (-1 : Int32).toInt = -1 := rfl
  refine At.gs okTo 60 ?_
  (conv => whnf)
  refine And.intro (fun q => ?_) (fun q => ?_)
  · have q : gI m 1175 35 = 0 := q
    obtain ⟨t, rfl, ht, hq⟩ := h.z q
    have dead : ∀ m1 : MM, St wRd7 m m1 → ∀ er, tolS B 2 t = .inl er → Sx b e (.inl er) m1 → At (E0 2) mX7_told (qi (fun r m' => St wRd7 m m' ∧ Sx b e (bd (.inr t) fun t => bd (tolS B 2 t) fun _ => .inr t) m' ∧ (∀ v, bd (.inr t) (tolS B 2) = .inr v → r.toInt = v) ∧ 0 ≤ r.toInt ∧ (r.toInt = 0 ∨ r.toInt < B.1 1))) 44 [.ref 1175, .ref 34008, .int 4, .int mnI] [] m1 := by
      intro m1 S1 er ex h1'
      refine At.ls okTo 40 ⟨_, _, rfl⟩ ?_
      (conv => whnf)
      refine And.intro (fun q => ?_) (fun q => ?_)
      · have q : gI m1 1175 35 = 0 := q
        obtain ⟨t, ht, -⟩ := h1'.z q
        cases ht
      · refine ⟨S1, ?_, fun v hv => ?_, Int.le_refl _, Or.inl rfl⟩
        · show Sx b e (bd (tolS B 2 t) fun _ => .inr t) m1
          rw [ex]
          exact h1'
        · have hv : tolS B 2 t = .inr v := hv
          rw [ex] at hv
          cases hv
    (conv => whnf)
    refine And.intro (fun q1 => ?_) (fun q1 => ?_)
    · have q1 : gI m 1175 33 = 1 := q1
      have et := ht.s1.mp q1
      have hv := ht.v1 et.1 et.2
      have ix : fIx (fun i => (gI m 34008 (4 + i)).toInt) (gI m 1175 34).toInt (B.1 1) 0 = fIx (B.2 2) t.2.2.1 (B.1 1) 0 := by
        rw [hv]
        exact fIx_cg _ _ (fun i hi => hT i (by omega))
      have hin := fIx_in (f := B.2 2) (v := t.2.2.1) (B.1 1) 0
      (conv => whnf)
      refine ⟨1, by decide, _, s_found_34008 hn h0, ?_⟩
      rintro r1 m' ⟨hmm, hr⟩; have hmm := hmm.symm; subst hmm
      have hr : r1.toInt = fIx (fun i => (gI m 34008 (4 + i)).toInt) (gI m 1175 34).toInt (B.1 1) 0 := hr
      rw [ix] at hr
      (conv => whnf)
      refine And.intro (fun q2 => ?_) (fun q2 => ?_)
      · have q2 : ¬ r1 = -1 := q2
        have hne : ¬ fIx (B.2 2) t.2.2.1 (B.1 1) 0 = -1 := fun z => q2 (Int32.toInt_inj.mp (by rw [hr, z, em1]))
        have hin := hin.resolve_left hne
        have es : tolS B 2 t = .inr (fIx (B.2 2) t.2.2.1 (B.1 1) 0) := by
          unfold tolS
          rw [if_pos et, show own 2 = 1 from rfl, if_neg hne]
        (conv => whnf)
        refine And.intro rfl ?_
        refine At.ls okTo 40 ⟨_, _, rfl⟩ ?_
        (conv => whnf)
        refine And.intro (fun _ => ?_) (fun z => absurd q z)
        (conv => whnf)
        refine ⟨1, by decide, _, s_found_34008 hn h0, ?_⟩
        rintro r2 m' ⟨hmm, hr2⟩; have hmm := hmm.symm; subst hmm
        have hr2 : r2.toInt = fIx (fun i => (gI m 34008 (4 + i)).toInt) (gI m 1175 34).toInt (B.1 1) 0 := hr2
        rw [ix] at hr2
        refine ⟨St.rf h.1, ?_, fun v hv => ?_, by omega, Or.inr (by omega)⟩
        · show Sx b e (bd (tolS B 2 t) fun _ => .inr t) m
          rw [es]
          exact h
        · have hv : tolS B 2 t = .inr v := hv
          rw [es] at hv
          cases hv
          exact hr2
      · have q2 : r1 = -1 := q2
        have hne : fIx (B.2 2) t.2.2.1 (B.1 1) 0 = -1 := by rw [← hr, q2, em1]
        (conv => whnf)
        refine ⟨1, by decide, _, s_wrong (n := 4) h rfl (by omega), ?_⟩
        rintro m1 hq
        (conv => whnf)
        exact And.intro rfl (dead m1 hq.1 (4, t.2.1) (by
          unfold tolS
          rw [if_pos et, show own 2 = 1 from rfl, if_pos hne]) hq.2)
    · have q1 : ¬ gI m 1175 33 = 1 := q1
      (conv => whnf)
      refine ⟨1, by decide, _, s_wrong (n := 1) h rfl (by omega), ?_⟩
      rintro m1 hq
      (conv => whnf)
      exact And.intro rfl (dead m1 hq.1 (1, t.2.1) (by
        unfold tolS
        rw [if_neg (fun z => q1 (ht.s1.mpr z))]) hq.2)
  · have q : ¬ gI m 1175 35 = 0 := q
    obtain ⟨er, rfl⟩ := h.n q
    exact ⟨St.rf h.1, h, (fun a ha => by cases ha), Int.le_refl _, Or.inl rfl⟩
set_option maxRecDepth 100000 in
set_option maxHeartbeats 4000000 in
theorem s_fresh_34008 {mnI : Int32} (h : Sx b e x m) (hn : mnI.toInt = B.1 1) (h0 : B.1 1 ≤ 4) (hT : ∀ i, i < B.1 1 → (gI m 34008 (4 + i)).toInt = B.2 2 i) : CI 5 mX7_fresh [.ref 1175, .ref 34008, .int 4, .int mnI] m (fun r m' => St wRd7 m m' ∧ Sx b e (tl (bd x (newS b e B 2))) m' ∧ ∀ v, bd x (newS b e B 2) = .inr v → r.toInt = v.1) := by
  have em1 : (-1 : Int32).toInt = -1 := rfl
  refine At.gs okFh 60 ?_
  (conv => whnf)
  refine And.intro (fun q => ?_) (fun q => ?_)
  · have q : gI m 1175 35 = 0 := q
    obtain ⟨t, rfl, ht, hq⟩ := h.z q
    have dead : ∀ m1 : MM, St wRd7 m m1 → ∀ er, newS b e B 2 t = .inl er → Sx b e (.inl er) m1 → At (E0 5) mX7_fresh (qi (fun r m' => St wRd7 m m' ∧ Sx b e (tl (bd (.inr t) (newS b e B 2))) m' ∧ ∀ v, bd (.inr t) (newS b e B 2) = .inr v → r.toInt = v.1)) 44 [.ref 1175, .ref 34008, .int 4, .int mnI, .null] [] m1 := by
      intro m1 S1 er ex h1'
      refine At.ls okFh 40 ⟨_, _, rfl⟩ ?_
      (conv => whnf)
      refine And.intro (fun q => ?_) (fun q => ?_)
      · have q : gI m1 1175 35 = 0 := q
        obtain ⟨t, ht, -⟩ := h1'.z q
        cases ht
      · refine ⟨S1, ?_, fun v hv => ?_⟩
        · show Sx b e (tl (newS b e B 2 t)) m1
          rw [ex]
          exact h1'
        · have hv : newS b e B 2 t = .inr v := hv
          rw [ex] at hv
          cases hv
    (conv => whnf)
    refine And.intro (fun q1 => ?_) (fun q1 => ?_)
    · have q1 : gI m 1175 33 = 1 := q1
      have et := ht.s1.mp q1
      have hv := ht.v1 et.1 et.2
      have ix : fIx (fun i => (gI m 34008 (4 + i)).toInt) (gI m 1175 34).toInt (B.1 1) 0 = fIx (B.2 2) t.2.2.1 (B.1 1) 0 := by
        rw [hv]
        exact fIx_cg _ _ (fun i hi => hT i (by omega))
      (conv => whnf)
      refine ⟨1, by decide, _, s_found_34008 hn h0, ?_⟩
      rintro r1 m' ⟨hmm, hr⟩; have hmm := hmm.symm; subst hmm
      have hr : r1.toInt = fIx (fun i => (gI m 34008 (4 + i)).toInt) (gI m 1175 34).toInt (B.1 1) 0 := hr
      rw [ix] at hr
      (conv => whnf)
      refine And.intro (fun q2 => ?_) (fun q2 => ?_)
      · have q2 : r1 = -1 := q2
        have hne : fIx (B.2 2) t.2.2.1 (B.1 1) 0 = -1 := by rw [← hr, q2, em1]
        have es : newS b e B 2 t = .inr (t.2.2.1, nx b e t) := by
          unfold newS
          rw [if_pos et, show own 2 = 1 from rfl, if_pos hne]
        (conv => whnf)
        refine And.intro rfl ?_
        refine At.ls okFh 40 ⟨_, _, rfl⟩ ?_
        (conv => whnf)
        refine And.intro (fun _ => ?_) (fun z => absurd q z)
        (conv => whnf)
        refine ⟨4, by decide, _, s_next h, ?_⟩
        rintro m1 ⟨S1, h1'⟩
        refine ⟨S1, ?_, fun v hv' => ?_⟩
        · show Sx b e (tl (newS b e B 2 t)) m1
          rw [es]
          exact h1'
        · have hv' : newS b e B 2 t = .inr v := hv'
          rw [es] at hv'
          cases hv'
          exact hv
      · have q2 : ¬ r1 = -1 := q2
        have hne : ¬ fIx (B.2 2) t.2.2.1 (B.1 1) 0 = -1 := fun z => q2 (Int32.toInt_inj.mp (by rw [hr, z, em1]))
        (conv => whnf)
        refine ⟨1, by decide, _, s_wrong (n := 3) h rfl (by omega), ?_⟩
        rintro m1 hq
        (conv => whnf)
        exact And.intro rfl (dead m1 hq.1 (3, t.2.1) (by
          unfold newS
          rw [if_pos et, show own 2 = 1 from rfl, if_neg hne]) hq.2)
    · have q1 : ¬ gI m 1175 33 = 1 := q1
      (conv => whnf)
      refine ⟨1, by decide, _, s_wrong (n := 1) h rfl (by omega), ?_⟩
      rintro m1 hq
      (conv => whnf)
      exact And.intro rfl (dead m1 hq.1 (1, t.2.1) (by
        unfold newS
        rw [if_neg (fun z => q1 (ht.s1.mpr z))]) hq.2)
  · have q : ¬ gI m 1175 35 = 0 := q
    obtain ⟨er, rfl⟩ := h.n q
    exact ⟨St.rf h.1, h, (fun a ha => by cases ha)⟩
set_option maxRecDepth 100000 in
set_option maxHeartbeats 4000000 in
theorem s_told_99560 {mnI : Int32} (h : Sx b e x m) (hn : mnI.toInt = B.1 2) (h0 : B.1 2 ≤ 12) (hT : ∀ i, i < B.1 2 → (gI m 99560 (12 + i)).toInt = B.2 3 i) : CI 2 mX7_told [.ref 1175, .ref 99560, .int 12, .int mnI] m (fun r m' => St wRd7 m m' ∧ Sx b e (bd x fun t => bd (tolS B 3 t) fun _ => .inr t) m' ∧ (∀ v, bd x (tolS B 3) = .inr v → r.toInt = v) ∧ 0 ≤ r.toInt ∧ (r.toInt = 0 ∨ r.toInt < B.1 2)) := by
  have em1 : (-1 : Int32).toInt = -1 := rfl
  refine At.gs okTo 60 ?_
  (conv => whnf)
  refine And.intro (fun q => ?_) (fun q => ?_)
  · have q : gI m 1175 35 = 0 := q
    obtain ⟨t, rfl, ht, hq⟩ := h.z q
    have dead : ∀ m1 : MM, St wRd7 m m1 → ∀ er, tolS B 3 t = .inl er → Sx b e (.inl er) m1 → At (E0 2) mX7_told (qi (fun r m' => St wRd7 m m' ∧ Sx b e (bd (.inr t) fun t => bd (tolS B 3 t) fun _ => .inr t) m' ∧ (∀ v, bd (.inr t) (tolS B 3) = .inr v → r.toInt = v) ∧ 0 ≤ r.toInt ∧ (r.toInt = 0 ∨ r.toInt < B.1 2))) 44 [.ref 1175, .ref 99560, .int 12, .int mnI] [] m1 := by
      intro m1 S1 er ex h1'
      refine At.ls okTo 40 ⟨_, _, rfl⟩ ?_
      (conv => whnf)
      refine And.intro (fun q => ?_) (fun q => ?_)
      · have q : gI m1 1175 35 = 0 := q
        obtain ⟨t, ht, -⟩ := h1'.z q
        cases ht
      · refine ⟨S1, ?_, fun v hv => ?_, Int.le_refl _, Or.inl rfl⟩
        · show Sx b e (bd (tolS B 3 t) fun _ => .inr t) m1
          rw [ex]
          exact h1'
        · have hv : tolS B 3 t = .inr v := hv
          rw [ex] at hv
          cases hv
    (conv => whnf)
    refine And.intro (fun q1 => ?_) (fun q1 => ?_)
    · have q1 : gI m 1175 33 = 1 := q1
      have et := ht.s1.mp q1
      have hv := ht.v1 et.1 et.2
      have ix : fIx (fun i => (gI m 99560 (12 + i)).toInt) (gI m 1175 34).toInt (B.1 2) 0 = fIx (B.2 3) t.2.2.1 (B.1 2) 0 := by
        rw [hv]
        exact fIx_cg _ _ (fun i hi => hT i (by omega))
      have hin := fIx_in (f := B.2 3) (v := t.2.2.1) (B.1 2) 0
      (conv => whnf)
      refine ⟨1, by decide, _, s_found_99560 hn h0, ?_⟩
      rintro r1 m' ⟨hmm, hr⟩; have hmm := hmm.symm; subst hmm
      have hr : r1.toInt = fIx (fun i => (gI m 99560 (12 + i)).toInt) (gI m 1175 34).toInt (B.1 2) 0 := hr
      rw [ix] at hr
      (conv => whnf)
      refine And.intro (fun q2 => ?_) (fun q2 => ?_)
      · have q2 : ¬ r1 = -1 := q2
        have hne : ¬ fIx (B.2 3) t.2.2.1 (B.1 2) 0 = -1 := fun z => q2 (Int32.toInt_inj.mp (by rw [hr, z, em1]))
        have hin := hin.resolve_left hne
        have es : tolS B 3 t = .inr (fIx (B.2 3) t.2.2.1 (B.1 2) 0) := by
          unfold tolS
          rw [if_pos et, show own 3 = 2 from rfl, if_neg hne]
        (conv => whnf)
        refine And.intro rfl ?_
        refine At.ls okTo 40 ⟨_, _, rfl⟩ ?_
        (conv => whnf)
        refine And.intro (fun _ => ?_) (fun z => absurd q z)
        (conv => whnf)
        refine ⟨1, by decide, _, s_found_99560 hn h0, ?_⟩
        rintro r2 m' ⟨hmm, hr2⟩; have hmm := hmm.symm; subst hmm
        have hr2 : r2.toInt = fIx (fun i => (gI m 99560 (12 + i)).toInt) (gI m 1175 34).toInt (B.1 2) 0 := hr2
        rw [ix] at hr2
        refine ⟨St.rf h.1, ?_, fun v hv => ?_, by omega, Or.inr (by omega)⟩
        · show Sx b e (bd (tolS B 3 t) fun _ => .inr t) m
          rw [es]
          exact h
        · have hv : tolS B 3 t = .inr v := hv
          rw [es] at hv
          cases hv
          exact hr2
      · have q2 : r1 = -1 := q2
        have hne : fIx (B.2 3) t.2.2.1 (B.1 2) 0 = -1 := by rw [← hr, q2, em1]
        (conv => whnf)
        refine ⟨1, by decide, _, s_wrong (n := 4) h rfl (by omega), ?_⟩
        rintro m1 hq
        (conv => whnf)
        exact And.intro rfl (dead m1 hq.1 (4, t.2.1) (by
          unfold tolS
          rw [if_pos et, show own 3 = 2 from rfl, if_pos hne]) hq.2)
    · have q1 : ¬ gI m 1175 33 = 1 := q1
      (conv => whnf)
      refine ⟨1, by decide, _, s_wrong (n := 1) h rfl (by omega), ?_⟩
      rintro m1 hq
      (conv => whnf)
      exact And.intro rfl (dead m1 hq.1 (1, t.2.1) (by
        unfold tolS
        rw [if_neg (fun z => q1 (ht.s1.mpr z))]) hq.2)
  · have q : ¬ gI m 1175 35 = 0 := q
    obtain ⟨er, rfl⟩ := h.n q
    exact ⟨St.rf h.1, h, (fun a ha => by cases ha), Int.le_refl _, Or.inl rfl⟩
set_option maxRecDepth 100000 in
set_option maxHeartbeats 4000000 in
theorem s_fresh_99560 {mnI : Int32} (h : Sx b e x m) (hn : mnI.toInt = B.1 2) (h0 : B.1 2 ≤ 12) (hT : ∀ i, i < B.1 2 → (gI m 99560 (12 + i)).toInt = B.2 3 i) : CI 5 mX7_fresh [.ref 1175, .ref 99560, .int 12, .int mnI] m (fun r m' => St wRd7 m m' ∧ Sx b e (tl (bd x (newS b e B 3))) m' ∧ ∀ v, bd x (newS b e B 3) = .inr v → r.toInt = v.1) := by
  have em1 : (-1 : Int32).toInt = -1 := rfl
  refine At.gs okFh 60 ?_
  (conv => whnf)
  refine And.intro (fun q => ?_) (fun q => ?_)
  · have q : gI m 1175 35 = 0 := q
    obtain ⟨t, rfl, ht, hq⟩ := h.z q
    have dead : ∀ m1 : MM, St wRd7 m m1 → ∀ er, newS b e B 3 t = .inl er → Sx b e (.inl er) m1 → At (E0 5) mX7_fresh (qi (fun r m' => St wRd7 m m' ∧ Sx b e (tl (bd (.inr t) (newS b e B 3))) m' ∧ ∀ v, bd (.inr t) (newS b e B 3) = .inr v → r.toInt = v.1)) 44 [.ref 1175, .ref 99560, .int 12, .int mnI, .null] [] m1 := by
      intro m1 S1 er ex h1'
      refine At.ls okFh 40 ⟨_, _, rfl⟩ ?_
      (conv => whnf)
      refine And.intro (fun q => ?_) (fun q => ?_)
      · have q : gI m1 1175 35 = 0 := q
        obtain ⟨t, ht, -⟩ := h1'.z q
        cases ht
      · refine ⟨S1, ?_, fun v hv => ?_⟩
        · show Sx b e (tl (newS b e B 3 t)) m1
          rw [ex]
          exact h1'
        · have hv : newS b e B 3 t = .inr v := hv
          rw [ex] at hv
          cases hv
    (conv => whnf)
    refine And.intro (fun q1 => ?_) (fun q1 => ?_)
    · have q1 : gI m 1175 33 = 1 := q1
      have et := ht.s1.mp q1
      have hv := ht.v1 et.1 et.2
      have ix : fIx (fun i => (gI m 99560 (12 + i)).toInt) (gI m 1175 34).toInt (B.1 2) 0 = fIx (B.2 3) t.2.2.1 (B.1 2) 0 := by
        rw [hv]
        exact fIx_cg _ _ (fun i hi => hT i (by omega))
      (conv => whnf)
      refine ⟨1, by decide, _, s_found_99560 hn h0, ?_⟩
      rintro r1 m' ⟨hmm, hr⟩; have hmm := hmm.symm; subst hmm
      have hr : r1.toInt = fIx (fun i => (gI m 99560 (12 + i)).toInt) (gI m 1175 34).toInt (B.1 2) 0 := hr
      rw [ix] at hr
      (conv => whnf)
      refine And.intro (fun q2 => ?_) (fun q2 => ?_)
      · have q2 : r1 = -1 := q2
        have hne : fIx (B.2 3) t.2.2.1 (B.1 2) 0 = -1 := by rw [← hr, q2, em1]
        have es : newS b e B 3 t = .inr (t.2.2.1, nx b e t) := by
          unfold newS
          rw [if_pos et, show own 3 = 2 from rfl, if_pos hne]
        (conv => whnf)
        refine And.intro rfl ?_
        refine At.ls okFh 40 ⟨_, _, rfl⟩ ?_
        (conv => whnf)
        refine And.intro (fun _ => ?_) (fun z => absurd q z)
        (conv => whnf)
        refine ⟨4, by decide, _, s_next h, ?_⟩
        rintro m1 ⟨S1, h1'⟩
        refine ⟨S1, ?_, fun v hv' => ?_⟩
        · show Sx b e (tl (newS b e B 3 t)) m1
          rw [es]
          exact h1'
        · have hv' : newS b e B 3 t = .inr v := hv'
          rw [es] at hv'
          cases hv'
          exact hv
      · have q2 : ¬ r1 = -1 := q2
        have hne : ¬ fIx (B.2 3) t.2.2.1 (B.1 2) 0 = -1 := fun z => q2 (Int32.toInt_inj.mp (by rw [hr, z, em1]))
        (conv => whnf)
        refine ⟨1, by decide, _, s_wrong (n := 3) h rfl (by omega), ?_⟩
        rintro m1 hq
        (conv => whnf)
        exact And.intro rfl (dead m1 hq.1 (3, t.2.1) (by
          unfold newS
          rw [if_pos et, show own 3 = 2 from rfl, if_neg hne]) hq.2)
    · have q1 : ¬ gI m 1175 33 = 1 := q1
      (conv => whnf)
      refine ⟨1, by decide, _, s_wrong (n := 1) h rfl (by omega), ?_⟩
      rintro m1 hq
      (conv => whnf)
      exact And.intro rfl (dead m1 hq.1 (1, t.2.1) (by
        unfold newS
        rw [if_neg (fun z => q1 (ht.s1.mpr z))]) hq.2)
  · have q : ¬ gI m 1175 35 = 0 := q
    obtain ⟨er, rfl⟩ := h.n q
    exact ⟨St.rf h.1, h, (fun a ha => by cases ha)⟩
end Mt
