/-! the class: faults, names, numbers -/
def wFa : List Nat := [12884901907, 17179869203]
def wNu : List Nat := [12884901907, 17179869203, 25769803795, 30064771091, 34359738387, 38654705683]
theorem St.tr {W W' : List Nat} {m m1 m2 : MM} (h : St W m m1) (h2 : St W' m1 m2) (hs : ∀ x ∈ W', x ∈ W) : St W m m2 := ⟨h2.1, h2.2.1.trans h.2.1, Fr_tr h.2.2 h2.2.2 hs⟩
/-- the class's reader stands at a token -/
def CR (b : BT) (e : Nat) (t : TK) (m : MM) : Prop := Mok TYg m ∧ cbR m b e ∧ (gI m 19 4).toInt = e ∧ e ≤ 800 ∧ tkC m t ∧ t.2.2.2 ≤ e
theorem nx_le {b : BT} {e : Nat} {t : TK} (h : t.2.2.2 ≤ e) : (nx b e t).2.2.2 ≤ e := (tok_s (b := b) h).2.2.2.1
/-- how a reading method of the class ends -/
def OC {α : Type} (m m' : MM) (x : ER α) (bad : Prop) (good : α → Prop) : Prop := match x with
  | .inl er => bad ∧ (gI m' 19 2).toInt = er.1 ∧ (gI m' 19 3).toInt = er.2
  | .inr a => good a ∧ gI m' 19 2 = gI m 19 2 ∧ gI m' 19 3 = gI m 19 3
theorem r_adv {b : BT} {e : Nat} {t : TK} {m : MM} (h : CR b e t m) : CV 3 mX3_advance [.ref 19] m (fun m' => St wAd m m' ∧ CR b e (nx b e t) m' ∧ gI m' 19 2 = gI m 19 2 ∧ gI m' 19 3 = gI m 19 3) :=
  CV.mono (h_adv h.1 h.2.1 h.2.2.1 h.2.2.2.2.1.2.2.2 h.2.2.2.2.2 h.2.2.2.1) (fun m' q => by
    refine ⟨q.1, ⟨q.1.1, h.2.1.fr q.1.2.2 (by decide), ?_, h.2.2.2.1, q.2, nx_le h.2.2.2.2.2⟩, fr1 q.1.2.2 (by decide), fr1 q.1.2.2 (by decide)⟩
    rw [fr1 q.1.2.2 (by decide : ¬ wk 19 4 ∈ wAd)]
    exact h.2.2.1)
set_option maxRecDepth 100000 in
theorem r_fail {m : MM} {w : Int32} : CI 1 mX3_fail [.ref 19, .int w] m (fun r m' => r = 0 ∧ m' = sI (sI m 19 2 w) 19 3 (gI m 19 7)) := by
  refine At.gs okX3_fail 40 ?_
  (conv => whnf)
  exact ⟨Or.inl rfl, rfl, rfl⟩
theorem St_fail {W : List Nat} {m m1 : MM} {w : Int32} (h : St W m m1) (h2 : 12884901907 ∈ W) (h3 : 17179869203 ∈ W) : St W m (sI (sI m1 19 2 w) 19 3 (gI m1 19 7)) :=
  (h.fld (a := 19) (k := 2) (v := w) h2 (tI_lo _) (tI_hi _) (fun _ q => by omega)).fld (a := 19) (k := 3) (v := gI m1 19 7) h3 (tI_lo _) (tI_hi _) (fun _ q => by omega)
theorem OC_fail {α : Type} {b : BT} {e : Nat} {t : TK} {m m1 : MM} {w : Int32} {k : Nat} {bad : Prop} {good : α → Prop} (h : CR b e t m1) (hw : w.toInt = k) (hb : bad) : OC m (sI (sI m1 19 2 w) 19 3 (gI m1 19 7)) (.inl (k, t.2.1)) bad good := ⟨hb, hw, h.2.2.2.2.1.2.1⟩
set_option maxRecDepth 100000 in
set_option maxHeartbeats 4000000 in
theorem r_lang {m : MM} {v : Int32} : CI 1 mX3_isOfLanguage [.int v] m (fun r m' => m' = m ∧ z1 (lg v.toInt ≠ -1) r) := by
  refine At.gs okX3_isOfLanguage 40 ?_
  (conv => whnf)
  refine And.intro (fun h => ?_) (fun h136085504 => ?_)
  · subst h
    exact ⟨Or.inr rfl, rfl, Or.inl ⟨by decide, rfl⟩⟩
  · skip
    refine And.intro (fun h => ?_) (fun h211366912 => ?_)
    · subst h
      exact ⟨Or.inr rfl, rfl, Or.inl ⟨by decide, rfl⟩⟩
    · skip
      refine And.intro (fun h => ?_) (fun h251105280 => ?_)
      · subst h
        exact ⟨Or.inr rfl, rfl, Or.inl ⟨by decide, rfl⟩⟩
      · skip
        refine And.intro (fun h => ?_) (fun h269946880 => ?_)
        · subst h
          exact ⟨Or.inr rfl, rfl, Or.inl ⟨by decide, rfl⟩⟩
        · skip
          refine And.intro (fun h => ?_) (fun h404164608 => ?_)
          · subst h
            exact ⟨Or.inr rfl, rfl, Or.inl ⟨by decide, rfl⟩⟩
          · skip
            refine And.intro (fun h => ?_) (fun h437857280 => ?_)
            · subst h
              exact ⟨Or.inr rfl, rfl, Or.inl ⟨by decide, rfl⟩⟩
            · skip
              refine And.intro (fun h => ?_) (fun h538218496 => ?_)
              · subst h
                exact ⟨Or.inr rfl, rfl, Or.inl ⟨by decide, rfl⟩⟩
              · skip
                refine And.intro (fun h => ?_) (fun h620213248 => ?_)
                · subst h
                  exact ⟨Or.inr rfl, rfl, Or.inl ⟨by decide, rfl⟩⟩
                · skip
                  refine And.intro (fun h => ?_) (fun h638981120 => ?_)
                  · subst h
                    exact ⟨Or.inr rfl, rfl, Or.inl ⟨by decide, rfl⟩⟩
                  · skip
                    refine ⟨Or.inl rfl, rfl, Or.inr ⟨fun q => q ?_, rfl⟩⟩
                    unfold lg
                    rw [if_neg (show ¬ v.toInt = 404164608 from fun z => h404164608 (Int32.toInt_inj.mp z))]
                    rw [if_neg (show ¬ v.toInt = 251105280 from fun z => h251105280 (Int32.toInt_inj.mp z))]
                    rw [if_neg (show ¬ v.toInt = 211366912 from fun z => h211366912 (Int32.toInt_inj.mp z))]
                    rw [if_neg (show ¬ v.toInt = 638981120 from fun z => h638981120 (Int32.toInt_inj.mp z))]
                    rw [if_neg (show ¬ v.toInt = 538218496 from fun z => h538218496 (Int32.toInt_inj.mp z))]
                    rw [if_neg (show ¬ v.toInt = 269946880 from fun z => h269946880 (Int32.toInt_inj.mp z))]
                    rw [if_neg (show ¬ v.toInt = 620213248 from fun z => h620213248 (Int32.toInt_inj.mp z))]
                    rw [if_neg (show ¬ v.toInt = 136085504 from fun z => h136085504 (Int32.toInt_inj.mp z))]
                    rw [if_neg (show ¬ v.toInt = 437857280 from fun z => h437857280 (Int32.toInt_inj.mp z))]
theorem fIx_in {f : Nat → Int} {v : Int} : ∀ (n j : Nat), fIx f v n j = -1 ∨ ((j : Int) ≤ fIx f v n j ∧ fIx f v n j < (j + n : Nat) ∧ f (fIx f v n j).toNat = v)
  | 0, j => Or.inl rfl
  | n + 1, j => by
    unfold fIx
    split
    · rename_i h
      exact Or.inr ⟨Int.le_refl _, by omega, by rw [Int.toNat_natCast]; exact h⟩
    · rcases fIx_in (f := f) (v := v) n (j + 1) with h | ⟨h1, h2, h3⟩
      · exact Or.inl h
      · exact Or.inr ⟨by omega, by omega, h3⟩
theorem fIx_cg {f g : Nat → Int} {v : Int} : ∀ (n j : Nat), (∀ i, i < j + n → f i = g i) → fIx f v n j = fIx g v n j
  | 0, j, _ => rfl
  | n + 1, j, h => by
    unfold fIx
    rw [h j (by omega), fIx_cg n (j + 1) (fun i hi => h i (by omega))]
set_option maxRecDepth 100000 in
set_option maxHeartbeats 4000000 in
theorem r_find_354 {m : MM} {v : Int32} (h0 : 0 ≤ (gI m 354 1).toInt) (h1 : (gI m 354 1).toInt ≤ 12) : CI 1 mX2_find [.ref 354, .int v] m (fun r m' => m' = m ∧ r.toInt = fIx (fun i => (gI m 49528 i).toInt) v.toInt (gI m 354 1).toInt.toNat 0) := by
  have lp : ∀ (n j : Nat) (i : Int32), i.toInt = j → (gI m 354 1).toInt = (j + n : Nat) → At (E0 1) mX2_find (qi (fun r m' => m' = m ∧ r.toInt = fIx (fun i => (gI m 49528 i).toInt) v.toInt n j)) 2 [.ref 354, .int v, .int i] [] m := by
    intro n
    induction n with
    | zero =>
      intro j i hi hn
      refine At.ls okX2_find 40 ⟨_, _, rfl⟩ ?_
      (conv => whnf)
      refine And.intro (fun h => ?_) (fun h => ?_)
      · exact ⟨rfl, rfl⟩
      · have h : ¬ gI m 354 1 ≤ i := h
        rw [le_i] at h
        omega
    | succ n ih =>
      intro j i hi hn
      have e1 : (i + 1).toInt = (j + 1 : Nat) := by rw [inc1 (by omega), hi]; omega
      refine At.ls okX2_find 40 ⟨_, _, rfl⟩ ?_
      (conv => whnf)
      refine And.intro (fun h => ?_) (fun h => ?_)
      · have h : gI m 354 1 ≤ i := h
        rw [le_i] at h
        omega
      · (conv => whnf)
        refine And.intro (vp_in_iff.mpr ⟨by omega, show i.toInt < ((12 : Nat) : Int) by omega⟩) ?_
        (conv => whnf)
        refine And.intro (fun h2 => ?_) (fun h2 => ?_)
        · have h2 : ¬ gI m 49528 i.toNatClampNeg = v := h2
          rw [nat_c hi] at h2
          (conv => whnf)
          refine And.intro rfl (At.mono (ih (j + 1) (i + 1) e1 (by omega)) (fun r m' q => ?_))
          unfold qi at q ⊢
          split at q
          · refine ⟨q.1, q.2.trans ?_⟩
            show _ = (if (gI m 49528 j).toInt = v.toInt then (j : Int) else _)
            rw [if_neg (fun z => h2 (Int32.toInt_inj.mp z))]
          · exact q.elim
        · have h2 : gI m 49528 i.toNatClampNeg = v := h2
          rw [nat_c hi] at h2
          refine ⟨rfl, ?_⟩
          show i.toInt = (if (gI m 49528 j).toInt = v.toInt then (j : Int) else _)
          rw [if_pos (by rw [h2]), hi]
  refine At.gs okX2_find 40 ?_
  (conv => whnf)
  exact And.intro rfl (lp _ 0 0 rfl (by omega))
set_option maxRecDepth 100000 in
set_option maxHeartbeats 4000000 in
theorem r_find_386 {m : MM} {v : Int32} (h0 : 0 ≤ (gI m 386 1).toInt) (h1 : (gI m 386 1).toInt ≤ 12) : CI 1 mX2_find [.ref 386, .int v] m (fun r m' => m' = m ∧ r.toInt = fIx (fun i => (gI m 49560 i).toInt) v.toInt (gI m 386 1).toInt.toNat 0) := by
  have lp : ∀ (n j : Nat) (i : Int32), i.toInt = j → (gI m 386 1).toInt = (j + n : Nat) → At (E0 1) mX2_find (qi (fun r m' => m' = m ∧ r.toInt = fIx (fun i => (gI m 49560 i).toInt) v.toInt n j)) 2 [.ref 386, .int v, .int i] [] m := by
    intro n
    induction n with
    | zero =>
      intro j i hi hn
      refine At.ls okX2_find 40 ⟨_, _, rfl⟩ ?_
      (conv => whnf)
      refine And.intro (fun h => ?_) (fun h => ?_)
      · exact ⟨rfl, rfl⟩
      · have h : ¬ gI m 386 1 ≤ i := h
        rw [le_i] at h
        omega
    | succ n ih =>
      intro j i hi hn
      have e1 : (i + 1).toInt = (j + 1 : Nat) := by rw [inc1 (by omega), hi]; omega
      refine At.ls okX2_find 40 ⟨_, _, rfl⟩ ?_
      (conv => whnf)
      refine And.intro (fun h => ?_) (fun h => ?_)
      · have h : gI m 386 1 ≤ i := h
        rw [le_i] at h
        omega
      · (conv => whnf)
        refine And.intro (vp_in_iff.mpr ⟨by omega, show i.toInt < ((12 : Nat) : Int) by omega⟩) ?_
        (conv => whnf)
        refine And.intro (fun h2 => ?_) (fun h2 => ?_)
        · have h2 : ¬ gI m 49560 i.toNatClampNeg = v := h2
          rw [nat_c hi] at h2
          (conv => whnf)
          refine And.intro rfl (At.mono (ih (j + 1) (i + 1) e1 (by omega)) (fun r m' q => ?_))
          unfold qi at q ⊢
          split at q
          · refine ⟨q.1, q.2.trans ?_⟩
            show _ = (if (gI m 49560 j).toInt = v.toInt then (j : Int) else _)
            rw [if_neg (fun z => h2 (Int32.toInt_inj.mp z))]
          · exact q.elim
        · have h2 : gI m 49560 i.toNatClampNeg = v := h2
          rw [nat_c hi] at h2
          refine ⟨rfl, ?_⟩
          show i.toInt = (if (gI m 49560 j).toInt = v.toInt then (j : Int) else _)
          rw [if_pos (by rw [h2]), hi]
  refine At.gs okX2_find 40 ?_
  (conv => whnf)
  exact And.intro rfl (lp _ 0 0 rfl (by omega))
set_option maxRecDepth 100000 in
set_option maxHeartbeats 4000000 in
theorem r_find_418 {m : MM} {v : Int32} (h0 : 0 ≤ (gI m 418 1).toInt) (h1 : (gI m 418 1).toInt ≤ 12) : CI 1 mX2_find [.ref 418, .int v] m (fun r m' => m' = m ∧ r.toInt = fIx (fun i => (gI m 49592 i).toInt) v.toInt (gI m 418 1).toInt.toNat 0) := by
  have lp : ∀ (n j : Nat) (i : Int32), i.toInt = j → (gI m 418 1).toInt = (j + n : Nat) → At (E0 1) mX2_find (qi (fun r m' => m' = m ∧ r.toInt = fIx (fun i => (gI m 49592 i).toInt) v.toInt n j)) 2 [.ref 418, .int v, .int i] [] m := by
    intro n
    induction n with
    | zero =>
      intro j i hi hn
      refine At.ls okX2_find 40 ⟨_, _, rfl⟩ ?_
      (conv => whnf)
      refine And.intro (fun h => ?_) (fun h => ?_)
      · exact ⟨rfl, rfl⟩
      · have h : ¬ gI m 418 1 ≤ i := h
        rw [le_i] at h
        omega
    | succ n ih =>
      intro j i hi hn
      have e1 : (i + 1).toInt = (j + 1 : Nat) := by rw [inc1 (by omega), hi]; omega
      refine At.ls okX2_find 40 ⟨_, _, rfl⟩ ?_
      (conv => whnf)
      refine And.intro (fun h => ?_) (fun h => ?_)
      · have h : gI m 418 1 ≤ i := h
        rw [le_i] at h
        omega
      · (conv => whnf)
        refine And.intro (vp_in_iff.mpr ⟨by omega, show i.toInt < ((12 : Nat) : Int) by omega⟩) ?_
        (conv => whnf)
        refine And.intro (fun h2 => ?_) (fun h2 => ?_)
        · have h2 : ¬ gI m 49592 i.toNatClampNeg = v := h2
          rw [nat_c hi] at h2
          (conv => whnf)
          refine And.intro rfl (At.mono (ih (j + 1) (i + 1) e1 (by omega)) (fun r m' q => ?_))
          unfold qi at q ⊢
          split at q
          · refine ⟨q.1, q.2.trans ?_⟩
            show _ = (if (gI m 49592 j).toInt = v.toInt then (j : Int) else _)
            rw [if_neg (fun z => h2 (Int32.toInt_inj.mp z))]
          · exact q.elim
        · have h2 : gI m 49592 i.toNatClampNeg = v := h2
          rw [nat_c hi] at h2
          refine ⟨rfl, ?_⟩
          show i.toInt = (if (gI m 49592 j).toInt = v.toInt then (j : Int) else _)
          rw [if_pos (by rw [h2]), hi]
  refine At.gs okX2_find 40 ?_
  (conv => whnf)
  exact And.intro rfl (lp _ 0 0 rfl (by omega))
set_option maxRecDepth 100000 in
set_option maxHeartbeats 4000000 in
theorem r_find_738 {m : MM} {v : Int32} (h0 : 0 ≤ (gI m 738 1).toInt) (h1 : (gI m 738 1).toInt ≤ 12) : CI 1 mX2_find [.ref 738, .int v] m (fun r m' => m' = m ∧ r.toInt = fIx (fun i => (gI m 49912 i).toInt) v.toInt (gI m 738 1).toInt.toNat 0) := by
  have lp : ∀ (n j : Nat) (i : Int32), i.toInt = j → (gI m 738 1).toInt = (j + n : Nat) → At (E0 1) mX2_find (qi (fun r m' => m' = m ∧ r.toInt = fIx (fun i => (gI m 49912 i).toInt) v.toInt n j)) 2 [.ref 738, .int v, .int i] [] m := by
    intro n
    induction n with
    | zero =>
      intro j i hi hn
      refine At.ls okX2_find 40 ⟨_, _, rfl⟩ ?_
      (conv => whnf)
      refine And.intro (fun h => ?_) (fun h => ?_)
      · exact ⟨rfl, rfl⟩
      · have h : ¬ gI m 738 1 ≤ i := h
        rw [le_i] at h
        omega
    | succ n ih =>
      intro j i hi hn
      have e1 : (i + 1).toInt = (j + 1 : Nat) := by rw [inc1 (by omega), hi]; omega
      refine At.ls okX2_find 40 ⟨_, _, rfl⟩ ?_
      (conv => whnf)
      refine And.intro (fun h => ?_) (fun h => ?_)
      · have h : gI m 738 1 ≤ i := h
        rw [le_i] at h
        omega
      · (conv => whnf)
        refine And.intro (vp_in_iff.mpr ⟨by omega, show i.toInt < ((12 : Nat) : Int) by omega⟩) ?_
        (conv => whnf)
        refine And.intro (fun h2 => ?_) (fun h2 => ?_)
        · have h2 : ¬ gI m 49912 i.toNatClampNeg = v := h2
          rw [nat_c hi] at h2
          (conv => whnf)
          refine And.intro rfl (At.mono (ih (j + 1) (i + 1) e1 (by omega)) (fun r m' q => ?_))
          unfold qi at q ⊢
          split at q
          · refine ⟨q.1, q.2.trans ?_⟩
            show _ = (if (gI m 49912 j).toInt = v.toInt then (j : Int) else _)
            rw [if_neg (fun z => h2 (Int32.toInt_inj.mp z))]
          · exact q.elim
        · have h2 : gI m 49912 i.toNatClampNeg = v := h2
          rw [nat_c hi] at h2
          refine ⟨rfl, ?_⟩
          show i.toInt = (if (gI m 49912 j).toInt = v.toInt then (j : Int) else _)
          rw [if_pos (by rw [h2]), hi]
  refine At.gs okX2_find 40 ?_
  (conv => whnf)
  exact And.intro rfl (lp _ 0 0 rfl (by omega))
set_option maxRecDepth 100000 in
set_option maxHeartbeats 4000000 in
theorem r_find_770 {m : MM} {v : Int32} (h0 : 0 ≤ (gI m 770 1).toInt) (h1 : (gI m 770 1).toInt ≤ 12) : CI 1 mX2_find [.ref 770, .int v] m (fun r m' => m' = m ∧ r.toInt = fIx (fun i => (gI m 49944 i).toInt) v.toInt (gI m 770 1).toInt.toNat 0) := by
  have lp : ∀ (n j : Nat) (i : Int32), i.toInt = j → (gI m 770 1).toInt = (j + n : Nat) → At (E0 1) mX2_find (qi (fun r m' => m' = m ∧ r.toInt = fIx (fun i => (gI m 49944 i).toInt) v.toInt n j)) 2 [.ref 770, .int v, .int i] [] m := by
    intro n
    induction n with
    | zero =>
      intro j i hi hn
      refine At.ls okX2_find 40 ⟨_, _, rfl⟩ ?_
      (conv => whnf)
      refine And.intro (fun h => ?_) (fun h => ?_)
      · exact ⟨rfl, rfl⟩
      · have h : ¬ gI m 770 1 ≤ i := h
        rw [le_i] at h
        omega
    | succ n ih =>
      intro j i hi hn
      have e1 : (i + 1).toInt = (j + 1 : Nat) := by rw [inc1 (by omega), hi]; omega
      refine At.ls okX2_find 40 ⟨_, _, rfl⟩ ?_
      (conv => whnf)
      refine And.intro (fun h => ?_) (fun h => ?_)
      · have h : gI m 770 1 ≤ i := h
        rw [le_i] at h
        omega
      · (conv => whnf)
        refine And.intro (vp_in_iff.mpr ⟨by omega, show i.toInt < ((12 : Nat) : Int) by omega⟩) ?_
        (conv => whnf)
        refine And.intro (fun h2 => ?_) (fun h2 => ?_)
        · have h2 : ¬ gI m 49944 i.toNatClampNeg = v := h2
          rw [nat_c hi] at h2
          (conv => whnf)
          refine And.intro rfl (At.mono (ih (j + 1) (i + 1) e1 (by omega)) (fun r m' q => ?_))
          unfold qi at q ⊢
          split at q
          · refine ⟨q.1, q.2.trans ?_⟩
            show _ = (if (gI m 49944 j).toInt = v.toInt then (j : Int) else _)
            rw [if_neg (fun z => h2 (Int32.toInt_inj.mp z))]
          · exact q.elim
        · have h2 : gI m 49944 i.toNatClampNeg = v := h2
          rw [nat_c hi] at h2
          refine ⟨rfl, ?_⟩
          show i.toInt = (if (gI m 49944 j).toInt = v.toInt then (j : Int) else _)
          rw [if_pos (by rw [h2]), hi]
  refine At.gs okX2_find 40 ?_
  (conv => whnf)
  exact And.intro rfl (lp _ 0 0 rfl (by omega))
set_option maxRecDepth 100000 in
set_option maxHeartbeats 4000000 in
theorem r_find_802 {m : MM} {v : Int32} (h0 : 0 ≤ (gI m 802 1).toInt) (h1 : (gI m 802 1).toInt ≤ 12) : CI 1 mX2_find [.ref 802, .int v] m (fun r m' => m' = m ∧ r.toInt = fIx (fun i => (gI m 49976 i).toInt) v.toInt (gI m 802 1).toInt.toNat 0) := by
  have lp : ∀ (n j : Nat) (i : Int32), i.toInt = j → (gI m 802 1).toInt = (j + n : Nat) → At (E0 1) mX2_find (qi (fun r m' => m' = m ∧ r.toInt = fIx (fun i => (gI m 49976 i).toInt) v.toInt n j)) 2 [.ref 802, .int v, .int i] [] m := by
    intro n
    induction n with
    | zero =>
      intro j i hi hn
      refine At.ls okX2_find 40 ⟨_, _, rfl⟩ ?_
      (conv => whnf)
      refine And.intro (fun h => ?_) (fun h => ?_)
      · exact ⟨rfl, rfl⟩
      · have h : ¬ gI m 802 1 ≤ i := h
        rw [le_i] at h
        omega
    | succ n ih =>
      intro j i hi hn
      have e1 : (i + 1).toInt = (j + 1 : Nat) := by rw [inc1 (by omega), hi]; omega
      refine At.ls okX2_find 40 ⟨_, _, rfl⟩ ?_
      (conv => whnf)
      refine And.intro (fun h => ?_) (fun h => ?_)
      · have h : gI m 802 1 ≤ i := h
        rw [le_i] at h
        omega
      · (conv => whnf)
        refine And.intro (vp_in_iff.mpr ⟨by omega, show i.toInt < ((12 : Nat) : Int) by omega⟩) ?_
        (conv => whnf)
        refine And.intro (fun h2 => ?_) (fun h2 => ?_)
        · have h2 : ¬ gI m 49976 i.toNatClampNeg = v := h2
          rw [nat_c hi] at h2
          (conv => whnf)
          refine And.intro rfl (At.mono (ih (j + 1) (i + 1) e1 (by omega)) (fun r m' q => ?_))
          unfold qi at q ⊢
          split at q
          · refine ⟨q.1, q.2.trans ?_⟩
            show _ = (if (gI m 49976 j).toInt = v.toInt then (j : Int) else _)
            rw [if_neg (fun z => h2 (Int32.toInt_inj.mp z))]
          · exact q.elim
        · have h2 : gI m 49976 i.toNatClampNeg = v := h2
          rw [nat_c hi] at h2
          refine ⟨rfl, ?_⟩
          show i.toInt = (if (gI m 49976 j).toInt = v.toInt then (j : Int) else _)
          rw [if_pos (by rw [h2]), hi]
  refine At.gs okX2_find 40 ?_
  (conv => whnf)
  exact And.intro rfl (lp _ 0 0 rfl (by omega))
