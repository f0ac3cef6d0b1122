/-! the model's book: what stands in it -/
def rowM (r : Nat) : Nat := [42168, 42184, 34008, 99560, 99576, 99592, 99608, 99624, 99640, 99659, 329048, 329064, 329080, 329096, 329112, 329128, 329144].getD r 0
def offM (r : Nat) : Nat := [5, 4, 12, 40].getD (own r) 0
def wMo : List Nat := [7, 111669150871, 115964118167, 120259085463, 124554052759, 137438954647, 141733921943, 146028889239, 150323856535, 154618823831, 158913791127, 42168, 42184, 34008, 99560, 99576, 99592, 99608, 99624, 99640, 99659, 329048, 329064, 329080, 329096, 329112, 329128, 329144]
def MoR (B : TB) (m : MM) : Prop := (∀ r, r < 17 → ∀ i, i < B.1 (own r) → (gI m (rowM r) (offM r + i)).toInt = B.2 r i) ∧ OkB B
def MoI (B : TB) (m : MM) : Prop := (∀ k, k < 4 → (gI m 1175 (k + 25)).toInt = B.1 k) ∧ MoR B m
theorem rowM_8 : ∀ r, r < 17 → Nat.ble 8 (rowM r % 16) = true := by decide +kernel
theorem rowM_ne : ∀ r, r < 17 → ∀ r', r' < 17 → rowM r = rowM r' → r = r' := by decide +kernel
/-- the model's first rows stay -/
def LoF (m m' : MM) : Prop := ∀ r, r < 17 → ∀ i, i < offM r → gI m' (rowM r) i = gI m (rowM r) i
def loFree (W : List Nat) : Bool := (List.range 17).all (fun r => !(elm (rowM r) W))
theorem LoF.rf {m : MM} : LoF m m := fun _ _ _ _ => rfl
theorem LoF.tr {m m1 m2 : MM} (h : LoF m m1) (h2 : LoF m1 m2) : LoF m m2 := fun r hr i hi => (h2 r hr i hi).trans (h r hr i hi)
theorem LoF.fr {W : List Nat} {m m' : MM} (hF : Fr W m m') (hW : loFree W = true) : LoF m m' := fun r hr i _ => by
  have := List.all_eq_true.mp hW r (List.mem_range.mpr hr)
  exact row1 hF (rowM_8 r hr) (by cases hq : elm (rowM r) W with
    | false => rfl
    | true => rw [hq] at this; cases this)
def loB (a k0 : Nat) : Bool := (List.range 17).all (fun r => !(Nat.beq (rowM r) a) || Nat.ble (offM r) k0)
theorem LoF.st {m m1 : MM} {a k : Nat} {v : Int32} (k0 : Nat) (h : LoF m m1) (hk : k0 ≤ k) (hb : loB a k0 = true) : LoF m (sI m1 a k v) := fun r hr i hi => by
  rw [gI_if]
  by_cases q : rowM r = a ∧ i = k
  · have := List.all_eq_true.mp hb r (List.mem_range.mpr hr)
    rw [q.1, Nat.beq_refl] at this
    have z : offM r ≤ k0 := Nat.le_of_ble_eq_true this
    omega
  · rw [if_neg q]
    exact h r hr i hi
theorem LoF.fld {m m1 : MM} {k : Nat} {v : Int32} (h : LoF m m1) : LoF m (sI m1 1175 k v) := fun r hr i hi => by
  rw [gI_if, if_neg (fun z => by
    have := rowM_8 r hr
    rw [z.1] at this
    cases this)]
  exact h r hr i hi
def SM (W : List Nat) (m m' : MM) : Prop := St W m m' ∧ LoF m m'
theorem SM.tl {W W' : List Nat} {m m1 m2 : MM} (h : SM W m m1) (S : St W' m1 m2) (hw : ∀ x ∈ W', x ∈ W) (hl : loFree W' = true) : SM W m m2 := ⟨h.1.tr S hw, h.2.tr (LoF.fr S.2.2 hl)⟩
theorem SM.tw {W W' : List Nat} {m m1 m2 : MM} (h : SM W m m1) (S : St W' m1 m2) (hw : ∀ x ∈ W', x ∈ W) (hl : LoF m1 m2) : SM W m m2 := ⟨h.1.tr S hw, h.2.tr hl⟩
def kMs : List Nat := [3, 4, 5, 6, 7, 39, 40]
/-- what the model shows of its book stays -/
def KeepM (m m' : MM) : Prop := LoF m m' ∧ ∀ k ∈ kMs, gI m' 1175 k = gI m 1175 k
def kmFree (W : List Nat) : Bool := loFree W && kMs.all (fun k => !(elm (wk 1175 k) W))
theorem KeepM.rf {m : MM} : KeepM m m := ⟨LoF.rf, fun _ _ => rfl⟩
theorem KeepM.sm {W : List Nat} {m m1 m2 : MM} (h : KeepM m m1) (S : SM W m1 m2) (hW : kMs.all (fun k => !(elm (wk 1175 k) W)) = true) : KeepM m m2 :=
  ⟨h.1.tr S.2, fun k hk => (fr1 S.1.2.2 (nelm6 (List.all_eq_true.mp hW k hk))).trans (h.2 k hk)⟩
theorem KeepM.fr {W : List Nat} {m m1 m2 : MM} (h : KeepM m m1) (hF : Fr W m1 m2) (hW : kmFree W = true) : KeepM m m2 := by
  unfold kmFree at hW
  rw [Bool.and_eq_true] at hW
  exact ⟨h.1.tr (LoF.fr hF hW.1), fun k hk => (fr1 hF (nelm6 (List.all_eq_true.mp hW.2 k hk))).trans (h.2 k hk)⟩
def moFree (W : List Nat) : Bool := (List.range 17).all (fun r => !(elm (rowM r) W)) && (List.range 4).all (fun k => !(elm (wk 1175 (k + 25)) W))
theorem MoR.fr {B : TB} {W : List Nat} {m m' : MM} (h : MoR B m) (hF : Fr W m m') (hW : moFree W = true) : MoR B m' := by
  unfold moFree at hW
  rw [Bool.and_eq_true, List.all_eq_true, List.all_eq_true] at hW
  refine ⟨fun r hr i hi => ?_, h.2⟩
  have := hW.1 r (List.mem_range.mpr hr)
  rw [row1 hF (rowM_8 r hr) (by cases hq : elm (rowM r) W with
    | false => rfl
    | true => rw [hq] at this; cases this)]
  exact h.1 r hr i hi
theorem MoI.fr {B : TB} {W : List Nat} {m m' : MM} (h : MoI B m) (hF : Fr W m m') (hW : moFree W = true) : MoI B m' := by
  refine ⟨fun k hk => ?_, h.2.fr hF hW⟩
  unfold moFree at hW
  rw [Bool.and_eq_true, List.all_eq_true, List.all_eq_true] at hW
  rw [fr1 hF (nelm6 (hW.2 k (List.mem_range.mpr hk)))]
  exact h.1 k hk
theorem MoR.row {r i : Nat} {B : TB} {m : MM} {v : Int32} (h : MoR B m) (hr : r < 17) (h3 : r = 3 → B.1 2 ≤ i) : MoR (B.1, setR B.2 r i v.toInt) (sI m (rowM r) (offM r + i) v) := by
  refine ⟨fun r' hr' i' hi' => ?_, h.2.1, h.2.2.1, h.2.2.2.1, h.2.2.2.2.1, fun i' hi' => ?_⟩
  · rw [gI_if]
    show _ = (if r' = r ∧ i' = i then v.toInt else B.2 r' i')
    by_cases q : r' = r ∧ i' = i
    · rw [if_pos q, if_pos ⟨by rw [q.1], by rw [q.1, q.2]⟩]
    · rw [if_neg q, if_neg (fun z => q (by
        have z1 := rowM_ne r' hr' r hr z.1
        subst z1
        exact ⟨rfl, by have := z.2; omega⟩))]
      exact h.1 r' hr' i' hi'
  · show lg (if 3 = r ∧ i' = i then v.toInt else B.2 3 i') = -1
    have hi' : i' < B.1 2 := hi'
    rw [if_neg (fun z => by have := h3 z.1.symm; omega)]
    exact h.2.2.2.2.2 i' hi'
theorem MoR.fld {f : Nat} {B : TB} {m : MM} {v : Int32} (h : MoR B m) : MoR B (sI m 1175 f v) :=
  ⟨fun r hr i hi => by
    rw [gI_if, if_neg (fun z => by
      have := rowM_8 r hr
      rw [z.1] at this
      cases this)]
    exact h.1 r hr i hi, h.2⟩
theorem MoI.mk' {k : Nat} {N : Nat → Nat} {T : Nat → Nat → Int} {m : MM} (h : MoR (N, T) m) (hk : k < 4) (hT : ∀ r, r < 17 → own r = k → (gI m (rowM r) (offM r + N k)).toInt = T r (N k)) (hC : ∀ j, j < 4 → (gI m 1175 (j + 25)).toInt = setN N k (N k + 1) j) (hok : OkB (setN N k (N k + 1), T)) : MoI (setN N k (N k + 1), T) m := by
  refine ⟨hC, fun r hr i hi => ?_, hok⟩
  have hi : i < (if own r = k then N k + 1 else N (own r)) := hi
  by_cases q : own r = k
  · rw [if_pos q] at hi
    by_cases q2 : i = N k
    · rw [q2]; exact hT r hr q
    · exact h.1 r hr i (by show i < N (own r); rw [q]; omega)
  · rw [if_neg q] at hi
    exact h.1 r hr i hi
/-- ties, one behind the other -/
def tieN (b : BT) (e n : Nat) : Nat → ((Nat → Nat → Int) × TK) → ER ((Nat → Nat → Int) × TK)
  | 0, u => .inr u
  | k + 1, u => bd (tieS b e n u.1 u.2) (tieN b e n k)
def firmT (b : BT) (e : Nat) (B : TB) (t : TK) : ER (TB × TK) :=
  bd (newS b e B 3 t) fun x => bd (tolS B 0 x.2) fun l => bd (numS b e 0 400 (nx b e x.2)) fun y =>
  bd (tieN b e (B.1 2) 3 (firmR B x.1 l y.1, y.2)) fun w => .inr ((setN B.1 2 (B.1 2 + 1), w.1), w.2)
theorem bd_as {α β γ : Type} (x : ER α) (f : α → ER β) (g : β → ER γ) : bd (bd x f) g = bd x (fun a => bd (f a) g) := by cases x <;> rfl
theorem bd_id {α : Type} (x : ER α) : bd x (fun a => .inr a) = x := by cases x <;> rfl
theorem tie_no {b : BT} {e n : Nat} {u : (Nat → Nat → Int) × TK} (h : ¬ (u.2.1 = 1 ∧ (lg u.2.2.2.1 = 5 ∨ lg u.2.2.2.1 = 6))) : ∀ k, tieN b e n k u = .inr u
  | 0 => rfl
  | k + 1 => by
    show bd (tieS b e n u.1 u.2) (tieN b e n k) = _
    unfold tieS
    rw [if_neg h]
    exact tie_no h k
theorem firmS_T {b : BT} {e : Nat} {B : TB} {t : TK} : firmS b e B t = if B.1 2 = 12 then .inl (2, t.2.1) else firmT b e B (nx b e t) := by
  unfold firmS firmT newL
  show bd (if B.1 2 = 12 then _ else _) _ = _
  by_cases q : B.1 2 = 12
  · rw [if_pos q, if_pos q]; rfl
  · rw [if_neg q, if_neg q]
    congr 1
    funext x
    congr 1
    funext l
    congr 1
    funext y
    show _ = bd (bd (tieS b e (B.1 2) (firmR B x.1 l y.1) y.2) fun u => bd (tieS b e (B.1 2) u.1 u.2) fun v => bd (tieS b e (B.1 2) v.1 v.2) fun w => .inr w) _
    rw [bd_as]
    congr 1
    funext u
    rw [bd_as]
    congr 1
    funext v
    rw [bd_as]
    rfl
def cdFi : List CE := stops [102, 143, 179] cdX7_firmLine
set_option maxRecDepth 20000 in
theorem okFi : CodeOk mX7_firmLine cdFi := okX7_firmLine.st [102, 143, 179] (by rfl)
section Fi
variable {b : BT} {e n : Nat} {m : MM} {B : TB} {f : Int32}
/-- a firm being told, its rows at the new place -/
def MoF (B : TB) (T : Nat → Nat → Int) (m : MM) : Prop := MoR (B.1, T) m ∧ (∀ r, r < 17 → own r = 2 → (gI m (rowM r) (12 + B.1 2)).toInt = T r (B.1 2)) ∧ (∀ k, k < 4 → (gI m 1175 (k + 25)).toInt = B.1 k)
theorem MoF.fr {T : Nat → Nat → Int} {W : List Nat} {m m' : MM} (h : MoF B T m) (hF : Fr W m m') (hW : moFree W = true) : MoF B T m' := by
  refine ⟨h.1.fr hF hW, fun r hr ho => ?_, fun k hk => ?_⟩
  · unfold moFree at hW
    rw [Bool.and_eq_true, List.all_eq_true, List.all_eq_true] at hW
    have := hW.1 r (List.mem_range.mpr hr)
    rw [row1 hF (rowM_8 r hr) (by cases hq : elm (rowM r) W with
      | false => rfl
      | true => rw [hq] at this; cases this)]
    exact h.2.1 r hr ho
  · unfold moFree at hW
    rw [Bool.and_eq_true, List.all_eq_true, List.all_eq_true] at hW
    rw [fr1 hF (nelm6 (hW.2 k (List.mem_range.mpr hk)))]
    exact h.2.2 k hk
theorem MoF.tie {T : Nat → Nat → Int} {r : Nat} {v : Int32} {m : MM} (h : MoF B T m) (hr : r = 6 ∨ r = 7) : MoF B (setR T r (B.1 2) v.toInt) (sI m (rowM r) (12 + B.1 2) v) := by
  have hr17 : r < 17 := by omega
  have ho : offM r = 12 := by rcases hr with rfl | rfl <;> rfl
  refine ⟨?_, fun r' hr' ho' => ?_, fun k hk => ?_⟩
  · have := MoR.row (r := r) (i := B.1 2) (v := v) h.1 hr17 (fun q => by omega)
    rw [ho] at this
    exact this
  · rw [gI_if]
    show _ = (if r' = r ∧ B.1 2 = B.1 2 then v.toInt else T r' (B.1 2))
    by_cases q : r' = r
    · rw [if_pos ⟨by rw [q], rfl⟩, if_pos ⟨q, rfl⟩]
    · rw [if_neg (fun z => q (rowM_ne r' hr' r hr17 z.1)), if_neg (fun z => q z.1)]
      exact h.2.1 r' hr' ho'
  · rw [gI_if, if_neg (fun z => by
      have := rowM_8 r hr17
      rw [← z.1] at this
      cases this)]
    exact h.2.2 k hk
def FiQ (b : BT) (e : Nat) (m : MM) (B : TB) (Y : ER ((Nat → Nat → Int) × TK)) : QQ := qv (fun m' => SM wMo m m' ∧ Sx b e (tl Y) m' ∧ ∀ a, Y = .inr a → MoI (setN B.1 2 (B.1 2 + 1), a.1) m')
def fiOk (B : TB) (T : Nat → Nat → Int) : Prop := B.1 2 < 12 ∧ lg (T 3 (B.1 2)) = -1
set_option maxRecDepth 100000 in
theorem fi179 {Y : ER ((Nat → Nat → Int) × TK)} {v2 v3 : Value} {m1 : MM} (hS : SM wMo m m1) (h : Sx b e (tl Y) m1) (hA : ∀ a, Y = .inr a → MoF B a.1 m1 ∧ fiOk B a.1) (hn : 0 ≤ (gI m1 1175 27).toInt ∧ (gI m1 1175 27).toInt < 12) : At (E0 6) mX7_firmLine (FiQ b e m B Y) 179 [.ref 1175, .int f, v2, v3] [] m1 := by
  have a1 := inc1 (k := gI m1 1175 27) (by omega)
  have S2 : St [120259085463] m1 (sI m1 1175 27 (gI m1 1175 27 + 1)) := (St.rf hS.1.1).fld (a := 1175) (k := 27) (v := gI m1 1175 27 + 1) (by decide) (show (0 : Int) ≤ _ by omega) (show _ ≤ (12 : Int) by omega) (fun _ z => by omega)
  refine At.ls okFi 40 ⟨_, _, rfl⟩ ?_
  (conv => whnf)
  refine ⟨hS.tl S2 (by decide) (by decide), h.fr S2 (by decide), fun a ha => ?_⟩
  obtain ⟨⟨r1, r2, r3⟩, k1, k2⟩ := hA a ha
  refine MoI.mk' (N := B.1) (T := a.1) r1.fld (by omega) (fun r hr ho => ?_) (fun j hj => ?_) ?_
  · have : offM r = 12 := by unfold offM; rw [ho]; rfl
    rw [this, gI_if, if_neg (fun z => by
      have := rowM_8 r hr
      rw [z.1] at this
      cases this)]
    exact r2 r hr ho
  · have c2 : (gI m1 1175 27).toInt = B.1 2 := r3 2 (by omega)
    rcases (by omega : j = 0 ∨ j = 1 ∨ j = 2 ∨ j = 3) with rfl | rfl | rfl | rfl
    · exact r3 0 (by omega)
    · exact r3 1 (by omega)
    · show (gI m1 1175 27 + 1).toInt = ((B.1 2 + 1 : Nat) : Int)
      omega
    · exact r3 3 (by omega)
  · obtain ⟨z1, z2, z3, z4, z5⟩ := r1.2
    refine ⟨z1, z2, by show B.1 2 + 1 ≤ 12; omega, z4, fun i hi => ?_⟩
    have hi : i < B.1 2 + 1 := hi
    by_cases q : i = B.1 2
    · rw [q]; exact k2
    · exact z5 i (by show i < B.1 2; omega)
set_option maxRecDepth 100000 in
theorem fiDead {er : Nat × Nat} {Y : ER ((Nat → Nat → Int) × TK)} {v2 v3 : Value} {m1 : MM} (hY : Y = .inl er) (hS : SM wMo m m1) (h : Sx b e (.inl er) m1) (hn : 0 ≤ (gI m1 1175 27).toInt ∧ (gI m1 1175 27).toInt < 12) : At (E0 6) mX7_firmLine (FiQ b e m B Y) 85 [.ref 1175, .int f, v2, v3] [] m1 := by
  subst hY
  refine At.ls okFi 60 ⟨_, _, rfl⟩ ?_
  (conv => whnf)
  refine ⟨1, by decide, _, s_isWord h (by decide), ?_⟩
  rintro r m' ⟨hmm, hr⟩; have hmm := hmm.symm; subst hmm
  have hr : r = 0 := by
    rcases hr with ⟨⟨t, q, _⟩, _⟩ | q
    · cases q
    · exact q.2
  subst hr
  (conv => whnf)
  refine And.intro (fun q => absurd rfl q) (fun _ => ?_)
  (conv => whnf)
  refine ⟨1, by decide, _, s_isWord h (by decide), ?_⟩
  rintro r m' ⟨hmm, hr⟩; have hmm := hmm.symm; subst hmm
  have hr : r = 0 := by
    rcases hr with ⟨⟨t, q, _⟩, _⟩ | q
    · cases q
    · exact q.2
  subst hr
  (conv => whnf)
  refine And.intro (fun _ => ?_) (fun q => absurd rfl q)
  (conv => whnf)
  exact And.intro rfl (fi179 hS h (fun a ha => by cases ha) hn)
def fiK (n k : Nat) (T : Nat → Nat → Int) : Prop := match k with
  | 0 => False
  | 1 => T 6 n ≠ 0 ∧ T 7 n ≠ 0
  | 2 => T 6 n ≠ 0 ∨ T 7 n ≠ 0
  | _ => True
theorem tie_S {T : Nat → Nat → Int} {t : TK} {w : Int} (h1 : t.1 = 1) (h2 : lg t.2.2.1 = w) (hw : w = 5 ∨ w = 6) : tieS b e n T t = (if T (w + 1).toNat n = 0 then bd (numS b e 1 99 (nx b e t)) fun x => .inr (setR T (w + 1).toNat n x.1, x.2) else .inl (3, t.2.1)) := by
  unfold tieS
  rw [if_pos ⟨h1, by rw [h2]; exact hw⟩, h2]
set_option maxRecDepth 100000 in
set_option maxHeartbeats 8000000 in
theorem fiLoop (hf : f.toInt = ((12 + B.1 2 : Nat) : Int)) (hn : B.1 2 < 12) : ∀ (k : Nat) (T : Nat → Nat → Int) (t : TK) (v2 v3 : Value) (m1 : MM), k ≤ 3 → fiK (B.1 2) k T → SM wMo m m1 → Sx b e (.inr t) m1 → MoF B T m1 → lg (T 3 (B.1 2)) = -1 → At (E0 6) mX7_firmLine (FiQ b e m B (tieN b e (B.1 2) k (T, t))) 85 [.ref 1175, .int f, v2, v3] [] m1 := by
  have hv : vp_in f 24 := vp_in_iff.mpr ⟨by omega, show f.toInt < ((24 : Nat) : Int) by omega⟩
  have e1 : (1 : Int32).toInt = 1 := rfl
  have e5 : (5 : Int32).toInt = 5 := rfl
  have e6 : (6 : Int32).toInt = 6 := rfl
  have e99 : (99 : Int32).toInt = 99 := rfl
  intro k
  induction k with
  | zero => intro T t v2 v3 m1 _ hk; exact hk.elim
  | succ k ih =>
    intro T t v2 v3 m1 hk3 hk hS h hT hlg
    have c27 : 0 ≤ (gI m1 1175 27).toInt ∧ (gI m1 1175 27).toInt < 12 := by have : (gI m1 1175 27).toInt = B.1 2 := hT.2.2 2 (by omega); omega
    -- one tie more: row r, word w
    have one : ∀ (row r : Nat) (w : Int) (hI : Int32), t.1 = 1 → lg t.2.2.1 = w → (w = 5 ∨ w = 6) → r = (w + 1).toNat → (r = 6 ∨ r = 7) → row = rowM r → (gI m1 row (12 + B.1 2)).toInt = T r (B.1 2) →
        (∀ x2 m2, (T r (B.1 2) ≠ 0 → x2 = .inl (3, t.2.1)) → (T r (B.1 2) = 0 → x2 = .inr t) → St wRd7 m1 m2 → Sx b e x2 m2 → ∀ v m4, (St wRd7 m2 m4 ∧ Sx b e (tl (bd (bd x2 fun t => .inr (nx b e t)) (numS b e 1 99))) m4 ∧ (∀ a, bd (bd x2 fun t => .inr (nx b e t)) (numS b e 1 99) = .inr a → v.toInt = a.1) ∧ 1 ≤ v.toInt ∧ v.toInt ≤ 99) →
          ∀ y2 y3, At (E0 6) mX7_firmLine (FiQ b e m B (tieN b e (B.1 2) (k + 1) (T, t))) 85 [.ref 1175, .int f, y2, y3] [] (sI m4 row (12 + B.1 2) v)) := by
      intro row r w hI et ew hw hr0 hr67 hrow hval x2 m2 hx2 hx2' S2 h2 v m4 o4 y2 y3
      obtain ⟨S4, h4, v4, l4, u4⟩ := o4
      have T4 : SM wMo m m4 := (hS.tl S2 (by decide) (by decide)).tl S4 (by decide) (by decide)
      have F4 : MoF B T m4 := (hT.fr S2.2.2 (by decide)).fr S4.2.2 (by decide)
      have S5 : St [99608, 99624] m4 (sI m4 row (12 + B.1 2) v) := by
        rcases hr67 with q | q
        · rw [hrow, q]; exact (St.rf S4.1).row (a := 99608) rfl (by decide) (tI_lo _) (tI_hi _)
        · rw [hrow, q]; exact (St.rf S4.1).row (a := 99624) rfl (by decide) (tI_lo _) (tI_hi _)
      have T5 := T4.tw S5 (by decide) (LoF.st 12 LoF.rf (by omega) (by rcases hr67 with q | q <;> rw [hrow, q] <;> decide))
      have F5 : MoF B (setR T r (B.1 2) v.toInt) (sI m4 row (12 + B.1 2) v) := by rw [hrow]; exact F4.tie hr67
      have d27 : 0 ≤ (gI (sI m4 row (12 + B.1 2) v) 1175 27).toInt ∧ (gI (sI m4 row (12 + B.1 2) v) 1175 27).toInt < 12 := by have : (gI (sI m4 row (12 + B.1 2) v) 1175 27).toInt = B.1 2 := F5.2.2 2 (by omega); omega
      have h5 := h4.fr S5 (by decide)
      have eN : tieN b e (B.1 2) (k + 1) (T, t) = bd (if T r (B.1 2) = 0 then bd (numS b e 1 99 (nx b e t)) fun x => .inr (setR T r (B.1 2) x.1, x.2) else .inl (3, t.2.1)) (tieN b e (B.1 2) k) := by
        show bd (tieS b e (B.1 2) T t) _ = _
        rw [tie_S et ew hw, ← hr0]
      by_cases q : T r (B.1 2) = 0
      · have hx := hx2' q
        subst hx
        rw [if_pos q] at eN
        cases hnu : numS b e 1 99 (nx b e t) with
        | inl er =>
          have h5 : Sx b e (tl (numS b e 1 99 (nx b e t))) (sI m4 row (12 + B.1 2) v) := h5
          rw [hnu] at h5 eN
          exact fiDead eN T5 h5 d27
        | inr a =>
          have h5 : Sx b e (tl (numS b e 1 99 (nx b e t))) (sI m4 row (12 + B.1 2) v) := h5
          have hva : v.toInt = a.1 := v4 a hnu
          rw [hnu] at h5 eN
          rw [eN]
          have F5 : MoF B (setR T r (B.1 2) a.1) (sI m4 row (12 + B.1 2) v) := by rw [← hva]; exact F5
          have hT3 : lg (setR T r (B.1 2) a.1 3 (B.1 2)) = -1 := by
            show lg (if 3 = r ∧ B.1 2 = B.1 2 then a.1 else T 3 (B.1 2)) = -1
            rw [if_neg (fun z => by omega)]
            exact hlg
          have set6 : setR T r (B.1 2) a.1 r (B.1 2) = a.1 := by
            show (if r = r ∧ B.1 2 = B.1 2 then a.1 else T r (B.1 2)) = a.1
            rw [if_pos ⟨rfl, rfl⟩]
          have setO : ∀ r', r' ≠ r → setR T r (B.1 2) a.1 r' (B.1 2) = T r' (B.1 2) := fun r' hr' => by
            show (if r' = r ∧ B.1 2 = B.1 2 then a.1 else T r' (B.1 2)) = _
            rw [if_neg (fun z => hr' z.1)]
          refine ih (setR T r (B.1 2) a.1) a.2 y2 y3 _ (by omega) ?_ T5 h5 F5 hT3
          rcases (by omega : k = 0 ∨ k = 1 ∨ k = 2) with rfl | rfl | rfl
          · rcases hr67 with z | z
            · exact absurd q (by rw [z]; exact hk.1)
            · exact absurd q (by rw [z]; exact hk.2)
          · rcases hr67 with z | z
            · subst z
              refine ⟨by rw [set6]; omega, ?_⟩
              rw [setO 7 (by omega)]
              rcases hk with y | y
              · exact absurd q y
              · exact y
            · subst z
              refine ⟨?_, by rw [set6]; omega⟩
              rw [setO 6 (by omega)]
              rcases hk with y | y
              · exact y
              · exact absurd q y
          · rcases hr67 with z | z
            · subst z
              exact Or.inl (by rw [set6]; omega)
            · subst z
              exact Or.inr (by rw [set6]; omega)
      · have hx := hx2 q
        subst hx
        rw [if_neg q] at eN
        exact fiDead eN T5 h5 d27
    have body : ∀ (w : Int), t.1 = 1 → lg t.2.2.1 = w → (w = 5 ∨ w = 6) → At (E0 6) mX7_firmLine (FiQ b e m B (tieN b e (B.1 2) (k + 1) (T, t))) 102 [.ref 1175, .int f, v2, v3] [] m1 := by
      intro w et ew hw
      have ht : tkM m1 t := h.2.2.2.2.1
      have hval : (gI m1 1175 34).toInt = w := by
        rcases ht.2.2 with y | y | y | y | y | y
        · omega
        · rw [y.2.2.2]; exact ew
        · omega
        · omega
        · omega
        · omega
      have g6 : (gI m1 99608 (12 + B.1 2)).toInt = T 6 (B.1 2) := hT.2.1 6 (by omega) rfl
      have g7 : (gI m1 99624 (12 + B.1 2)).toInt = T 7 (B.1 2) := hT.2.1 7 (by omega) rfl
      refine At.ls okFi 80 ⟨_, _, rfl⟩ ?_
      (conv => whnf)
      refine And.intro (fun q => ?_) (fun q => ?_)
      · have q : ¬ gI m1 1175 34 = 5 := q
        have hw6 : w = 6 := hw.resolve_left (fun z => q (Int32.toInt_inj.mp (by rw [hval, z, e5])))
        subst hw6
        have O := one 99624 7 6 0 et ew (Or.inr rfl) rfl (Or.inr rfl) rfl g7
        (conv => whnf)
        refine And.intro (fun _ => ?_) (fun z => absurd rfl z)
        (conv => whnf)
        refine And.intro hv ?_
        (conv => whnf)
        refine And.intro (fun q2 => ?_) (fun q2 => ?_)
        · have q2 : gI m1 99624 f.toNatClampNeg = 0 := q2
          rw [nat_c hf] at q2
          have z0 : T 7 (B.1 2) = 0 := by rw [← g7, q2]; rfl
          (conv => whnf)
          refine And.intro rfl ?_
          refine At.ls okFi 60 ⟨_, _, rfl⟩ ?_
          (conv => whnf)
          refine ⟨5, by decide, _, s_goOn h, ?_⟩
          rintro m3 ⟨S3, h3⟩
          (conv => whnf)
          refine ⟨5, by decide, _, s_num h3 (by decide) (by decide) (by decide), ?_⟩
          rintro v m4 ⟨S4, o4⟩
          (conv => whnf)
          refine And.intro (fun _ => ?_) (fun z => absurd rfl z)
          (conv => whnf)
          refine And.intro hv ?_
          (conv => whnf)
          rw [nat_c hf]
          exact And.intro rfl (O (.inr t) m1 (fun z => absurd z0 z) (fun _ => rfl) (St.rf hS.1.1) h v m4 ⟨S3.tr S4 (fun x hx => hx), o4⟩ _ _)
        · have q2 : ¬ gI m1 99624 f.toNatClampNeg = 0 := q2
          rw [nat_c hf] at q2
          have z0 : T 7 (B.1 2) ≠ 0 := fun z => q2 (Int32.toInt_inj.mp (by rw [g7, z]; rfl))
          (conv => whnf)
          refine ⟨1, by decide, _, s_wrong (n := 3) h rfl (by omega), ?_⟩
          rintro m2 ⟨S2, h2⟩
          (conv => whnf)
          refine And.intro rfl ?_
          refine At.ls okFi 60 ⟨_, _, rfl⟩ ?_
          (conv => whnf)
          refine ⟨5, by decide, _, s_goOn h2, ?_⟩
          rintro m3 ⟨S3, h3⟩
          (conv => whnf)
          refine ⟨5, by decide, _, s_num h3 (by decide) (by decide) (by decide), ?_⟩
          rintro v m4 ⟨S4, o4⟩
          (conv => whnf)
          refine And.intro (fun _ => ?_) (fun z => absurd rfl z)
          (conv => whnf)
          refine And.intro hv ?_
          (conv => whnf)
          rw [nat_c hf]
          exact And.intro rfl (O (.inl (3, t.2.1)) m2 (fun _ => rfl) (fun z => absurd z z0) S2 h2 v m4 ⟨S3.tr S4 (fun x hx => hx), o4⟩ _ _)
      · have q : gI m1 1175 34 = 5 := q
        have hw5 : w = 5 := by rw [← hval, q, e5]
        subst hw5
        have O := one 99608 6 5 1 et ew (Or.inl rfl) rfl (Or.inl rfl) rfl g6
        (conv => whnf)
        refine And.intro (fun z => absurd z (by decide)) (fun _ => ?_)
        (conv => whnf)
        refine And.intro hv ?_
        (conv => whnf)
        refine And.intro (fun q2 => ?_) (fun q2 => ?_)
        · have q2 : gI m1 99608 f.toNatClampNeg = 0 := q2
          rw [nat_c hf] at q2
          have z0 : T 6 (B.1 2) = 0 := by rw [← g6, q2]; rfl
          (conv => whnf)
          refine And.intro rfl ?_
          refine At.ls okFi 60 ⟨_, _, rfl⟩ ?_
          (conv => whnf)
          refine ⟨5, by decide, _, s_goOn h, ?_⟩
          rintro m3 ⟨S3, h3⟩
          (conv => whnf)
          refine ⟨5, by decide, _, s_num h3 (by decide) (by decide) (by decide), ?_⟩
          rintro v m4 ⟨S4, o4⟩
          (conv => whnf)
          refine And.intro (fun z => absurd z (by decide)) (fun _ => ?_)
          (conv => whnf)
          refine And.intro hv ?_
          (conv => whnf)
          rw [nat_c hf]
          exact And.intro rfl (O (.inr t) m1 (fun z => absurd z0 z) (fun _ => rfl) (St.rf hS.1.1) h v m4 ⟨S3.tr S4 (fun x hx => hx), o4⟩ _ _)
        · have q2 : ¬ gI m1 99608 f.toNatClampNeg = 0 := q2
          rw [nat_c hf] at q2
          have z0 : T 6 (B.1 2) ≠ 0 := fun z => q2 (Int32.toInt_inj.mp (by rw [g6, z]; rfl))
          (conv => whnf)
          refine ⟨1, by decide, _, s_wrong (n := 3) h rfl (by omega), ?_⟩
          rintro m2 ⟨S2, h2⟩
          (conv => whnf)
          refine And.intro rfl ?_
          refine At.ls okFi 60 ⟨_, _, rfl⟩ ?_
          (conv => whnf)
          refine ⟨5, by decide, _, s_goOn h2, ?_⟩
          rintro m3 ⟨S3, h3⟩
          (conv => whnf)
          refine ⟨5, by decide, _, s_num h3 (by decide) (by decide) (by decide), ?_⟩
          rintro v m4 ⟨S4, o4⟩
          (conv => whnf)
          refine And.intro (fun z => absurd z (by decide)) (fun _ => ?_)
          (conv => whnf)
          refine And.intro hv ?_
          (conv => whnf)
          rw [nat_c hf]
          exact And.intro rfl (O (.inl (3, t.2.1)) m2 (fun _ => rfl) (fun z => absurd z z0) S2 h2 v m4 ⟨S3.tr S4 (fun x hx => hx), o4⟩ _ _)
    refine At.ls okFi 60 ⟨_, _, rfl⟩ ?_
    (conv => whnf)
    refine ⟨1, by decide, _, s_isWord h (by decide), ?_⟩
    rintro r m' ⟨hmm, hr⟩; have hmm := hmm.symm; subst hmm
    (conv => whnf)
    refine And.intro (fun q => ?_) (fun q => ?_)
    · have hx : t.1 = 1 ∧ lg t.2.2.1 = 5 := by
        rcases hr with ⟨⟨t', z, z1, z2⟩, _⟩ | z
        · cases z; exact ⟨z1, z2⟩
        · exact absurd z.2 q
      (conv => whnf)
      exact And.intro rfl (body 5 hx.1 hx.2 (Or.inl rfl))
    · have hx5 : ¬ (t.1 = 1 ∧ lg t.2.2.1 = 5) := fun y => by
        rcases hr with ⟨_, z⟩ | z
        · rw [z] at q; exact absurd q (by decide)
        · exact z.1 ⟨t, rfl, y.1, y.2⟩
      (conv => whnf)
      refine ⟨1, by decide, _, s_isWord h (by decide), ?_⟩
      rintro r m' ⟨hmm, hr⟩; have hmm := hmm.symm; subst hmm
      (conv => whnf)
      refine And.intro (fun q2 => ?_) (fun q2 => ?_)
      · have hx6 : ¬ (t.1 = 1 ∧ lg t.2.2.1 = 6) := fun y => by
          rcases hr with ⟨_, z⟩ | z
          · rw [z] at q2; exact absurd q2 (by decide)
          · exact z.1 ⟨t, rfl, y.1, y.2⟩
        have eN : tieN b e (B.1 2) (k + 1) (T, t) = .inr (T, t) := tie_no (fun y => by
          rcases y.2 with z | z
          · exact hx5 ⟨y.1, z⟩
          · exact hx6 ⟨y.1, z⟩) _
        (conv => whnf)
        refine And.intro rfl (fi179 hS (by rw [eN]; exact h) (fun a ha => ?_) c27)
        rw [eN] at ha
        cases ha
        exact ⟨hT, hn, hlg⟩
      · have hx : t.1 = 1 ∧ lg t.2.2.1 = 6 := by
          rcases hr with ⟨⟨t', z, z1, z2⟩, _⟩ | z
          · cases z; exact ⟨z1, z2⟩
          · exact absurd z.2 q2
        (conv => whnf)
        exact And.intro rfl (body 6 hx.1 hx.2 (Or.inr rfl))
end Fi
