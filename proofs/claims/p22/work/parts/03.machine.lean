/-! THE PURE MACHINE: memory, locals, the relation to the heap -/
abbrev MM : Type := (Nat → Nat → Int32) × (Nat → Nat → Int64) × (Nat × Nat)
def gI (m : MM) (a i : Nat) : Int32 := m.1 a i
def gJ (m : MM) (a i : Nat) : Int64 := m.2.1 a i
def sI (m : MM) (a i : Nat) (v : Int32) : MM := (fun b j => if b = a then (if j = i then v else m.1 b j) else m.1 b j, m.2)
def sJ (m : MM) (a i : Nat) (v : Int64) : MM := (m.1, fun b j => if b = a then (if j = i then v else m.2.1 b j) else m.2.1 b j, m.2.2)
def sNw (m : MM) (b : Nat) : MM := (m.1, m.2.1, (b, m.2.2.2))
def sSp (m : MM) (b : Nat) : MM := (m.1, m.2.1, (m.2.2.1, b))
/-- environment of a walk: the depth of calls that is left, the script's length and ints -/
abbrev EE : Type := Nat × Nat × (Nat → Int32)
/-- a method: name, bytes, locals, answer's type, own class -/
abbrev MI : Type := MethodName × ByteArray × Nat × Option FieldType × String
/-- locals by place; .null: nothing known -/
def gl : Nat → List Value → Value
  | _, [] => .null
  | 0, v :: _ => v
  | n + 1, _ :: r => gl n r
def kl : Value → Value
  | .long _ => .null
  | .double _ => .null
  | v => v
def sl1 : Nat → Value → List Value → List Value
  | _, _, [] => []
  | 0, v, _ :: r => v :: r
  | n + 1, v, x :: r => (match n with
    | 0 => kl x
    | _ + 1 => x) :: sl1 n v r
def sl0 : Nat → List Value → List Value
  | _, [] => []
  | 0, _ :: r => .null :: r
  | n + 1, x :: r => x :: sl0 n r
def sl2 (i : Nat) (v : Value) (ls : List Value) : List Value := sl1 i v (sl0 (i + 1) ls)
/-- the list is brought to its plain form before one goes on -/
def fl : List Value → (List Value → Prop) → Prop
  | [], k => k []
  | v :: r, k => fl r (fun r' => k (v :: r'))
theorem fl_eq : ∀ (l : List Value) (k : List Value → Prop), fl l k = k l
  | [], _ => rfl
  | v :: r, k => fl_eq r (fun r' => k (v :: r'))
def pad : Nat → List Value → List Value
  | 0, _ => []
  | n + 1, [] => .null :: pad n []
  | n + 1, v :: r => v :: pad n r
def enl : List Value → List Value
  | [] => []
  | v :: r => match v with
    | .long x => .long x :: .null :: enl r
    | .double x => .double x :: .null :: enl r
    | w => w :: enl r
def tv (ad : Nat → Nat) (b : Nat) : Value → Value
  | .ref a => .ref (ad a)
  | .retAddr _ => .ref b
  | v => v
def vld (v : Value) : Prop := match v with
  | .ref a => a ∈ cellsL
  | _ => True
theorem gl_sl1 : ∀ (ls : List Value) (i j : Nat) (v : Value), gl j (sl1 i v ls) = .null ∨ (j = i ∧ gl j (sl1 i v ls) = v) ∨ (j ≠ i ∧ j + 1 ≠ i ∧ gl j (sl1 i v ls) = gl j ls) ∨ (j + 1 = i ∧ gl j (sl1 i v ls) = kl (gl j ls))
  | [], i, j, v => Or.inl (by cases i <;> cases j <;> rfl)
  | x :: r, 0, 0, v => Or.inr (Or.inl ⟨rfl, rfl⟩)
  | x :: r, 0, j + 1, v => Or.inr (Or.inr (Or.inl ⟨by omega, by omega, rfl⟩))
  | x :: r, 1, 0, v => Or.inr (Or.inr (Or.inr ⟨rfl, rfl⟩))
  | x :: r, i + 2, 0, v => Or.inr (Or.inr (Or.inl ⟨by omega, by omega, rfl⟩))
  | x :: r, i + 1, j + 1, v => by
    have e1 : gl (j + 1) (sl1 (i + 1) v (x :: r)) = gl j (sl1 i v r) := rfl
    have e2 : gl (j + 1) (x :: r) = gl j r := rfl
    rw [e1, e2]
    rcases gl_sl1 r i j v with h | ⟨h1, h2⟩ | ⟨h1, h2, h3⟩ | ⟨h1, h2⟩
    · exact Or.inl h
    · exact Or.inr (Or.inl ⟨by omega, h2⟩)
    · exact Or.inr (Or.inr (Or.inl ⟨by omega, by omega, h3⟩))
    · exact Or.inr (Or.inr (Or.inr ⟨by omega, h2⟩))
theorem gl_sl0 : ∀ (ls : List Value) (i j : Nat), gl j (sl0 i ls) = .null ∨ (j ≠ i ∧ gl j (sl0 i ls) = gl j ls)
  | [], i, j => Or.inl (by cases i <;> cases j <;> rfl)
  | x :: r, 0, 0 => Or.inl rfl
  | x :: r, 0, j + 1 => Or.inr ⟨by omega, rfl⟩
  | x :: r, i + 1, 0 => Or.inr ⟨by omega, rfl⟩
  | x :: r, i + 1, j + 1 => by
    have e1 : gl (j + 1) (sl0 (i + 1) (x :: r)) = gl j (sl0 i r) := rfl
    have e2 : gl (j + 1) (x :: r) = gl j r := rfl
    rw [e1, e2]
    rcases gl_sl0 r i j with h | ⟨h1, h2⟩
    · exact Or.inl h
    · exact Or.inr ⟨by omega, h2⟩
theorem kl_cat {v : Value} (h : kl v ≠ .null) : kl v = v ∧ v.category = 1 := by
  cases v <;> first | exact ⟨rfl, rfl⟩ | exact absurd rfl h
theorem tv_cat (ad : Nat → Nat) (b : Nat) (v : Value) : (tv ad b v).category = v.category := by cases v <;> rfl
/-- the locals of a frame hold what is listed -/
def LsOk (ad : Nat → Nat) (b nL : Nat) (ls : List Value) (la : Array Slot) : Prop := la.size = nL ∧ lv_wf la ∧ ∀ j : Nat, gl j ls ≠ .null → la[j]? = some (.val (tv ad b (gl j ls)))
def lsE (ad : Nat → Nat) (b nL : Nat) (ls : List Value) : List (Nat × Value) := (List.range nL).filterMap (fun j => if gl j ls = .null then none else some (j, tv ad b (gl j ls)))
theorem lsE_in {ad : Nat → Nat} {b nL : Nat} {ls : List Value} {q : Nat × Value} : q ∈ lsE ad b nL ls ↔ q.1 < nL ∧ gl q.1 ls ≠ .null ∧ q.2 = tv ad b (gl q.1 ls) := by
  obtain ⟨j, v⟩ := q
  simp only [lsE, List.mem_filterMap, List.mem_range]
  constructor
  · rintro ⟨k, hk, h⟩
    split at h
    · cases h
    · rename_i hn
      cases h
      exact ⟨hk, hn, rfl⟩
  · rintro ⟨h1, h2, h3⟩
    exact ⟨j, h1, by rw [if_neg h2, h3]⟩
theorem LsOk.has {ad : Nat → Nat} {b nL : Nat} {ls : List Value} {la : Array Slot} (h : LsOk ad b nL ls la) : lv_has la nL (lsE ad b nL ls) := by
  refine ⟨h.1, h.2.1, fun q hq => ?_⟩
  obtain ⟨h1, h2, h3⟩ := lsE_in.mp hq
  rw [h3]
  exact h.2.2 _ h2
theorem LsOk.lt {ad : Nat → Nat} {b nL : Nat} {ls : List Value} {la : Array Slot} (h : LsOk ad b nL ls la) {j : Nat} (hj : gl j ls ≠ .null) : j < nL := by
  rw [← h.1]
  exact lv_lt (h.2.2 j hj)
theorem LsOk.st1 {ad : Nat → Nat} {b nL i : Nat} {ls : List Value} {la la' : Array Slot} {v : Value} (h : LsOk ad b nL ls la) (hc : v.category = 1)
    (h' : lv_has la' nL ((i, tv ad b v) :: (lsE ad b nL ls).filter (fun q => !(q.1 == i) && !(q.1 + 1 == i && q.2.category == 2)))) : LsOk ad b nL (sl1 i v ls) la' := by
  refine ⟨h'.1, h'.2.1, fun j hj => ?_⟩
  rcases gl_sl1 ls i j v with e | ⟨e1, e2⟩ | ⟨e1, e2, e3⟩ | ⟨e1, e2⟩
  · exact absurd e hj
  · rw [e2, e1]
    exact h'.2.2 (i, tv ad b v) List.mem_cons_self
  · rw [e3] at hj ⊢
    refine h'.2.2 (j, tv ad b (gl j ls)) (List.mem_cons_of_mem _ (List.mem_filter.mpr ⟨lsE_in.mpr ⟨h.lt hj, hj, rfl⟩, ?_⟩))
    simp [e1, e2]
  · rw [e2] at hj ⊢
    obtain ⟨k1, k2⟩ := kl_cat hj
    rw [k1] at hj ⊢
    refine h'.2.2 (j, tv ad b (gl j ls)) (List.mem_cons_of_mem _ (List.mem_filter.mpr ⟨lsE_in.mpr ⟨h.lt hj, hj, rfl⟩, ?_⟩))
    have : j ≠ i := by omega
    simp [this, tv_cat, k2]
theorem LsOk.st2 {ad : Nat → Nat} {b nL i : Nat} {ls : List Value} {la la' : Array Slot} {v : Value} (h : LsOk ad b nL ls la)
    (h' : lv_has la' nL ((i, tv ad b v) :: (lsE ad b nL ls).filter (fun q => !(q.1 == i) && (!(q.1 == i + 1) && !(q.1 + 1 == i && q.2.category == 2))))) : LsOk ad b nL (sl2 i v ls) la' := by
  refine ⟨h'.1, h'.2.1, fun j hj => ?_⟩
  unfold sl2 at hj ⊢
  rcases gl_sl1 (sl0 (i + 1) ls) i j v with e | ⟨e1, e2⟩ | ⟨e1, e2, e3⟩ | ⟨e1, e2⟩
  · exact absurd e hj
  · rw [e2, e1]
    exact h'.2.2 (i, tv ad b v) List.mem_cons_self
  · rw [e3] at hj ⊢
    rcases gl_sl0 ls (i + 1) j with e | ⟨f1, f2⟩
    · exact absurd e hj
    · rw [f2] at hj ⊢
      refine h'.2.2 (j, tv ad b (gl j ls)) (List.mem_cons_of_mem _ (List.mem_filter.mpr ⟨lsE_in.mpr ⟨h.lt hj, hj, rfl⟩, ?_⟩))
      simp [e1, e2, f1]
  · rw [e2] at hj ⊢
    obtain ⟨k1, k2⟩ := kl_cat hj
    rw [k1] at hj ⊢
    rcases gl_sl0 ls (i + 1) j with e | ⟨f1, f2⟩
    · exact absurd e hj
    · rw [f2] at hj k2 ⊢
      refine h'.2.2 (j, tv ad b (gl j ls)) (List.mem_cons_of_mem _ (List.mem_filter.mpr ⟨lsE_in.mpr ⟨h.lt hj, hj, rfl⟩, ?_⟩))
      have : j ≠ i := by omega
      simp [this, f1, tv_cat, k2]
theorem vld_sl1 {ls : List Value} {i : Nat} {v : Value} (h : ∀ j, vld (gl j ls)) (hv : vld v) : ∀ j, vld (gl j (sl1 i v ls)) := by
  intro j
  rcases gl_sl1 ls i j v with e | ⟨e1, e2⟩ | ⟨e1, e2, e3⟩ | ⟨e1, e2⟩
  · rw [e]; trivial
  · rw [e2]; exact hv
  · rw [e3]; exact h j
  · rw [e2]
    have := h j
    cases hg : gl j ls <;> rw [hg] at this <;> first | exact this | trivial
theorem vld_sl2 {ls : List Value} {i : Nat} {v : Value} (h : ∀ j, vld (gl j ls)) (hv : vld v) : ∀ j, vld (gl j (sl2 i v ls)) := by
  refine vld_sl1 (fun j => ?_) hv
  rcases gl_sl0 ls (i + 1) j with e | ⟨f1, f2⟩
  · rw [e]; trivial
  · rw [f2]; exact h j
/-! the world -/
def rf (m : MM) (a k kd : Nat) : Nat := match kd with
  | 2 => m.2.2.1
  | 3 => m.2.2.2
  | _ => rfT a k
def fieldV (ad : Nat → Nat) (m : MM) (a k kd : Nat) : Value := if kd = 0 ∨ kd = 4 then .int (gI m a k) else .ref (ad (rf m a k kd))
def mapF (ad : Nat → Nat) (m : MM) (a : Nat) : Nat → List Nat → List Value
  | _, [] => []
  | k, kd :: r => fieldV ad m a k kd :: mapF ad m a (k + 1) r
theorem mapF_len (ad : Nat → Nat) (m : MM) (a : Nat) : ∀ (l : List Nat) (k : Nat), (mapF ad m a k l).length = l.length
  | [], _ => rfl
  | _ :: r, k => congrArg (· + 1) (mapF_len ad m a r (k + 1))
theorem mapF_get (ad : Nat → Nat) (m : MM) (a : Nat) : ∀ (l : List Nat) (k j : Nat), (mapF ad m a k l)[j]? = l[j]?.map (fun kd => fieldV ad m a (k + j) kd)
  | [], k, j => by simp [mapF]
  | kd :: r, k, 0 => rfl
  | kd :: r, k, j + 1 => by
    have e : (mapF ad m a k (kd :: r))[j + 1]? = (mapF ad m a (k + 1) r)[j]? := rfl
    rw [e, mapF_get ad m a r (k + 1) j]
    have : k + 1 + j = k + (j + 1) := by omega
    rw [this]
    rfl
def cellE (ad : Nat → Nat) (dA : Nat → ClassId) (m : MM) (a : Nat) : va_E :=
  if a % 16 < 8 then .inr (a % 16, mapF ad m a 0 (fk (a % 16)))
  else if a % 16 = 9 then .inl (dA (a % 16), a / 4096, .inr (.inl (fun i => gJ m a i)))
  else .inl (dA (a % 16), a / 4096, .inl (fun i => gI m a i))
def wsM (ad : Nat → Nat) (dA : Nat → ClassId) (m : MM) : va_W := cellsL.map (fun a => (ad a, cellE ad dA m a))
def tysL (dA : Nat → ClassId) : List (ClassId × FieldType) := [(dA 8, .int), (dA 9, .long), (dA 10, .byte), (dA 11, .boolean)]
def okB (m : MM) : Prop := m.2.2.1 ∈ cellsL ∧ m.2.2.2 ∈ cellsL
theorem cells_nd : va_nd cellsL = true := by decide +kernel
theorem wsM_at {ad : Nat → Nat} {dA : Nat → ClassId} {a : Nat} (h : a ∈ cellsL) (m : MM) : ∃ q0 : Nat, cellsL[q0]? = some a ∧ (wsM ad dA m)[q0]? = some (ad a, cellE ad dA m a) := by
  obtain ⟨q0, hq⟩ := List.getElem?_of_mem h
  exact ⟨q0, hq, by rw [wsM, List.getElem?_map, hq]; rfl⟩
theorem wsM_set {ad : Nat → Nat} {dA : Nat → ClassId} {a q0 : Nat} {m m' : MM} {e : va_E} (hq : cellsL[q0]? = some a) (ho : ∀ b, b ∈ cellsL → b ≠ a → cellE ad dA m' b = cellE ad dA m b) (he : cellE ad dA m' a = e) :
    (wsM ad dA m).set q0 (ad a, e) = wsM ad dA m' := by
  apply List.ext_getElem?
  intro j
  have hl : q0 < cellsL.length := (List.getElem?_eq_some_iff.mp hq).1
  by_cases hj : j = q0
  · subst hj
    rw [List.getElem?_set_self (by rw [wsM, List.length_map]; exact hl), wsM, List.getElem?_map, hq, ← he]
    rfl
  · rw [List.getElem?_set_ne (Ne.symm hj), wsM, wsM, List.getElem?_map, List.getElem?_map]
    cases hc : cellsL[j]? with
    | none => rfl
    | some b =>
      have hb : b ≠ a := by
        intro q
        subst q
        exact hj (va_nd_inj cellsL cells_nd j q0 b hc hq)
      show some (ad b, cellE ad dA m b) = some (ad b, cellE ad dA m' b)
      rw [ho b (List.mem_of_getElem? hc) hb]
theorem wsM_D {A : Nat → Prop} {ad : Nat → Nat} {dA : Nat → ClassId} {m : MM} (m' : MM) (h : va_D A (wsM ad dA m)) : va_D A (wsM ad dA m') := by
  have key : ∀ (k : Nat) (q : Nat × va_E), (wsM ad dA m')[k]? = some q → ∃ q0, (wsM ad dA m)[k]? = some q0 ∧ q0.1 = q.1 := by
    intro k q hk
    rw [wsM, List.getElem?_map] at hk
    rw [wsM, List.getElem?_map]
    cases hc : cellsL[k]? with
    | none => rw [hc] at hk; cases hk
    | some b =>
      rw [hc] at hk
      cases hk
      exact ⟨_, rfl, rfl⟩
  refine ⟨fun i j x y hi hj hxy => ?_, fun k q hk => ?_⟩
  · obtain ⟨x0, h1, h2⟩ := key i x hi
    obtain ⟨y0, h3, h4⟩ := key j y hj
    exact h.1 i j x0 y0 h1 h3 (h2.trans (hxy.trans h4.symm))
  · obtain ⟨q0, h1, h2⟩ := key k q hk
    rw [← h2]
    exact h.2 k q0 h1
def Rel (dC : Nat → ClassId) (dI : Nat → Nat → Nat) (dA : Nat → ClassId) (ad : Nat → Nat) (A : Nat → Prop) (m : MM) (H : Heap) : Prop :=
  va_P (dC, dI) classes (wsM ad dA m) H ∧ va_D A (wsM ad dA m) ∧ okB m
/-- links of methods among nest mates -/
abbrev nsT : Type := String × Nat × MethodName × String
def nsL : List nsT := [("SaleRounds$Reader", 162, yX6_within, "SaleRounds"), ("SaleRounds$Book", 114, yX6_saleAt, "SaleRounds"), ("SaleRounds$Sales", 40, yX6_saleAt, "SaleRounds")]
/-- the model's words, as the launch lays them; kV: the places of text and bytes -/
def lenW : List Nat := [44]
def bytW : List (List Int32) := [[108, 97, 110, 100, 32, 103, 111, 111, 100, 32, 102, 105, 114, 109, 32, 115, 97, 108, 101, 32, 112, 97, 105, 100, 32, 104, 97, 110, 100, 32, 114, 111, 111, 109, 32, 100, 97, 121, 32, 109, 97, 114, 107, 32]]
def StK (A : Nat → Prop) (kV : (Nat → Nat) × (Nat → Nat)) (U : State) (H : Heap) : Prop :=
  vk_R "SaleRoundsModel" 141 "land good firm sale paid hand room day mark " (kV.1 0) U ∧ va_Z "java/lang/String" "COMPACT_STRINGS" "Z" (.int 1) A U H ∧ va_Zq "jdk/internal/util/Preconditions" "SIOOBE_FORMATTER" "Ljava/util/function/BiFunction;" A U H ∧ vk_S 1 lenW bytW kV.1 kV.2 A U H
def StE (A : Nat → Prop) (U : State) (H : Heap) : Prop := ∃ kV, StK A kV U H
theorem StK.to {A A' : Nat → Prop} {kV : (Nat → Nat) × (Nat → Nat)} {s U : State} {H H' : Heap} (h : StK A kV s H) (hk : ∀ q : Nat, q < H.size → ¬ A q → H'[q]? = H[q]?) (hA : ∀ q, A' q → A q) (hW : s.WarmedH U.vm) : StK A' kV U H' :=
  ⟨vk_R.warm hW h.1, va_Z.moved hW.alike ((h.2.1.kept hk).narrow hA), va_Zq.moved hW.alike ((h.2.2.1.kept hk).narrow hA), vk_S.moved hW.alike ((h.2.2.2.kept hk).narrow hA)⟩
theorem StK.blind {A : Nat → Prop} {kV : (Nat → Nat) × (Nat → Nat)} {U : State} {g : JFrame} {mk : MethodId} {a : Array Value} {H : Heap} (h : StK A kV U H) : StK A kV (U.calling g mk a) H :=
  ⟨vk_R.same (u := U) (U := U.calling g mk a) rfl h.1, va_Z.moved (u := U) (U := U.calling g mk a) (Vm.Alike.refl U.vm) h.2.1, va_Zq.moved (u := U) (U := U.calling g mk a) (Vm.Alike.refl U.vm) h.2.2.1, vk_S.moved (u := U) (U := U.calling g mk a) (Vm.Alike.refl U.vm) h.2.2.2⟩
def Cx (E : EE) (μ : MI) (p : Program) (R : Room) (s : State) (mid : MethodId) (args : Array Value) (c : Code) (dC : Nat → ClassId) (dI : Nat → Nat → Nat) (dA : Nat → ClassId) (A : Nat → Prop) (C0 S0 b : Nat) : Prop :=
  p.tables.exec = Jvm.exec ∧ c.code = μ.2.1 ∧ c.maxLocals = μ.2.2.1 ∧ s.vm.findClass μ.2.2.2.2 = some mid.cls ∧ (∀ w ∈ wsG, w.before args s = true) ∧ (∀ q ∈ nsL, va_Nw (.methodLinkNest q.1 q.2.1 q.2.2.1 q.2.2.2) s) ∧
  va_K (dC, dI) classes (tysL dA) s ∧ (∀ q, s.heap.size ≤ q → A q) ∧ (E.1 + 4 ≤ R.frames ∧ 64 * E.1 + 256 ≤ R.locals ∧ C0 ≤ R.cells ∧ S0 ≤ R.slots) ∧ (μ.2.2.2.2 = "SaleRoundsLaw" → va_X b E.2.1 E.2.2 s s.heap ∧ b < s.heap.size ∧ ¬ A b) ∧ StE A s s.heap
abbrev QQ : Type := Option Value → MM → Prop
/-- how a method may end -/
def RD (μ : MI) (pc : Nat) (r : Option Value) : Prop :=
  (∃ v, r = some (.int v) ∧ decode μ.2.1 pc = .ok (.ireturn, 1) ∧ (μ.2.2.2.1 = some .int ∨ (μ.2.2.2.1 = some .boolean ∧ (v = 0 ∨ v = 1)))) ∨
  (∃ v, r = some (.long v) ∧ decode μ.2.1 pc = .ok (.lreturn, 1) ∧ μ.2.2.2.1 = some .long) ∨ (r = none ∧ decode μ.2.1 pc = .ok (.return_, 1) ∧ μ.2.2.2.1 = none)
def Rt (μ : MI) (P : QQ) (p : Program) (l : Launch) (e : Env) (R : Room) (s : State) (mid : MethodId) (args : Array Value) (below : List Frame) (meth : Method) (c : Code) (dC : Nat → ClassId) (dI : Nat → Nat → Nat) (dA : Nat → ClassId) (ad : Nat → Nat) (A : Nat → Prop) (C0 S0 : Nat) (Qf : State → Prop) : Prop :=
  ∀ (r : Option Value) (m : MM) (H : Heap) (locs : List Loc) (la : Array Slot) (pc : Nat), P r m → RD μ pc r → Rel dC dI dA ad A m H → va_S A s.heap H locs → W p l e R s mid args below meth c H locs C0 S0 Qf (F0 mid pc la r.toList)
/-- from here the machine, in this context, comes to Qf -/
def AtC (μ : MI) (p : Program) (l : Launch) (e : Env) (R : Room) (s : State) (mid : MethodId) (args : Array Value) (below : List Frame) (meth : Method) (c : Code) (dC : Nat → ClassId) (dI : Nat → Nat → Nat) (dA : Nat → ClassId) (ad : Nat → Nat) (b : Nat) (A : Nat → Prop) (C0 S0 : Nat) (Qf : State → Prop) (pc : Nat) (ls st : List Value) (m : MM) : Prop :=
  ∀ (H : Heap) (locs : List Loc) (la : Array Slot), (∀ j, vld (gl j ls)) → (∀ v ∈ st, vld v) → Rel dC dI dA ad A m H → va_S A s.heap H locs → LsOk ad b μ.2.2.1 ls la →
    W p l e R s mid args below meth c H locs C0 S0 Qf (F0 mid pc la (st.map (tv ad b)))
/-- from here the method comes to its end with P -/
def At (E : EE) (μ : MI) (P : QQ) (pc : Nat) (ls st : List Value) (m : MM) : Prop :=
  ∀ (p : Program) (l : Launch) (e : Env) (R : Room) (s : State) (mid : MethodId) (args : Array Value) (below : List Frame) (meth : Method) (c : Code) (dC : Nat → ClassId) (dI : Nat → Nat → Nat) (dA : Nat → ClassId) (ad : Nat → Nat) (b : Nat) (A : Nat → Prop) (C0 S0 : Nat) (Qf : State → Prop),
    Cx E μ p R s mid args c dC dI dA A C0 S0 b → Rt μ P p l e R s mid args below meth c dC dI dA ad A C0 S0 Qf → AtC μ p l e R s mid args below meth c dC dI dA ad b A C0 S0 Qf pc ls st m
/-! operations -/
abbrev NX : Type := List Value → List Value → MM → Prop
abbrev OP : Type := EE → QQ → NX → (Nat → NX) → NX
def OpOk (μ : MI) (len pc : Nat) (op : OP) : Prop := ∀ (E : EE) (P : QQ) (p : Program) (l : Launch) (e : Env) (R : Room) (s : State) (mid : MethodId) (args : Array Value) (below : List Frame) (meth : Method) (c : Code) (dC : Nat → ClassId) (dI : Nat → Nat → Nat) (dA : Nat → ClassId) (ad : Nat → Nat) (b : Nat) (A : Nat → Prop) (C0 S0 : Nat) (Qf : State → Prop),
  Cx E μ p R s mid args c dC dI dA A C0 S0 b → Rt μ P p l e R s mid args below meth c dC dI dA ad A C0 S0 Qf → ∀ (nx : NX) (jp : Nat → NX) (ls st : List Value) (m : MM),
  (∀ ls st m, nx ls st m → AtC μ p l e R s mid args below meth c dC dI dA ad b A C0 S0 Qf (pc + len) ls st m) → (∀ t ls st m, jp t ls st m → AtC μ p l e R s mid args below meth c dC dI dA ad b A C0 S0 Qf t ls st m) → op E P nx jp ls st m → AtC μ p l e R s mid args below meth c dC dI dA ad b A C0 S0 Qf pc ls st m
def oIc (v : Int32) : OP := fun _ _ nx _ ls st m => nx ls (.int v :: st) m
def oJc (v : Int64) : OP := fun _ _ nx _ ls st m => nx ls (.long v :: st) m
def oIl (i : Nat) : OP := fun _ _ nx _ ls st m => match gl i ls with
  | .int x => nx ls (.int x :: st) m
  | _ => False
def oJl (i : Nat) : OP := fun _ _ nx _ ls st m => match gl i ls with
  | .long x => nx ls (.long x :: st) m
  | _ => False
def oAl (i : Nat) : OP := fun _ _ nx _ ls st m => match gl i ls with
  | .ref x => nx ls (.ref x :: st) m
  | .retAddr x => nx ls (.retAddr x :: st) m
  | _ => False
def oIs (i : Nat) : OP := fun _ _ nx _ ls st m => match st with
  | .int x :: r => fl (sl1 i (.int x) ls) (fun ls' => nx ls' r m)
  | _ => False
def oJs (i : Nat) : OP := fun _ _ nx _ ls st m => match st with
  | .long x :: r => fl (sl2 i (.long x) ls) (fun ls' => nx ls' r m)
  | _ => False
def oAs (i : Nat) : OP := fun _ _ nx _ ls st m => match st with
  | .ref x :: r => fl (sl1 i (.ref x) ls) (fun ls' => nx ls' r m)
  | _ => False
def oInc (i : Nat) (v : Int32) : OP := fun _ _ nx _ ls st m => match gl i ls with
  | .int x => fl (sl1 i (.int (x + v)) ls) (fun ls' => nx ls' st m)
  | _ => False
section OpsA
variable {μ : MI} {pc : Nat}
theorem okIc1 {n : Int} {v : Int32} (hd : decode μ.2.1 pc = .ok (.iconst n, 1)) (hv : Int32.ofInt n = v) : OpOk μ 1 pc (oIc v) := by
  intro E P p l e R s mid args below meth c dC dI dA ad b A C0 S0 Qf hC hR nx jp ls st m hn hj h H locs la hl hs hE hS hL
  exact lv_iconst hC.1 hC.2.1 hd hv (hn _ _ _ h H locs la hl (List.forall_mem_cons.mpr ⟨trivial, hs⟩) hE hS hL)
theorem okIc2 {n : Int} {v : Int32} (hd : decode μ.2.1 pc = .ok (.bipush n, 2)) (hv : (Int8.ofInt n).toInt32 = v) : OpOk μ 2 pc (oIc v) := by
  intro E P p l e R s mid args below meth c dC dI dA ad b A C0 S0 Qf hC hR nx jp ls st m hn hj h H locs la hl hs hE hS hL
  exact lv_bipush hC.1 hC.2.1 hd hv (hn _ _ _ h H locs la hl (List.forall_mem_cons.mpr ⟨trivial, hs⟩) hE hS hL)
theorem okIc3 {n : Int} {v : Int32} (hd : decode μ.2.1 pc = .ok (.sipush n, 3)) (hv : (Int16.ofInt n).toInt32 = v) : OpOk μ 3 pc (oIc v) := by
  intro E P p l e R s mid args below meth c dC dI dA ad b A C0 S0 Qf hC hR nx jp ls st m hn hj h H locs la hl hs hE hS hL
  exact lv_sipush hC.1 hC.2.1 hd hv (hn _ _ _ h H locs la hl (List.forall_mem_cons.mpr ⟨trivial, hs⟩) hE hS hL)
theorem okIcL {k : Nat} {v : Int32} (hd : decode μ.2.1 pc = .ok (.ldc k, 2)) (hw : Jvm.Cond.constant μ.2.2.2.2 k v ∈ wsG) : OpOk μ 2 pc (oIc v) := by
  intro E P p l e R s mid args below meth c dC dI dA ad b A C0 S0 Qf hC hR nx jp ls st m hn hj h H locs la hl hs hE hS hL
  exact lv_ldc hC.1 hC.2.1 hC.2.2.2.1 (hC.2.2.2.2.1 _ hw) hd (hn _ _ _ h H locs la hl (List.forall_mem_cons.mpr ⟨trivial, hs⟩) hE hS hL)
theorem okIcW {k : Nat} {v : Int32} (hd : decode μ.2.1 pc = .ok (.ldc_w k, 3)) (hw : Jvm.Cond.constant μ.2.2.2.2 k v ∈ wsG) : OpOk μ 3 pc (oIc v) := by
  intro E P p l e R s mid args below meth c dC dI dA ad b A C0 S0 Qf hC hR nx jp ls st m hn hj h H locs la hl hs hE hS hL
  exact lv_ldcw hC.1 hC.2.1 hC.2.2.2.1 (hC.2.2.2.2.1 _ hw) hd (hn _ _ _ h H locs la hl (List.forall_mem_cons.mpr ⟨trivial, hs⟩) hE hS hL)
theorem okJc1 {n : Fin 2} {v : Int64} (hd : decode μ.2.1 pc = .ok (.lconst n, 1)) (hv : Int64.ofNat (n : Nat) = v) : OpOk μ 1 pc (oJc v) := by
  intro E P p l e R s mid args below meth c dC dI dA ad b A C0 S0 Qf hC hR nx jp ls st m hn hj h H locs la hl hs hE hS hL
  exact lv_lconst hC.1 hC.2.1 hd hv (hn _ _ _ h H locs la hl (List.forall_mem_cons.mpr ⟨trivial, hs⟩) hE hS hL)
theorem okJcL {k : Nat} {v : Int64} (hd : decode μ.2.1 pc = .ok (.ldc2_w k, 3)) (hw : Jvm.Cond.constantLong μ.2.2.2.2 k v ∈ wsG) : OpOk μ 3 pc (oJc v) := by
  intro E P p l e R s mid args below meth c dC dI dA ad b A C0 S0 Qf hC hR nx jp ls st m hn hj h H locs la hl hs hE hS hL
  exact lv_ldc2 hC.1 hC.2.1 hC.2.2.2.1 (hC.2.2.2.2.1 _ hw) hd (hn _ _ _ h H locs la hl (List.forall_mem_cons.mpr ⟨trivial, hs⟩) hE hS hL)
theorem ls_at {ad : Nat → Nat} {b nL i : Nat} {ls : List Value} {la : Array Slot} {v : Value} (h : LsOk ad b nL ls la) (hg : gl i ls = v) (hv : v ≠ .null) : la[i]? = some (.val (tv ad b v)) := by
  subst hg
  exact h.2.2 i hv
theorem okIl1 {k : Fin 4} {i : Nat} (hd : decode μ.2.1 pc = .ok (.iload_n k, 1)) (hi : (k : Nat) = i) : OpOk μ 1 pc (oIl i) := by
  intro E P p l e R s mid args below meth c dC dI dA ad b A C0 S0 Qf hC hR nx jp ls st m hn hj h H locs la hl hs hE hS hL
  unfold oIl at h
  split at h
  · rename_i x hg
    exact lv_iload_n hC.1 hC.2.1 hd hi (ls_at hL hg (by simp)) (hn _ _ _ h H locs la hl (List.forall_mem_cons.mpr ⟨trivial, hs⟩) hE hS hL)
  · exact h.elim
theorem okIl2 {i : Nat} (hd : decode μ.2.1 pc = .ok (.iload i, 2)) : OpOk μ 2 pc (oIl i) := by
  intro E P p l e R s mid args below meth c dC dI dA ad b A C0 S0 Qf hC hR nx jp ls st m hn hj h H locs la hl hs hE hS hL
  unfold oIl at h
  split at h
  · rename_i x hg
    exact lv_iload hC.1 hC.2.1 hd (ls_at hL hg (by simp)) (hn _ _ _ h H locs la hl (List.forall_mem_cons.mpr ⟨trivial, hs⟩) hE hS hL)
  · exact h.elim
theorem okJl1 {k : Fin 4} {i : Nat} (hd : decode μ.2.1 pc = .ok (.lload_n k, 1)) (hi : (k : Nat) = i) : OpOk μ 1 pc (oJl i) := by
  intro E P p l e R s mid args below meth c dC dI dA ad b A C0 S0 Qf hC hR nx jp ls st m hn hj h H locs la hl hs hE hS hL
  unfold oJl at h
  split at h
  · rename_i x hg
    exact lv_lload_n hC.1 hC.2.1 hd hi (ls_at hL hg (by simp)) (hn _ _ _ h H locs la hl (List.forall_mem_cons.mpr ⟨trivial, hs⟩) hE hS hL)
  · exact h.elim
theorem okJl2 {i : Nat} (hd : decode μ.2.1 pc = .ok (.lload i, 2)) : OpOk μ 2 pc (oJl i) := by
  intro E P p l e R s mid args below meth c dC dI dA ad b A C0 S0 Qf hC hR nx jp ls st m hn hj h H locs la hl hs hE hS hL
  unfold oJl at h
  split at h
  · rename_i x hg
    exact lv_lload hC.1 hC.2.1 hd (ls_at hL hg (by simp)) (hn _ _ _ h H locs la hl (List.forall_mem_cons.mpr ⟨trivial, hs⟩) hE hS hL)
  · exact h.elim
theorem okAl1 {k : Fin 4} {i : Nat} (hd : decode μ.2.1 pc = .ok (.aload_n k, 1)) (hi : (k : Nat) = i) : OpOk μ 1 pc (oAl i) := by
  intro E P p l e R s mid args below meth c dC dI dA ad b A C0 S0 Qf hC hR nx jp ls st m hn hj h H locs la hl hs hE hS hL
  unfold oAl at h
  split at h
  · rename_i x hg
    exact lv_aload_n hC.1 hC.2.1 hd hi (ls_at hL hg (by simp)) (hn _ _ _ h H locs la hl (List.forall_mem_cons.mpr ⟨by rw [← hg]; exact hl i, hs⟩) hE hS hL)
  · rename_i x hg
    exact lv_aload_n hC.1 hC.2.1 hd hi (ls_at hL hg (by simp)) (hn _ _ _ h H locs la hl (List.forall_mem_cons.mpr ⟨trivial, hs⟩) hE hS hL)
  · exact h.elim
theorem okAl2 {i : Nat} (hd : decode μ.2.1 pc = .ok (.aload i, 2)) : OpOk μ 2 pc (oAl i) := by
  intro E P p l e R s mid args below meth c dC dI dA ad b A C0 S0 Qf hC hR nx jp ls st m hn hj h H locs la hl hs hE hS hL
  unfold oAl at h
  split at h
  · rename_i x hg
    exact lv_aload hC.1 hC.2.1 hd (ls_at hL hg (by simp)) (hn _ _ _ h H locs la hl (List.forall_mem_cons.mpr ⟨by rw [← hg]; exact hl i, hs⟩) hE hS hL)
  · rename_i x hg
    exact lv_aload hC.1 hC.2.1 hd (ls_at hL hg (by simp)) (hn _ _ _ h H locs la hl (List.forall_mem_cons.mpr ⟨trivial, hs⟩) hE hS hL)
  · exact h.elim
theorem okIs1 {k : Fin 4} {i : Nat} (hd : decode μ.2.1 pc = .ok (.istore_n k, 1)) (hi : (k : Nat) = i) (hlt : i < μ.2.2.1) : OpOk μ 1 pc (oIs i) := by
  intro E P p l e R s mid args below meth c dC dI dA ad b A C0 S0 Qf hC hR nx jp ls st m hn hj h H locs la hl hs hE hS hL
  unfold oIs at h
  split at h
  · rename_i x r
    rw [fl_eq] at h
    exact lv_istore_n hC.1 hC.2.1 hd hi hL.has hlt rfl (fun la' h' => hn _ _ _ h H locs la' (vld_sl1 hl trivial) (List.forall_mem_cons.mp hs).2 hE hS (hL.st1 rfl h'))
  · exact h.elim
theorem okIs2 {i : Nat} (hd : decode μ.2.1 pc = .ok (.istore i, 2)) (hlt : i < μ.2.2.1) : OpOk μ 2 pc (oIs i) := by
  intro E P p l e R s mid args below meth c dC dI dA ad b A C0 S0 Qf hC hR nx jp ls st m hn hj h H locs la hl hs hE hS hL
  unfold oIs at h
  split at h
  · rename_i x r
    rw [fl_eq] at h
    exact lv_istore hC.1 hC.2.1 hd hL.has hlt rfl (fun la' h' => hn _ _ _ h H locs la' (vld_sl1 hl trivial) (List.forall_mem_cons.mp hs).2 hE hS (hL.st1 rfl h'))
  · exact h.elim
theorem okJs1 {k : Fin 4} {i : Nat} (hd : decode μ.2.1 pc = .ok (.lstore_n k, 1)) (hi : (k : Nat) = i) (hlt : i + 1 < μ.2.2.1) : OpOk μ 1 pc (oJs i) := by
  intro E P p l e R s mid args below meth c dC dI dA ad b A C0 S0 Qf hC hR nx jp ls st m hn hj h H locs la hl hs hE hS hL
  unfold oJs at h
  split at h
  · rename_i x r
    rw [fl_eq] at h
    exact lv_lstore_n hC.1 hC.2.1 hd hi hL.has hlt rfl (fun la' h' => hn _ _ _ h H locs la' (vld_sl2 hl trivial) (List.forall_mem_cons.mp hs).2 hE hS (hL.st2 h'))
  · exact h.elim
theorem okJs2 {i : Nat} (hd : decode μ.2.1 pc = .ok (.lstore i, 2)) (hlt : i + 1 < μ.2.2.1) : OpOk μ 2 pc (oJs i) := by
  intro E P p l e R s mid args below meth c dC dI dA ad b A C0 S0 Qf hC hR nx jp ls st m hn hj h H locs la hl hs hE hS hL
  unfold oJs at h
  split at h
  · rename_i x r
    rw [fl_eq] at h
    exact lv_lstore hC.1 hC.2.1 hd hL.has hlt rfl (fun la' h' => hn _ _ _ h H locs la' (vld_sl2 hl trivial) (List.forall_mem_cons.mp hs).2 hE hS (hL.st2 h'))
  · exact h.elim
theorem okAs1 {k : Fin 4} {i : Nat} (hd : decode μ.2.1 pc = .ok (.astore_n k, 1)) (hi : (k : Nat) = i) (hlt : i < μ.2.2.1) : OpOk μ 1 pc (oAs i) := by
  intro E P p l e R s mid args below meth c dC dI dA ad b A C0 S0 Qf hC hR nx jp ls st m hn hj h H locs la hl hs hE hS hL
  unfold oAs at h
  split at h
  · rename_i x r
    rw [fl_eq] at h
    exact lv_astore_n hC.1 hC.2.1 hd hi hL.has hlt rfl (fun la' h' => hn _ _ _ h H locs la' (vld_sl1 hl (List.forall_mem_cons.mp hs).1) (List.forall_mem_cons.mp hs).2 hE hS (hL.st1 (v := .ref x) rfl h'))
  · exact h.elim
theorem okAs2 {i : Nat} (hd : decode μ.2.1 pc = .ok (.astore i, 2)) (hlt : i < μ.2.2.1) : OpOk μ 2 pc (oAs i) := by
  intro E P p l e R s mid args below meth c dC dI dA ad b A C0 S0 Qf hC hR nx jp ls st m hn hj h H locs la hl hs hE hS hL
  unfold oAs at h
  split at h
  · rename_i x r
    rw [fl_eq] at h
    exact lv_astore hC.1 hC.2.1 hd hL.has hlt rfl (fun la' h' => hn _ _ _ h H locs la' (vld_sl1 hl (List.forall_mem_cons.mp hs).1) (List.forall_mem_cons.mp hs).2 hE hS (hL.st1 (v := .ref x) rfl h'))
  · exact h.elim
theorem okInc {i : Nat} {n : Int} {v : Int32} (hd : decode μ.2.1 pc = .ok (.iinc i n, 3)) (hv : Int32.ofInt n = v) : OpOk μ 3 pc (oInc i v) := by
  intro E P p l e R s mid args below meth c dC dI dA ad b A C0 S0 Qf hC hR nx jp ls st m hn hj h H locs la hl hs hE hS hL
  subst hv
  unfold oInc at h
  split at h
  · rename_i x hg
    rw [fl_eq] at h
    have hlt : i < μ.2.2.1 := hL.lt (by rw [hg]; simp)
    have hin : (i, Value.int x) ∈ lsE ad b μ.2.2.1 ls := lsE_in.mpr ⟨hlt, by rw [hg]; simp, by rw [hg]; rfl⟩
    obtain ⟨k, hk⟩ := List.getElem?_of_mem hin
    exact lv_iinc hC.1 hC.2.1 hd hL.has hk rfl hlt rfl (fun la' h' => hn _ _ _ h H locs la' (vld_sl1 hl trivial) hs hE hS (hL.st1 (v := .int (x + Int32.ofInt n)) rfl h'))
  · exact h.elim
end OpsA
