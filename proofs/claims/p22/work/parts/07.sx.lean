/-! calls -/
def qi (P : Int32 → MM → Prop) : QQ := fun r m => match r with
  | some (.int x) => P x m
  | _ => False
def qj (P : Int64 → MM → Prop) : QQ := fun r m => match r with
  | some (.long x) => P x m
  | _ => False
def qv (P : MM → Prop) : QQ := fun r m => match r with
  | none => P m
  | _ => False
def E0 (d : Nat) : EE := (d, 0, fun _ => 0)
/-- contracts: the method, at these arguments and this memory, comes to its end with P -/
def CI (d : Nat) (μ : MI) (as : List Value) (m : MM) (P : Int32 → MM → Prop) : Prop := At (E0 d) μ (qi P) 0 (pad μ.2.2.1 (enl as)) [] m
def CJ (d : Nat) (μ : MI) (as : List Value) (m : MM) (P : Int64 → MM → Prop) : Prop := At (E0 d) μ (qj P) 0 (pad μ.2.2.1 (enl as)) [] m
def CV (d : Nat) (μ : MI) (as : List Value) (m : MM) (P : MM → Prop) : Prop := At (E0 d) μ (qv P) 0 (pad μ.2.2.1 (enl as)) [] m
set_option maxRecDepth 20000 in
theorem rm_le {a d e L : Nat} (h1 : a ≤ 45) (h2 : d < e) (h3 : 64 * e + 256 ≤ L) : 8 + (a + 11) + (64 * d + 256) ≤ L := by omega
def rmD (d : Nat) : Room := { frames := d + 4, cells := 0, slots := 0, locals := 64 * d + 256 }
def wsK (μ : MI) : List Cond := .code μ.1 μ.2.1 μ.2.2.1 μ.2.2.2.1 :: wsG
/-- what is asked of a method's row -/
def MiOk (μ : MI) (n : Nat) : Prop := plainName μ.1.cls = true ∧ μ.1.cls = μ.2.2.2.2 ∧ μ.2.2.2.2 ≠ "SaleRoundsLaw" ∧ (μ.1.cls ≠ "java/lang/invoke/MethodHandle" ∧ μ.1.cls ≠ "java/lang/invoke/VarHandle" ∧ (parseMethodDescriptor μ.1.desc).map (fun d => d.parameters.length) = some n) ∧ μ.2.2.1 ≤ 45 ∧ Cond.code μ.1 μ.2.1 μ.2.2.1 μ.2.2.2.1 ∈ wsG ∧ Cond.initialized μ.1.cls ∈ wsG
def PcM (dC : Nat → ClassId) (dI : Nat → Nat → Nat) (dA : Nat → ClassId) (ad : Nat → Nat) (as : List Value) (m : MM) (sz : Nat) : Array Value → State → Prop :=
  va_Pc (as.map (tv ad 0)) (fun U => U.heap.size = sz ∧ va_P (dC, dI) classes (wsM ad dA m) U.heap ∧ va_K (dC, dI) classes (tysL dA) U ∧ va_D (fun _ => True) (wsM ad dA m) ∧ okB m ∧ (∀ q ∈ nsL, va_Nw (.methodLinkNest q.1 q.2.1 q.2.2.1 q.2.2.2) U) ∧ (∀ v ∈ as, vld v) ∧ StE (va_A (wsM ad dA m) sz) U U.heap)
theorem gl_pad_nil : ∀ n j : Nat, gl j (pad n []) = .null
  | 0, j => by cases j <;> rfl
  | n + 1, 0 => rfl
  | n + 1, j + 1 => gl_pad_nil n j
theorem gl_zero (j : Nat) : gl j (pad 0 []) = .null := gl_pad_nil 0 j
theorem pad_args (ad : Nat → Nat) (b : Nat) : ∀ (as : List Value) (n k j : Nat), gl j (pad n (enl as)) ≠ .null → (k + j, tv ad b (gl j (pad n (enl as)))) ∈ lv_args k (as.map (tv ad b))
  | [], n, k, j, h => absurd (gl_pad_nil n j) h
  | v :: r, n, k, j, h => by
    have two : ∀ w : Value, w.category = 2 → (gl j (pad n (w :: .null :: enl r)) ≠ .null) → (k + j, tv ad b (gl j (pad n (w :: .null :: enl r)))) ∈ lv_args k ((w :: r).map (tv ad b)) := by
      intro w hw h
      rw [List.map_cons, lv_args, tv_cat, if_pos hw]
      match n, j, h with
      | 0, j, h => exact absurd (gl_zero j) h
      | n + 1, 0, h => exact List.mem_cons_self
      | 1, j + 1, h => exact absurd (gl_zero j) h
      | n + 2, 1, h => exact absurd rfl h
      | n + 2, j + 2, h =>
        have := pad_args ad b r n (k + 2) j h
        rw [show k + 2 + j = k + (j + 2) by omega] at this
        exact List.mem_cons_of_mem _ this
    have one : ∀ w : Value, w.category = 1 → (gl j (pad n (w :: enl r)) ≠ .null) → (k + j, tv ad b (gl j (pad n (w :: enl r)))) ∈ lv_args k ((w :: r).map (tv ad b)) := by
      intro w hw h
      rw [List.map_cons, lv_args, tv_cat, if_neg (by omega)]
      match n, j, h with
      | 0, j, h => exact absurd (gl_zero j) h
      | n + 1, 0, h => exact List.mem_cons_self
      | n + 1, j + 1, h =>
        have := pad_args ad b r n (k + 1) j h
        rw [show k + 1 + j = k + (j + 1) by omega] at this
        exact List.mem_cons_of_mem _ this
    cases v with
    | long x => exact two (.long x) rfl h
    | double x => exact two (.double x) rfl h
    | int x => exact one (.int x) rfl h
    | float x => exact one (.float x) rfl h
    | null => exact one .null rfl h
    | ref x => exact one (.ref x) rfl h
    | retAddr x => exact one (.retAddr x) rfl h
theorem sl_len (ad : Nat → Nat) (b : Nat) : ∀ as : List Value, (lg_sl (as.map (tv ad b))).length = (enl as).length
  | [] => rfl
  | v :: r => by
    have e : lg_sl ((v :: r).map (tv ad b)) = (if (tv ad b v).category = 2 then [.val (tv ad b v), .second] else [.val (tv ad b v)]) ++ lg_sl (r.map (tv ad b)) := rfl
    rw [e, List.length_append, sl_len ad b r, tv_cat]
    cases v <;> simp [enl, Value.category] <;> omega
theorem gl_vld : ∀ (l : List Value) (j : Nat), (∀ v ∈ l, vld v) → vld (gl j l)
  | [], j, _ => by cases j <;> trivial
  | v :: r, 0, h => h v List.mem_cons_self
  | v :: r, j + 1, h => gl_vld r j (fun w hw => h w (List.mem_cons_of_mem _ hw))
theorem pad_mem : ∀ (n : Nat) (l : List Value) (v : Value), v ∈ pad n l → v = .null ∨ v ∈ l
  | 0, l, v, h => by cases l <;> cases h
  | n + 1, [], v, h => by
    rcases List.mem_cons.mp h with h | h
    · exact Or.inl h
    · exact pad_mem n [] v h
  | n + 1, w :: r, v, h => by
    rcases List.mem_cons.mp h with h | h
    · exact Or.inr (h ▸ List.mem_cons_self)
    · rcases pad_mem n r v h with q | q
      · exact Or.inl q
      · exact Or.inr (List.mem_cons_of_mem _ q)
theorem enl_mem : ∀ (l : List Value) (v : Value), v ∈ enl l → v = .null ∨ v ∈ l
  | [], v, h => by cases h
  | w :: r, v, h => by
    have step : v ∈ enl r → v = .null ∨ v ∈ w :: r := fun q => (enl_mem r v q).elim Or.inl (fun z => Or.inr (List.mem_cons_of_mem _ z))
    cases w <;> simp only [enl, List.mem_cons] at h <;> rcases h with h | h <;> first | exact Or.inr (h ▸ List.mem_cons_self) | exact step h | (rcases h with h | h <;> first | exact Or.inl h | exact step h)
theorem met_core {l : Launch} {d n : Nat} {μ : MI} {P : QQ} {as : List Value} {m : MM} {Qc : Array Value → State → Outcome → State → Prop} {dC : Nat → ClassId} {dI : Nat → Nat → Nat} {dA : Nat → ClassId} {ad : Nat → Nat} {sz : Nat}
    (hm : MiOk μ n) (hlen : (enl as).length ≤ μ.2.2.1) (hat : At (E0 d) μ P 0 (pad μ.2.2.1 (enl as)) [] m)
    (hQ : ∀ (a : Array Value) (st t : State) (r : Option Value) (m' : MM), P r m' → va_P (dC, dI) classes (wsM ad dA m') t.heap → okB m' → va_F (va_A (wsM ad dA m) sz) st t → Qc a st (.returned r) t) :
    Met l μ.1 (wsK μ) (rmD d) (PcM dC dI dA ad as m sz) Qc 0 0 (va_A (wsM ad dA m) sz) := by
  refine Met.ofW (cc := μ.2.1) (maxL := μ.2.2.1) (ret := μ.2.2.2.1) hm.1 rfl ?_
  intro p e s mid args below meth c s₁ B hml hv
  obtain ⟨rfl, hsz, hP, hK, hD0, hB, hN, hvl, hSt⟩ := hv
  have hts := atoms_spec (ws := wsK μ) B.pre
  have hown : s.vm.findClass μ.2.2.2.2 = some mid.cls := by rw [← hm.2.1]; exact findClass_of_methodNamed B.named
  have hlocks := B.notSynchronized
  subst hsz
  have hD := hD0.self (sz := s.heap.size)
  rw [lg_entry_eq]
  have hle := lv_entry (as.map (tv ad 0)) (n := μ.2.2.1) (by rw [sl_len]; exact hlen)
  refine hat p l e _ s mid _ below meth c dC dI dA ad 0 (va_A (wsM ad dA m) s.heap.size) 0 0 _ ⟨B.exec, B.bytes, hml, hown, fun w hw => hts w (List.mem_cons_of_mem _ hw), hN, hK, fun q h => Or.inr h, ⟨Nat.le_refl _, Nat.le_refl _, Nat.zero_le _, Nat.zero_le _⟩, fun q => absurd q hm.2.2.1, hSt⟩ ?_ s.heap [] _ ?_ (fun v h => by cases h) ⟨hP, hD, hB⟩ va_S.rf ⟨hle.1, hle.2.1, fun j hj => ?_⟩
  · intro r m' H locs la pc hP' hRD hE hS
    rcases hRD with ⟨v, rfl, hd, hty | ⟨hty, hv01⟩⟩ | ⟨v, rfl, hd, hty⟩ | ⟨rfl, hd, hty⟩
    · exact W.iret B.exec B.bytes (B.returns.trans hty) (fun t ht hW => hQ _ _ _ _ m' hP' (by rw [ht]; exact hE.1) hE.2.2 (hS.F ht)) hS.2.2 hd hlocks
    · exact W.zret B.exec B.bytes (B.returns.trans hty) (by rcases hv01 with q | q <;> rw [q] <;> rfl) (fun t ht hW => hQ _ _ _ _ m' hP' (by rw [ht]; exact hE.1) hE.2.2 (hS.F ht)) hS.2.2 hd hlocks
    · exact W.lret B.exec B.bytes (B.returns.trans hty) (fun t ht hW => hQ _ _ _ _ m' hP' (by rw [ht]; exact hE.1) hE.2.2 (hS.F ht)) hS.2.2 hd hlocks
    · exact W.vret B.exec B.bytes (B.returns.trans hty) (fun t ht hW => hQ _ _ _ _ m' hP' (by rw [ht]; exact hE.1) hE.2.2 (hS.F ht)) hS.2.2 hd hlocks
  · intro j
    refine gl_vld _ _ (fun v hv => ?_)
    rcases pad_mem _ _ _ hv with q | q
    · rw [q]; trivial
    · rcases enl_mem _ _ q with q | q
      · rw [q]; trivial
      · exact hvl v q
  · have := pad_args ad 0 as μ.2.2.1 0 j hj
    rw [Nat.zero_add] at this
    exact hle.2.2 _ this
def okA : List Value → Bool
  | [] => true
  | v :: r => match v with
    | .int _ => okA r
    | .long _ => okA r
    | .ref _ => okA r
    | _ => false
theorem okA_tv (ad : Nat → Nat) (b : Nat) : ∀ as : List Value, okA as = true → as.map (tv ad b) = as.map (tv ad 0)
  | [], _ => rfl
  | v :: r, h => by
    cases v <;> first | cases h | (rw [List.map_cons, List.map_cons, okA_tv ad b r h]; rfl)
def popN : Nat → List Value → List Value → Option (List Value × List Value)
  | 0, acc, st => some (acc, st)
  | _ + 1, _, [] => none
  | n + 1, acc, v :: st => popN n (v :: acc) st
theorem popN_eq : ∀ (n : Nat) (acc st as r : List Value), popN n acc st = some (as, r) → as.reverse ++ r = acc.reverse ++ st ∧ as.length = acc.length + n
  | 0, acc, st, as, r, h => by cases st <;> (cases h; exact ⟨rfl, rfl⟩)
  | n + 1, acc, [], as, r, h => by cases h
  | n + 1, acc, v :: st, as, r, h => by
    obtain ⟨h1, h2⟩ := popN_eq n (v :: acc) st as r h
    refine ⟨?_, by rw [h2, List.length_cons]; omega⟩
    rw [h1, List.reverse_cons, List.append_assoc]
    rfl
def ckR (ci : Nat) (as : List Value) : Bool := match as with
  | .ref a :: _ => Nat.beq (a % 16) ci
  | _ => false
theorem blindM {dC : Nat → ClassId} {dI : Nat → Nat → Nat} {dA : Nat → ClassId} {ad : Nat → Nat} {as : List Value} {m : MM} {sz : Nat} : FrameBlind (PcM dC dI dA ad as m sz) := by
  intro a U g mk h
  obtain ⟨h0, h1, h2, h3, h4, h5, h6, h7, kV, h8⟩ := h
  exact ⟨h0, h1, h2, va_K.moved (u := U) (U := U.calling g mk a) (Vm.Alike.refl U.vm) h3, h4, h5, fun q hq => va_Nw.same rfl (u := U) (U := U.calling g mk a) rfl (h6 q hq), h7, kV, h8.blind⟩
section CallOps
variable {μ μ' : MI} {pc x n : Nat}
variable {E : EE} {p : Program} {l : Launch} {e : Env} {R : Room} {s : State} {mid : MethodId} {args : Array Value} {below : List Frame} {meth : Method} {c : Code} {dC : Nat → ClassId} {dI : Nat → Nat → Nat} {dA : Nat → ClassId} {ad : Nat → Nat} {b : Nat} {A : Nat → Prop} {C0 S0 : Nat} {H : Heap} {locs : List Loc} {la : Array Slot} {ls st as r : List Value} {m : MM} {Qc : Array Value → State → Outcome → State → Prop} {d : Nat}
theorem preM (hC : Cx E μ p R s mid args c dC dI dA A C0 S0 b) (hE : Rel dC dI dA ad A m H) (hS : va_S A s.heap H locs) (hvl : ∀ v ∈ as, vld v) (U : State) (hU : U.heap = H) (hW : s.WarmedH U.vm) : PcM dC dI dA ad as m H.size (as.map (tv ad 0)).toArray U :=
  ⟨rfl, by rw [hU], by rw [hU]; exact hE.1, va_K.moved hW.alike hC.2.2.2.2.2.2.1, hE.2.1.weaken (fun _ _ _ _ => trivial), hE.2.2, fun q hq => va_Nw.warmM hW (hC.2.2.2.2.2.1 q hq), hvl, by
    obtain ⟨kV, hk⟩ := hC.2.2.2.2.2.2.2.2.2.2
    refine ⟨kV, ?_⟩
    rw [hU]
    refine hk.to hS.2.1 (fun q hq => ?_) hW
    rcases hq with ⟨k, e', hk⟩ | hq
    · exact hE.2.1.2 k _ hk
    · exact hC.2.2.2.2.2.2.2.1 q (Nat.le_trans hS.1 hq)⟩
theorem runS (hm : MiOk μ' n) (hd : decode μ.2.1 pc = .ok (.invokestatic x, 3)) (w1 : Cond.methodLink μ.2.2.2.2 x μ'.1 ∈ wsG) (w2 : Cond.static μ'.1 ∈ wsG) (hC : Cx E μ p R s mid args c dC dI dA A C0 S0 b) (hE : Rel dC dI dA ad A m H) (hS : va_S A s.heap H locs) (hL : LsOk ad b μ.2.2.1 ls la) (hs : ∀ v ∈ st, vld v)
    (hpop : popN n [] st = some (as, r)) (hoA : okA as = true) (hcat : cats r ≤ 8) (hdE : d < E.1) (hM : Met l μ'.1 (wsK μ') (rmD d) (PcM dC dI dA ad as m H.size) Qc 0 0 (va_A (wsM ad dA m) H.size)) :
    va_Run p l e R s mid args below meth c H locs C0 S0 0 0 (F0 mid pc la (st.map (tv ad b))) (r.map (tv ad b)) (Qc (as.map (tv ad 0)).toArray) (va_A (wsM ad dA m) H.size) := by
  obtain ⟨e1, e2⟩ := popN_eq n [] st as r hpop
  have e1' : st = as.reverse ++ r := e1.symm
  obtain ⟨r1, r2, r3, r4⟩ := hC.2.2.2.2.2.2.2.2.1
  have hG : GoodIn wsG (wsK μ') := goodG (fun w hw => (List.mem_cons.mp hw).elim (fun q => q ▸ hm.2.2.2.2.2.1) id)
  refine va_runS ⟨hC.1, hC.2.1, hC.2.2.1, hC.2.2.2.1, hC.2.2.2.2.1⟩ hM ⟨callB_of n hC.2.2.2.2.1 hG rfl rfl rfl (hC.2.2.2.2.1 _ hm.2.2.2.2.2.2) (hC.2.2.2.2.1 _ w1) hm.2.2.2.1 ⟨by show d + 4 + 1 ≤ R.frames; omega, ?_⟩, hC.2.2.2.2.1 _ w2⟩ ⟨blindM, preM hC hE hS ?_⟩ rfl ?_ hL.1 ?_ ?_ hd ⟨r3, r4⟩
  · exact rm_le hm.2.2.2.2.1 hdE r2
  · intro v hv
    exact hs v (by rw [e1']; exact List.mem_append_left _ (List.mem_reverse.mpr hv))
  · rw [List.length_map, e2]; simp
  · show st.map (tv ad b) = _
    rw [e1', List.map_append, List.map_reverse, okA_tv ad b as hoA]
  · show 2 * 0 + _ ≤ 8
    rw [cats_eq]; omega
theorem runSN {host : String} (hm : MiOk μ' n) (hd : decode μ.2.1 pc = .ok (.invokestatic x, 3)) (w1 : (μ.2.2.2.2, x, μ'.1, host) ∈ nsL) (w2 : Cond.static μ'.1 ∈ wsG) (hC : Cx E μ p R s mid args c dC dI dA A C0 S0 b) (hE : Rel dC dI dA ad A m H) (hS : va_S A s.heap H locs) (hL : LsOk ad b μ.2.2.1 ls la) (hs : ∀ v ∈ st, vld v)
    (hpop : popN n [] st = some (as, r)) (hoA : okA as = true) (hcat : cats r ≤ 8) (hdE : d < E.1) (hM : Met l μ'.1 (wsK μ') (rmD d) (PcM dC dI dA ad as m H.size) Qc 0 0 (va_A (wsM ad dA m) H.size)) :
    va_Run p l e R s mid args below meth c H locs C0 S0 0 0 (F0 mid pc la (st.map (tv ad b))) (r.map (tv ad b)) (Qc (as.map (tv ad 0)).toArray) (va_A (wsM ad dA m) H.size) := by
  obtain ⟨e1, e2⟩ := popN_eq n [] st as r hpop
  have e1' : st = as.reverse ++ r := e1.symm
  obtain ⟨r1, r2, r3, r4⟩ := hC.2.2.2.2.2.2.2.2.1
  have hG : GoodIn wsG (wsK μ') := goodG (fun w hw => (List.mem_cons.mp hw).elim (fun q => q ▸ hm.2.2.2.2.2.1) id)
  refine va_runSN ⟨hC.1, hC.2.1, hC.2.2.1, hC.2.2.2.1, hC.2.2.2.2.1⟩ hM ⟨va_cnB n hC.2.2.2.2.1 hG rfl rfl rfl (hC.2.2.2.2.2.1 _ w1) (hC.2.2.2.2.1 _ hm.2.2.2.2.2.2) hm.2.2.2.1 ⟨by show d + 4 + 1 ≤ R.frames; omega, ?_⟩, hC.2.2.2.2.1 _ w2, trivial⟩ ⟨blindM, preM hC hE hS ?_⟩ rfl ?_ hL.1 ?_ ?_ hd ⟨r3, r4⟩
  · exact rm_le hm.2.2.2.2.1 hdE r2
  · intro v hv
    exact hs v (by rw [e1']; exact List.mem_append_left _ (List.mem_reverse.mpr hv))
  · rw [List.length_map, e2]; simp
  · show st.map (tv ad b) = _
    rw [e1', List.map_append, List.map_reverse, okA_tv ad b as hoA]
  · show 2 * 0 + _ ≤ 8
    rw [cats_eq]; omega
theorem runV {ci N : Nat} {C : String} {T : u_T} {ty0 : Nat → FieldType} (hc : ClsOk ci C T N ty0) (hm : MiOk μ' n) (hcl : μ'.1.cls = C) (hd : decode μ.2.1 pc = .ok (.invokevirtual x, 3)) (w1 : Cond.methodLink μ.2.2.2.2 x μ'.1 ∈ wsG) (w2 : Cond.instanceMethod μ'.1 ∈ wsG) (w3 : Cond.selects C μ'.1 μ'.1 ∈ wsG) (hC : Cx E μ p R s mid args c dC dI dA A C0 S0 b) (hE : Rel dC dI dA ad A m H) (hS : va_S A s.heap H locs) (hL : LsOk ad b μ.2.2.1 ls la) (hs : ∀ v ∈ st, vld v)
    (hpop : popN (n + 1) [] st = some (as, r)) (hck : ckR ci as = true) (hoA : okA as = true) (hcat : cats r ≤ 8) (hdE : d < E.1) (hM : Met l μ'.1 (wsK μ') (rmD d) (PcM dC dI dA ad as m H.size) Qc 0 0 (va_A (wsM ad dA m) H.size)) :
    va_Run p l e R s mid args below meth c H locs C0 S0 0 0 (F0 mid pc la (st.map (tv ad b))) (r.map (tv ad b)) (Qc (as.map (tv ad 0)).toArray) (va_A (wsM ad dA m) H.size) := by
  obtain ⟨e1, e2⟩ := popN_eq (n + 1) [] st as r hpop
  have e1' : st = as.reverse ++ r := e1.symm
  obtain ⟨r1, r2, r3, r4⟩ := hC.2.2.2.2.2.2.2.2.1
  have hG : GoodIn wsG (wsK μ') := goodG (fun w hw => (List.mem_cons.mp hw).elim (fun q => q ▸ hm.2.2.2.2.2.1) id)
  unfold ckR at hck
  split at hck
  · rename_i a as1
    have ha : a % 16 = ci := Nat.eq_of_beq_eq_true hck
    have hvl : ∀ v ∈ Value.ref a :: as1, vld v := fun v hv => hs v (by rw [e1']; exact List.mem_append_left _ (List.mem_reverse.mpr hv))
    have hin : a ∈ cellsL := hvl (.ref a) List.mem_cons_self
    obtain ⟨q0, hq1, hq2⟩ := wsM_at (ad := ad) (dA := dA) hin m
    rw [cellE_obj ha hc.2.2.2.2.2] at hq2
    have hrun := va_runV (p := p) (l := l) (e := e) (R := R) (s := s) (m := mid) (args := args) (below := below) (meth := meth) (c := c) (H := H) (locs := locs) (cells := C0) (slots := S0) (As := as1.map (tv ad 0)) (rest := r.map (tv ad b)) (b := ad a) (C := C) (g := F0 mid pc la (st.map (tv ad b))) (n := n) (own := μ.2.2.2.2) (index := x) (bytes := μ'.2.1) (maxL := μ'.2.2.1) (ret := μ'.2.2.2.1)
      ⟨hC.1, hC.2.1, hC.2.2.1, hC.2.2.2.1, hC.2.2.2.2.1⟩ hM ⟨callB_of n hC.2.2.2.2.1 hG rfl rfl rfl (hC.2.2.2.2.1 _ hm.2.2.2.2.2.2) (hC.2.2.2.2.1 _ w1) hm.2.2.2.1 ⟨by show d + 4 + 1 ≤ R.frames; omega, rm_le hm.2.2.2.2.1 hdE r2⟩, hC.2.2.2.2.1 _ w2, hC.2.2.2.2.1 _ w3⟩ ⟨blindM, va_recv hC.2.2.2.2.2.2.1 hE.1 hc.1 hq2, preM hC hE hS hvl⟩ rfl (by rw [List.length_map]; simp at e2; exact e2) hL.1 (by
        show st.map (tv ad b) = _
        have h1 : (Value.ref a :: as1).map (tv ad b) = (Value.ref a :: as1).map (tv ad 0) := okA_tv ad b _ hoA
        rw [e1', List.map_append, List.map_reverse, h1]
        simp [tv]) (by
        show 2 * 0 + _ ≤ 8
        rw [cats_eq]; omega) hd ⟨r3, r4⟩
    exact hrun
  · cases hck
/-- what a call is, in the pure machine -/
def oCI (ci : Nat) (μ' : MI) (n : Nat) : OP := fun E _ nx _ ls st m => match popN n [] st with
  | some (as, r) => match (Nat.beq ci 16 || ckR ci as) && okA as && Nat.ble (cats r) 8 && Nat.ble (enl as).length μ'.2.2.1 with
    | true => ∃ d, d < E.1 ∧ ∃ P : Int32 → MM → Prop, CI d μ' as m P ∧ ∀ x m', P x m' → nx ls (.int x :: r) m'
    | false => False
  | none => False
def oCJ (ci : Nat) (μ' : MI) (n : Nat) : OP := fun E _ nx _ ls st m => match popN n [] st with
  | some (as, r) => match (Nat.beq ci 16 || ckR ci as) && okA as && Nat.ble (cats r) 8 && Nat.ble (enl as).length μ'.2.2.1 with
    | true => ∃ d, d < E.1 ∧ ∃ P : Int64 → MM → Prop, CJ d μ' as m P ∧ ∀ x m', P x m' → nx ls (.long x :: r) m'
    | false => False
  | none => False
def oCV (ci : Nat) (μ' : MI) (n : Nat) : OP := fun E _ nx _ ls st m => match popN n [] st with
  | some (as, r) => match (Nat.beq ci 16 || ckR ci as) && okA as && Nat.ble (cats r) 8 && Nat.ble (enl as).length μ'.2.2.1 with
    | true => ∃ d, d < E.1 ∧ ∃ P : MM → Prop, CV d μ' as m P ∧ ∀ m', P m' → nx ls r m'
    | false => False
  | none => False
/-- the three kinds of call, as one -/
def Runs (μ μ' : MI) (pc ci n : Nat) : Prop := ∀ {E : EE} {p : Program} {l : Launch} {e : Env} {R : Room} {s : State} {mid : MethodId} {args : Array Value} {below : List Frame} {meth : Method} {c : Code} {dC : Nat → ClassId} {dI : Nat → Nat → Nat} {dA : Nat → ClassId} {ad : Nat → Nat} {b : Nat} {A : Nat → Prop} {C0 S0 : Nat} {H : Heap} {locs : List Loc} {la : Array Slot} {ls st as r : List Value} {m : MM} {Qc : Array Value → State → Outcome → State → Prop} {d : Nat},
  Cx E μ p R s mid args c dC dI dA A C0 S0 b → Rel dC dI dA ad A m H → va_S A s.heap H locs → LsOk ad b μ.2.2.1 ls la → (∀ v ∈ st, vld v) → popN n [] st = some (as, r) → (Nat.beq ci 16 || ckR ci as) = true → okA as = true → cats r ≤ 8 → d < E.1 →
  Met l μ'.1 (wsK μ') (rmD d) (PcM dC dI dA ad as m H.size) Qc 0 0 (va_A (wsM ad dA m) H.size) →
  va_Run p l e R s mid args below meth c H locs C0 S0 0 0 (F0 mid pc la (st.map (tv ad b))) (r.map (tv ad b)) (Qc (as.map (tv ad 0)).toArray) (va_A (wsM ad dA m) H.size)
theorem rS (hm : MiOk μ' n) (hd : decode μ.2.1 pc = .ok (.invokestatic x, 3)) (w1 : Cond.methodLink μ.2.2.2.2 x μ'.1 ∈ wsG) (w2 : Cond.static μ'.1 ∈ wsG) : Runs μ μ' pc 16 n :=
  fun hC hE hS hL hs hpop _ hoA hcat hdE hM => runS hm hd w1 w2 hC hE hS hL hs hpop hoA hcat hdE hM
theorem rN {host : String} (hm : MiOk μ' n) (hd : decode μ.2.1 pc = .ok (.invokestatic x, 3)) (w1 : (μ.2.2.2.2, x, μ'.1, host) ∈ nsL) (w2 : Cond.static μ'.1 ∈ wsG) : Runs μ μ' pc 16 n :=
  fun hC hE hS hL hs hpop _ hoA hcat hdE hM => runSN hm hd w1 w2 hC hE hS hL hs hpop hoA hcat hdE hM
theorem rV {ci N : Nat} {C : String} {T : u_T} {ty0 : Nat → FieldType} (hc : ClsOk ci C T N ty0) (hm : MiOk μ' n) (hcl : μ'.1.cls = C) (hd : decode μ.2.1 pc = .ok (.invokevirtual x, 3)) (w1 : Cond.methodLink μ.2.2.2.2 x μ'.1 ∈ wsG) (w2 : Cond.instanceMethod μ'.1 ∈ wsG) (w3 : Cond.selects C μ'.1 μ'.1 ∈ wsG) : Runs μ μ' pc ci (n + 1) :=
  fun hC hE hS hL hs hpop hck hoA hcat hdE hM => by
    rcases (Bool.or_eq_true _ _).mp hck with q | q
    · have := hc.2.2.2.2.2
      have := Nat.eq_of_beq_eq_true q
      omega
    · exact runV hc hm hcl hd w1 w2 w3 hC hE hS hL hs hpop q hoA hcat hdE hM
theorem aft (hC : Cx E μ p R s mid args c dC dI dA A C0 S0 b) (hE : Rel dC dI dA ad A m H) (hS : va_S A s.heap H locs) : ∀ q, va_A (wsM ad dA m) H.size q → A q := by
  intro q hq
  rcases hq with ⟨k, e', hk⟩ | hq
  · exact hE.2.1.2 k _ hk
  · exact hC.2.2.2.2.2.2.2.1 q (Nat.le_trans hS.1 hq)
theorem okCI {ci k : Nat} (hm : MiOk μ' k) (hr : Runs μ μ' pc ci n) : OpOk μ 3 pc (oCI ci μ' n) := by
  intro E P p l e R s mid args below meth c dC dI dA ad b A C0 S0 Qf hC hR nx jp ls st m hn hj h H locs la hl hs hE hS hL
  unfold oCI at h
  split at h
  · rename_i as r hpop
    split at h
    · rename_i hb
      simp only [Bool.and_eq_true] at hb
      obtain ⟨⟨⟨b1, b2⟩, b3⟩, b4⟩ := hb
      obtain ⟨d, hdE, P', hat, hk⟩ := h
      have hM := met_core (l := l) (dC := dC) (dI := dI) (dA := dA) (ad := ad) (sz := H.size) (Qc := va_Qi P' (fun u t => va_P (dC, dI) classes (wsM ad dA u) t.heap ∧ okB u) (va_A (wsM ad dA m) H.size)) hm (Nat.le_of_ble_eq_true b4) hat (fun a st t r m' hP h1 h2 h3 => by
        unfold qi at hP
        split at hP
        · exact ⟨⟨_, m', rfl, hP, h1, h2⟩, h3⟩
        · exact hP.elim)
      have hF := aft hC hE hS
      refine va_calli (hr hC hE hS hL hs hpop b1 b2 (Nat.le_of_ble_eq_true b3) hdE hM) hS (fun q _ h => hF q h) hF (fun v u t H1 locs1 ht hvm hpost hB hz1 hk1 hS1 => ?_)
      obtain ⟨e1, e2⟩ := popN_eq n [] st as r hpop
      exact hn _ _ _ (hk v u hpost) H1 locs1 la hl (List.forall_mem_cons.mpr ⟨trivial, fun w hw => hs w (by rw [show st = as.reverse ++ r from e1.symm]; exact List.mem_append_right _ hw)⟩) ⟨by rw [← ht]; exact hB.1, wsM_D u hE.2.1, hB.2⟩ hS1 hL
    · exact h.elim
  · exact h.elim
theorem okCJ {ci k : Nat} (hm : MiOk μ' k) (hr : Runs μ μ' pc ci n) : OpOk μ 3 pc (oCJ ci μ' n) := by
  intro E P p l e R s mid args below meth c dC dI dA ad b A C0 S0 Qf hC hR nx jp ls st m hn hj h H locs la hl hs hE hS hL
  unfold oCJ at h
  split at h
  · rename_i as r hpop
    split at h
    · rename_i hb
      simp only [Bool.and_eq_true] at hb
      obtain ⟨⟨⟨b1, b2⟩, b3⟩, b4⟩ := hb
      obtain ⟨d, hdE, P', hat, hk⟩ := h
      have hM := met_core (l := l) (dC := dC) (dI := dI) (dA := dA) (ad := ad) (sz := H.size) (Qc := va_Ql P' (fun u t => va_P (dC, dI) classes (wsM ad dA u) t.heap ∧ okB u) (va_A (wsM ad dA m) H.size)) hm (Nat.le_of_ble_eq_true b4) hat (fun a st t r m' hP h1 h2 h3 => by
        unfold qj at hP
        split at hP
        · exact ⟨⟨_, m', rfl, hP, h1, h2⟩, h3⟩
        · exact hP.elim)
      have hF := aft hC hE hS
      refine va_calll (hr hC hE hS hL hs hpop b1 b2 (Nat.le_of_ble_eq_true b3) hdE hM) hS (fun q _ h => hF q h) hF (fun v u t H1 locs1 ht hvm hpost hB hz1 hk1 hS1 => ?_)
      obtain ⟨e1, e2⟩ := popN_eq n [] st as r hpop
      exact hn _ _ _ (hk v u hpost) H1 locs1 la hl (List.forall_mem_cons.mpr ⟨trivial, fun w hw => hs w (by rw [show st = as.reverse ++ r from e1.symm]; exact List.mem_append_right _ hw)⟩) ⟨by rw [← ht]; exact hB.1, wsM_D u hE.2.1, hB.2⟩ hS1 hL
    · exact h.elim
  · exact h.elim
theorem okCV {ci k : Nat} (hm : MiOk μ' k) (hr : Runs μ μ' pc ci n) : OpOk μ 3 pc (oCV ci μ' n) := by
  intro E P p l e R s mid args below meth c dC dI dA ad b A C0 S0 Qf hC hR nx jp ls st m hn hj h H locs la hl hs hE hS hL
  unfold oCV at h
  split at h
  · rename_i as r hpop
    split at h
    · rename_i hb
      simp only [Bool.and_eq_true] at hb
      obtain ⟨⟨⟨b1, b2⟩, b3⟩, b4⟩ := hb
      obtain ⟨d, hdE, P', hat, hk⟩ := h
      have hM := met_core (l := l) (dC := dC) (dI := dI) (dA := dA) (ad := ad) (sz := H.size) (Qc := va_Qv P' (fun u t => va_P (dC, dI) classes (wsM ad dA u) t.heap ∧ okB u) (va_A (wsM ad dA m) H.size)) hm (Nat.le_of_ble_eq_true b4) hat (fun a st t r m' hP h1 h2 h3 => by
        unfold qv at hP
        split at hP
        · exact ⟨⟨m', rfl, hP, h1, h2⟩, h3⟩
        · exact hP.elim)
      have hF := aft hC hE hS
      refine va_callv (hr hC hE hS hL hs hpop b1 b2 (Nat.le_of_ble_eq_true b3) hdE hM) hS (fun q _ h => hF q h) hF (fun u t H1 locs1 ht hvm hpost hB hz1 hk1 hS1 => ?_)
      obtain ⟨e1, e2⟩ := popN_eq n [] st as r hpop
      exact hn _ _ _ (hk u hpost) H1 locs1 la hl (fun w hw => hs w (by rw [show st = as.reverse ++ r from e1.symm]; exact List.mem_append_right _ hw)) ⟨by rw [← ht]; exact hB.1, wsM_D u hE.2.1, hB.2⟩ hS1 hL
    · exact h.elim
  · exact h.elim
end CallOps
/-! the walk -/
/-- a row of a method: place, length, operation; none: the walk stops there (a loop's head) -/
abbrev CE : Type := Nat × Nat × Option OP
def seek (t : Nat) : List CE → List CE
  | [] => []
  | q :: r => match Nat.beq q.1 t with
    | true => q :: r
    | false => seek t r
noncomputable def sx (E : EE) (P : QQ) (K : Nat → NX) (full : List CE) (n : Nat) : List CE → NX :=
  Nat.rec (motive := fun _ => List CE → NX) (fun _ _ _ _ => False) (fun _ ih code ls st m => match code with
    | [] => False
    | (pc, _, none) :: _ => K pc ls st m
    | (_, _, some op) :: r => op E P (ih r) (fun t => ih (seek t full)) ls st m) n
/-- rows follow each other -/
def chn : List CE → Bool
  | [] => true
  | q :: r => match r with
    | [] => true
    | q' :: _ => Nat.beq (q.1 + q.2.1) q'.1 && chn r
def CodeOk (μ : MI) (full : List CE) : Prop := chn full = true ∧ ∀ q ∈ full, ∀ op, q.2.2 = some op → OpOk μ q.2.1 q.1 op
theorem chn_tail {q : CE} {r : List CE} (h : chn (q :: r) = true) : chn r = true := by
  cases r with
  | nil => rfl
  | cons q' r' => exact (Bool.and_eq_true _ _ ▸ h : _ ∧ _).2
theorem seek_suf (t : Nat) : ∀ full : List CE, chn full = true → chn (seek t full) = true ∧ (∀ q ∈ seek t full, q ∈ full) ∧ ∀ q r, seek t full = q :: r → q.1 = t
  | [], h => ⟨rfl, (fun q hq => by cases hq), (fun q r h => by cases h)⟩
  | q :: r, h => by
    unfold seek
    split
    · rename_i hb
      exact ⟨h, fun q hq => hq, fun q' r' h' => by cases h'; exact Nat.eq_of_beq_eq_true hb⟩
    · obtain ⟨h1, h2, h3⟩ := seek_suf t r (chn_tail h)
      exact ⟨h1, fun q hq => List.mem_cons_of_mem _ (h2 q hq), h3⟩
section SxS
variable {E : EE} {μ : MI} {P : QQ} {full : List CE} {p : Program} {l : Launch} {e : Env} {R : Room} {s : State} {mid : MethodId} {args : Array Value} {below : List Frame} {meth : Method} {c : Code} {dC : Nat → ClassId} {dI : Nat → Nat → Nat} {dA : Nat → ClassId} {ad : Nat → Nat} {b : Nat} {A : Nat → Prop} {C0 S0 : Nat} {Qf : State → Prop} {K : Nat → NX}
theorem sx_sound (hF : CodeOk μ full) (hC : Cx E μ p R s mid args c dC dI dA A C0 S0 b) (hR : Rt μ P p l e R s mid args below meth c dC dI dA ad A C0 S0 Qf) (hK : ∀ pc ls st m, K pc ls st m → AtC μ p l e R s mid args below meth c dC dI dA ad b A C0 S0 Qf pc ls st m) :
    ∀ (n : Nat) (code : List CE) (pc : Nat), chn code = true → (∀ q ∈ code, q ∈ full) → (∀ q r, code = q :: r → q.1 = pc) →
    ∀ ls st m, sx E P K full n code ls st m → AtC μ p l e R s mid args below meth c dC dI dA ad b A C0 S0 Qf pc ls st m := by
  intro n
  induction n with
  | zero => intro code pc h1 h2 h3 ls st m h; exact h.elim
  | succ n ih =>
    intro code pc h1 h2 h3 ls st m h
    match code, h1, h2, h3, h with
    | [], _, _, _, h => exact h.elim
    | (pc', len, none) :: r, _, _, h3, h =>
      have : pc' = pc := h3 _ _ rfl
      subst this
      exact hK _ _ _ _ h
    | (pc', len, some op) :: r, h1, h2, h3, h =>
      have : pc' = pc := h3 _ _ rfl
      subst this
      refine hF.2 (pc', len, some op) (h2 _ List.mem_cons_self) op rfl E P p l e R s mid args below meth c dC dI dA ad b A C0 S0 Qf hC hR _ _ ls st m (fun ls st m hh => ?_) (fun t ls st m hh => ?_) h
      · refine ih r (pc' + len) (chn_tail h1) (fun q hq => h2 q (List.mem_cons_of_mem _ hq)) (fun q r' hr => ?_) ls st m hh
        subst hr
        exact (Nat.eq_of_beq_eq_true (Bool.and_eq_true _ _ ▸ h1 : _ ∧ _).1).symm
      · obtain ⟨s1, s2, s3⟩ := seek_suf t full hF.1
        exact ih (seek t full) t s1 s2 s3 ls st m hh
theorem AtC.go (hF : CodeOk μ full) (hC : Cx E μ p R s mid args c dC dI dA A C0 S0 b) (hR : Rt μ P p l e R s mid args below meth c dC dI dA ad A C0 S0 Qf) (hK : ∀ pc ls st m, K pc ls st m → AtC μ p l e R s mid args below meth c dC dI dA ad b A C0 S0 Qf pc ls st m)
    (n : Nat) {pc : Nat} {ls st : List Value} {m : MM} (h : sx E P K full n (seek pc full) ls st m) : AtC μ p l e R s mid args below meth c dC dI dA ad b A C0 S0 Qf pc ls st m := by
  obtain ⟨s1, s2, s3⟩ := seek_suf pc full hF.1
  exact sx_sound hF hC hR hK n _ pc s1 s2 s3 ls st m h
theorem AtC.lp (hF : CodeOk μ full) (hC : Cx E μ p R s mid args c dC dI dA A C0 S0 b) (hR : Rt μ P p l e R s mid args below meth c dC dI dA ad A C0 S0 Qf) (hK : ∀ pc ls st m, K pc ls st m → AtC μ p l e R s mid args below meth c dC dI dA ad b A C0 S0 Qf pc ls st m)
    (n : Nat) {pc : Nat} {ls st : List Value} {m : MM} (hz : ∃ o r, seek pc full = (pc, 0, o) :: r) (h : sx E P K full n (seek pc full).tail ls st m) : AtC μ p l e R s mid args below meth c dC dI dA ad b A C0 S0 Qf pc ls st m := by
  obtain ⟨s1, s2, s3⟩ := seek_suf pc full hF.1
  obtain ⟨o, r, e⟩ := hz
  rw [e] at s1 s2 h
  refine sx_sound hF hC hR hK n r pc (chn_tail s1) (fun q hq => s2 q (List.mem_cons_of_mem _ hq)) (fun q r' hr => ?_) ls st m h
  subst hr
  exact (Nat.eq_of_beq_eq_true (Bool.and_eq_true _ _ ▸ s1 : _ ∧ _).1).symm
/-- begin at a place -/
theorem At.go (hF : CodeOk μ full) (n : Nat) {pc : Nat} {ls st : List Value} {m : MM} (h : sx E P (At E μ P) full n (seek pc full) ls st m) : At E μ P pc ls st m :=
  fun p l e R s mid args below meth c dC dI dA ad b A C0 S0 Qf hC hR => AtC.go hF hC hR (fun _ _ _ _ h => h p l e R s mid args below meth c dC dI dA ad b A C0 S0 Qf hC hR) n h
/-- begin behind a loop's head -/
theorem At.lp (hF : CodeOk μ full) (n : Nat) {pc : Nat} {ls st : List Value} {m : MM} (hz : ∃ o r, seek pc full = (pc, 0, o) :: r) (h : sx E P (At E μ P) full n (seek pc full).tail ls st m) : At E μ P pc ls st m :=
  fun p l e R s mid args below meth c dC dI dA ad b A C0 S0 Qf hC hR => AtC.lp hF hC hR (fun _ _ _ _ h => h p l e R s mid args below meth c dC dI dA ad b A C0 S0 Qf hC hR) n hz h
end SxS
