/-! constructors: straight rows over the kit's worlds -/
def nsI : List nsT := [("SaleRounds", 11, yX3_init, "SaleRounds"), ("SaleRounds", 20, yX1_init, "SaleRounds"), ("SaleRounds", 27, yX5_init, "SaleRounds"), ("SaleRounds", 34, yX0_init, "SaleRounds"), ("SaleRounds$Book", 11, yX2_init, "SaleRounds"), ("SaleRounds$Book", 26, yX4_init, "SaleRounds")]
def rmI (d mc ms : Nat) : Room := { frames := d, cells := mc, slots := ms, locals := 64 * d }
/-- the cells that a constructor leaves: by class numbers of arrays, its object, the new addresses -/
abbrev TWc : Type := (Nat → ClassId) → Nat → (Nat → Nat) → va_W
def PcI (dC : Nat → ClassId) (dI : Nat → Nat → Nat) (dA : Nat → ClassId) (h0 ci : Nat) (fs0 : List Value) (sz : Nat) : Array Value → State → Prop :=
  va_Pc [.ref h0] (fun U => U.heap.size = sz ∧ va_P (dC, dI) classes [(h0, .inr (ci, fs0))] U.heap ∧ va_K (dC, dI) classes (tysL dA) U ∧ va_D (fun _ => True) [(h0, .inr (ci, fs0))] ∧ ∀ q ∈ nsI, va_Nw (.methodLinkNest q.1 q.2.1 q.2.2.1 q.2.2.2) U)
def QcI (dC : Nat → ClassId) (dI : Nat → Nat → Nat) (dA : Nat → ClassId) (h0 ci : Nat) (fs0 : List Value) (t : TWc) (sz : Nat) : Array Value → State → Outcome → State → Prop :=
  va_Qv (fun _ : Nat → Nat => True) (fun as u => va_P (dC, dI) classes (t dA h0 as) u.heap ∧ va_D (va_A [(h0, .inr (ci, fs0))] sz) (t dA h0 as)) (va_A [(h0, .inr (ci, fs0))] sz)
def CTok (μ : MI) (ci : Nat) (fs0 : List Value) (t : TWc) (d mc ms : Nat) : Prop := ∀ (l : Launch) (dC : Nat → ClassId) (dI : Nat → Nat → Nat) (dA : Nat → ClassId) (h0 sz : Nat), Met l μ.1 (wsK μ) (rmI d mc ms) (PcI dC dI dA h0 ci fs0 sz) (QcI dC dI dA h0 ci fs0 t sz) mc ms (va_A [(h0, .inr (ci, fs0))] sz)
theorem blindI {dC : Nat → ClassId} {dI : Nat → Nat → Nat} {dA : Nat → ClassId} {h0 ci sz : Nat} {fs0 : List Value} : FrameBlind (PcI dC dI dA h0 ci fs0 sz) := by
  intro a U g mk h
  obtain ⟨h0, h1, h2, h3, h4, h5⟩ := h
  exact ⟨h0, h1, h2, va_K.moved (u := U) (U := U.calling g mk a) (Vm.Alike.refl U.vm) h3, h4, fun q hq => va_Nw.same rfl (u := U) (U := U.calling g mk a) rfl (h5 q hq)⟩
theorem nd_of : ∀ l : List Nat, l.Nodup → va_nd l = true
  | [], _ => rfl
  | a :: l, h => by
    rw [List.nodup_cons] at h
    simp only [va_nd, Bool.and_eq_true, decide_eq_true_eq]
    exact ⟨h.1, nd_of l h.2⟩
theorem range_map {ws l : va_W} : (List.range ws.length).map (fun i => (ws ++ l)[i]?) = ws.map some := by
  apply List.ext_getElem?
  intro i
  rw [List.getElem?_map, List.getElem?_map]
  by_cases hi : i < ws.length
  · rw [List.getElem?_range hi, Option.map_some, List.getElem?_append_left hi, List.getElem?_eq_getElem hi]
    rfl
  · rw [List.getElem?_eq_none (by rw [List.length_range]; omega), List.getElem?_eq_none (by omega)]
    rfl
section Ctor
variable {μ : MI} {p : Program} {l : Launch} {e : Env} {R : Room} {s : State} {mid : MethodId} {args : Array Value} {below : List Frame} {meth : Method} {c : Code} {dC : Nat → ClassId} {dI : Nat → Nat → Nat} {dA : Nat → ClassId} {A : Nat → Prop} {d mc ms h0 k n pc : Nat} {Qf : State → Prop} {ws : va_W}
def CXI (μ : MI) (d mc ms : Nat) (p : Program) (R : Room) (s : State) (mid : MethodId) (args : Array Value) (meth : Method) (c : Code) (dC : Nat → ClassId) (dI : Nat → Nat → Nat) (dA : Nat → ClassId) (A : Nat → Prop) : Prop :=
  p.tables.exec = Jvm.exec ∧ c.code = μ.2.1 ∧ c.maxLocals = 1 ∧ s.vm.findClass μ.2.2.2.2 = some mid.cls ∧ (∀ w ∈ wsG, w.before args s = true) ∧ (∀ q ∈ nsI, va_Nw (.methodLinkNest q.1 q.2.1 q.2.2.1 q.2.2.2) s) ∧
  va_K (dC, dI) classes (tysL dA) s ∧ (∀ q, s.heap.size ≤ q → A q) ∧ (d ≤ R.frames ∧ 64 * d ≤ R.locals ∧ mc ≤ R.cells ∧ ms ≤ R.slots) ∧ meth.name = "<init>"
def CW (p : Program) (l : Launch) (e : Env) (R : Room) (s : State) (mid : MethodId) (args : Array Value) (below : List Frame) (meth : Method) (c : Code) (dC : Nat → ClassId) (dI : Nat → Nat → Nat) (A : Nat → Prop) (Qf : State → Prop) (h0 k n pc : Nat) (ws : va_W) : Prop :=
  ∀ (H : Heap) (locs : List Loc) (la : Array Slot), va_P (dC, dI) classes ws H → va_D A ws → va_S A s.heap H locs → lv_has la 1 [(0, .ref h0)] → W p l e R s mid args below meth c H locs k n Qf (F0 mid pc la [])
def PushI (cc : ByteArray) (pc len : Nat) (v : Int32) : Prop := (∃ n, decode cc pc = .ok (.iconst n, 1) ∧ Int32.ofInt n = v ∧ len = 1) ∨ (∃ n, decode cc pc = .ok (.bipush n, 2) ∧ (Int8.ofInt n).toInt32 = v ∧ len = 2) ∨ (∃ n, decode cc pc = .ok (.sipush n, 3) ∧ (Int16.ofInt n).toInt32 = v ∧ len = 3)
theorem pushGo {cc : ByteArray} (hx : p.tables.exec = Jvm.exec) (hb : c.code = cc) {len : Nat} {v : Int32} {H : Heap} {locs : List Loc} {la : Array Slot} {st : List Value} (hp : PushI cc pc len v) (kk : W p l e R s mid args below meth c H locs k n Qf (F0 mid (pc + len) la (.int v :: st))) : W p l e R s mid args below meth c H locs k n Qf (F0 mid pc la st) := by
  rcases hp with ⟨z, h1, h2, rfl⟩ | ⟨z, h1, h2, rfl⟩ | ⟨z, h1, h2, rfl⟩
  · exact lv_iconst hx hb h1 h2 kk
  · exact lv_bipush hx hb h1 h2 kk
  · exact lv_sipush hx hb h1 h2 kk
theorem cwObj (X : CXI μ d mc ms p R s mid args meth c dC dI dA A) (hd1 : 1 ≤ d) {x : Nat} (d0 : decode μ.2.1 pc = .ok (.aload_n 0, 1)) (d1 : decode μ.2.1 (pc + 1) = .ok (.invokespecial x, 3)) (w1 : Cond.methodLink μ.2.2.2.2 x Lib.objectInit ∈ wsG) (w2 : Cond.instanceMethod Lib.objectInit ∈ wsG) (w3 : Cond.code Lib.objectInit ⟨#[0xb1]⟩ 1 none ∈ wsG)
    (kk : CW p l e R s mid args below meth c dC dI A Qf h0 k n (pc + 1 + 3) ws) : CW p l e R s mid args below meth c dC dI A Qf h0 k n pc ws := by
  intro H locs la hP hD hS hl
  obtain ⟨r1, r2, r3, r4⟩ := X.2.2.2.2.2.2.2.2.1
  refine lv_aload_n X.1 X.2.1 d0 rfl (lv_at hl 0 rfl) ?_
  refine W.objInit X.1 X.2.1 X.2.2.2.1 (X.2.2.2.2.1 _ w1) (X.2.2.2.2.1 _ w2) (X.2.2.2.2.1 _ w3) rfl (by rw [X.2.2.1]; exact hl.1) rfl d1 (by omega) (by show 2 * 0 + 0 + 12 ≤ _; omega) ?_
  exact kk H locs la hP hD hS hl
theorem cwInt (X : CXI μ d mc ms p R s mid args meth c dC dI dA A) {ci NF x len j : Nat} {C : String} {T : u_T} {ty0 : Nat → FieldType} {fs : List Value} {v : Int32} (hc : ClsOk ci C T NF ty0) (he : ws[0]? = some (h0, .inr (ci, fs))) (hj : j < NF) (hT : (T j).1 = C) (hfin : (T j).2.2.2 = false) (hfl : j < fs.length)
    (d0 : decode μ.2.1 pc = .ok (.aload_n 0, 1)) (dp : PushI μ.2.1 (pc + 1) len v) (df : decode μ.2.1 (pc + 1 + len) = .ok (.putfield x, 3)) (wl : Cond.fieldLink μ.2.2.2.2 x C (T j).2.1 (T j).2.2.1 ∈ wsG) (hnr : narrow (ty0 j) (.int v) = .int v) (hft : fits (ty0 j) (.int v) = true)
    (kk : CW p l e R s mid args below meth c dC dI A Qf h0 k n (pc + 1 + len + 3) (ws.set 0 (h0, .inr (ci, fs.set j (.int v))))) : CW p l e R s mid args below meth c dC dI A Qf h0 k n pc ws := by
  intro H locs la hP hD hS hl
  refine lv_aload_n X.1 X.2.1 d0 rfl (lv_at hl 0 rfl) ?_
  refine pushGo X.1 X.2.1 dp ?_
  refine va_put X.1 X.2.1 X.2.2.2.2.1 hc.2.1 ty0 hc.2.2.1 hc.2.2.2.1 X.2.2.2.1 X.2.2.2.2.2.2.1 hP hD hS 0 he hc.1 j hj (X.2.2.2.2.1 _ wl) (fun y hy => by rw [hT] at hy; exact hy) hfin (v := .int v) (hc.2.2.1 j hj) hnr hft hfl df (fun H1 locs1 hP1 hD1 hS1 => ?_)
  exact kk H1 locs1 la hP1 hD1 hS1 hl
theorem cwArr (X : CXI μ d mc ms p R s mid args meth c dC dI dA A) {ci NF x len j kd t0 N : Nat} {C : String} {T : u_T} {ty0 : Nat → FieldType} {fs : List Value} {v : Int32} {aty : ArrayType} {ty : FieldType} {a0 : vp_A} (hc : ClsOk ci C T NF ty0) (he : ws[0]? = some (h0, .inr (ci, fs))) (hj : j < NF) (hT : (T j).1 = C) (hoC : C = μ.2.2.2.2) (hfin : (T j).2.2.2 = true) (hfl : j < fs.length)
    (d0 : decode μ.2.1 pc = .ok (.aload_n 0, 1)) (dp : PushI μ.2.1 (pc + 1) len v) (dn : decode μ.2.1 (pc + 1 + len) = .ok (.newarray aty, 2)) (df : decode μ.2.1 (pc + 1 + len + 2) = .ok (.putfield x, 3)) (wl : Cond.fieldLink μ.2.2.2.2 x C (T j).2.1 (T j).2.2.1 ∈ wsG) (wa : Cond.arrayClass (newarray.typeOf aty) ∈ wsG)
    (hty : newarray.typeOf aty = ty) (ht : (tysL dA)[t0]? = some (dA kd, ty)) (hRA : ∀ cA, va_RA s cA ty → s.vm.findClass ("[" ++ ty.toString) = some cA) (ha : ∀ cA : ClassId, vp_cell cA a0 = arrV cA N (fun _ => defaultValue ty)) (hN : v.toNatClampNeg = N) (hv : ¬ v < 0) (hby : N * componentBytes ty ≤ 536870912)
    (hnr : ∀ q, narrow (ty0 j) (.ref q) = .ref q) (hft : ∀ q, fits (ty0 j) (.ref q) = true) (hk : k + 1 ≤ mc) (hn : n + N ≤ ms)
    (kk : ∀ q, CW p l e R s mid args below meth c dC dI A Qf h0 (k + 1) (n + N) (pc + 1 + len + 2 + 3) ((ws ++ [((q : Nat), (Sum.inl (dA kd, a0) : va_E))]).set 0 (h0, .inr (ci, fs.set j (.ref q))))) : CW p l e R s mid args below meth c dC dI A Qf h0 k n pc ws := by
  intro H locs la hP hD hS hl
  obtain ⟨r1, r2, r3, r4⟩ := X.2.2.2.2.2.2.2.2.1
  refine lv_aload_n X.1 X.2.1 d0 rfl (lv_at hl 0 rfl) ?_
  refine pushGo X.1 X.2.1 dp ?_
  refine va_newa X.1 X.2.1 (X.2.2.2.2.1 _ wa) hty X.2.2.2.2.2.2.1 hP hD hS X.2.2.2.2.2.2.2.1 ha hv hN hby (by omega) (by omega) dn (fun q cA H1 hK1 hP1 hD1 hS1 => ?_)
  have e1 := hRA _ (X.2.2.2.2.2.2.1.2 t0 _ ht).2
  have e2 := hRA _ (hK1.2 (tysL dA).length (cA, ty) (by simp)).2
  have e3 : cA = dA kd := Option.some.inj (e2.symm.trans e1)
  subst e3
  have hlen : 0 < ws.length := (List.getElem?_eq_some_iff.mp he).1
  refine va_putF X.1 X.2.1 X.2.2.2.2.1 hc.2.1 ty0 hc.2.2.1 hc.2.2.2.1 X.2.2.2.1 X.2.2.2.2.2.2.1 hP1 hD1 hS1 0 (by rw [List.getElem?_append_left hlen]; exact he) hc.1 j hj (X.2.2.2.2.1 _ wl) (fun y hy => by rw [hT] at hy; exact hy) hfin X.2.2.2.2.2.2.2.2.2 (by rw [hT, hoC]) (v := .ref q) (hc.2.2.1 j hj) (hnr q) (hft q) hfl df (fun H2 locs2 hP2 hD2 hS2 => ?_)
  exact kk q H2 locs2 la hP2 hD2 hS2 hl
theorem cwNew (X : CXI μ d mc ms p R s mid args meth c dC dI dA A) {ci NF x1 x2 x3 j cj NG d' mc' ms' : Nat} {C G host : String} {T TG : u_T} {ty0 tyG : Nat → FieldType} {fs fs0 : List Value} {μ' : MI} {t : TWc} (hct : CTok μ' cj fs0 t d' mc' ms') (hc : ClsOk ci C T NF ty0) (hg : ClsOk cj G TG NG tyG) (he : ws[0]? = some (h0, .inr (ci, fs))) (hj : j < NF) (hT : (T j).1 = C) (hoC : C = μ.2.2.2.2) (hfl : j < fs.length)
    (d0 : decode μ.2.1 pc = .ok (.aload_n 0, 1)) (d1 : decode μ.2.1 (pc + 1) = .ok (.new x1, 3)) (d2 : decode μ.2.1 (pc + 1 + 3) = .ok (.dup, 1)) (d3 : decode μ.2.1 (pc + 1 + 3 + 1) = .ok (.invokespecial x2, 3)) (d4 : decode μ.2.1 (pc + 1 + 3 + 1 + 3) = .ok (.putfield x3, 3))
    (wl : Cond.fieldLink μ.2.2.2.2 x3 C (T j).2.1 (T j).2.2.1 ∈ wsG) (wc : Cond.classLink μ.2.2.2.2 x1 G ∈ wsG) (wi : Cond.instantiable G NG ∈ wsG) (wz : Cond.initialized G ∈ wsG) (wn : (μ.2.2.2.2, x2, μ'.1, host) ∈ nsI) (wm : Cond.instanceMethod μ'.1 ∈ wsG) (wk : Cond.code μ'.1 μ'.2.1 μ'.2.2.1 none ∈ wsG) (hr' : μ'.2.2.2.1 = none) (hm1 : μ'.2.2.1 = 1) (hnm : μ'.1.name = "<init>") (hcG : μ'.1.cls = G)
    (hd' : μ'.1.cls ≠ "java/lang/invoke/MethodHandle" ∧ μ'.1.cls ≠ "java/lang/invoke/VarHandle" ∧ (parseMethodDescriptor μ'.1.desc).map (fun d => d.parameters.length) = some 0)
    (hfs : ∀ i, i < NG → defaultValue (tyG i) = vp_V fs0 i) (hnr : ∀ q, narrow (ty0 j) (.ref q) = .ref q) (hft : ∀ q, fits (ty0 j) (.ref q) = true) (hdd : d' + 1 ≤ d) (hk : k + 1 + mc' ≤ mc) (hn : n + NG + ms' ≤ ms)
    (kk : ∀ q as, CW p l e R s mid args below meth c dC dI A Qf h0 (k + 1 + mc') (n + NG + ms') (pc + 1 + 3 + 1 + 3 + 3) ((ws ++ t dA q as).set 0 (h0, .inr (ci, fs.set j (.ref q))))) : CW p l e R s mid args below meth c dC dI A Qf h0 k n pc ws := by
  intro H locs la hP hD hS hl
  obtain ⟨r1, r2, r3, r4⟩ := X.2.2.2.2.2.2.2.2.1
  refine lv_aload_n X.1 X.2.1 d0 rfl (lv_at hl 0 rfl) ?_
  refine va_new (ci := cj) (fs := fs0) X.1 X.2.1 X.2.2.2.2.1 hg.2.1 tyG hg.2.2.1 X.2.2.2.1 (X.2.2.2.2.1 _ wc) (X.2.2.2.2.1 _ wi) (X.2.2.2.2.1 _ wz) X.2.2.2.2.2.2.1 hP hD hS X.2.2.2.2.2.2.2.1 hg.1 hfs (by omega) (by omega) d1 (fun q H1 hP1 hD1 hS1 => ?_)
  refine lv_dup X.1 X.2.1 d2 rfl ?_
  have hat : (ws ++ [(q, (.inr (cj, fs0) : va_E))])[ws.length]? = some (q, .inr (cj, fs0)) := by simp
  have hC1 : [ws.length].map (fun i => (ws ++ [(q, (.inr (cj, fs0) : va_E))])[i]?) = [(q, (.inr (cj, fs0) : va_E))].map some := by simp
  have hPc := hP1.sub (ws' := [(q, .inr (cj, fs0))]) [ws.length] (by simp)
  have hDc := hD1.sub (ws' := [(q, .inr (cj, fs0))]) [ws.length] (by simp [va_nd]) hC1
  have hFc := va_free (wc := [(q, .inr (cj, fs0))]) hD1 hS1 X.2.2.2.2.2.2.2.1 [ws.length] hC1
  have hG : GoodIn wsG (wsK μ') := goodG (fun w hw => (List.mem_cons.mp hw).elim (fun q => by rw [q, hr']; exact wk) id)
  refine va_callv (va_runIN (As := []) (rest := [.ref q, .ref h0]) ⟨X.1, X.2.1, X.2.2.1, X.2.2.2.1, X.2.2.2.2.1⟩ (hct l dC dI dA q H1.size) ⟨va_cnB 0 X.2.2.2.2.1 hG (by rw [wsK, hr']) rfl rfl (X.2.2.2.2.2.1 _ wn) (by rw [hcG]; exact X.2.2.2.2.1 _ wz) hd' ⟨by show d' + 1 ≤ R.frames; omega, by show 8 + (μ'.2.2.1 + 11) + 64 * d' ≤ R.locals; omega⟩, hnm, X.2.2.2.2.1 _ wm⟩
    ⟨blindI, fun U hU hW => ⟨rfl, by rw [hU], by rw [hU]; exact hPc, va_K.moved hW.alike X.2.2.2.2.2.2.1, hDc.weaken (fun _ _ _ _ => trivial), fun z hz => va_Nw.warmM hW (X.2.2.2.2.2.1 z hz)⟩⟩ rfl rfl hl.1 rfl (lv_room (Nat.le_of_ble_eq_true rfl)) d3 ⟨by omega, by omega⟩) hS1 (fun z _ h => hFc z h) hFc (fun as u H2 locs2 hu hvm hw hB hz1 hk1 hS2 => ?_)
  obtain ⟨hPt, hDt⟩ := hB
  rw [hu] at hPt
  obtain ⟨hP3, hD3⟩ := va_join (wr := ws) (w1 := t dA q as) hP1 hD1 [ws.length] (List.range ws.length) hC1 range_map (nd_of _ List.nodup_range) (fun i hi => by
    have := List.mem_range.mp hi
    simp; omega) hk1 hFc hPt hDt
  have hlen : 0 < ws.length := (List.getElem?_eq_some_iff.mp he).1
  have he3 : (ws ++ t dA q as)[0]? = some (h0, .inr (ci, fs)) := by rw [List.getElem?_append_left hlen]; exact he
  by_cases hfin : (T j).2.2.2 = true
  · refine va_putF X.1 X.2.1 X.2.2.2.2.1 hc.2.1 ty0 hc.2.2.1 hc.2.2.2.1 X.2.2.2.1 X.2.2.2.2.2.2.1 hP3 hD3 hS2 0 he3 hc.1 j hj (X.2.2.2.2.1 _ wl) (fun y hy => by rw [hT] at hy; exact hy) hfin X.2.2.2.2.2.2.2.2.2 (by rw [hT, hoC]) (v := .ref q) (hc.2.2.1 j hj) (hnr q) (hft q) hfl d4 (fun H4 locs4 hP4 hD4 hS4 => ?_)
    exact kk q as H4 locs4 la hP4 hD4 hS4 hl
  · refine va_put X.1 X.2.1 X.2.2.2.2.1 hc.2.1 ty0 hc.2.2.1 hc.2.2.2.1 X.2.2.2.1 X.2.2.2.2.2.2.1 hP3 hD3 hS2 0 he3 hc.1 j hj (X.2.2.2.2.1 _ wl) (fun y hy => by rw [hT] at hy; exact hy) (by simpa using hfin) (v := .ref q) (hc.2.2.1 j hj) (hnr q) (hft q) hfl d4 (fun H4 locs4 hP4 hD4 hS4 => ?_)
    exact kk q as H4 locs4 la hP4 hD4 hS4 hl
end Ctor
theorem ctor_of {μ : MI} {ci d mc ms : Nat} {fs0 : List Value} {t : TWc} (hpl : plainName μ.1.cls = true) (hown : μ.1.cls = μ.2.2.2.2) (hm1 : μ.2.2.1 = 1) (hret : μ.2.2.2.1 = none) (hnm : μ.1.name = "<init>")
    (hb : ∀ (p : Program) (l : Launch) (e : Env) (R : Room) (s : State) (mid : MethodId) (args : Array Value) (below : List Frame) (meth : Method) (c : Code) (dC : Nat → ClassId) (dI : Nat → Nat → Nat) (dA : Nat → ClassId) (A : Nat → Prop) (Qf : State → Prop) (h0 : Nat), CXI μ d mc ms p R s mid args meth c dC dI dA A →
      (∀ (pc : Nat) (as : Nat → Nat), decode μ.2.1 pc = .ok (.return_, 1) → CW p l e R s mid args below meth c dC dI A Qf h0 mc ms pc (t dA h0 as)) → CW p l e R s mid args below meth c dC dI A Qf h0 0 0 0 [(h0, .inr (ci, fs0))]) : CTok μ ci fs0 t d mc ms := by
  intro l dC dI dA h0 sz
  refine Met.ofW (cc := μ.2.1) (maxL := μ.2.2.1) (ret := μ.2.2.2.1) hpl rfl ?_
  intro p e s mid args below meth c s₁ B hml hv
  obtain ⟨rfl, hsz, hP, hK, hD0, hN⟩ := hv
  have hts := atoms_spec (ws := wsK μ) B.pre
  have hown' : s.vm.findClass μ.2.2.2.2 = some mid.cls := by rw [← hown]; exact findClass_of_methodNamed B.named
  have hlocks := B.notSynchronized
  have hin : meth.name = "<init>" := (name_of_methodNamed B.named B.method).1.trans hnm
  subst hsz
  have hD := hD0.self (sz := s.heap.size)
  have hle := lv_entry [Value.ref h0] (n := 1) (Nat.le_of_ble_eq_true rfl)
  rw [lg_entry_eq, hm1]
  refine hb p l e _ s mid _ below meth c dC dI dA (va_A [(h0, .inr (ci, fs0))] s.heap.size) _ h0 ⟨B.exec, B.bytes, hml.trans hm1, hown', fun w hw => hts w (List.mem_cons_of_mem _ hw), hN, hK, fun q h => Or.inr h, ⟨Nat.le_refl _, Nat.le_refl _, Nat.le_refl _, Nat.le_refl _⟩, hin⟩ (fun pc as hd => ?_) s.heap [] _ hP hD va_S.rf hle
  intro H locs la hP9 hD9 hS hl
  exact W.vret B.exec B.bytes (B.returns.trans hret) (fun u hu hW => ⟨⟨as, rfl, trivial, by rw [hu]; exact hP9, hD9⟩, hS.F hu⟩) hS.2.2 hd hlocks
