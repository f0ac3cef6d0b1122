/-! fields, arrays, ends, calls -/
def ClsOk (ci : Nat) (C : String) (T : u_T) (N : Nat) (ty0 : Nat → FieldType) : Prop :=
  classes[ci]? = some (C, T, N) ∧ (∀ w ∈ u_ws C T N, w ∈ wsG) ∧ (∀ k, k < N → parseFieldDescriptor (T k).2.2.1 = some (ty0 k)) ∧ (∀ a, a < N → ∀ b, b < N → a ≠ b → (T a).2.1 ≠ (T b).2.1) ∧ (fk ci).length = N ∧ ci < 8
theorem clX0 : ClsOk 0 RX0 TX0 13 tyX0 := ⟨rfl, iwX0, tyX0_ok, nmX0, rfl, by decide⟩
theorem clX1 : ClsOk 1 RX1 TX1 17 tyX1 := ⟨rfl, iwX1, tyX1_ok, nmX1, rfl, by decide⟩
theorem clX2 : ClsOk 2 RX2 TX2 2 tyX2 := ⟨rfl, iwX2, tyX2_ok, nmX2, rfl, by decide⟩
theorem clX3 : ClsOk 3 RX3 TX3 9 tyX3 := ⟨rfl, iwX3, tyX3_ok, nmX3, rfl, by decide⟩
theorem clX4 : ClsOk 4 RX4 TX4 9 tyX4 := ⟨rfl, iwX4, tyX4_ok, nmX4, rfl, by decide⟩
theorem clX5 : ClsOk 5 RX5 TX5 11 tyX5 := ⟨rfl, iwX5, tyX5_ok, nmX5, rfl, by decide⟩
theorem clX6 : ClsOk 6 RX6 TX6 11 tyX6 := ⟨rfl, iwX6, tyX6_ok, nmX6, rfl, by decide⟩
theorem clX7 : ClsOk 7 RX7 TX7 56 tyX7 := ⟨rfl, iwX7, tyX7_ok, nmX7, rfl, by decide⟩
theorem cellE_obj {ad : Nat → Nat} {dA : Nat → ClassId} {m : MM} {a ci : Nat} (h : a % 16 = ci) (hc : ci < 8) : cellE ad dA m a = .inr (ci, mapF ad m a 0 (fk ci)) := by
  unfold cellE
  rw [h, if_pos hc]
theorem cellE_int {ad : Nat → Nat} {dA : Nat → ClassId} {m : MM} {a k : Nat} (h : a % 16 = k) (hc : k = 8 ∨ k = 10 ∨ k = 11) : cellE ad dA m a = .inl (dA k, a / 4096, .inl (fun i => gI m a i)) := by
  unfold cellE
  rw [h, if_neg (by omega), if_neg (by omega)]
theorem cellE_long {ad : Nat → Nat} {dA : Nat → ClassId} {m : MM} {a : Nat} (h : a % 16 = 9) : cellE ad dA m a = .inl (dA 9, a / 4096, .inr (.inl (fun i => gJ m a i))) := by
  unfold cellE
  rw [h, if_neg (by omega), if_pos rfl]
theorem mapF_ext {ad : Nat → Nat} {m m' : MM} {a : Nat} : ∀ (l : List Nat) (k : Nat), (∀ j kd, l[j]? = some kd → fieldV ad m' a (k + j) kd = fieldV ad m a (k + j) kd) → mapF ad m' a k l = mapF ad m a k l
  | [], _, _ => rfl
  | kd :: r, k, h => by
    show fieldV ad m' a k kd :: mapF ad m' a (k + 1) r = fieldV ad m a k kd :: mapF ad m a (k + 1) r
    have e1 : fieldV ad m' a k kd = fieldV ad m a k kd := h 0 kd rfl
    have e2 : mapF ad m' a (k + 1) r = mapF ad m a (k + 1) r := mapF_ext r (k + 1) (fun j kd' hj => by
      have h3 := h (j + 1) kd' hj
      rw [show k + (j + 1) = k + 1 + j by omega] at h3
      exact h3)
    rw [e1, e2]
theorem fieldV_other {ad : Nat → Nat} {m : MM} {a b i k kd : Nat} {v : Int32} (h : b ≠ a ∨ k ≠ i) : fieldV ad (sI m a i v) b k kd = fieldV ad m b k kd := by
  have e : gI (sI m a i v) b k = gI m b k := by
    unfold gI sI
    rcases h with h | h
    · simp [h]
    · by_cases hb : b = a
      · simp [hb, h]
      · simp [hb]
  have e2 : rf (sI m a i v) b k kd = rf m b k kd := rfl
  unfold fieldV
  rw [e, e2]
theorem cellE_sI_other {ad : Nat → Nat} {dA : Nat → ClassId} {m : MM} {a i : Nat} {v : Int32} {b : Nat} (h : b ≠ a) : cellE ad dA (sI m a i v) b = cellE ad dA m b := by
  have e1 : mapF ad (sI m a i v) b 0 (fk (b % 16)) = mapF ad m b 0 (fk (b % 16)) := mapF_ext _ _ (fun j kd _ => fieldV_other (Or.inl h))
  have e2 : (fun j => gJ (sI m a i v) b j) = fun j => gJ m b j := rfl
  have e3 : (fun j => gI (sI m a i v) b j) = fun j => gI m b j := by
    funext j
    unfold gI sI
    simp [h]
  unfold cellE
  rw [e1, e2, e3]
theorem cellE_sJ_other {ad : Nat → Nat} {dA : Nat → ClassId} {m : MM} {a i : Nat} {v : Int64} {b : Nat} (h : b ≠ a) : cellE ad dA (sJ m a i v) b = cellE ad dA m b := by
  have e1 : mapF ad (sJ m a i v) b 0 (fk (b % 16)) = mapF ad m b 0 (fk (b % 16)) := mapF_ext _ _ (fun j kd _ => rfl)
  have e2 : (fun j => gJ (sJ m a i v) b j) = fun j => gJ m b j := by
    funext j
    unfold gJ sJ
    simp [h]
  have e3 : (fun j => gI (sJ m a i v) b j) = fun j => gI m b j := rfl
  unfold cellE
  rw [e1, e2, e3]
theorem mapF_set {ad : Nat → Nat} {m m' : MM} {a k : Nat} {l : List Nat} {v : Value} (hk : ∃ kd, l[k]? = some kd ∧ fieldV ad m' a k kd = v) (ho : ∀ j kd, j ≠ k → l[j]? = some kd → fieldV ad m' a j kd = fieldV ad m a j kd) : (mapF ad m a 0 l).set k v = mapF ad m' a 0 l := by
  obtain ⟨kd, hk1, hk2⟩ := hk
  apply List.ext_getElem?
  intro j
  by_cases hj : j = k
  · subst hj
    rw [List.getElem?_set_self (by rw [mapF_len]; exact (List.getElem?_eq_some_iff.mp hk1).1), mapF_get, hk1]
    simp [hk2]
  · rw [List.getElem?_set_ne (Ne.symm hj), mapF_get, mapF_get]
    cases hc : l[j]? with
    | none => rfl
    | some kd' => simp [ho j kd' hj hc]
section OpsC
variable {μ : MI} {pc : Nat}
/-- an int field (also a boolean one) -/
def oGetI (ci k : Nat) : OP := fun _ _ nx _ ls st m => match st with
  | .ref a :: r => match Nat.beq (a % 16) ci with
    | true => nx ls (.int (gI m a k) :: r) m
    | false => False
  | _ => False
theorem okGetI {ci k N x : Nat} {C : String} {T : u_T} {ty0 : Nat → FieldType} (hc : ClsOk ci C T N ty0) (hd : decode μ.2.1 pc = .ok (.getfield x, 3)) (hk : k < N) (hT : (T k).1 = C) (hw : Cond.fieldLink μ.2.2.2.2 x C (T k).2.1 (T k).2.2.1 ∈ wsG) (hkd : (fk ci)[k]? = some 0 ∨ (fk ci)[k]? = some 4) : OpOk μ 3 pc (oGetI ci k) := by
  intro E P p l e R s mid args below meth c dC dI dA ad b A C0 S0 Qf hC hR nx jp ls st m hn hj h H locs la hl hs hE hS hL
  unfold oGetI at h
  split at h
  · rename_i a r
    split at h
    · rename_i hb
      have ha : a % 16 = ci := Nat.eq_of_beq_eq_true hb
      have hin : a ∈ cellsL := (List.forall_mem_cons.mp hs).1
      obtain ⟨q0, hq1, hq2⟩ := wsM_at (ad := ad) (dA := dA) hin m
      rw [cellE_obj ha hc.2.2.2.2.2] at hq2
      have hv : (mapF ad m a 0 (fk ci))[k]? = some (.int (gI m a k)) := by
        rw [mapF_get, Nat.zero_add]
        rcases hkd with q | q <;> rw [q] <;> rfl
      exact va_get hC.1 hC.2.1 hC.2.2.2.2.1 hc.2.1 hC.2.2.2.1 hC.2.2.2.2.2.2.1 hE.1 q0 hq2 hc.1 k hk (hC.2.2.2.2.1 _ hw) (fun y hy => by rw [hT] at hy; exact hy) hv hd (hn _ _ _ h H locs la hl (List.forall_mem_cons.mpr ⟨trivial, (List.forall_mem_cons.mp hs).2⟩) hE hS hL)
    · exact h.elim
  · exact h.elim
def fnd (a : Nat) : List (Nat × Nat) → Option Nat
  | [] => none
  | (b, t) :: r => match Nat.beq b a with
    | true => some t
    | false => fnd a r
theorem fnd_mem {a t : Nat} : ∀ {l : List (Nat × Nat)}, fnd a l = some t → (a, t) ∈ l
  | [], h => by cases h
  | (b, t') :: r, h => by
    unfold fnd at h
    split at h
    · rename_i hb
      cases h
      rw [Nat.eq_of_beq_eq_true hb]
      exact List.mem_cons_self
    · exact List.mem_cons_of_mem _ (fnd_mem h)
/-- a final reference: by the table of its holders -/
def oGetR (tab : List (Nat × Nat)) : OP := fun _ _ nx _ ls st m => match st with
  | .ref a :: r => match fnd a tab with
    | some t => nx ls (.ref t :: r) m
    | none => False
  | _ => False
theorem okGetR {ci k N x : Nat} {C : String} {T : u_T} {ty0 : Nat → FieldType} {tab : List (Nat × Nat)} (hc : ClsOk ci C T N ty0) (hd : decode μ.2.1 pc = .ok (.getfield x, 3)) (hk : k < N) (hT : (T k).1 = C) (hw : Cond.fieldLink μ.2.2.2.2 x C (T k).2.1 (T k).2.2.1 ∈ wsG) (hkd : (fk ci)[k]? = some 1)
    (ht : ∀ q ∈ tab, q.1 % 16 = ci ∧ rfT q.1 k = q.2 ∧ q.2 ∈ cellsL) : OpOk μ 3 pc (oGetR tab) := by
  intro E P p l e R s mid args below meth c dC dI dA ad b A C0 S0 Qf hC hR nx jp ls st m hn hj h H locs la hl hs hE hS hL
  unfold oGetR at h
  split at h
  · rename_i a r
    split at h
    · rename_i t hf
      obtain ⟨ha, hr, htc⟩ : a % 16 = ci ∧ rfT a k = t ∧ t ∈ cellsL := ht (a, t) (fnd_mem hf)
      have hin : a ∈ cellsL := (List.forall_mem_cons.mp hs).1
      obtain ⟨q0, hq1, hq2⟩ := wsM_at (ad := ad) (dA := dA) hin m
      rw [cellE_obj ha hc.2.2.2.2.2] at hq2
      have hv : (mapF ad m a 0 (fk ci))[k]? = some (.ref (ad t)) := by
        rw [mapF_get, Nat.zero_add, hkd, ← hr]
        rfl
      exact va_get hC.1 hC.2.1 hC.2.2.2.2.1 hc.2.1 hC.2.2.2.1 hC.2.2.2.2.2.2.1 hE.1 q0 hq2 hc.1 k hk (hC.2.2.2.2.1 _ hw) (fun y hy => by rw [hT] at hy; exact hy) hv hd (hn _ _ _ h H locs la hl (List.forall_mem_cons.mpr ⟨htc, (List.forall_mem_cons.mp hs).2⟩) hE hS hL)
    · exact h.elim
  · exact h.elim
def oGetNw : OP := fun _ _ nx _ ls st m => match st with
  | .ref a :: r => match Nat.beq (a % 16) 6 with
    | true => nx ls (.ref m.2.2.1 :: r) m
    | false => False
  | _ => False
def oGetSp : OP := fun _ _ nx _ ls st m => match st with
  | .ref a :: r => match Nat.beq (a % 16) 6 with
    | true => nx ls (.ref m.2.2.2 :: r) m
    | false => False
  | _ => False
theorem okGetNw {x : Nat} (hd : decode μ.2.1 pc = .ok (.getfield x, 3)) (hw : Cond.fieldLink μ.2.2.2.2 x RX6 (TX6 3).2.1 (TX6 3).2.2.1 ∈ wsG) : OpOk μ 3 pc oGetNw := by
  intro E P p l e R s mid args below meth c dC dI dA ad b A C0 S0 Qf hC hR nx jp ls st m hn hj h H locs la hl hs hE hS hL
  unfold oGetNw at h
  split at h
  · rename_i a r
    split at h
    · rename_i hb
      have ha : a % 16 = 6 := Nat.eq_of_beq_eq_true hb
      have hin : a ∈ cellsL := (List.forall_mem_cons.mp hs).1
      obtain ⟨q0, hq1, hq2⟩ := wsM_at (ad := ad) (dA := dA) hin m
      rw [cellE_obj ha (by decide)] at hq2
      exact va_get hC.1 hC.2.1 hC.2.2.2.2.1 clX6.2.1 hC.2.2.2.1 hC.2.2.2.2.2.2.1 hE.1 q0 hq2 clX6.1 3 (by decide) (hC.2.2.2.2.1 _ hw) (fun y hy => hy) (v := .ref (ad m.2.2.1)) rfl hd (hn _ _ _ h H locs la hl (List.forall_mem_cons.mpr ⟨hE.2.2.1, (List.forall_mem_cons.mp hs).2⟩) hE hS hL)
    · exact h.elim
  · exact h.elim
theorem okGetSp {x : Nat} (hd : decode μ.2.1 pc = .ok (.getfield x, 3)) (hw : Cond.fieldLink μ.2.2.2.2 x RX6 (TX6 4).2.1 (TX6 4).2.2.1 ∈ wsG) : OpOk μ 3 pc oGetSp := by
  intro E P p l e R s mid args below meth c dC dI dA ad b A C0 S0 Qf hC hR nx jp ls st m hn hj h H locs la hl hs hE hS hL
  unfold oGetSp at h
  split at h
  · rename_i a r
    split at h
    · rename_i hb
      have ha : a % 16 = 6 := Nat.eq_of_beq_eq_true hb
      have hin : a ∈ cellsL := (List.forall_mem_cons.mp hs).1
      obtain ⟨q0, hq1, hq2⟩ := wsM_at (ad := ad) (dA := dA) hin m
      rw [cellE_obj ha (by decide)] at hq2
      exact va_get hC.1 hC.2.1 hC.2.2.2.2.1 clX6.2.1 hC.2.2.2.1 hC.2.2.2.2.2.2.1 hE.1 q0 hq2 clX6.1 4 (by decide) (hC.2.2.2.2.1 _ hw) (fun y hy => hy) (v := .ref (ad m.2.2.2)) rfl hd (hn _ _ _ h H locs la hl (List.forall_mem_cons.mpr ⟨hE.2.2.2, (List.forall_mem_cons.mp hs).2⟩) hE hS hL)
    · exact h.elim
  · exact h.elim
def oPutI (ci k : Nat) : OP := fun _ _ nx _ ls st m => match st with
  | .int v :: .ref a :: r => match Nat.beq (a % 16) ci with
    | true => nx ls r (sI m a k v)
    | false => False
  | _ => False
theorem okPutI {ci k N x : Nat} {C : String} {T : u_T} {ty0 : Nat → FieldType} (hc : ClsOk ci C T N ty0) (hd : decode μ.2.1 pc = .ok (.putfield x, 3)) (hk : k < N) (hT : (T k).1 = C) (hw : Cond.fieldLink μ.2.2.2.2 x C (T k).2.1 (T k).2.2.1 ∈ wsG) (hkd : (fk ci)[k]? = some 0) (hfin : (T k).2.2.2 = false) (hdt : parseFieldDescriptor (T k).2.2.1 = some .int) : OpOk μ 3 pc (oPutI ci k) := by
  intro E P p l e R s mid args below meth c dC dI dA ad b A C0 S0 Qf hC hR nx jp ls st m hn hj h H locs la hl hs hE hS hL
  unfold oPutI at h
  split at h
  · rename_i v a r
    split at h
    · rename_i hb
      have ha : a % 16 = ci := Nat.eq_of_beq_eq_true hb
      have hs2 := (List.forall_mem_cons.mp hs).2
      have hin : a ∈ cellsL := (List.forall_mem_cons.mp hs2).1
      obtain ⟨q0, hq1, hq2⟩ := wsM_at (ad := ad) (dA := dA) hin m
      rw [cellE_obj ha hc.2.2.2.2.2] at hq2
      have hset : (wsM ad dA m).set q0 (ad a, .inr (ci, (mapF ad m a 0 (fk ci)).set k (.int v))) = wsM ad dA (sI m a k v) :=
        wsM_set hq1 (fun b _ hb => cellE_sI_other hb) (by
          rw [cellE_obj ha hc.2.2.2.2.2, mapF_set (m' := sI m a k v) ⟨0, hkd, by simp [fieldV, gI, sI]⟩ (fun j kd hj _ => fieldV_other (Or.inr hj))])
      refine va_put hC.1 hC.2.1 hC.2.2.2.2.1 hc.2.1 ty0 hc.2.2.1 hc.2.2.2.1 hC.2.2.2.1 hC.2.2.2.2.2.2.1 hE.1 hE.2.1 hS q0 hq2 hc.1 k hk (hC.2.2.2.2.1 _ hw) (fun y hy => by rw [hT] at hy; exact hy) hfin (v := .int v) hdt rfl rfl (by rw [mapF_len, hc.2.2.2.2.1]; exact hk) hd (fun H1 locs1 hP1 hD1 hS1 => ?_)
      rw [hset] at hP1 hD1
      exact hn _ _ _ h H1 locs1 la hl (List.forall_mem_cons.mp hs2).2 ⟨hP1, hD1, hE.2.2⟩ hS1 hL
    · exact h.elim
  · exact h.elim
def oPutZ (ci k : Nat) : OP := fun _ _ nx _ ls st m => match st with
  | .int v :: .ref a :: r => match Nat.beq (a % 16) ci with
    | true => (v = 0 ∨ v = 1) ∧ nx ls r (sI m a k v)
    | false => False
  | _ => False
theorem okPutZ {ci k N x : Nat} {C : String} {T : u_T} {ty0 : Nat → FieldType} (hc : ClsOk ci C T N ty0) (hd : decode μ.2.1 pc = .ok (.putfield x, 3)) (hk : k < N) (hT : (T k).1 = C) (hw : Cond.fieldLink μ.2.2.2.2 x C (T k).2.1 (T k).2.2.1 ∈ wsG) (hkd : (fk ci)[k]? = some 4) (hfin : (T k).2.2.2 = false) (hdt : parseFieldDescriptor (T k).2.2.1 = some .boolean) : OpOk μ 3 pc (oPutZ ci k) := by
  intro E P p l e R s mid args below meth c dC dI dA ad b A C0 S0 Qf hC hR nx jp ls st m hn hj h H locs la hl hs hE hS hL
  unfold oPutZ at h
  split at h
  · rename_i v a r
    split at h
    · rename_i hb
      have ha : a % 16 = ci := Nat.eq_of_beq_eq_true hb
      have hs2 := (List.forall_mem_cons.mp hs).2
      have hin : a ∈ cellsL := (List.forall_mem_cons.mp hs2).1
      obtain ⟨q0, hq1, hq2⟩ := wsM_at (ad := ad) (dA := dA) hin m
      rw [cellE_obj ha hc.2.2.2.2.2] at hq2
      have hset : (wsM ad dA m).set q0 (ad a, .inr (ci, (mapF ad m a 0 (fk ci)).set k (.int v))) = wsM ad dA (sI m a k v) :=
        wsM_set hq1 (fun b _ hb => cellE_sI_other hb) (by
          rw [cellE_obj ha hc.2.2.2.2.2, mapF_set (m' := sI m a k v) ⟨4, hkd, by simp [fieldV, gI, sI]⟩ (fun j kd hj _ => fieldV_other (Or.inr hj))])
      refine va_put hC.1 hC.2.1 hC.2.2.2.2.1 hc.2.1 ty0 hc.2.2.1 hc.2.2.2.1 hC.2.2.2.1 hC.2.2.2.2.2.2.1 hE.1 hE.2.1 hS q0 hq2 hc.1 k hk (hC.2.2.2.2.1 _ hw) (fun y hy => by rw [hT] at hy; exact hy) hfin (v := .int v) hdt (by rcases h.1 with q | q <;> rw [q] <;> rfl) (by rcases h.1 with q | q <;> rw [q] <;> rfl) (by rw [mapF_len, hc.2.2.2.2.1]; exact hk) hd (fun H1 locs1 hP1 hD1 hS1 => ?_)
      rw [hset] at hP1 hD1
      exact hn _ _ _ h.2 H1 locs1 la hl (List.forall_mem_cons.mp hs2).2 ⟨hP1, hD1, hE.2.2⟩ hS1 hL
    · exact h.elim
  · exact h.elim
def oPutNw : OP := fun _ _ nx _ ls st m => match st with
  | .ref v :: .ref a :: r => match Nat.beq (a % 16) 6 with
    | true => nx ls r (sNw m v)
    | false => False
  | _ => False
def oPutSp : OP := fun _ _ nx _ ls st m => match st with
  | .ref v :: .ref a :: r => match Nat.beq (a % 16) 6 with
    | true => nx ls r (sSp m v)
    | false => False
  | _ => False
theorem cells_one6 : ∀ a ∈ cellsL, a % 16 = 6 → a = kS := by decide +kernel
theorem cellE_nB_other {ad : Nat → Nat} {dA : Nat → ClassId} {m m' : MM} (h1 : m'.1 = m.1) (h2 : m'.2.1 = m.2.1) {b : Nat} (h : b % 16 ≠ 6) : cellE ad dA m' b = cellE ad dA m b := by
  have e2 : (fun j => gJ m' b j) = fun j => gJ m b j := by funext j; unfold gJ; rw [h2]
  have e3 : (fun j => gI m' b j) = fun j => gI m b j := by funext j; unfold gI; rw [h1]
  have e1 : mapF ad m' b 0 (fk (b % 16)) = mapF ad m b 0 (fk (b % 16)) := by
    refine mapF_ext _ _ (fun j kd hj => ?_)
    have hk : kd ≠ 2 ∧ kd ≠ 3 := by
      have hz : ∀ c, c < 16 → c ≠ 6 → ∀ x ∈ fk c, x ≠ 2 ∧ x ≠ 3 := by decide +kernel
      exact hz (b % 16) (Nat.mod_lt _ (by decide)) h kd (List.mem_of_getElem? hj)
    have f1 : gI m' b (0 + j) = gI m b (0 + j) := congrFun e3 (0 + j)
    have f2 : rf m' b (0 + j) kd = rf m b (0 + j) kd := by
      unfold rf
      split
      · exact absurd rfl hk.1
      · exact absurd rfl hk.2
      · rfl
    unfold fieldV
    rw [f1, f2]
  unfold cellE
  rw [e1, e2, e3]
theorem okPutNw {x : Nat} (hd : decode μ.2.1 pc = .ok (.putfield x, 3)) (hw : Cond.fieldLink μ.2.2.2.2 x RX6 (TX6 3).2.1 (TX6 3).2.2.1 ∈ wsG) : OpOk μ 3 pc oPutNw := by
  intro E P p l e R s mid args below meth c dC dI dA ad b A C0 S0 Qf hC hR nx jp ls st m hn hj h H locs la hl hs hE hS hL
  unfold oPutNw at h
  split at h
  · rename_i v a r
    split at h
    · rename_i hb
      have ha : a % 16 = 6 := Nat.eq_of_beq_eq_true hb
      have hs2 := (List.forall_mem_cons.mp hs).2
      have hin : a ∈ cellsL := (List.forall_mem_cons.mp hs2).1
      obtain ⟨q0, hq1, hq2⟩ := wsM_at (ad := ad) (dA := dA) hin m
      rw [cellE_obj ha (by decide)] at hq2
      have hset : (wsM ad dA m).set q0 (ad a, .inr (6, (mapF ad m a 0 (fk 6)).set 3 (.ref (ad v)))) = wsM ad dA (sNw m v) :=
        wsM_set hq1 (fun b hbc hb => cellE_nB_other (m := m) (m' := sNw m v) rfl rfl (fun q => hb ((cells_one6 b hbc q).trans (cells_one6 a hin ha).symm))) (by
          rw [cellE_obj ha (by decide)]; rfl)
      refine va_put hC.1 hC.2.1 hC.2.2.2.2.1 clX6.2.1 tyX6 tyX6_ok nmX6 hC.2.2.2.1 hC.2.2.2.2.2.2.1 hE.1 hE.2.1 hS q0 hq2 clX6.1 3 (by decide) (hC.2.2.2.2.1 _ hw) (fun y hy => hy) rfl (v := .ref (ad v)) (tyX6_ok 3 (by decide)) rfl rfl (by rw [mapF_len]; decide) hd (fun H1 locs1 hP1 hD1 hS1 => ?_)
      rw [hset] at hP1 hD1
      exact hn _ _ _ h H1 locs1 la hl (List.forall_mem_cons.mp hs2).2 ⟨hP1, hD1, (List.forall_mem_cons.mp hs).1, hE.2.2.2⟩ hS1 hL
    · exact h.elim
  · exact h.elim
theorem okPutSp {x : Nat} (hd : decode μ.2.1 pc = .ok (.putfield x, 3)) (hw : Cond.fieldLink μ.2.2.2.2 x RX6 (TX6 4).2.1 (TX6 4).2.2.1 ∈ wsG) : OpOk μ 3 pc oPutSp := by
  intro E P p l e R s mid args below meth c dC dI dA ad b A C0 S0 Qf hC hR nx jp ls st m hn hj h H locs la hl hs hE hS hL
  unfold oPutSp at h
  split at h
  · rename_i v a r
    split at h
    · rename_i hb
      have ha : a % 16 = 6 := Nat.eq_of_beq_eq_true hb
      have hs2 := (List.forall_mem_cons.mp hs).2
      have hin : a ∈ cellsL := (List.forall_mem_cons.mp hs2).1
      obtain ⟨q0, hq1, hq2⟩ := wsM_at (ad := ad) (dA := dA) hin m
      rw [cellE_obj ha (by decide)] at hq2
      have hset : (wsM ad dA m).set q0 (ad a, .inr (6, (mapF ad m a 0 (fk 6)).set 4 (.ref (ad v)))) = wsM ad dA (sSp m v) :=
        wsM_set hq1 (fun b hbc hb => cellE_nB_other (m := m) (m' := sSp m v) rfl rfl (fun q => hb ((cells_one6 b hbc q).trans (cells_one6 a hin ha).symm))) (by
          rw [cellE_obj ha (by decide)]; rfl)
      refine va_put hC.1 hC.2.1 hC.2.2.2.2.1 clX6.2.1 tyX6 tyX6_ok nmX6 hC.2.2.2.1 hC.2.2.2.2.2.2.1 hE.1 hE.2.1 hS q0 hq2 clX6.1 4 (by decide) (hC.2.2.2.2.1 _ hw) (fun y hy => hy) rfl (v := .ref (ad v)) (tyX6_ok 4 (by decide)) rfl rfl (by rw [mapF_len]; decide) hd (fun H1 locs1 hP1 hD1 hS1 => ?_)
      rw [hset] at hP1 hD1
      exact hn _ _ _ h H1 locs1 la hl (List.forall_mem_cons.mp hs2).2 ⟨hP1, hD1, hE.2.2.1, (List.forall_mem_cons.mp hs).1⟩ hS1 hL
    · exact h.elim
  · exact h.elim
end OpsC
