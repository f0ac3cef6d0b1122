/-! from the entry to the loop -/
theorem pushed {ws l : va_W} {x : Nat × va_E} : [ws.length].map (fun i => (ws ++ [x])[i]?) = [x].map some := by simp
theorem ls_ok {ad : Nat → Nat} {b q0 q1 q2 : Nat} {la : Array Slot} (e0 : ad 6 = q0) (e1 : ad 1175 = q1) (e2 : ad 5737 = q2) (hl : lv_has la 7 [(4, .int 0), (3, .ref q2), (2, .ref q1), (1, .ref q0), (0, .ref b)]) : LsOk ad b 7 [.retAddr 0, .ref 6, .ref 1175, .ref 5737, .int 0, .null, .null] la := by
  refine ⟨hl.1, hl.2.1, fun j hj => ?_⟩
  subst e0 e1 e2
  match j, hj with
  | 0, _ => exact lv_at hl 4 rfl
  | 1, _ => exact lv_at hl 3 rfl
  | 2, _ => exact lv_at hl 2 rfl
  | 3, _ => exact lv_at hl 1 rfl
  | 4, _ => exact lv_at hl 0 rfl
  | 5, hj => exact absurd rfl hj
  | 6, hj => exact absurd rfl hj
  | j + 7, hj => exact absurd (by cases j <;> rfl) hj
theorem vld0 : ∀ j, vld (gl j [Value.retAddr 0, .ref 6, .ref 1175, .ref 5737, .int 0, .null, .null]) := by
  intro j
  refine gl_vld _ _ (fun v hv => ?_)
  simp only [List.mem_cons, List.not_mem_nil, or_false] at hv
  rcases hv with rfl | rfl | rfl | rfl | rfl | rfl | rfl
  · trivial
  · exact (by decide +kernel : (6 : Nat) ∈ cellsL)
  · exact (by decide +kernel : (1175 : Nat) ∈ cellsL)
  · exact (by decide +kernel : (5737 : Nat) ∈ cellsL)
  · trivial
  · trivial
  · trivial
def df6 : List Value := [.null, .null, .null, .null, .null, .int 0, .int 0, .null, .null, .null, .null]
def df7 : List Value := [.int 0, .null, .int 0, .int 0, .int 0, .int 0, .int 0, .int 0, .null, .null, .null, .null, .null, .null, .null, .null, .null, .null, .null, .null, .null, .null, .null, .null, .null, .int 0, .int 0, .int 0, .int 0, .int 0, .int 0, .int 0, .int 0, .int 0, .int 0, .int 0, .int 0, .int 0, .int 0, .int 0, .int 0, .null, .int 0, .null, .null, .null, .null, .int 0, .int 0, .int 0, .int 0, .null, .null, .null, .null, .null]
theorem ct6 : CTok mX6_init 6 df6 tX6 3 72 4769 := ctX6
theorem ct7 : CTok mX7_init 7 df7 tX7 1 28 10302 := ctX7
set_option maxRecDepth 100000 in
set_option maxHeartbeats 4000000 in
theorem whole_start {p : Program} {e : Env} {s : State} {m : MethodId} {below : List Frame} {meth : Method} {c : Code} (l : Launch) (hflags : l.flags = flags0) {b L : Nat} {xs : Nat → Int32} (hL : L ≤ 4096) (C0 : lw_At p s m meth c b L xs) : W p l e room_1 s m #[Value.ref b] below meth c s.heap [] 0 0 (lw_Z below #[Value.ref b] s) (entryFrame m ([Value.ref b] : List Value).toArray 7) := by
  obtain ⟨hx, hb, hr, hml, hown, hts, hX, hbl, hlocks, hgv⟩ := id C0
  have hG : ∀ w ∈ wsG, w.before #[Value.ref b] s = true := fun w hw => hts w (List.mem_filter.mp hw).1
  have hfl : l.stackTraces = false := by unfold Launch.stackTraces; rw [hflags]; decide +kernel
  have hA : ∀ q : Nat, s.heap.size ≤ q → (fun q : Nat => s.heap.size ≤ q) q := fun _ h => h
  have hbA : ¬ (fun q : Nat => s.heap.size ≤ q) b := Nat.not_le.mpr hbl
  obtain ⟨dC, dI, dA, hK⟩ := k_ok hG
  have hNI := nsI_ok hts
  have hS : va_S (fun q : Nat => s.heap.size ≤ q) s.heap s.heap [] := va_S.rf
  have hP : va_P (dC, dI) classes [] s.heap := fun k q h => by simp at h
  have hD : va_D (fun q : Nat => s.heap.size ≤ q) [] := ⟨fun i j p q h => by simp at h, fun k q h => by simp at h⟩
  have hl := lv_entry ([.ref b]) (n := 7) (Nat.le_of_ble_eq_true rfl)
  rw [lg_entry_eq]
  generalize (lg_sl ([.ref b]) ++ List.replicate (7 - (lg_sl ([.ref b])).length) Slot.unset).toArray = ls at hl ⊢
  have hl : lv_has ls 7 [(0, .ref b)] := hl
  -- the object of the class
  refine va_new (ci := 6) (fs := df6) (C := RX6) (T := TX6) (N := 11) hx hb hG iwX6 tyX6 tyX6_ok hown (hG _ (tw1 20 (w := .classLink "SaleRoundsLaw" 8 RX6) rfl rfl)) (hG _ (tw1 21 (w := .instantiable RX6 11) rfl rfl)) (hG _ (tw1 1 (w := .initialized RX6) rfl rfl)) hK hP hD hS hA rfl (dfl_all (by decide +kernel)) (Nat.le_of_ble_eq_true rfl) (Nat.le_of_ble_eq_true rfl) (show decode code 0 = .ok (.new 8, 3) by decide +kernel) (fun q0 H hP hD hS => ?_)
  refine lv_dup hx hb (show decode code 3 = .ok (.dup, 1) by decide +kernel) rfl ?_
  have hFc := va_free (wc := [(q0, .inr (6, df6))]) hD hS hA [0] rfl
  have hGd : GoodIn wsG (wsK mX6_init) := goodG (fun w hw => (List.mem_cons.mp hw).elim (fun q => q ▸ tw1 24 (w := .code yX6_init cX6_init 1 none) rfl rfl) id)
  refine va_callv (va_runI (As := []) (rest := [.ref q0]) ⟨hx, hb, hml, hown, hG⟩ (ct6 l dC dI dA q0 H.size) (cwI 0 hG hGd rfl rfl rfl (hG _ (tw1 1 (w := .initialized RX6) rfl rfl)) (hG _ (tw1 22 (w := .methodLink "SaleRoundsLaw" 17 yX6_init) rfl rfl)) (hG _ (tw1 23 (w := .instanceMethod yX6_init) rfl rfl)) rfl (by decide +kernel) ⟨Nat.le_of_ble_eq_true rfl, Nat.le_of_ble_eq_true rfl⟩)
    ⟨blindI, fun U hU hW => ⟨rfl, by rw [hU], by rw [hU]; exact hP, va_K.moved hW.alike hK, hD.weaken (fun _ _ _ _ => trivial), fun z hz => va_Nw.warmM hW (hNI z hz)⟩⟩ rfl rfl hl.1 rfl (lv_room (Nat.le_of_ble_eq_true rfl)) (show decode code 4 = .ok (.invokespecial 17, 3) by decide +kernel) ⟨Nat.le_of_ble_eq_true rfl, Nat.le_of_ble_eq_true rfl⟩) hS (fun z _ h => hFc z h) hFc (fun as u H2 locs2 hu hvm hw hB hz1 hk1 hS => ?_)
  obtain ⟨hPt, hDt⟩ := hB
  rw [hu] at hPt
  obtain ⟨hP, hD⟩ := va_join (wr := []) (w1 := tX6 dA q0 as) hP hD [0] [] rfl rfl (by decide) (by decide) hk1 hFc hPt hDt
  generalize H2 = H at hP hS ⊢
  have hP : va_P (dC, dI) classes (tX6 dA q0 as) H := hP
  have hD : va_D (fun q : Nat => s.heap.size ≤ q) (tX6 dA q0 as) := hD
  refine lv_astore_n (k := 1) (lv' := [(1, .ref q0), (0, .ref b)]) hx hb (show decode code 7 = .ok (.astore_n 1, 1) by decide +kernel) rfl hl (by decide) rfl (fun ls hl => ?_)
  -- the reference
  refine va_new (ci := 7) (fs := df7) (C := RX7) (T := TX7) (N := 56) hx hb hG iwX7 tyX7 tyX7_ok hown (hG _ (tw4 185 (w := .classLink "SaleRoundsLaw" 18 RX7) rfl rfl)) (hG _ (tw4 186 (w := .instantiable RX7 56) rfl rfl)) (hG _ (tw1 8 (w := .initialized RX7) rfl rfl)) hK hP hD hS hA rfl (dfl_all (by decide +kernel)) (Nat.le_of_ble_eq_true rfl) (Nat.le_of_ble_eq_true rfl) (show decode code 8 = .ok (.new 18, 3) by decide +kernel) (fun q1 H1 hP1 hD1 hS1 => ?_)
  refine lv_dup hx hb (show decode code 11 = .ok (.dup, 1) by decide +kernel) rfl ?_
  have hC1 : [(tX6 dA q0 as).length].map (fun i => (tX6 dA q0 as ++ [(q1, (.inr (7, df7) : va_E))])[i]?) = [(q1, (.inr (7, df7) : va_E))].map some := by rfl
  have hPc := hP1.sub (ws' := [(q1, .inr (7, df7))]) [(tX6 dA q0 as).length] (by rfl)
  have hDc := hD1.sub (ws' := [(q1, .inr (7, df7))]) [(tX6 dA q0 as).length] (by simp [va_nd]) hC1
  have hFc := va_free (wc := [(q1, .inr (7, df7))]) hD1 hS1 hA [(tX6 dA q0 as).length] hC1
  have hGd : GoodIn wsG (wsK mX7_init) := goodG (fun w hw => (List.mem_cons.mp hw).elim (fun q => q ▸ tw4 189 (w := .code yX7_init cX7_init 1 none) rfl rfl) id)
  refine va_callv (va_runI (As := []) (rest := [.ref q1]) ⟨hx, hb, hml, hown, hG⟩ (ct7 l dC dI dA q1 H1.size) (cwI 0 hG hGd rfl rfl rfl (hG _ (tw1 8 (w := .initialized RX7) rfl rfl)) (hG _ (tw4 187 (w := .methodLink "SaleRoundsLaw" 20 yX7_init) rfl rfl)) (hG _ (tw4 188 (w := .instanceMethod yX7_init) rfl rfl)) rfl (by decide +kernel) ⟨Nat.le_of_ble_eq_true rfl, Nat.le_of_ble_eq_true rfl⟩)
    ⟨blindI, fun U hU hW => ⟨rfl, by rw [hU], by rw [hU]; exact hPc, va_K.moved hW.alike hK, hDc.weaken (fun _ _ _ _ => trivial), fun z hz => va_Nw.warmM hW (hNI z hz)⟩⟩ rfl rfl hl.1 rfl (lv_room (Nat.le_of_ble_eq_true rfl)) (show decode code 12 = .ok (.invokespecial 20, 3) by decide +kernel) ⟨Nat.le_of_ble_eq_true rfl, Nat.le_of_ble_eq_true rfl⟩) hS1 (fun z _ h => hFc z h) hFc (fun bs u H2 locs2 hu hvm hw hB hz1 hk1 hS => ?_)
  obtain ⟨hPt, hDt⟩ := hB
  rw [hu] at hPt
  obtain ⟨hP, hD⟩ := va_join (wr := tX6 dA q0 as) (w1 := tX7 dA q1 bs) hP1 hD1 [(tX6 dA q0 as).length] (List.range (tX6 dA q0 as).length) hC1 range_map (nd_of _ List.nodup_range) (fun i hi => by
    have := List.mem_range.mp hi
    simp; omega) hk1 hFc hPt hDt
  generalize H2 = H at hP hS ⊢
  refine lv_astore_n (k := 2) (lv' := [(2, .ref q1), (1, .ref q0), (0, .ref b)]) hx hb (show decode code 15 = .ok (.astore_n 2, 1) by decide +kernel) rfl hl (by decide) rfl (fun ls hl => ?_)
  -- the law's own row
  refine lv_iconst (v := 1) (n := 1) hx hb (show decode code 16 = .ok (.iconst 1, 1) by decide +kernel) (by decide) ?_
  refine va_newa (atype := .long) (ty := .long) (a0 := (1, .inr (.inl (fun _ => 0)))) (N' := 1) hx hb (hG _ wd215) rfl hK hP hD hS hA (fun _ => rfl) (by decide) (by decide) (by decide) (Nat.le_of_ble_eq_true rfl) (Nat.le_of_ble_eq_true rfl) (show decode code 17 = .ok (.newarray .long, 2) by decide +kernel) (fun q2 cA H1 hK1 hP hD hS => ?_)
  have e1 : s.vm.findClass ("[" ++ (FieldType.long).toString) = some (dA 9) := (hK.2 1 (dA 9, .long) rfl).2
  have e2 : s.vm.findClass ("[" ++ (FieldType.long).toString) = some cA := (hK1.2 4 (cA, .long) rfl).2
  have e3 : cA = dA 9 := Option.some.inj (e2.symm.trans e1)
  subst e3
  refine lv_astore_n (k := 3) (lv' := [(3, .ref q2), (2, .ref q1), (1, .ref q0), (0, .ref b)]) hx hb (show decode code 19 = .ok (.astore_n 3, 1) by decide +kernel) rfl hl (by decide) rfl (fun ls hl => ?_)
  refine lv_iconst (v := 0) (n := 0) hx hb (show decode code 20 = .ok (.iconst 0, 1) by decide +kernel) (by decide) ?_
  refine lv_istore (lv' := [(4, .int 0), (3, .ref q2), (2, .ref q1), (1, .ref q0), (0, .ref b)]) hx hb (show decode code 21 = .ok (.istore 4, 2) by decide +kernel) hl (by decide) rfl (fun ls hl => ?_)
  rw [ws0 dA q0 q1 q2 as bs] at hP hD
  have hE : Rel dC dI dA (ad0 q0 q1 q2 as bs) (fun q : Nat => s.heap.size ≤ q) m0 H1 := ⟨hP, hD, by unfold okB; decide +kernel⟩
  have hLs := ls_ok (ad := ad0 q0 q1 q2 as bs) rfl rfl rfl hl
  have hCx : ∀ C S : Nat, C ≤ 601024 → S ≤ 7293034 → Cx (32, L, xs) mL_law p room_1 s m #[Value.ref b] c dC dI dA (fun q : Nat => s.heap.size ≤ q) C S b := fun C S h1 h2 => ⟨hx, hb, hml, hown, hG, nsL_ok hts, hK, hA, ⟨Nat.le_of_ble_eq_true rfl, Nat.le_of_ble_eq_true rfl, h1, h2⟩, fun _ => ⟨hX, hbl, hbA⟩, st_ok hts hgv⟩
  have hRt : ∀ C S : Nat, C ≤ 601024 → S ≤ 7293034 → Rt mL_law (fun r _ => r = some (.int 1)) p l e room_1 s m #[Value.ref b] below meth c dC dI dA (ad0 q0 q1 q2 as bs) (fun q : Nat => s.heap.size ≤ q) C S (lw_Z below #[Value.ref b] s) := by
    intro C S h1 h2 r m2 H2 locs2 la2 pc2 hp hrd hE2 hS2
    subst hp
    rcases hrd with ⟨v, hv, hd, -⟩ | ⟨v, hv, -⟩ | ⟨hv, -⟩
    · exact va_forget (fun q hq => hS2.2.2 q hq) (W.widen h1 h2 (lw_ret hx hb hr hlocks hd))
    · cases hv
    · cases hv
  exact law_loop hL hCx hRt (look_ok hfl (xcn_ok hts hgv) hCx) 512 _ _ 0 m0 .null .null (Nat.le_of_ble_eq_true rfl) (Nat.le_of_ble_eq_true rfl) (by decide) (by have : (0 : Int32).toInt = 0 := rfl; omega) (by have : (0 : Int32).toInt = 0 := rfl; omega) LI0 H1 _ ls vld0 (fun v h => by cases h) hE hS hLs
