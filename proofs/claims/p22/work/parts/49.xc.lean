/-! look: the class throws, the law catches -/
def IO_ : String := "java/lang/IndexOutOfBoundsException"
def nmIO : List String := ["java/lang/RuntimeException", "java/lang/Exception"]
def ndL : List Cond := (vx_atS "SaleRounds" 122 IO_ nmIO).filter goodWord
def ndB : List Cond := [.declares (Bundle.initS "java/lang/RuntimeException"), .declares (Bundle.initS "java/lang/Exception"), .declares (Bundle.initS Bundle.tN), .castable IO_ IO_]
set_option maxRecDepth 20000 in
theorem ndL_in : ∀ w ∈ ndL, w ∈ wsG := twL [103, 933, 942, 945, 948, 950, 934, 935, 115, 116, 936, 941, 946, 966, 923, 967, 925, 968, 927, 937, 939, 929, 962, 963, 965, 929, 953, 954, 955, 956, 956, 957, 958, 959, 959, 960, 961, 962, 952, 912, 920, 921, 922, 924, 926, 928, 932, 931, 930] (by decide +kernel) (by decide +kernel)
theorem ndB_in : ∀ w ∈ (vx_atS "SaleRounds" 122 IO_ nmIO).filter (fun w => !goodWord w), w ∈ ndB := by decide +kernel
theorem ndG : ∀ w ∈ Cond.classLink "SaleRounds" 118 IO_ :: Cond.initialized IO_ :: vx_atS "SaleRounds" 122 IO_ nmIO, vx_ot w = true := by decide +kernel
theorem wIO1 : Cond.classLink "SaleRounds" 118 IO_ ∈ wsG := tw4 102 rfl rfl
theorem wIO2 : Cond.initialized IO_ ∈ wsG := tw1 17 rfl rfl
def cdLookA : List CE := (0, 1, some (oAl 0)) :: (1, 3, some oGetNw) :: (4, 3, some (oGetR [(336, 452), (720, 836)])) :: (7, 1, some (oAs 3)) :: (8, 1, some (oAl 3)) :: (9, 1, some (oIl 1)) :: (10, 3, some (oCI 4 mX4_has 2)) :: (13, 3, some (oIfNe 26)) :: (16, 0, none) :: []
set_option maxRecDepth 100000 in
theorem okLookA : CodeOk mX6_look cdLookA := by
  refine ⟨by rfl, ?_⟩
  show CodeAll mX6_look cdLookA
  refine ce_op (okAl1 (k := 0) (by decide +kernel) rfl) ?_
  refine ce_op (okGetNw (x := 35) (by decide +kernel) wd404) ?_
  refine ce_op (okGetR clX0 (k := 3) (x := 109) (by decide +kernel) (by decide) rfl wd351 rfl (by decide +kernel)) ?_
  refine ce_op (okAs1 (k := 3) (by decide +kernel) rfl (by decide)) ?_
  refine ce_op (okAl1 (k := 3) (by decide +kernel) rfl) ?_
  refine ce_op (okIl1 (k := 1) (by decide +kernel) rfl) ?_
  refine ce_op (okCI miX4_has (rV clX4 (x := 113) miX4_has rfl (by decide +kernel) wd702 wd703 wd704)) ?_
  refine ce_op (okIfNe (off := 13) (by decide +kernel) (by decide)) ?_
  refine ce_st ?_
  exact ce_nil
theorem ndB_tab : ∀ w ∈ ndB, w.onTables = true := by decide +kernel
/-- what a throw needs of the state: two statics of Throwable, the text -/
def XcL (A : Nat → Prop) (sa : Nat) (U : State) (H : Heap) : Prop :=
  (vx_Zq Bundle.tN "UNASSIGNED_STACK" Bundle.steD A U H ∧ vx_Zq Bundle.tN "SUPPRESSED_SENTINEL" Bundle.listD A U H) ∧ (∀ w ∈ ndB, va_Nw w U) ∧ vk_R "SaleRounds" 120 "no such sale" sa U
def PcX (dC : Nat → ClassId) (dI : Nat → Nat → Nat) (dA : Nat → ClassId) (ad : Nat → Nat) (as : List Value) (m : MM) (sz sa : Nat) : Array Value → State → Prop :=
  va_Pc (as.map (tv ad 0)) (fun U => U.heap.size = sz ∧ va_P (dC, dI) classes (wsM ad dA m) U.heap ∧ va_K (dC, dI) classes (tysL dA) U ∧ va_D (fun _ => True) (wsM ad dA m) ∧ okB m ∧ (∀ q ∈ nsL, va_Nw (.methodLinkNest q.1 q.2.1 q.2.2.1 q.2.2.2) U) ∧ (∀ v ∈ as, vld v) ∧ XcL (va_A (wsM ad dA m) sz) sa U U.heap)
theorem XcL.to {A A' : Nat → Prop} {sa : Nat} {s U : State} {H H' : Heap} (h : XcL A sa s H) (hk : ∀ q : Nat, q < H.size → ¬ A q → H'[q]? = H[q]?) (hA : ∀ q, A' q → A q) (hW : s.WarmedH U.vm) : XcL A' sa U H' :=
  ⟨⟨vx_Zq.moved hW.alike ((h.1.1.kept hk).narrow hA), vx_Zq.moved hW.alike ((h.1.2.kept hk).narrow hA)⟩, (fun w hw => by
    have q := h.2.1 w hw
    simp only [ndB, List.mem_cons, List.not_mem_nil, or_false] at hw
    rcases hw with rfl | rfl | rfl | rfl
    · exact va_Nw.warmD hW q
    · exact va_Nw.warmD hW q
    · exact va_Nw.warmD hW q
    · exact va_Nw.warmC hW q), vk_R.warm hW h.2.2⟩
theorem blindX {dC : Nat → ClassId} {dI : Nat → Nat → Nat} {dA : Nat → ClassId} {ad : Nat → Nat} {as : List Value} {m : MM} {sz sa : Nat} : FrameBlind (PcX dC dI dA ad as m sz sa) := by
  intro a U g mk h
  obtain ⟨h0, h1, h2, h3, h4, h5, h6, h7, h8⟩ := h
  exact ⟨h0, h1, h2, va_K.moved (u := U) (U := U.calling g mk a) (Vm.Alike.refl U.vm) h3, h4, h5, fun q hq => va_Nw.same rfl (u := U) (U := U.calling g mk a) rfl (h6 q hq), h7,
    ⟨⟨vx_Zq.moved (u := U) (U := U.calling g mk a) (Vm.Alike.refl U.vm) h8.1.1, vx_Zq.moved (u := U) (U := U.calling g mk a) (Vm.Alike.refl U.vm) h8.1.2⟩, (fun w hw => va_Nw.same (ndB_tab w hw) (u := U) (U := U.calling g mk a) rfl (h8.2.1 w hw)), vk_R.same (u := U) (U := U.calling g mk a) rfl h8.2.2⟩⟩
theorem ndB_ok {args : Array Value} {s : State} (hts : ∀ w ∈ lw_tbl, w.before args s = true) : ∀ w ∈ ndB, va_Nw w s := by
  intro w hw
  have ht := ndB_tab w hw
  simp only [ndB, List.mem_cons, List.not_mem_nil, or_false] at hw
  rcases hw with rfl | rfl | rfl | rfl
  · exact va_Nw.of ht (hts _ (List.mem_of_getElem? (i := 915) (by decide +kernel)))
  · exact va_Nw.of ht (hts _ (List.mem_of_getElem? (i := 917) (by decide +kernel)))
  · exact va_Nw.of ht (hts _ (List.mem_of_getElem? (i := 919) (by decide +kernel)))
  · exact va_Nw.of ht (hts _ (List.mem_of_getElem? (i := 913) (by decide +kernel)))
theorem xc_ok {b : Nat} {s : State} (hts : ∀ w ∈ lw_tbl, w.before #[Value.ref b] s = true) (hgv : (Jvm.Cond.and given_1 narrow_1).before #[Value.ref b] s = true) : ∃ sa, XcL (fun q => s.heap.size ≤ q) sa s s.heap := by
  have hs := flat_of_before _ hgv
  have hst : (Cond.stringRef "SaleRounds" 120 "no such sale").before #[Value.ref b] s = true := hts _ (List.mem_of_getElem? (i := 951) (by decide +kernel))
  have hex : (Cond.exactly (Term.string "SaleRounds" 120) "java/lang/String").before #[Value.ref b] s = true := hs _ (by decide +kernel)
  obtain ⟨sa, _, _, _, hev, -⟩ := Cond.exactly_spec hex
  have hA : ∀ a : Nat, a < s.heap.size → ¬ (fun q : Nat => s.heap.size ≤ q) a := fun a h => Nat.not_le.mpr h
  have hini : (Cond.initialized Bundle.tN).before #[Value.ref b] s = true := hts _ (List.mem_of_getElem? (i := 103) (by decide +kernel))
  refine ⟨sa, ⟨vx_Zqof (hts _ (List.mem_of_getElem? (i := 938) (by decide +kernel))) hini (hs _ (by decide +kernel)) hA, vx_Zqof (hts _ (List.mem_of_getElem? (i := 940) (by decide +kernel))) hini (hs _ (by decide +kernel)) hA⟩, ndB_ok hts, vk_R.of hst hev⟩
/-- the model's words stand at the start -/
theorem st_ok {b : Nat} {s : State} (hts : ∀ w ∈ lw_tbl, w.before #[Value.ref b] s = true) (hgv : (Jvm.Cond.and given_1 narrow_1).before #[Value.ref b] s = true) : StE (fun q => s.heap.size ≤ q) s s.heap := by
  have hs := flat_of_before _ hgv
  have hA : ∀ a : Nat, a < s.heap.size → ¬ (fun q : Nat => s.heap.size ≤ q) a := fun a h => Nat.not_le.mpr h
  have one : ∀ i : Nat, i < 1 → i = 0 := fun i h => by omega
  have hel : ∀ j : Nat, j < 44 → (Cond.eq (.elem (.field (.string "SaleRoundsModel" 141) "java/lang/String" "value" "[B") (.int (Int32.ofNat j))) (.int ((bytW.getD 0 []).getD j 0))) ∈ flatC (Jvm.Cond.and given_1 narrow_1) := by decide +kernel
  obtain ⟨adK, adV, h1, h2⟩ := vk_Sof (args := #[Value.ref b]) (s := s) (N := 1) (tm := fun _ => Term.string "SaleRoundsModel" 141) (len := lenW) (byt := bytW) (A := fun q : Nat => s.heap.size ≤ q) (by decide) (fun i hi => hs _ (by decide +kernel)) (fun i hi => hs _ (by decide +kernel)) (fun i hi => hs _ (by decide +kernel)) (fun i hi => by rw [one i hi]; exact hs _ (by decide +kernel)) (fun i hi j hj => by
    rw [one i hi] at hj ⊢
    exact hs _ (hel j hj)) (fun i j hi hj h => absurd ((one i hi).trans (one j hj).symm) h) hA
  refine ⟨(adK, adV), vk_R.of (hts _ (List.mem_append_right _ (List.mem_append_right _ (List.mem_append_right _ (List.mem_append_right _ (List.mem_append_right _ (List.mem_append_left _ (List.mem_of_getElem? (i := 143) rfl)))))))) (h2 0 (by decide)), va_Zof (hts _ (List.mem_append_right _ (List.mem_append_right _ (List.mem_append_right _ (List.mem_append_right _ (List.mem_append_right _ (List.mem_append_left _ (List.mem_of_getElem? (i := 153) rfl)))))))) (hts _ (List.mem_filter.mp (tw1 10 (w := Cond.initialized "java/lang/String") rfl rfl)).1) (va_eqt (hs _ (by decide +kernel))) hA, va_Zqof (hts _ (List.mem_append_right _ (List.mem_append_right _ (List.mem_append_right _ (List.mem_append_right _ (List.mem_append_right _ (List.mem_append_left _ (List.mem_of_getElem? (i := 169) rfl)))))))) (hts _ (List.mem_filter.mp (tw1 12 (w := Cond.initialized "jdk/internal/util/Preconditions") rfl rfl)).1) (hs _ (by decide +kernel)) hA, h1⟩
