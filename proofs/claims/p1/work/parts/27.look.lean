/-! look: the class throws, the law catches -/
def IO_ : String := "java/lang/IndexOutOfBoundsException"
def nmIO : List String := ["java/lang/RuntimeException", "java/lang/Exception"]
def ndL : List Cond := (vx_atS "SaleRounds" 122 IO_ nmIO).filter goodWord
def ndB : List Cond := [.declares (Bundle.initS "java/lang/RuntimeException"), .declares (Bundle.initS "java/lang/Exception"), .declares (Bundle.initS Bundle.tN), .castable IO_ IO_]
set_option maxRecDepth 20000 in
theorem ndL_in : ∀ w ∈ ndL, w ∈ wsG := twL [103, 933, 942, 945, 948, 950, 934, 935, 115, 116, 936, 941, 946, 966, 923, 967, 925, 968, 927, 937, 939, 929, 962, 963, 965, 929, 953, 954, 955, 956, 956, 957, 958, 959, 959, 960, 961, 962, 952, 912, 920, 921, 922, 924, 926, 928, 932, 931, 930] (by decide +kernel) (by decide +kernel)
theorem ndB_in : ∀ w ∈ (vx_atS "SaleRounds" 122 IO_ nmIO).filter (fun w => !goodWord w), w ∈ ndB := by decide +kernel
theorem ndG : ∀ w ∈ Cond.classLink "SaleRounds" 118 IO_ :: Cond.initialized IO_ :: vx_atS "SaleRounds" 122 IO_ nmIO, vx_ot w = true := by decide +kernel
theorem wIO1 : Cond.classLink "SaleRounds" 118 IO_ ∈ wsG := tw4 102 rfl rfl
theorem wIO2 : Cond.initialized IO_ ∈ wsG := tw1 17 rfl rfl
def cdLookA : List CE := (0, 1, some (oAl 0)) :: (1, 3, some oGetNw) :: (4, 3, some (oGetR [(336, 452), (720, 836)])) :: (7, 1, some (oAs 3)) :: (8, 1, some (oAl 3)) :: (9, 1, some (oIl 1)) :: (10, 3, some (oCI 4 mX4_has 2)) :: (13, 3, some (oIfNe 26)) :: (16, 0, none) :: []
set_option maxRecDepth 100000 in
theorem okLookA : CodeOk mX6_look cdLookA := by
  refine ⟨by rfl, ?_⟩
  show CodeAll mX6_look cdLookA
  refine ce_op (okAl1 (k := 0) (by decide +kernel) rfl) ?_
  refine ce_op (okGetNw (x := 35) (by decide +kernel) wd404) ?_
  refine ce_op (okGetR clX0 (k := 3) (x := 109) (by decide +kernel) (by decide) rfl wd351 rfl (by decide +kernel)) ?_
  refine ce_op (okAs1 (k := 3) (by decide +kernel) rfl (by decide)) ?_
  refine ce_op (okAl1 (k := 3) (by decide +kernel) rfl) ?_
  refine ce_op (okIl1 (k := 1) (by decide +kernel) rfl) ?_
  refine ce_op (okCI miX4_has (rV clX4 (x := 113) miX4_has rfl (by decide +kernel) wd702 wd703 wd704)) ?_
  refine ce_op (okIfNe (off := 13) (by decide +kernel) (by decide)) ?_
  refine ce_st ?_
  exact ce_nil
theorem ndB_tab : ∀ w ∈ ndB, w.onTables = true := by decide +kernel
/-- what a throw needs of the state: two statics of Throwable, the text -/
def XcL (A : Nat → Prop) (sa : Nat) (U : State) (H : Heap) : Prop :=
  (vx_Zq Bundle.tN "UNASSIGNED_STACK" Bundle.steD A U H ∧ vx_Zq Bundle.tN "SUPPRESSED_SENTINEL" Bundle.listD A U H) ∧ (∀ w ∈ ndB, va_Nw w U) ∧ vk_R "SaleRounds" 120 "no such sale" sa U
def PcX (dC : Nat → ClassId) (dI : Nat → Nat → Nat) (dA : Nat → ClassId) (ad : Nat → Nat) (as : List Value) (m : MM) (sz sa : Nat) : Array Value → State → Prop :=
  va_Pc (as.map (tv ad 0)) (fun U => U.heap.size = sz ∧ va_P (dC, dI) classes (wsM ad dA m) U.heap ∧ va_K (dC, dI) classes (tysL dA) U ∧ va_D (fun _ => True) (wsM ad dA m) ∧ okB m ∧ (∀ q ∈ nsL, va_Nw (.methodLinkNest q.1 q.2.1 q.2.2.1 q.2.2.2) U) ∧ (∀ v ∈ as, vld v) ∧ XcL (va_A (wsM ad dA m) sz) sa U U.heap)
theorem XcL.to {A A' : Nat → Prop} {sa : Nat} {s U : State} {H H' : Heap} (h : XcL A sa s H) (hk : ∀ q : Nat, q < H.size → ¬ A q → H'[q]? = H[q]?) (hA : ∀ q, A' q → A q) (hW : s.WarmedH U.vm) : XcL A' sa U H' :=
  ⟨⟨vx_Zq.moved hW.alike ((h.1.1.kept hk).narrow hA), vx_Zq.moved hW.alike ((h.1.2.kept hk).narrow hA)⟩, (fun w hw => by
    have q := h.2.1 w hw
    simp only [ndB, List.mem_cons, List.not_mem_nil, or_false] at hw
    rcases hw with rfl | rfl | rfl | rfl
    · exact va_Nw.warmD hW q
    · exact va_Nw.warmD hW q
    · exact va_Nw.warmD hW q
    · exact va_Nw.warmC hW q), vk_R.warm hW h.2.2⟩
theorem blindX {dC : Nat → ClassId} {dI : Nat → Nat → Nat} {dA : Nat → ClassId} {ad : Nat → Nat} {as : List Value} {m : MM} {sz sa : Nat} : FrameBlind (PcX dC dI dA ad as m sz sa) := by
  intro a U g mk h
  obtain ⟨h0, h1, h2, h3, h4, h5, h6, h7, h8⟩ := h
  exact ⟨h0, h1, h2, va_K.moved (u := U) (U := U.calling g mk a) (Vm.Alike.refl U.vm) h3, h4, h5, fun q hq => va_Nw.same rfl (u := U) (U := U.calling g mk a) rfl (h6 q hq), h7,
    ⟨⟨vx_Zq.moved (u := U) (U := U.calling g mk a) (Vm.Alike.refl U.vm) h8.1.1, vx_Zq.moved (u := U) (U := U.calling g mk a) (Vm.Alike.refl U.vm) h8.1.2⟩, (fun w hw => va_Nw.same (ndB_tab w hw) (u := U) (U := U.calling g mk a) rfl (h8.2.1 w hw)), vk_R.same (u := U) (U := U.calling g mk a) rfl h8.2.2⟩⟩
section LookA
variable {l : Launch} {f : Nat → Nat → Int32} {g : Nat → Nat → Int64} {dC : Nat → ClassId} {dI : Nat → Nat → Nat} {dA : Nat → ClassId} {ad : Nat → Nat} {sz sa : Nat}
def QxI (dC : Nat → ClassId) (dI : Nat → Nat → Nat) (dA : Nat → ClassId) (ad : Nat → Nat) (m : MM) (sz : Nat) : String → State → State → Prop := vx_X (fun _ : Unit => True) (fun E _ t => E = IO_ ∧ va_P (dC, dI) classes (wsM ad dA m) t.heap) (va_A (wsM ad dA m) sz)
set_option maxRecDepth 100000 in
set_option maxHeartbeats 4000000 in
theorem vm_look (hl : l.stackTraces = false) (hs : f 452 7 = 0) (x w : Int32) : vx_Met l yX6_look (wsK mX6_look) (rmI 8 1 6) (PcX dC dI dA ad [.ref 6, .int x, .int w] (f, g, (336, 720)) sz sa) (va_Qi (fun (_ : Int32) (_ : Unit) => False) (fun _ _ => True) (va_A (wsM ad dA (f, g, (336, 720))) sz)) (QxI dC dI dA ad (f, g, (336, 720)) sz) 1 6 (va_A (wsM ad dA (f, g, (336, 720))) sz) := by
  refine vx_ofW (cc := cX6_look) (maxL := 4) (ret := some .int) (by decide) rfl ?_
  intro p e s mid args below meth c s₁ B hml htab hv
  obtain ⟨rfl, hsz, hP, hK, hD0, hB, hN, hvl, hX⟩ := hv
  have hts := atoms_spec (ws := wsK mX6_look) B.pre
  have hG := fun w (hw : w ∈ wsG) => hts w (List.mem_cons_of_mem _ hw)
  have hown : s.vm.findClass "SaleRounds" = some mid.cls := findClass_of_methodNamed B.named
  have hlocks := B.notSynchronized
  subst hsz
  have hD := hD0.self (sz := s.heap.size)
  rw [lg_entry_eq]
  have hle := lv_entry ([Value.ref 6, Value.int x, Value.int w].map (tv ad 0)) (n := 4) (Nat.le_of_ble_eq_true rfl)
  have hC : Cx (E0 8) mX6_look p (rmI 8 1 6) s mid ([Value.ref 6, Value.int x, Value.int w].map (tv ad 0)).toArray c dC dI dA (va_A (wsM ad dA (f, g, (336, 720))) s.heap.size) 0 0 0 := ⟨B.exec, B.bytes, hml, hown, hG, hN, hK, fun q h => Or.inr h, ⟨Nat.le_refl _, Nat.le_refl _, Nat.zero_le _, Nat.zero_le _⟩, fun q => absurd q (by decide)⟩
  refine AtC.go (E := E0 8) (P := fun _ _ => False) (K := fun pc ls st m' => pc = 16 ∧ st = [] ∧ m' = (f, g, (336, 720))) (ls := pad 4 (enl [Value.ref 6, Value.int x, Value.int w])) (st := []) (m := (f, g, (336, 720))) okLookA hC (fun r m' H locs la pc hF => hF.elim) ?_ 50 ?_ s.heap [] _ ?_ (fun v h => by cases h) ⟨hP, hD, hB⟩ va_S.rf ⟨hle.1, hle.2.1, fun j hj => ?_⟩
  · rintro pc ls st m' ⟨rfl, rfl, rfl⟩
    intro H locs la hl1 hs1 hE hS hL
    refine vx_throwS (own := "SaleRounds") (cls := IO_) (text := "no such sale") (names := nmIO) (ik := 118) (is := 120) (ic := 122) (A := va_A (wsM ad dA (f, g, (336, 720))) s.heap.size) B.exec B.bytes hl hown (by decide) (by decide) (hG _ wIO1) (hG _ wIO2) hX.2.2 (vx_hat (fun w hw => hG w (ndL_in w hw)) ndB_in (fun w hw => va_Nw.use (ndB_tab w hw) (hX.2.1 w hw))) ndG hX.1.1 hX.1.2 hS (hL.1.trans hml.symm) (by decide +kernel) (by decide +kernel) (by decide +kernel) (by decide +kernel) (by decide +kernel) (fun q hq => (htab q hq).elim) (by decide) (Nat.le_of_ble_eq_true rfl) (by decide) (by decide) hlocks (fun t hvm hz hk => ?_) (fun z hz => hS.2.2 z hz) (by decide) (by decide)
    refine ⟨(), trivial, ⟨rfl, hE.1.kept (fun k q hq => hk q.1 ((hE.1 k q hq).lt))⟩, Nat.le_trans hS.1 hz, fun q h1 h2 => ?_⟩
    rw [hk q (Nat.lt_of_lt_of_le h1 hS.1)]
    exact hS.2.1 q h1 h2
  · conv => whnf
    refine ⟨1, (by decide), _, f_hasS _ hs, ?_⟩
    rintro _ _ ⟨rfl, rfl⟩
    conv => whnf
    refine And.intro (fun q => absurd rfl q) (fun _ => ?_)
    conv => whnf
    exact ⟨rfl, rfl, rfl⟩
  · intro j
    refine gl_vld _ _ (fun v hv => ?_)
    rcases pad_mem _ _ _ hv with q | q
    · rw [q]; trivial
    · rcases enl_mem _ _ q with q | q
      · rw [q]; trivial
      · exact hvl v q
  · have := pad_args ad 0 [Value.ref 6, Value.int x, Value.int w] 4 0 j hj
    rw [Nat.zero_add] at this
    exact hle.2.2 _ this
end LookA
/-! the law's own look: it catches -/
def hhL : List (Nat × Nat × Nat × Nat) := [(0, 10, 13, 13), (0, 10, 17, 15)]
def wsKL : List Cond := Cond.codeWith yL_look cL_look 5 (some .int) hhL :: wsG
theorem wL1 : Cond.codeWith yL_look cL_look 5 (some .int) hhL ∈ wsG := tw4 95 rfl rfl
theorem wL2 : Cond.methodLink "SaleRoundsLaw" 39 yL_look ∈ wsG := tw4 93 rfl rfl
theorem wL3 : Cond.static yL_look ∈ wsG := tw4 94 rfl rfl
theorem wL4 : Cond.classLink "SaleRoundsLaw" 13 IO_ ∈ wsG := tw4 96 rfl rfl
theorem wL5 : Cond.methodLink "SaleRoundsLaw" 7 yX6_look ∈ wsG := tw4 98 rfl rfl
theorem wL6 : Cond.instanceMethod yX6_look ∈ wsG := tw4 99 rfl rfl
theorem wL7 : Cond.selects "SaleRounds" yX6_look yX6_look ∈ wsG := tw4 100 rfl rfl
theorem wL8 : Cond.code yX6_look cX6_look 4 (some .int) ∈ wsG := tw4 101 rfl rfl
section LookB
variable {l : Launch} {f : Nat → Nat → Int32} {g : Nat → Nat → Int64} {dC : Nat → ClassId} {dI : Nat → Nat → Nat} {dA : Nat → ClassId} {ad : Nat → Nat} {sz sa : Nat}
set_option maxRecDepth 100000 in
set_option maxHeartbeats 4000000 in
theorem mt_look (hl : l.stackTraces = false) (hs : f 452 7 = 0) (x w : Int32) : Met l yL_look wsKL (rmI 12 1 6) (PcX dC dI dA ad [.ref 6, .int x, .int w, .ref 5737] (f, g, (336, 720)) sz sa) (va_Qi (fun (r : Int32) (u : MM) => r = 1 ∧ u = (f, g, (336, 720))) (fun u t => va_P (dC, dI) classes (wsM ad dA u) t.heap) (va_A (wsM ad dA (f, g, (336, 720))) sz)) 1 6 (va_A (wsM ad dA (f, g, (336, 720))) sz) := by
  refine va_MetW (cc := cL_look) (maxL := 5) (ret := some .int) (hh := hhL) (by decide) rfl ?_
  intro p e s mid args below meth c s₁ B hml hv
  obtain ⟨rfl, hsz, hP, hK, hD0, hB, hN, hvl, hX⟩ := hv
  have hts := atoms_spec (ws := wsKL) B.pre
  have hG := fun w (hw : w ∈ wsG) => hts w (List.mem_cons_of_mem _ hw)
  have hown : s.vm.findClass "SaleRoundsLaw" = some mid.cls := findClass_of_methodNamed B.named
  have hlocks := B.notSynchronized
  have htab := vx_table (x := yL_look) B (hts _ List.mem_cons_self)
  subst hsz
  have hD := hD0.self (sz := s.heap.size)
  rw [lg_entry_eq]
  have hl0 := lv_entry ([Value.ref 6, Value.int x, Value.int w, Value.ref 5737].map (tv ad 0)) (n := 5) (Nat.le_of_ble_eq_true rfl)
  generalize (lg_sl ([Value.ref 6, Value.int x, Value.int w, Value.ref 5737].map (tv ad 0)) ++ List.replicate (5 - (lg_sl ([Value.ref 6, Value.int x, Value.int w, Value.ref 5737].map (tv ad 0))).length) Slot.unset).toArray = ls at hl0 ⊢
  have hl0 : lv_has ls 5 [(0, .ref (ad 6)), (1, .int x), (2, .int w), (3, .ref (ad 5737))] := hl0
  refine lv_aload_n (k := 3) B.exec B.bytes (by decide +kernel) rfl (lv_at hl0 3 rfl) ?_
  refine lv_iconst (v := 0) B.exec B.bytes (n := 0) (by decide +kernel) (by decide) ?_
  refine lv_aload_n (k := 0) B.exec B.bytes (by decide +kernel) rfl (lv_at hl0 0 rfl) ?_
  refine lv_iload_n (k := 1) B.exec B.bytes (by decide +kernel) rfl (lv_at hl0 1 rfl) ?_
  refine lv_iload_n (k := 2) B.exec B.bytes (by decide +kernel) rfl (lv_at hl0 2 rfl) ?_
  have hin : (6 : Nat) ∈ cellsL := hvl (.ref 6) List.mem_cons_self
  obtain ⟨q0, hq1, hq2⟩ := wsM_at (ad := ad) (dA := dA) hin (f, g, (336, 720))
  rw [cellE_obj (ci := 6) rfl (by decide)] at hq2
  have hGd : GoodIn wsG (wsK mX6_look) := goodG (fun w hw => (List.mem_cons.mp hw).elim (fun q => q ▸ wL8) id)
  refine vx_calli (A0 := va_A (wsM ad dA (f, g, (336, 720))) s.heap.size) (vx_runV (As := [.int x, .int w]) (rest := [.int 0, .ref (ad 5737)]) (b := ad 6) (C := "SaleRounds") (n := 2) (own := "SaleRoundsLaw") (index := 7) (bytes := cX6_look) (maxL := 4) (ret := some .int) (nL := 5) ⟨B.exec, B.bytes, hml, hown, hG⟩ (vm_look (sa := sa) (dC := dC) (dI := dI) (dA := dA) (ad := ad) (sz := s.heap.size) (g := g) hl hs x w) ⟨callB_of 2 hG hGd rfl rfl rfl (hG _ miX6_feed.2.2.2.2.2.2) (hG _ wL5) (by decide +kernel) ⟨by decide, by decide⟩, hG _ wL6, hG _ wL7⟩
    ⟨blindX, va_recv hK hP clX6.1 hq2, fun U hU hW => ⟨rfl, by rw [hU], by rw [hU]; exact hP, va_K.moved hW.alike hK, hD0, hB, fun q hq => va_Nw.warmM hW (hN q hq), fun v hv => hvl v (by simp at hv ⊢; rcases hv with h | h | h <;> simp [h]), by rw [hU]; exact hX.to (fun q _ _ => rfl) (fun q h => h) hW⟩⟩ rfl rfl hl0.1 rfl (Nat.le_of_ble_eq_true rfl) (show decode cL_look 5 = .ok (.invokevirtual 7, 3) by decide +kernel) ⟨by decide, by decide⟩) va_S.rf (fun q _ h => h) (fun q h => h) (fun q _ h => h) ?_ ?_
  · intro E ce q9 u t H1 locs1 ht hvm hpx hBX hz1 hk1 hS1 hce hcv hcl
    obtain ⟨rfl, hP1⟩ := hBX
    refine vx_catch (name := IO_) hown [] _ _ (htab.trans rfl) (fun z hz => by cases hz) rfl (by decide) (hG _ wL4) (va_Nw.use rfl (hX.2.1 _ (by decide))) hce hcv hcl ?_
    refine lv_astore B.exec B.bytes (show decode cL_look 13 = .ok (.astore 4, 2) by decide +kernel) hl0 (by decide) rfl (fun ls1 hl1 => ?_)
    refine lv_iconst (v := 1) B.exec B.bytes (n := 1) (show decode cL_look 15 = .ok (.iconst 1, 1) by decide +kernel) (by decide) ?_
    refine W.iret B.exec B.bytes B.returns (fun t2 ht2 hW2 => ⟨⟨1, _, rfl, ⟨rfl, rfl⟩, by show va_P (dC, dI) classes (wsM ad dA (f, g, (336, 720))) t2.heap; rw [ht2, ← ht]; exact hP1⟩, hS1.F ht2⟩) hS1.2.2 (show decode cL_look 16 = .ok (.ireturn, 1) by decide +kernel) hlocks
  · intro r u t H1 locs1 ht hvm hpost
    exact hpost.elim
end LookB
section LookC
variable {E : EE} {p : Program} {l : Launch} {e : Env} {R : Room} {s : State} {mid : MethodId} {args : Array Value} {below : List Frame} {meth : Method} {c : Code} {dC : Nat → ClassId} {dI : Nat → Nat → Nat} {dA : Nat → ClassId} {ad : Nat → Nat} {b : Nat} {A : Nat → Prop} {C0 S0 : Nat} {Qf : State → Prop} {f : Nat → Nat → Int32} {g : Nat → Nat → Int64} {sa : Nat} {ls : List Value}
theorem law_look (hfl : l.stackTraces = false) (hs : f 452 7 = 0) (hX : XcL A sa s s.heap) (hC : Cx E mL_law p R s mid args c dC dI dA A C0 S0 b) (hE1 : 13 ≤ E.1) (hR1 : C0 + 1 ≤ R.cells) (hR2 : S0 + 6 ≤ R.slots) (x w : Int32)
    (kk : AtC mL_law p l e R s mid args below meth c dC dI dA ad b A (C0 + 1) (S0 + 6) Qf 333 ls [.int 1] (f, g, (336, 720))) : AtC mL_law p l e R s mid args below meth c dC dI dA ad b A C0 S0 Qf 330 ls [.ref 5737, .int w, .int x, .ref 6] (f, g, (336, 720)) := by
  intro H locs la hl hs1 hE hS hL
  have hF := aft hC hE hS
  obtain ⟨r1, r2, r3, r4⟩ := hC.2.2.2.2.2.2.2.2.1
  have hGd : GoodIn wsG (va_wsS "SaleRoundsLaw" 39 yL_look wsKL) := goodG (fun w hw => by
    simp only [va_wsS, List.cons_append, List.nil_append, List.mem_cons] at hw
    rcases hw with rfl | rfl | rfl | hw
    · exact wL2
    · exact wL3
    · exact tw1 0 rfl rfl
    · exact (List.mem_cons.mp hw).elim (fun q => q ▸ wL1) id)
  refine va_calli (A0 := A) (vx_runSW (As := [.ref (ad 6), .int x, .int w, .ref (ad 5737)]) (rest := []) (hh := hhL) (own := "SaleRoundsLaw") (index := 39) (bytes := cL_look) (maxL := 5) (ret := some .int) (n := 4) (nL := 7) ⟨hC.1, hC.2.1, hC.2.2.1, hC.2.2.2.1, hC.2.2.2.2.1⟩ (mt_look (sa := sa) (dC := dC) (dI := dI) (dA := dA) (ad := ad) (sz := H.size) (g := g) hfl hs x w)
    (vx_cwSW 4 hC.2.2.2.2.1 hGd rfl rfl rfl (by decide +kernel) ⟨by show 12 + 1 ≤ R.frames; omega, by show 8 + (5 + 11) + 64 * 12 ≤ R.locals; omega⟩)
    ⟨blindX, fun U hU hW => ⟨rfl, by rw [hU], by rw [hU]; exact hE.1, va_K.moved hW.alike hC.2.2.2.2.2.2.1, hE.2.1.weaken (fun _ _ _ _ => trivial), hE.2.2, fun q hq => va_Nw.warmM hW (hC.2.2.2.2.2.1 q hq), fun v hv => hs1 v (by simp at hv ⊢; rcases hv with h | h | h | h <;> simp [h]), by rw [hU]; exact hX.to hS.2.1 (fun q h => hF q h) hW⟩⟩ rfl rfl hL.1 rfl (Nat.le_of_ble_eq_true rfl) (show decode code 330 = .ok (.invokestatic 39, 3) by decide +kernel) ⟨hR1, hR2⟩) hS (fun q _ h => hF q h) hF (fun v u t H1 locs1 ht hvm hpost hB hz1 hk1 hS1 => ?_)
  obtain ⟨rfl, rfl⟩ := hpost
  exact kk H1 locs1 la hl (fun v hv => by simp at hv; rw [hv]; trivial) ⟨by rw [← ht]; exact hB, wsM_D _ hE.2.1, hE.2.2⟩ hS1 hL
end LookC
