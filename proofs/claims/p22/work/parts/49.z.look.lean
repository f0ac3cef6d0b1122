/-! look: words of the second throw; the class's look; the law's look; the law's call of it -/
def NS_ : String := "java/util/NoSuchElementException"
def RE_ : String := "java/lang/RuntimeException"
def EX_ : String := "java/lang/Exception"
abbrev byNS : ByteArray := prog_24_method_4_code
def ndN : List Cond := (nx_at "SaleRounds" 154 NS_ RE_ [EX_] 13 byNS).filter goodWord
def ndM : List Cond := [.declares (Bundle.initS "java/lang/RuntimeException"), .declares (Bundle.initS "java/lang/Exception"), .declares (Bundle.initS Bundle.tN), .castable NS_ NS_]
set_option maxRecDepth 20000 in
theorem ndN_in : ∀ w ∈ ndN, w ∈ wsG := twL [103, 933, 942, 945, 948, 950, 934, 935, 115, 116, 936, 941, 946, 966, 923, 967, 925, 968, 927, 937, 939, 929, 962, 963, 965, 929, 989, 990, 991, 956, 956, 957, 958, 959, 959, 960, 961, 962, 988, 979, 981, 944, 982, 983, 984, 985, 932, 931, 986] (by decide +kernel) (by decide +kernel)
theorem ndM_in : ∀ w ∈ (nx_at "SaleRounds" 154 NS_ RE_ [EX_] 13 byNS).filter (fun w => !goodWord w), w ∈ ndM := by decide +kernel
theorem ndNG : ∀ w ∈ Cond.classLink "SaleRounds" 150 NS_ :: Cond.initialized NS_ :: nx_at "SaleRounds" 154 NS_ RE_ [EX_] 13 byNS, vx_ot w = true := by decide +kernel
theorem wNS1 : Cond.classLink "SaleRounds" 150 NS_ ∈ wsG := tw4 169 rfl rfl
theorem wNS2 : Cond.initialized NS_ ∈ wsG := tw1 18 rfl rfl
theorem ndM_tab : ∀ w ∈ ndM, w.onTables = true := by decide +kernel
/-- what the two throws need of the state -/
def XcN (A : Nat → Prop) (sa sb : Nat) (U : State) (H : Heap) : Prop := XcL A sa U H ∧ (∀ w ∈ ndM, va_Nw w U) ∧ vk_R "SaleRounds" 152 "no such what" sb U ∧ va_Nc NS_ IO_ U
theorem XcN.to {A A' : Nat → Prop} {sa sb : Nat} {s U : State} {H H' : Heap} (h : XcN A sa sb s H) (hk : ∀ q : Nat, q < H.size → ¬ A q → H'[q]? = H[q]?) (hA : ∀ q, A' q → A q) (hW : s.WarmedH U.vm) : XcN A' sa sb U H' :=
  ⟨h.1.to hk hA hW, (fun w hw => by
    have q := h.2.1 w hw
    simp only [ndM, List.mem_cons, List.not_mem_nil, or_false] at hw
    rcases hw with rfl | rfl | rfl | rfl
    · exact va_Nw.warmD hW q
    · exact va_Nw.warmD hW q
    · exact va_Nw.warmD hW q
    · exact va_Nw.warmC hW q), vk_R.warm hW h.2.2.1, va_Nc.moved hW.alike h.2.2.2⟩
theorem XcN.blind {A : Nat → Prop} {sa sb : Nat} {U : State} {g : JFrame} {mk : MethodId} {a : Array Value} {H : Heap} (h : XcN A sa sb U H) : XcN A sa sb (U.calling g mk a) H :=
  ⟨⟨⟨vx_Zq.moved (u := U) (U := U.calling g mk a) (Vm.Alike.refl U.vm) h.1.1.1, vx_Zq.moved (u := U) (U := U.calling g mk a) (Vm.Alike.refl U.vm) h.1.1.2⟩, (fun w hw => va_Nw.same (ndB_tab w hw) (u := U) (U := U.calling g mk a) rfl (h.1.2.1 w hw)), vk_R.same (u := U) (U := U.calling g mk a) rfl h.1.2.2⟩, (fun w hw => va_Nw.same (ndM_tab w hw) (u := U) (U := U.calling g mk a) rfl (h.2.1 w hw)), vk_R.same (u := U) (U := U.calling g mk a) rfl h.2.2.1, va_Nc.moved (u := U) (U := U.calling g mk a) (Vm.Alike.refl U.vm) h.2.2.2⟩
def PcN (dC : Nat → ClassId) (dI : Nat → Nat → Nat) (dA : Nat → ClassId) (ad : Nat → Nat) (as : List Value) (m : MM) (sz sa sb : Nat) : Array Value → State → Prop :=
  va_Pc (as.map (tv ad 0)) (fun U => U.heap.size = sz ∧ va_P (dC, dI) classes (wsM ad dA m) U.heap ∧ va_K (dC, dI) classes (tysL dA) U ∧ va_D (fun _ => True) (wsM ad dA m) ∧ okB m ∧ (∀ q ∈ nsL, va_Nw (.methodLinkNest q.1 q.2.1 q.2.2.1 q.2.2.2) U) ∧ (∀ v ∈ as, vld v) ∧ StE (va_A (wsM ad dA m) sz) U U.heap ∧ XcN (va_A (wsM ad dA m) sz) sa sb U U.heap)
theorem blindN {dC : Nat → ClassId} {dI : Nat → Nat → Nat} {dA : Nat → ClassId} {ad : Nat → Nat} {as : List Value} {m : MM} {sz sa sb : Nat} : FrameBlind (PcN dC dI dA ad as m sz sa sb) := by
  intro a U g mk h
  obtain ⟨h0, h1, h2, h3, h4, h5, h6, h7, ⟨kV, h8⟩, h9⟩ := h
  exact ⟨h0, h1, h2, va_K.moved (u := U) (U := U.calling g mk a) (Vm.Alike.refl U.vm) h3, h4, h5, fun q hq => va_Nw.same rfl (u := U) (U := U.calling g mk a) rfl (h6 q hq), h7, ⟨kV, h8.blind⟩, h9.blind⟩
theorem StE.to {A A' : Nat → Prop} {s U : State} {H H' : Heap} (h : StE A s H) (hk : ∀ q : Nat, q < H.size → ¬ A q → H'[q]? = H[q]?) (hA : ∀ q, A' q → A q) (hW : s.WarmedH U.vm) : StE A' U H' := by
  obtain ⟨kV, h⟩ := h
  exact ⟨kV, h.to hk hA hW⟩
theorem LI_okB {m : MM} (h : LI m) : okB m := by
  unfold okB
  rcases h.2.1 with e | e <;> rw [e] <;> decide +kernel
theorem LI_sJ {m : MM} {v : Int64} (h : LI m) : LI (sJ m 5737 0 v) := ⟨Mok_sJ h.1 (fun e => absurd e (by decide)), h.2.1, h.2.2.1, h.2.2.2⟩
set_option maxRecDepth 100000 in
def cdLookB : List CE := (0, 1, some (oAl 0)) :: (1, 3, some oGetNw) :: (4, 3, some (oGetR [(336, 452), (720, 836)])) :: (7, 1, some (oAs 3)) :: (8, 1, some (oAl 3)) :: (9, 1, some (oIl 1)) ::
  (10, 3, some (oCI 4 mX4_has 2)) :: (13, 3, some (oIfNe 26)) :: (16, 0, none) :: (16, 3, some oNo) :: (19, 1, some oDup) :: (20, 2, some oNo) :: (22, 3, some oNo) ::
  (25, 1, some oNo) :: (26, 1, some (oIl 2)) :: (27, 45, some (oSw [(0, 72), (1, 79), (2, 86), (3, 93), (4, 100), (5, 107), (6, 114), (7, 121)] 134)) :: (72, 1, some (oAl 3)) :: (73, 3, some (oGetR [(452, 164312), (836, 164696)])) :: (76, 1, some (oIl 1)) ::
  (77, 1, some oIald) :: (78, 1, some oIret) :: (79, 1, some (oAl 3)) :: (80, 3, some (oGetR [(452, 164328), (836, 164712)])) :: (83, 1, some (oIl 1)) :: (84, 1, some oIald) ::
  (85, 1, some oIret) :: (86, 1, some (oAl 3)) :: (87, 3, some (oGetR [(452, 164344), (836, 164728)])) :: (90, 1, some (oIl 1)) :: (91, 1, some oIald) :: (92, 1, some oIret) ::
  (93, 1, some (oAl 3)) :: (94, 3, some (oGetR [(452, 164360), (836, 164744)])) :: (97, 1, some (oIl 1)) :: (98, 1, some oIald) :: (99, 1, some oIret) :: (100, 1, some (oAl 3)) ::
  (101, 3, some (oGetR [(452, 164376), (836, 164760)])) :: (104, 1, some (oIl 1)) :: (105, 1, some oIald) :: (106, 1, some oIret) :: (107, 1, some (oAl 3)) :: (108, 3, some (oGetR [(452, 164392), (836, 164776)])) ::
  (111, 1, some (oIl 1)) :: (112, 1, some oIald) :: (113, 1, some oIret) :: (114, 1, some (oAl 3)) :: (115, 3, some (oGetR [(452, 164408), (836, 164792)])) :: (118, 1, some (oIl 1)) ::
  (119, 1, some oIald) :: (120, 1, some oIret) :: (121, 1, some (oAl 0)) :: (122, 3, some oGetNw) :: (125, 1, some (oIl 1)) :: (126, 1, some (oAl 0)) ::
  (127, 3, some (oGetI 6 6)) :: (130, 3, some (oCI 0 mX0_taxOf 3)) :: (133, 1, some oIret) :: (134, 0, none) :: (134, 3, some oNo) :: (137, 1, some oDup) :: (138, 2, some oNo) ::
  (140, 3, some oNo) :: (143, 1, some oNo) :: []
set_option maxRecDepth 100000 in
set_option maxHeartbeats 4000000 in
theorem okLookB : CodeOk mX6_look cdLookB := by
  refine ⟨by rfl, ?_⟩
  show CodeAll mX6_look cdLookB
  refine ce_op (okAl1 (k := 0) (by decide +kernel) rfl) ?_
  refine ce_op (okGetNw (x := 35) (by decide +kernel) wd404) ?_
  refine ce_op (okGetR clX0 (k := 3) (x := 109) (by decide +kernel) (by decide) rfl wd351 rfl (by decide +kernel)) ?_
  refine ce_op (okAs1 (k := 3) (by decide +kernel) rfl (by decide)) ?_
  refine ce_op (okAl1 (k := 3) (by decide +kernel) rfl) ?_
  refine ce_op (okIl1 (k := 1) (by decide +kernel) rfl) ?_
  refine ce_op (okCI miX4_has (rV clX4 (x := 113) miX4_has rfl (by decide +kernel) wd702 wd703 wd704)) ?_
  refine ce_op (okIfNe (off := 13) (by decide +kernel) (by decide)) ?_
  refine ce_st ?_
  refine ce_op (okNo) ?_
  refine ce_op (okDup (by decide +kernel)) ?_
  refine ce_op (okNo) ?_
  refine ce_op (okNo) ?_
  refine ce_op (okNo) ?_
  refine ce_op (okIl1 (k := 2) (by decide +kernel) rfl) ?_
  refine ce_op (okTsw (dO := 107) (lo := 0) (hi := 7) (offs := #[45, 52, 59, 66, 73, 80, 87, 94]) (by decide +kernel) (by decide) (by decide +kernel) (by decide +kernel) (sw_all (by decide +kernel))) ?_
  refine ce_op (okAl1 (k := 3) (by decide +kernel) rfl) ?_
  refine ce_op (okGetR clX4 (k := 0) (x := 125) (by decide +kernel) (by decide) rfl wd288 rfl (by decide +kernel)) ?_
  refine ce_op (okIl1 (k := 1) (by decide +kernel) rfl) ?_
  refine ce_op (okIald (by decide +kernel)) ?_
  refine ce_op (okIret (by decide +kernel) rfl) ?_
  refine ce_op (okAl1 (k := 3) (by decide +kernel) rfl) ?_
  refine ce_op (okGetR clX4 (k := 1) (x := 128) (by decide +kernel) (by decide) rfl wd293 rfl (by decide +kernel)) ?_
  refine ce_op (okIl1 (k := 1) (by decide +kernel) rfl) ?_
  refine ce_op (okIald (by decide +kernel)) ?_
  refine ce_op (okIret (by decide +kernel) rfl) ?_
  refine ce_op (okAl1 (k := 3) (by decide +kernel) rfl) ?_
  refine ce_op (okGetR clX4 (k := 2) (x := 131) (by decide +kernel) (by decide) rfl wd297 rfl (by decide +kernel)) ?_
  refine ce_op (okIl1 (k := 1) (by decide +kernel) rfl) ?_
  refine ce_op (okIald (by decide +kernel)) ?_
  refine ce_op (okIret (by decide +kernel) rfl) ?_
  refine ce_op (okAl1 (k := 3) (by decide +kernel) rfl) ?_
  refine ce_op (okGetR clX4 (k := 3) (x := 134) (by decide +kernel) (by decide) rfl wd302 rfl (by decide +kernel)) ?_
  refine ce_op (okIl1 (k := 1) (by decide +kernel) rfl) ?_
  refine ce_op (okIald (by decide +kernel)) ?_
  refine ce_op (okIret (by decide +kernel) rfl) ?_
  refine ce_op (okAl1 (k := 3) (by decide +kernel) rfl) ?_
  refine ce_op (okGetR clX4 (k := 4) (x := 137) (by decide +kernel) (by decide) rfl wd304 rfl (by decide +kernel)) ?_
  refine ce_op (okIl1 (k := 1) (by decide +kernel) rfl) ?_
  refine ce_op (okIald (by decide +kernel)) ?_
  refine ce_op (okIret (by decide +kernel) rfl) ?_
  refine ce_op (okAl1 (k := 3) (by decide +kernel) rfl) ?_
  refine ce_op (okGetR clX4 (k := 5) (x := 140) (by decide +kernel) (by decide) rfl wd309 rfl (by decide +kernel)) ?_
  refine ce_op (okIl1 (k := 1) (by decide +kernel) rfl) ?_
  refine ce_op (okIald (by decide +kernel)) ?_
  refine ce_op (okIret (by decide +kernel) rfl) ?_
  refine ce_op (okAl1 (k := 3) (by decide +kernel) rfl) ?_
  refine ce_op (okGetR clX4 (k := 6) (x := 143) (by decide +kernel) (by decide) rfl wd312 rfl (by decide +kernel)) ?_
  refine ce_op (okIl1 (k := 1) (by decide +kernel) rfl) ?_
  refine ce_op (okIald (by decide +kernel)) ?_
  refine ce_op (okIret (by decide +kernel) rfl) ?_
  refine ce_op (okAl1 (k := 0) (by decide +kernel) rfl) ?_
  refine ce_op (okGetNw (x := 35) (by decide +kernel) wd404) ?_
  refine ce_op (okIl1 (k := 1) (by decide +kernel) rfl) ?_
  refine ce_op (okAl1 (k := 0) (by decide +kernel) rfl) ?_
  refine ce_op (okGetI clX6 (k := 6) (x := 46) (by decide +kernel) (by decide) rfl wd407 (Or.inl rfl)) ?_
  refine ce_op (okCI miX0_taxOf (rV clX0 (x := 146) miX0_taxOf rfl (by decide +kernel) wd977 wd613 wd614)) ?_
  refine ce_op (okIret (by decide +kernel) rfl) ?_
  refine ce_st ?_
  refine ce_op (okNo) ?_
  refine ce_op (okDup (by decide +kernel)) ?_
  refine ce_op (okNo) ?_
  refine ce_op (okNo) ?_
  refine ce_op (okNo) ?_
  exact ce_nil
set_option maxRecDepth 100000 in
set_option maxHeartbeats 4000000 in
theorem lookSxA {f : Nat → Nat → Int32} {g : Nat → Nat → Int64} {x w : Int32} (hL : LI (f, g, (336, 720))) : sx (E0 4) (qi (fun _ m' => LI m')) (fun pc _ st m' => Stq pc ((pc = 16 ∨ pc = 134) ∧ st = [] ∧ LI m')) cdLookB 80 (seek 0 cdLookB) [.ref 6, .int x, .int w, .null] [] (f, g, (336, 720)) := by
  have hsz : (0 : Int) ≤ (f 452 7).toInt ∧ (f 452 7).toInt ≤ 40 := hL.1.1 452 7
  (conv => whnf)
  refine ⟨1, (by decide), _, h_has452, ?_⟩
  rintro r m' ⟨e, hr⟩
  have e := e.symm
  subst e
  (conv => whnf)
  refine And.intro (fun h1 => ?_) (fun h1 => ?_)
  · have hx : 0 ≤ x.toInt ∧ x.toInt < (gI (f, g, (336, 720)) 452 7).toInt := by
      rcases hr with hr | hr
      · exact hr.2
      · exact absurd hr h1
    have hx2 : x.toInt < (f 452 7).toInt := hx.2
    have hv : vp_in x 40 := vp_in_iff.mpr ⟨hx.1, show x.toInt < ((40 : Nat) : Int) by omega⟩
    (conv => whnf)
    refine And.intro (fun _ => ?_) (fun _ => ?_)
    · (conv => whnf)
      exact And.intro hv hL
    · skip
      refine And.intro (fun _ => ?_) (fun _ => ?_)
      · (conv => whnf)
        exact And.intro hv hL
      · skip
        refine And.intro (fun _ => ?_) (fun _ => ?_)
        · (conv => whnf)
          exact And.intro hv hL
        · skip
          refine And.intro (fun _ => ?_) (fun _ => ?_)
          · (conv => whnf)
            exact And.intro hv hL
          · skip
            refine And.intro (fun _ => ?_) (fun _ => ?_)
            · (conv => whnf)
              exact And.intro hv hL
            · skip
              refine And.intro (fun _ => ?_) (fun _ => ?_)
              · (conv => whnf)
                exact And.intro hv hL
              · skip
                refine And.intro (fun _ => ?_) (fun _ => ?_)
                · (conv => whnf)
                  exact And.intro hv hL
                · skip
                  refine And.intro (fun _ => ?_) (fun _ => ?_)
                  · (conv => whnf)
                    dsimp only
                    (conv => whnf)
                    refine ⟨2, (by decide), _, li_ci (ac := ([(2, 336, 0), (0, 0, 39), (0, -2147483648, 2147483647)], 2, [((0, -2147483648, 2147483647), [], [])], [], [])) (fun c hc => sfX0_taxOf c hc _ (List.mem_of_getElem? (i := 6) rfl)) (by decide +kernel) rfl (by decide +kernel) ⟨rfl, ⟨x, rfl, hx.1, show x.toInt ≤ 39 by omega⟩, top_in, trivial⟩ hL, ?_⟩
                    intro r2 m2 hL2
                    exact hL2
                  · (conv => whnf)
                    exact And.intro rfl ⟨Or.inr rfl, rfl, hL⟩
  · (conv => whnf)
    exact And.intro rfl ⟨Or.inl rfl, rfl, hL⟩
set_option maxRecDepth 100000 in
set_option maxHeartbeats 4000000 in
theorem lookSxB {f : Nat → Nat → Int32} {g : Nat → Nat → Int64} {x w : Int32} (hL : LI (f, g, (720, 336))) : sx (E0 4) (qi (fun _ m' => LI m')) (fun pc _ st m' => Stq pc ((pc = 16 ∨ pc = 134) ∧ st = [] ∧ LI m')) cdLookB 80 (seek 0 cdLookB) [.ref 6, .int x, .int w, .null] [] (f, g, (720, 336)) := by
  have hsz : (0 : Int) ≤ (f 836 7).toInt ∧ (f 836 7).toInt ≤ 40 := hL.1.1 836 7
  (conv => whnf)
  refine ⟨1, (by decide), _, h_has836, ?_⟩
  rintro r m' ⟨e, hr⟩
  have e := e.symm
  subst e
  (conv => whnf)
  refine And.intro (fun h1 => ?_) (fun h1 => ?_)
  · have hx : 0 ≤ x.toInt ∧ x.toInt < (gI (f, g, (720, 336)) 836 7).toInt := by
      rcases hr with hr | hr
      · exact hr.2
      · exact absurd hr h1
    have hx2 : x.toInt < (f 836 7).toInt := hx.2
    have hv : vp_in x 40 := vp_in_iff.mpr ⟨hx.1, show x.toInt < ((40 : Nat) : Int) by omega⟩
    (conv => whnf)
    refine And.intro (fun _ => ?_) (fun _ => ?_)
    · (conv => whnf)
      exact And.intro hv hL
    · skip
      refine And.intro (fun _ => ?_) (fun _ => ?_)
      · (conv => whnf)
        exact And.intro hv hL
      · skip
        refine And.intro (fun _ => ?_) (fun _ => ?_)
        · (conv => whnf)
          exact And.intro hv hL
        · skip
          refine And.intro (fun _ => ?_) (fun _ => ?_)
          · (conv => whnf)
            exact And.intro hv hL
          · skip
            refine And.intro (fun _ => ?_) (fun _ => ?_)
            · (conv => whnf)
              exact And.intro hv hL
            · skip
              refine And.intro (fun _ => ?_) (fun _ => ?_)
              · (conv => whnf)
                exact And.intro hv hL
              · skip
                refine And.intro (fun _ => ?_) (fun _ => ?_)
                · (conv => whnf)
                  exact And.intro hv hL
                · skip
                  refine And.intro (fun _ => ?_) (fun _ => ?_)
                  · (conv => whnf)
                    dsimp only
                    (conv => whnf)
                    refine ⟨2, (by decide), _, li_ci (ac := ([(2, 720, 0), (0, 0, 39), (0, -2147483648, 2147483647)], 2, [((0, -2147483648, 2147483647), [], [])], [], [])) (fun c hc => sfX0_taxOf c hc _ (List.mem_of_getElem? (i := 7) rfl)) (by decide +kernel) rfl (by decide +kernel) ⟨rfl, ⟨x, rfl, hx.1, show x.toInt ≤ 39 by omega⟩, top_in, trivial⟩ hL, ?_⟩
                    intro r2 m2 hL2
                    exact hL2
                  · (conv => whnf)
                    exact And.intro rfl ⟨Or.inr rfl, rfl, hL⟩
  · (conv => whnf)
    exact And.intro rfl ⟨Or.inl rfl, rfl, hL⟩
theorem lookSx {m : MM} {x w : Int32} (hL : LI m) : sx (E0 4) (qi (fun _ m' => LI m')) (fun pc _ st m' => Stq pc ((pc = 16 ∨ pc = 134) ∧ st = [] ∧ LI m')) cdLookB 80 (seek 0 cdLookB) [.ref 6, .int x, .int w, .null] [] m := by
  obtain ⟨f, g, c⟩ := m
  rcases hL.2.1 with e | e
  · obtain rfl : c = (336, 720) := e
    exact lookSxA hL
  · obtain rfl : c = (720, 336) := e
    exact lookSxB hL
section LookA
variable {l : Launch} {dC : Nat → ClassId} {dI : Nat → Nat → Nat} {dA : Nat → ClassId} {ad : Nat → Nat} {sz sa sb : Nat} {m : MM}
def QxN (dC : Nat → ClassId) (dI : Nat → Nat → Nat) (dA : Nat → ClassId) (ad : Nat → Nat) (m : MM) (sz : Nat) : String → State → State → Prop := vx_X (fun u : MM => LI u) (fun E u t => (E = IO_ ∨ E = NS_) ∧ va_P (dC, dI) classes (wsM ad dA u) t.heap) (va_A (wsM ad dA m) sz)
set_option maxRecDepth 100000 in
set_option maxHeartbeats 4000000 in
theorem vm_look (hl : l.stackTraces = false) (hL : LI m) (x w : Int32) : vx_Met l yX6_look (wsK mX6_look) (rmI 8 1 6) (PcN dC dI dA ad [.ref 6, .int x, .int w] m sz sa sb) (va_Qi (fun (_ : Int32) (u : MM) => LI u) (fun u t => va_P (dC, dI) classes (wsM ad dA u) t.heap) (va_A (wsM ad dA m) sz)) (QxN dC dI dA ad m sz) 1 6 (va_A (wsM ad dA m) sz) := by
  refine vx_ofW (cc := cX6_look) (maxL := 4) (ret := some .int) (by decide) rfl ?_
  intro p e s mid args below meth c s₁ B hml htab hv
  obtain ⟨rfl, hsz, hP, hK, hD0, hB, hN, hvl, hSt, hX⟩ := hv
  have hts := atoms_spec (ws := wsK mX6_look) B.pre
  have hG := fun w (hw : w ∈ wsG) => hts w (List.mem_cons_of_mem _ hw)
  have hown : s.vm.findClass "SaleRounds" = some mid.cls := findClass_of_methodNamed B.named
  have hlocks := B.notSynchronized
  subst hsz
  have hD := hD0.self (sz := s.heap.size)
  rw [lg_entry_eq]
  have hle := lv_entry ([Value.ref 6, Value.int x, Value.int w].map (tv ad 0)) (n := 4) (Nat.le_of_ble_eq_true rfl)
  have hC : Cx (E0 4) mX6_look p (rmI 8 1 6) s mid ([Value.ref 6, Value.int x, Value.int w].map (tv ad 0)).toArray c dC dI dA (va_A (wsM ad dA m) s.heap.size) 0 0 0 := ⟨B.exec, B.bytes, hml, hown, hG, hN, hK, fun q h => Or.inr h, ⟨Nat.le_of_ble_eq_true rfl, Nat.le_of_ble_eq_true rfl, Nat.zero_le _, Nat.zero_le _⟩, fun q => absurd q (by decide), hSt⟩
  refine AtC.go (E := E0 4) (P := qi (fun _ m' => LI m')) (K := fun pc _ st m' => Stq pc ((pc = 16 ∨ pc = 134) ∧ st = [] ∧ LI m')) (ls := [Value.ref 6, Value.int x, Value.int w, .null]) (st := []) (m := m) okLookB hC ?_ ?_ 80 (lookSx hL) s.heap [] _ ?_ (fun v h => by cases h) ⟨hP, hD, hB⟩ va_S.rf ⟨hle.1, hle.2.1, fun j hj => ?_⟩
  · intro r m' H locs la pc hP' hRD hE hS
    rcases hRD with ⟨v, rfl, hd, hty | ⟨hty, hv01⟩⟩ | ⟨v, rfl, hd, hty⟩ | ⟨rfl, hd, hty⟩
    · refine W.widen (k := 1) (n := 6) (by decide) (by decide) (vx_ret (W.iret B.exec B.bytes B.returns (fun t ht hW => ⟨⟨v, m', rfl, hP', by show va_P (dC, dI) classes (wsM ad dA m') t.heap; rw [ht]; exact hE.1⟩, hS.F ht⟩) hS.2.2 hd hlocks))
    · cases hty
    · exact hP'.elim
    · exact hP'.elim
  · rintro pc ls st m' ⟨-, hpc, rfl, hL'⟩
    rcases hpc with rfl | rfl
    · intro H locs la hl1 hs1 hE hS hL1
      refine vx_throwS (own := "SaleRounds") (cls := IO_) (text := "no such sale") (names := nmIO) (ik := 118) (is := 120) (ic := 122) (A := va_A (wsM ad dA m) s.heap.size) B.exec B.bytes hl hown (by decide) (by decide) (hG _ wIO1) (hG _ wIO2) hX.1.2.2 (vx_hat (fun w hw => hG w (ndL_in w hw)) ndB_in (fun w hw => va_Nw.use (ndB_tab w hw) (hX.1.2.1 w hw))) ndG hX.1.1.1 hX.1.1.2 hS (hL1.1.trans hml.symm) (by decide +kernel) (by decide +kernel) (by decide +kernel) (by decide +kernel) (by decide +kernel) (fun q hq => (htab q hq).elim) (by decide) (Nat.le_of_ble_eq_true rfl) (by decide) (by decide) hlocks (fun t hvm hz hk => ?_) (fun z hz => hS.2.2 z hz) (by decide) (by decide)
      refine ⟨m', hL', ⟨Or.inl rfl, hE.1.kept (fun k q hq => hk q.1 ((hE.1 k q hq).lt))⟩, Nat.le_trans hS.1 hz, fun q h1 h2 => ?_⟩
      rw [hk q (Nat.lt_of_lt_of_le h1 hS.1)]
      exact hS.2.1 q h1 h2
    · intro H locs la hl1 hs1 hE hS hL1
      refine nx_makeS (own := "SaleRounds") (cls := NS_) (text := "no such what") (Y1 := RE_) (r1 := [EX_]) (ix := 13) (bys := byNS) (ik := 150) (is := 152) (ic := 154) (A := va_A (wsM ad dA m) s.heap.size) B.exec B.bytes hl hown (by decide) (by decide) (by decide) (by decide +kernel) (by decide +kernel) (by decide +kernel) (by decide +kernel) (hG _ wNS1) (hG _ wNS2) hX.2.2.1 (vx_hat (fun w hw => hG w (ndN_in w hw)) ndM_in (fun w hw => va_Nw.use (ndM_tab w hw) (hX.2.1 w hw))) ndNG hX.1.1.1 hX.1.1.2 hS (hL1.1.trans hml.symm) (by decide +kernel) (by decide +kernel) (by decide +kernel) (by decide +kernel) (by decide) (Nat.le_of_ble_eq_true rfl) (by decide) (by decide) (fun q ce H1 hz hk hce hcv hcl => ?_)
      refine vx_athrow B.exec B.bytes (show decode cX6_look 143 = .ok (.athrow, 1) by decide +kernel) (vx_out (E := NS_) (fun q hq => (htab q hq).elim) hlocks hce hcv hcl (fun t ht hvm => ?_) (fun z hz => hS.2.2 z hz) (by decide) (by decide))
      refine ⟨m', hL', ⟨Or.inr rfl, by rw [ht]; exact hE.1.kept (fun k q hq => hk q.1 ((hE.1 k q hq).lt))⟩, by rw [ht]; exact Nat.le_trans hS.1 hz, fun q h1 h2 => ?_⟩
      rw [ht, hk q (Nat.lt_of_lt_of_le h1 hS.1)]
      exact hS.2.1 q h1 h2
  · intro j
    refine gl_vld _ _ (fun v hv => ?_)
    have hv : v ∈ pad 4 (enl [Value.ref 6, Value.int x, Value.int w]) := hv
    rcases pad_mem _ _ _ hv with q | q
    · rw [q]; trivial
    · rcases enl_mem _ _ q with q | q
      · rw [q]; trivial
      · exact hvl v q
  · have := pad_args ad 0 [Value.ref 6, Value.int x, Value.int w] 4 0 j hj
    rw [Nat.zero_add] at this
    exact hle.2.2 _ this
end LookA
/-! the law's own look: it catches -/
def hhL : List (Nat × Nat × Nat × Nat) := [(0, 10, 13, 13), (0, 10, 17, 15)]
def wsKL : List Cond := Cond.codeWith yL_look cL_look 5 (some .int) hhL :: wsG
theorem wL1 : Cond.codeWith yL_look cL_look 5 (some .int) hhL ∈ wsG := tw4 95 rfl rfl
theorem wL2 : Cond.methodLink "SaleRoundsLaw" 39 yL_look ∈ wsG := tw4 93 rfl rfl
theorem wL3 : Cond.static yL_look ∈ wsG := tw4 94 rfl rfl
theorem wL4 : Cond.classLink "SaleRoundsLaw" 13 IO_ ∈ wsG := tw4 96 rfl rfl
theorem wL9 : Cond.classLink "SaleRoundsLaw" 15 NS_ ∈ wsG := tw4 97 rfl rfl
theorem wL5 : Cond.methodLink "SaleRoundsLaw" 7 yX6_look ∈ wsG := tw4 98 rfl rfl
theorem wL6 : Cond.instanceMethod yX6_look ∈ wsG := tw4 99 rfl rfl
theorem wL7 : Cond.selects "SaleRounds" yX6_look yX6_look ∈ wsG := tw4 100 rfl rfl
theorem wL8 : Cond.code yX6_look cX6_look 4 (some .int) ∈ wsG := tw4 101 rfl rfl
section LookB
variable {l : Launch} {dC : Nat → ClassId} {dI : Nat → Nat → Nat} {dA : Nat → ClassId} {ad : Nat → Nat} {sz sa sb : Nat} {m : MM}
set_option maxRecDepth 100000 in
set_option maxHeartbeats 4000000 in
theorem mt_look (hl : l.stackTraces = false) (hL : LI m) (x w : Int32) : Met l yL_look wsKL (rmI 12 1 6) (PcN dC dI dA ad [.ref 6, .int x, .int w, .ref 5737] m sz sa sb) (va_Qi (fun (_ : Int32) (u : MM) => LI u) (fun u t => va_P (dC, dI) classes (wsM ad dA u) t.heap) (va_A (wsM ad dA m) sz)) 1 6 (va_A (wsM ad dA m) sz) := by
  refine va_MetW (cc := cL_look) (maxL := 5) (ret := some .int) (hh := hhL) (by decide) rfl ?_
  intro p e s mid args below meth c s₁ B hml hv
  obtain ⟨rfl, hsz, hP, hK, hD0, hB, hN, hvl, hSt, hX⟩ := hv
  have hts := atoms_spec (ws := wsKL) B.pre
  have hG := fun w (hw : w ∈ wsG) => hts w (List.mem_cons_of_mem _ hw)
  have hown : s.vm.findClass "SaleRoundsLaw" = some mid.cls := findClass_of_methodNamed B.named
  have hlocks := B.notSynchronized
  have htab := vx_table (x := yL_look) B (hts _ List.mem_cons_self)
  subst hsz
  have hD := hD0.self (sz := s.heap.size)
  rw [lg_entry_eq]
  have hl0 := lv_entry ([Value.ref 6, Value.int x, Value.int w, Value.ref 5737].map (tv ad 0)) (n := 5) (Nat.le_of_ble_eq_true rfl)
  generalize (lg_sl ([Value.ref 6, Value.int x, Value.int w, Value.ref 5737].map (tv ad 0)) ++ List.replicate (5 - (lg_sl ([Value.ref 6, Value.int x, Value.int w, Value.ref 5737].map (tv ad 0))).length) Slot.unset).toArray = ls at hl0 ⊢
  have hl0 : lv_has ls 5 [(0, .ref (ad 6)), (1, .int x), (2, .int w), (3, .ref (ad 5737))] := hl0
  refine lv_aload_n (k := 3) B.exec B.bytes (by decide +kernel) rfl (lv_at hl0 3 rfl) ?_
  refine lv_iconst (v := 0) B.exec B.bytes (n := 0) (by decide +kernel) (by decide) ?_
  refine lv_aload_n (k := 0) B.exec B.bytes (by decide +kernel) rfl (lv_at hl0 0 rfl) ?_
  refine lv_iload_n (k := 1) B.exec B.bytes (by decide +kernel) rfl (lv_at hl0 1 rfl) ?_
  refine lv_iload_n (k := 2) B.exec B.bytes (by decide +kernel) rfl (lv_at hl0 2 rfl) ?_
  have hin : (6 : Nat) ∈ cellsL := hvl (.ref 6) List.mem_cons_self
  have hin7 : (5737 : Nat) ∈ cellsL := hvl (.ref 5737) (by simp)
  obtain ⟨q0, hq1, hq2⟩ := wsM_at (ad := ad) (dA := dA) hin m
  rw [cellE_obj (ci := 6) rfl (by decide)] at hq2
  have hGd : GoodIn wsG (wsK mX6_look) := goodG (fun w hw => (List.mem_cons.mp hw).elim (fun q => q ▸ wL8) id)
  refine vx_calli (A0 := va_A (wsM ad dA m) s.heap.size) (vx_runV (As := [.int x, .int w]) (rest := [.int 0, .ref (ad 5737)]) (b := ad 6) (C := "SaleRounds") (n := 2) (own := "SaleRoundsLaw") (index := 7) (bytes := cX6_look) (maxL := 4) (ret := some .int) (nL := 5) ⟨B.exec, B.bytes, hml, hown, hG⟩ (vm_look (sa := sa) (sb := sb) (dC := dC) (dI := dI) (dA := dA) (ad := ad) (sz := s.heap.size) hl hL x w) ⟨callB_of 2 hG hGd rfl rfl rfl (hG _ miX6_feed.2.2.2.2.2.2) (hG _ wL5) (by decide +kernel) ⟨by decide, by decide⟩, hG _ wL6, hG _ wL7⟩
    ⟨blindN, va_recv hK hP clX6.1 hq2, fun U hU hW => ⟨rfl, by rw [hU], by rw [hU]; exact hP, va_K.moved hW.alike hK, hD0, hB, fun q hq => va_Nw.warmM hW (hN q hq), fun v hv => hvl v (by simp at hv ⊢; rcases hv with h | h | h <;> simp [h]), by rw [hU]; exact hSt.to (fun q _ _ => rfl) (fun q h => h) hW, by rw [hU]; exact hX.to (fun q _ _ => rfl) (fun q h => h) hW⟩⟩ rfl rfl hl0.1 rfl (Nat.le_of_ble_eq_true rfl) (show decode cL_look 5 = .ok (.invokevirtual 7, 3) by decide +kernel) ⟨by decide, by decide⟩) va_S.rf (fun q _ h => h) (fun q h => h) (fun q _ h => h) ?_ ?_
  · intro E ce q9 u t H1 locs1 ht hvm hpx hBX hz1 hk1 hS1 hce hcv hcl
    obtain ⟨hEE, hP1⟩ := hBX
    rcases hEE with rfl | rfl
    · refine vx_catch (name := IO_) hown [] _ _ (htab.trans rfl) (fun z hz => by cases hz) rfl (by decide) (hG _ wL4) (va_Nw.use rfl (hX.1.2.1 _ (by decide))) hce hcv hcl ?_
      refine lv_astore B.exec B.bytes (show decode cL_look 13 = .ok (.astore 4, 2) by decide +kernel) hl0 (by decide) rfl (fun ls1 hl1 => ?_)
      refine lv_iconst (v := 1) B.exec B.bytes (n := 1) (show decode cL_look 15 = .ok (.iconst 1, 1) by decide +kernel) (by decide) ?_
      exact W.iret B.exec B.bytes B.returns (fun t2 ht2 hW2 => ⟨⟨1, u, rfl, hpx, by show va_P (dC, dI) classes (wsM ad dA u) t2.heap; rw [ht2, ← ht]; exact hP1⟩, hS1.F ht2⟩) hS1.2.2 (show decode cL_look 16 = .ok (.ireturn, 1) by decide +kernel) hlocks
    · refine vx_catch (name := NS_) hown [⟨0, 10, 13, 13⟩] ⟨0, 10, 17, 15⟩ [] (htab.trans rfl) (fun z hz => by
        rw [List.mem_singleton.mp hz]
        exact Or.inr ⟨by decide, IO_, hG _ wL4, hX.2.2.2⟩) rfl (by decide) (hG _ wL9) (va_Nw.use rfl (hX.2.1 _ (by decide))) hce hcv hcl ?_
      refine lv_astore B.exec B.bytes (show decode cL_look 17 = .ok (.astore 4, 2) by decide +kernel) hl0 (by decide) rfl (fun ls1 hl1 => ?_)
      refine lv_iconst (v := 2) B.exec B.bytes (n := 2) (show decode cL_look 19 = .ok (.iconst 2, 1) by decide +kernel) (by decide) ?_
      exact W.iret B.exec B.bytes B.returns (fun t2 ht2 hW2 => ⟨⟨2, u, rfl, hpx, by show va_P (dC, dI) classes (wsM ad dA u) t2.heap; rw [ht2, ← ht]; exact hP1⟩, hS1.F ht2⟩) hS1.2.2 (show decode cL_look 20 = .ok (.ireturn, 1) by decide +kernel) hlocks
  · intro r u t H1 locs1 ht hvm hpost hP1 hz1 hk1 hS1
    have hP1 : va_P (dC, dI) classes (wsM ad dA u) t.heap := hP1
    rw [ht] at hP1
    have hD1 : va_D (va_A (wsM ad dA m) s.heap.size) (wsM ad dA u) := wsM_D _ hD
    obtain ⟨q7, hq3, hq4⟩ := wsM_at (ad := ad) (dA := dA) hin7 u
    rw [cellE_long rfl] at hq4
    refine lv_i2l B.exec B.bytes (show decode cL_look 8 = .ok (.i2l, 1) by decide +kernel) rfl ?_
    refine va_last B.exec B.bytes hK hP1 hD1 hS1 q7 1 hq4 rfl (vp_in_iff.mpr ⟨by decide, by decide⟩) (show decode cL_look 9 = .ok (.lastore, 1) by decide +kernel) (fun H2 locs2 hP2 hD2 hS2 => ?_)
    rw [show (0 : Int32).toNatClampNeg = 0 from rfl, wsM_stJ hq3 rfl] at hP2
    refine lv_goto B.exec B.bytes (tgt := 21) (show decode cL_look 10 = .ok (.goto 11, 3) by decide +kernel) (by decide) ?_
    refine lv_iconst (v := 0) B.exec B.bytes (n := 0) (show decode cL_look 21 = .ok (.iconst 0, 1) by decide +kernel) (by decide) ?_
    exact W.iret B.exec B.bytes B.returns (fun t2 ht2 hW2 => ⟨⟨0, sJ u 5737 0 r.toInt64, rfl, LI_sJ hpost, by show va_P (dC, dI) classes (wsM ad dA (sJ u 5737 0 r.toInt64)) t2.heap; rw [ht2]; exact hP2⟩, hS2.F ht2⟩) hS2.2.2 (show decode cL_look 22 = .ok (.ireturn, 1) by decide +kernel) hlocks
end LookB
section LookC
variable {p : Program} {l : Launch} {e : Env} {R : Room} {s : State} {mid : MethodId} {args : Array Value} {below : List Frame} {meth : Method} {c : Code} {dC : Nat → ClassId} {dI : Nat → Nat → Nat} {dA : Nat → ClassId} {ad : Nat → Nat} {b : Nat} {A : Nat → Prop} {Qf : State → Prop} {L : Nat} {xs : Nat → Int32}
set_option maxRecDepth 20000 in
theorem look_ok (hfl : l.stackTraces = false) (hX : ∃ sa sb, XcN A sa sb s s.heap) (hC : ∀ C S : Nat, C ≤ 601024 → S ≤ 7293034 → Cx (32, L, xs) mL_law p R s mid args c dC dI dA A C S b) : LookOk p l e R s mid args below meth c dC dI dA ad b A Qf := by
  intro C S m a0 a1 i x5 x6 h1 h2 hL kk H locs la hl hs1 hE hS hLs
  obtain ⟨sa, sb, hX⟩ := hX
  have hC0 := hC C S (by omega) (by omega)
  have hF := aft hC0 hE hS
  obtain ⟨r1, r2, r3, r4⟩ := hC0.2.2.2.2.2.2.2.2.1
  obtain ⟨-, -, r5, r6⟩ := (hC (C + 1) (S + 6) h1 h2).2.2.2.2.2.2.2.2.1
  have r1 : 32 + 4 ≤ R.frames := r1
  have r2 : 64 * 32 + 256 ≤ R.locals := r2
  have hGd : GoodIn wsG (va_wsS "SaleRoundsLaw" 39 yL_look wsKL) := goodG (fun w hw => by
    simp only [va_wsS, List.cons_append, List.nil_append, List.mem_cons] at hw
    rcases hw with rfl | rfl | rfl | hw
    · exact wL2
    · exact wL3
    · exact tw1 0 rfl rfl
    · exact (List.mem_cons.mp hw).elim (fun q => q ▸ wL1) id)
  refine va_calli (A0 := A) (vx_runSW (As := [.ref (ad 6), .int a0, .int a1, .ref (ad 5737)]) (rest := []) (hh := hhL) (own := "SaleRoundsLaw") (index := 39) (bytes := cL_look) (maxL := 5) (ret := some .int) (n := 4) (nL := 7) ⟨hC0.1, hC0.2.1, hC0.2.2.1, hC0.2.2.2.1, hC0.2.2.2.2.1⟩ (mt_look (sa := sa) (sb := sb) (dC := dC) (dI := dI) (dA := dA) (ad := ad) (sz := H.size) hfl hL a0 a1)
    (vx_cwSW 4 hC0.2.2.2.2.1 hGd rfl rfl rfl (by decide +kernel) ⟨by show 12 + 1 ≤ R.frames; omega, by show 8 + (5 + 11) + 64 * 12 ≤ R.locals; omega⟩)
    ⟨blindN, fun U hU hW => ⟨rfl, by rw [hU], by rw [hU]; exact hE.1, va_K.moved hW.alike hC0.2.2.2.2.2.2.1, hE.2.1.weaken (fun _ _ _ _ => trivial), hE.2.2, fun q hq => va_Nw.warmM hW (hC0.2.2.2.2.2.1 q hq), fun v hv => hs1 v (by simp at hv ⊢; rcases hv with h | h | h | h <;> simp [h]), by rw [hU]; exact hC0.2.2.2.2.2.2.2.2.2.2.to hS.2.1 (fun q h => hF q h) hW, by rw [hU]; exact hX.to hS.2.1 (fun q h => hF q h) hW⟩⟩ rfl rfl hLs.1 rfl (Nat.le_of_ble_eq_true rfl) (show decode code 330 = .ok (.invokestatic 39, 3) by decide +kernel) ⟨r5, r6⟩) hS (fun q _ h => hF q h) hF (fun v u t H1 locs1 ht hvm hpost hB hz1 hk1 hS1 => ?_)
  exact kk v u hpost H1 locs1 la hl (fun v hv => by simp at hv; rw [hv]; trivial) ⟨by rw [← ht]; exact hB, wsM_D _ hE.2.1, LI_okB hpost⟩ hS1 hLs
end LookC
theorem xcn_ok {b : Nat} {s : State} (hts : ∀ w ∈ lw_tbl, w.before #[Value.ref b] s = true) (hgv : (Jvm.Cond.and given_1 narrow_1).before #[Value.ref b] s = true) : ∃ sa sb, XcN (fun q => s.heap.size ≤ q) sa sb s s.heap := by
  have hs := flat_of_before _ hgv
  obtain ⟨sa, hx⟩ := xc_ok hts hgv
  have hst : (Cond.stringRef "SaleRounds" 152 "no such what").before #[Value.ref b] s = true := hts _ (List.mem_of_getElem? (i := 987) (by decide +kernel))
  have hex : (Cond.exactly (Term.string "SaleRounds" 152) "java/lang/String").before #[Value.ref b] s = true := hs _ (by decide +kernel)
  obtain ⟨sb, _, _, _, hev, -⟩ := Cond.exactly_spec hex
  refine ⟨sa, sb, hx, fun w hw => ?_, vk_R.of hst hev, va_Nc.of (hs _ (by decide +kernel))⟩
  have ht := ndM_tab w hw
  simp only [ndM, List.mem_cons, List.not_mem_nil, or_false] at hw
  rcases hw with rfl | rfl | rfl | rfl
  · exact va_Nw.of ht (hts _ (List.mem_of_getElem? (i := 915) (by decide +kernel)))
  · exact va_Nw.of ht (hts _ (List.mem_of_getElem? (i := 917) (by decide +kernel)))
  · exact va_Nw.of ht (hts _ (List.mem_of_getElem? (i := 919) (by decide +kernel)))
  · exact va_Nw.of ht (hts _ (List.mem_of_getElem? (i := 980) (by decide +kernel)))
