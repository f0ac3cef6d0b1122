/-! contracts -/
set_option maxRecDepth 100000 in
def adX7_sell (D : KK) : List ACE := (0, 1, some (aAl 0)) :: (1, 1, some (aIc (0))) :: (2, 3, some (aPutI D 7 0)) :: (5, 1, some (aAl 0)) :: (6, 1, some (aIl 1)) :: (7, 3, some (aCall D 7 2 2 csX7_isFirm)) :: (10, 3, some (aIf bEq bNe 75)) :: (13, 1, some (aAl 0)) :: (14, 1, some (aIl 2)) :: (15, 3, some (aCall D 7 2 2 csX7_isFirm)) :: (18, 3, some (aIf bEq bNe 75)) :: (21, 1, some (aIl 1)) :: (22, 1, some (aIl 2)) :: (23, 3, some (aCm bEq bNe 75)) :: (26, 1, some (aIl 3)) :: (27, 1, some (aIc (1))) :: (28, 3, some (aCm bLt (fun C x y => bLe C y x) 75)) :: (31, 1, some (aIl 3)) :: (32, 3, some (aIc (999))) :: (35, 3, some (aCm (fun C x y => bLt C y x) bLe 75)) :: (38, 2, some (aIl 4)) :: (40, 3, some (aIf bLt (fun C x y => bLe C y x) 75)) :: (43, 2, some (aIl 4)) :: (45, 1, some (aAl 0)) :: (46, 3, some (aGetI D 7 4)) :: (49, 3, some (aCm (fun C x y => bLe C y x) bLt 75)) :: (52, 2, some (aIl 5)) :: (54, 1, some (aIc (1))) :: (55, 3, some (aCm bLt (fun C x y => bLe C y x) 75)) :: (58, 2, some (aIl 5)) :: (60, 3, some (aIc (999))) :: (63, 3, some (aCm (fun C x y => bLt C y x) bLe 75)) :: (66, 1, some (aAl 0)) :: (67, 3, some (aGetI D 7 6)) :: (70, 2, some (aIc (40))) :: (72, 3, some (aCm bNe bEq 77)) :: (75, 1, some (aIc (-1))) :: (76, 1, some (aIret)) :: (77, 2, some (aIl 6)) :: (79, 1, some (aAl 0)) :: (80, 3, some (aGetR [(1175, 99592)])) :: (83, 1, some (aIl 1)) :: (84, 1, some (aIald D)) :: (85, 3, some (aCm bLt (fun C x y => bLe C y x) 119)) :: (88, 2, some (aIl 6)) :: (90, 1, some (aAl 0)) :: (91, 3, some (aGetR [(1175, 99592)])) :: (94, 1, some (aIl 2)) :: (95, 1, some (aIald D)) :: (96, 3, some (aCm bLt (fun C x y => bLe C y x) 119)) :: (99, 2, some (aIl 6)) :: (101, 3, some (aIc (400))) :: (104, 3, some (aCm (fun C x y => bLt C y x) bLe 119)) :: (107, 2, some (aIl 7)) :: (109, 3, some (aIf bLt (fun C x y => bLe C y x) 119)) :: (112, 2, some (aIl 7)) :: (114, 2, some (aIc (99))) :: (116, 3, some (aCm bLe (fun C x y => bLt C y x) 121)) :: (119, 1, some (aIc (-1))) :: (120, 1, some (aIret)) :: (121, 1, some (aAl 0)) :: (122, 3, some (aGetR [(1175, 329048)])) :: (125, 1, some (aAl 0)) :: (126, 3, some (aGetI D 7 6)) :: (129, 1, some (aIl 1)) :: (130, 1, some (aIast D)) :: (131, 1, some (aAl 0)) :: (132, 3, some (aGetR [(1175, 329064)])) :: (135, 1, some (aAl 0)) :: (136, 3, some (aGetI D 7 6)) :: (139, 1, some (aIl 2)) :: (140, 1, some (aIast D)) :: (141, 1, some (aAl 0)) :: (142, 3, some (aGetR [(1175, 329080)])) :: (145, 1, some (aAl 0)) :: (146, 3, some (aGetI D 7 6)) :: (149, 1, some (aIl 3)) :: (150, 1, some (aIast D)) :: (151, 1, some (aAl 0)) :: (152, 3, some (aGetR [(1175, 329096)])) :: (155, 1, some (aAl 0)) :: (156, 3, some (aGetI D 7 6)) :: (159, 2, some (aIl 4)) :: (161, 1, some (aIast D)) :: (162, 1, some (aAl 0)) :: (163, 3, some (aGetR [(1175, 329112)])) :: (166, 1, some (aAl 0)) :: (167, 3, some (aGetI D 7 6)) :: (170, 2, some (aIl 5)) :: (172, 1, some (aIast D)) :: (173, 1, some (aAl 0)) :: (174, 3, some (aGetR [(1175, 329128)])) :: (177, 1, some (aAl 0)) :: (178, 3, some (aGetI D 7 6)) :: (181, 2, some (aIl 6)) :: (183, 1, some (aIast D)) :: (184, 1, some (aAl 0)) :: (185, 3, some (aGetR [(1175, 329144)])) :: (188, 1, some (aAl 0)) :: (189, 3, some (aGetI D 7 6)) :: (192, 2, some (aIl 7)) :: (194, 1, some (aIast D)) :: (195, 1, some (aAl 0)) :: (196, 1, some (aDup)) :: (197, 3, some (aGetI D 7 6)) :: (200, 1, some (aIc (1))) :: (201, 1, some (aBin fAdd)) :: (202, 3, some (aPutI D 7 6)) :: (205, 1, some (aAl 0)) :: (206, 3, some (aGetI D 7 6)) :: (209, 1, some (aIc (1))) :: (210, 1, some (aBin fSub)) :: (211, 1, some (aIret)) :: []
set_option maxRecDepth 100000 in
set_option maxHeartbeats 4000000 in
theorem snX7_sell (d : Nat) (W : List Nat) (c : Nat × Nat) (hc : c = cA ∨ c = cB) : SndAll (d, TYg, c, W) cdX7_sell (adX7_sell (d, TYg, c, W)) := by
  unfold cdX7_sell adX7_sell
  refine sn_op sAl ?_
  refine sn_op (sIc (n := 0) (by decide)) ?_
  refine sn_op sPutI ?_
  refine sn_op sAl ?_
  refine sn_op sIl ?_
  refine sn_op (sCI (sfX7_isFirm c hc) (by decide) (by decide +kernel)) ?_
  refine sn_op sIfEq ?_
  refine sn_op sAl ?_
  refine sn_op sIl ?_
  refine sn_op (sCI (sfX7_isFirm c hc) (by decide) (by decide +kernel)) ?_
  refine sn_op sIfEq ?_
  refine sn_op sIl ?_
  refine sn_op sIl ?_
  refine sn_op sCmEq ?_
  refine sn_op sIl ?_
  refine sn_op (sIc (n := 1) (by decide)) ?_
  refine sn_op sCmLt ?_
  refine sn_op sIl ?_
  refine sn_op (sIc (n := 999) (by decide)) ?_
  refine sn_op sCmGt ?_
  refine sn_op sIl ?_
  refine sn_op sIfLt ?_
  refine sn_op sIl ?_
  refine sn_op sAl ?_
  refine sn_op sGetI ?_
  refine sn_op sCmGe ?_
  refine sn_op sIl ?_
  refine sn_op (sIc (n := 1) (by decide)) ?_
  refine sn_op sCmLt ?_
  refine sn_op sIl ?_
  refine sn_op (sIc (n := 999) (by decide)) ?_
  refine sn_op sCmGt ?_
  refine sn_op sAl ?_
  refine sn_op sGetI ?_
  refine sn_op (sIc (n := 40) (by decide)) ?_
  refine sn_op sCmNe ?_
  refine sn_op (sIc (n := -1) (by decide)) ?_
  refine sn_op sIret ?_
  refine sn_op sIl ?_
  refine sn_op sAl ?_
  refine sn_op sGetR ?_
  refine sn_op sIl ?_
  refine sn_op sIald ?_
  refine sn_op sCmLt ?_
  refine sn_op sIl ?_
  refine sn_op sAl ?_
  refine sn_op sGetR ?_
  refine sn_op sIl ?_
  refine sn_op sIald ?_
  refine sn_op sCmLt ?_
  refine sn_op sIl ?_
  refine sn_op (sIc (n := 400) (by decide)) ?_
  refine sn_op sCmGt ?_
  refine sn_op sIl ?_
  refine sn_op sIfLt ?_
  refine sn_op sIl ?_
  refine sn_op (sIc (n := 99) (by decide)) ?_
  refine sn_op sCmLe ?_
  refine sn_op (sIc (n := -1) (by decide)) ?_
  refine sn_op sIret ?_
  refine sn_op sAl ?_
  refine sn_op sGetR ?_
  refine sn_op sAl ?_
  refine sn_op sGetI ?_
  refine sn_op sIl ?_
  refine sn_op sIast ?_
  refine sn_op sAl ?_
  refine sn_op sGetR ?_
  refine sn_op sAl ?_
  refine sn_op sGetI ?_
  refine sn_op sIl ?_
  refine sn_op sIast ?_
  refine sn_op sAl ?_
  refine sn_op sGetR ?_
  refine sn_op sAl ?_
  refine sn_op sGetI ?_
  refine sn_op sIl ?_
  refine sn_op sIast ?_
  refine sn_op sAl ?_
  refine sn_op sGetR ?_
  refine sn_op sAl ?_
  refine sn_op sGetI ?_
  refine sn_op sIl ?_
  refine sn_op sIast ?_
  refine sn_op sAl ?_
  refine sn_op sGetR ?_
  refine sn_op sAl ?_
  refine sn_op sGetI ?_
  refine sn_op sIl ?_
  refine sn_op sIast ?_
  refine sn_op sAl ?_
  refine sn_op sGetR ?_
  refine sn_op sAl ?_
  refine sn_op sGetI ?_
  refine sn_op sIl ?_
  refine sn_op sIast ?_
  refine sn_op sAl ?_
  refine sn_op sGetR ?_
  refine sn_op sAl ?_
  refine sn_op sGetI ?_
  refine sn_op sIl ?_
  refine sn_op sIast ?_
  refine sn_op sAl ?_
  refine sn_op sDup ?_
  refine sn_op sGetI ?_
  refine sn_op (sIc (n := 1) (by decide)) ?_
  refine sn_op sIadd ?_
  refine sn_op sPutI ?_
  refine sn_op sAl ?_
  refine sn_op sGetI ?_
  refine sn_op (sIc (n := 1) (by decide)) ?_
  refine sn_op sIsub ?_
  refine sn_op sIret ?_
  exact sn_nil
def csX7_sell : List AC := [([(2, 1175, 0), (0, -2147483648, 2147483647), (0, -2147483648, 2147483647), (0, -2147483648, 2147483647), (0, -2147483648, 2147483647), (0, -2147483648, 2147483647), (0, -2147483648, 2147483647), (0, -2147483648, 2147483647)], 2, [((0, -1, -1), [((1175, 0), (0, 0))], []), ((0, 0, 39), [((1175, 0), (0, 0)), ((1175, 4), (1, 4)), ((1175, 5), (1, 12)), ((1175, 6), (1, 40))], [(1, (0, 11)), (2, (0, 11)), (3, (1, 999)), (4, (0, 3)), (5, (1, 999)), (6, (-2147483648, 400)), (7, (0, 99))])], [329048, 329064, 329080, 329096, 329112, 329128, 329144, 4294968471, 30064772247], [])]
set_option maxRecDepth 100000 in
set_option maxHeartbeats 4000000 in
theorem sfX7_sell (c : Nat × Nat) (hc : c = cA ∨ c = cB) : ∀ ac ∈ csX7_sell, SafeC TYg c mX7_sell ac := by
  intro ac hac
  simp only [csX7_sell, List.mem_cons, List.not_mem_nil, or_false] at hac
  rcases hac with rfl
  · rcases hc with rfl | rfl
    · exact safe_of (ann := []) (fuel := 600) okX7_sell (snX7_sell _ _ cA (Or.inl rfl)) (fun q hq => by cases hq) (by decide) (by decide +kernel)
    · exact safe_of (ann := []) (fuel := 600) okX7_sell (snX7_sell _ _ cB (Or.inr rfl)) (fun q hq => by cases hq) (by decide) (by decide +kernel)
set_option maxRecDepth 100000 in
def adX7_soldUnder (D : KK) : List ACE := (0, 1, some (aIc (0))) :: (1, 1, some (aIs 2)) :: (2, 0, none) :: (2, 1, some (aIl 2)) :: (3, 1, some (aAl 0)) :: (4, 3, some (aGetI D 7 6)) :: (7, 3, some (aCm (fun C x y => bLe C y x) bLt 99)) :: (10, 1, some (aIc (0))) :: (11, 1, some (aIs 3)) :: (12, 0, none) :: (12, 1, some (aIl 3)) :: (13, 1, some (aAl 0)) :: (14, 3, some (aGetI D 7 6)) :: (17, 3, some (aCm (fun C x y => bLe C y x) bLt 93)) :: (20, 1, some (aAl 0)) :: (21, 3, some (aGetR [(1175, 329048)])) :: (24, 1, some (aIl 2)) :: (25, 1, some (aIald D)) :: (26, 1, some (aIl 1)) :: (27, 3, some (aCm bNe bEq 93)) :: (30, 1, some (aAl 0)) :: (31, 3, some (aGetR [(1175, 329064)])) :: (34, 1, some (aIl 3)) :: (35, 1, some (aIald D)) :: (36, 1, some (aIl 1)) :: (37, 3, some (aCm bNe bEq 87)) :: (40, 1, some (aAl 0)) :: (41, 3, some (aGetR [(1175, 329096)])) :: (44, 1, some (aIl 3)) :: (45, 1, some (aIald D)) :: (46, 1, some (aAl 0)) :: (47, 3, some (aGetR [(1175, 329096)])) :: (50, 1, some (aIl 2)) :: (51, 1, some (aIald D)) :: (52, 3, some (aCm bNe bEq 87)) :: (55, 1, some (aAl 0)) :: (56, 3, some (aGetR [(1175, 329128)])) :: (59, 1, some (aIl 3)) :: (60, 1, some (aIald D)) :: (61, 1, some (aAl 0)) :: (62, 3, some (aGetR [(1175, 329128)])) :: (65, 1, some (aIl 2)) :: (66, 1, some (aIald D)) :: (67, 3, some (aCm (fun C x y => bLt C y x) bLe 87)) :: (70, 1, some (aAl 0)) :: (71, 3, some (aGetR [(1175, 329112)])) :: (74, 1, some (aIl 2)) :: (75, 1, some (aIald D)) :: (76, 1, some (aAl 0)) :: (77, 3, some (aGetR [(1175, 329112)])) :: (80, 1, some (aIl 3)) :: (81, 1, some (aIald D)) :: (82, 3, some (aCm (fun C x y => bLe C y x) bLt 87)) :: (85, 1, some (aIc (1))) :: (86, 1, some (aZret)) :: (87, 3, some (aInc 3 (1))) :: (90, 3, some (aGoto 12)) :: (93, 3, some (aInc 2 (1))) :: (96, 3, some (aGoto 2)) :: (99, 1, some (aIc (0))) :: (100, 1, some (aZret)) :: []
set_option maxRecDepth 100000 in
set_option maxHeartbeats 4000000 in
theorem snX7_soldUnder (d : Nat) (W : List Nat) (c : Nat × Nat) (hc : c = cA ∨ c = cB) : SndAll (d, TYg, c, W) cdX7_soldUnder (adX7_soldUnder (d, TYg, c, W)) := by
  unfold cdX7_soldUnder adX7_soldUnder
  refine sn_op (sIc (n := 0) (by decide)) ?_
  refine sn_op sIs ?_
  refine sn_st ?_
  refine sn_op sIl ?_
  refine sn_op sAl ?_
  refine sn_op sGetI ?_
  refine sn_op sCmGe ?_
  refine sn_op (sIc (n := 0) (by decide)) ?_
  refine sn_op sIs ?_
  refine sn_st ?_
  refine sn_op sIl ?_
  refine sn_op sAl ?_
  refine sn_op sGetI ?_
  refine sn_op sCmGe ?_
  refine sn_op sAl ?_
  refine sn_op sGetR ?_
  refine sn_op sIl ?_
  refine sn_op sIald ?_
  refine sn_op sIl ?_
  refine sn_op sCmNe ?_
  refine sn_op sAl ?_
  refine sn_op sGetR ?_
  refine sn_op sIl ?_
  refine sn_op sIald ?_
  refine sn_op sIl ?_
  refine sn_op sCmNe ?_
  refine sn_op sAl ?_
  refine sn_op sGetR ?_
  refine sn_op sIl ?_
  refine sn_op sIald ?_
  refine sn_op sAl ?_
  refine sn_op sGetR ?_
  refine sn_op sIl ?_
  refine sn_op sIald ?_
  refine sn_op sCmNe ?_
  refine sn_op sAl ?_
  refine sn_op sGetR ?_
  refine sn_op sIl ?_
  refine sn_op sIald ?_
  refine sn_op sAl ?_
  refine sn_op sGetR ?_
  refine sn_op sIl ?_
  refine sn_op sIald ?_
  refine sn_op sCmGt ?_
  refine sn_op sAl ?_
  refine sn_op sGetR ?_
  refine sn_op sIl ?_
  refine sn_op sIald ?_
  refine sn_op sAl ?_
  refine sn_op sGetR ?_
  refine sn_op sIl ?_
  refine sn_op sIald ?_
  refine sn_op sCmGe ?_
  refine sn_op (sIc (n := 1) (by decide)) ?_
  refine sn_op sZret ?_
  refine sn_op (sInc (n := 1) (by decide)) ?_
  refine sn_op sGoto ?_
  refine sn_op (sInc (n := 1) (by decide)) ?_
  refine sn_op sGoto ?_
  refine sn_op (sIc (n := 0) (by decide)) ?_
  refine sn_op sZret ?_
  exact sn_nil
def csX7_soldUnder : List AC := [([(2, 1175, 0), (0, 0, 0)], 1, [((0, 0, 0), [], []), ((0, 1, 1), [((1175, 6), (1, 40))], [])], [], []), ([(2, 1175, 0), (0, 0, 11)], 1, [((0, 0, 0), [], []), ((0, 1, 1), [((1175, 6), (1, 40))], [])], [], [])]
set_option maxRecDepth 100000 in
set_option maxHeartbeats 4000000 in
theorem sfX7_soldUnder (c : Nat × Nat) (hc : c = cA ∨ c = cB) : ∀ ac ∈ csX7_soldUnder, SafeC TYg c mX7_soldUnder ac := by
  intro ac hac
  simp only [csX7_soldUnder, List.mem_cons, List.not_mem_nil, or_false] at hac
  rcases hac with rfl | rfl
  · rcases hc with rfl | rfl
    · exact safe_of (ann := [(2, [(2, 1175, 0), (0, 0, 0), (0, 0, 40), (4, 0, 0)], [(0, 2, 0, 4294967296), (3, 0, 0, 2)]), (12, [(2, 1175, 0), (0, 0, 0), (0, 0, 39), (0, 0, 40)], [(0, 2, 0, 4294967296), (3, 0, 0, 1), (0, 3, 0, 4294967296)])]) (fuel := 600) okX7_soldUnder (snX7_soldUnder _ _ cA (Or.inl rfl)) (List.forall_mem_cons.mpr ⟨⟨_, _, rfl⟩, List.forall_mem_cons.mpr ⟨⟨_, _, rfl⟩, (fun q hq => by cases hq)⟩⟩) (by decide) (by decide +kernel)
    · exact safe_of (ann := [(2, [(2, 1175, 0), (0, 0, 0), (0, 0, 40), (4, 0, 0)], [(0, 2, 0, 4294967296), (3, 0, 0, 2)]), (12, [(2, 1175, 0), (0, 0, 0), (0, 0, 39), (0, 0, 40)], [(0, 2, 0, 4294967296), (3, 0, 0, 1), (0, 3, 0, 4294967296)])]) (fuel := 600) okX7_soldUnder (snX7_soldUnder _ _ cB (Or.inr rfl)) (List.forall_mem_cons.mpr ⟨⟨_, _, rfl⟩, List.forall_mem_cons.mpr ⟨⟨_, _, rfl⟩, (fun q hq => by cases hq)⟩⟩) (by decide) (by decide +kernel)
  · rcases hc with rfl | rfl
    · exact safe_of (ann := [(2, [(2, 1175, 0), (0, 0, 11), (0, 0, 40), (4, 0, 0)], [(0, 2, 0, 4294967296), (3, 0, 0, 2)]), (12, [(2, 1175, 0), (0, 0, 11), (0, 0, 39), (0, 0, 40)], [(0, 2, 0, 4294967296), (3, 0, 0, 1), (0, 3, 0, 4294967296)])]) (fuel := 600) okX7_soldUnder (snX7_soldUnder _ _ cA (Or.inl rfl)) (List.forall_mem_cons.mpr ⟨⟨_, _, rfl⟩, List.forall_mem_cons.mpr ⟨⟨_, _, rfl⟩, (fun q hq => by cases hq)⟩⟩) (by decide) (by decide +kernel)
    · exact safe_of (ann := [(2, [(2, 1175, 0), (0, 0, 11), (0, 0, 40), (4, 0, 0)], [(0, 2, 0, 4294967296), (3, 0, 0, 2)]), (12, [(2, 1175, 0), (0, 0, 11), (0, 0, 39), (0, 0, 40)], [(0, 2, 0, 4294967296), (3, 0, 0, 1), (0, 3, 0, 4294967296)])]) (fuel := 600) okX7_soldUnder (snX7_soldUnder _ _ cB (Or.inr rfl)) (List.forall_mem_cons.mpr ⟨⟨_, _, rfl⟩, List.forall_mem_cons.mpr ⟨⟨_, _, rfl⟩, (fun q hq => by cases hq)⟩⟩) (by decide) (by decide +kernel)
set_option maxRecDepth 100000 in
def adX7_signsOf (D : KK) : List ACE := (0, 1, some (aAl 0)) :: (1, 1, some (aIl 1)) :: (2, 3, some (aCall D 7 2 4 csX7_soldUnder)) :: (5, 3, some (aIf bEq bNe 12)) :: (8, 1, some (aIc (1))) :: (9, 3, some (aGoto 13)) :: (12, 1, some (aIc (0))) :: (13, 1, some (aAl 0)) :: (14, 1, some (aIl 1)) :: (15, 3, some (aCall D 7 2 4 csX7_boughtOfSuch)) :: (18, 3, some (aIf bEq bNe 25)) :: (21, 1, some (aIc (2))) :: (22, 3, some (aGoto 26)) :: (25, 1, some (aIc (0))) :: (26, 1, some (aBin fAdd)) :: (27, 1, some (aAl 0)) :: (28, 1, some (aIl 1)) :: (29, 3, some (aCall D 7 2 4 csX7_roundsWith)) :: (32, 1, some (aIc (1))) :: (33, 3, some (aCm bLe (fun C x y => bLt C y x) 40)) :: (36, 1, some (aIc (4))) :: (37, 3, some (aGoto 41)) :: (40, 1, some (aIc (0))) :: (41, 1, some (aBin fAdd)) :: (42, 1, some (aAl 0)) :: (43, 1, some (aIl 1)) :: (44, 3, some (aCall D 7 2 3 csX7_hasMissing)) :: (47, 3, some (aIf bEq bNe 55)) :: (50, 2, some (aIc (8))) :: (52, 3, some (aGoto 56)) :: (55, 1, some (aIc (0))) :: (56, 1, some (aBin fAdd)) :: (57, 1, some (aIret)) :: []
set_option maxRecDepth 100000 in
set_option maxHeartbeats 4000000 in
theorem snX7_signsOf (d : Nat) (W : List Nat) (c : Nat × Nat) (hc : c = cA ∨ c = cB) : SndAll (d, TYg, c, W) cdX7_signsOf (adX7_signsOf (d, TYg, c, W)) := by
  unfold cdX7_signsOf adX7_signsOf
  refine sn_op sAl ?_
  refine sn_op sIl ?_
  refine sn_op (sCI (sfX7_soldUnder c hc) (by decide) (by decide +kernel)) ?_
  refine sn_op sIfEq ?_
  refine sn_op (sIc (n := 1) (by decide)) ?_
  refine sn_op sGoto ?_
  refine sn_op (sIc (n := 0) (by decide)) ?_
  refine sn_op sAl ?_
  refine sn_op sIl ?_
  refine sn_op (sCI (sfX7_boughtOfSuch c hc) (by decide) (by decide +kernel)) ?_
  refine sn_op sIfEq ?_
  refine sn_op (sIc (n := 2) (by decide)) ?_
  refine sn_op sGoto ?_
  refine sn_op (sIc (n := 0) (by decide)) ?_
  refine sn_op sIadd ?_
  refine sn_op sAl ?_
  refine sn_op sIl ?_
  refine sn_op (sCI (sfX7_roundsWith c hc) (by decide) (by decide +kernel)) ?_
  refine sn_op (sIc (n := 1) (by decide)) ?_
  refine sn_op sCmLe ?_
  refine sn_op (sIc (n := 4) (by decide)) ?_
  refine sn_op sGoto ?_
  refine sn_op (sIc (n := 0) (by decide)) ?_
  refine sn_op sIadd ?_
  refine sn_op sAl ?_
  refine sn_op sIl ?_
  refine sn_op (sCI (sfX7_hasMissing c hc) (by decide) (by decide +kernel)) ?_
  refine sn_op sIfEq ?_
  refine sn_op (sIc (n := 8) (by decide)) ?_
  refine sn_op sGoto ?_
  refine sn_op (sIc (n := 0) (by decide)) ?_
  refine sn_op sIadd ?_
  refine sn_op sIret ?_
  exact sn_nil
def csX7_signsOf : List AC := [([(2, 1175, 0), (0, 0, 0)], 7, [((0, 0, 15), [], [])], [], []), ([(2, 1175, 0), (0, 0, 11)], 7, [((0, 0, 15), [], [])], [], [])]
set_option maxRecDepth 100000 in
set_option maxHeartbeats 4000000 in
theorem sfX7_signsOf (c : Nat × Nat) (hc : c = cA ∨ c = cB) : ∀ ac ∈ csX7_signsOf, SafeC TYg c mX7_signsOf ac := by
  intro ac hac
  simp only [csX7_signsOf, List.mem_cons, List.not_mem_nil, or_false] at hac
  rcases hac with rfl | rfl
  · rcases hc with rfl | rfl
    · exact safe_of (ann := []) (fuel := 600) okX7_signsOf (snX7_signsOf _ _ cA (Or.inl rfl)) (fun q hq => by cases hq) (by decide) (by decide +kernel)
    · exact safe_of (ann := []) (fuel := 600) okX7_signsOf (snX7_signsOf _ _ cB (Or.inr rfl)) (fun q hq => by cases hq) (by decide) (by decide +kernel)
  · rcases hc with rfl | rfl
    · exact safe_of (ann := []) (fuel := 600) okX7_signsOf (snX7_signsOf _ _ cA (Or.inl rfl)) (fun q hq => by cases hq) (by decide) (by decide +kernel)
    · exact safe_of (ann := []) (fuel := 600) okX7_signsOf (snX7_signsOf _ _ cB (Or.inr rfl)) (fun q hq => by cases hq) (by decide) (by decide +kernel)
set_option maxRecDepth 100000 in
def adX7_stop (D : KK) : List ACE := (0, 1, some (aAl 0)) :: (1, 1, some (aIc (0))) :: (2, 3, some (aPutI D 7 0)) :: (5, 1, some (aIl 1)) :: (6, 3, some (aIf bLt (fun C x y => bLe C y x) 19)) :: (9, 1, some (aIl 1)) :: (10, 1, some (aIc (1))) :: (11, 1, some (aAl 0)) :: (12, 3, some (aGetI D 7 5)) :: (15, 1, some (aBin fTop)) :: (16, 3, some (aCm bLt (fun C x y => bLe C y x) 21)) :: (19, 1, some (aIc (-1))) :: (20, 1, some (aIret)) :: (21, 1, some (aAl 0)) :: (22, 1, some (aIl 1)) :: (23, 3, some (aPutI D 7 39)) :: (26, 1, some (aIl 1)) :: (27, 3, some (aCall D 16 1 3 csX7_bits)) :: (30, 1, some (aIret)) :: []
set_option maxRecDepth 100000 in
set_option maxHeartbeats 4000000 in
theorem snX7_stop (d : Nat) (W : List Nat) (c : Nat × Nat) (hc : c = cA ∨ c = cB) : SndAll (d, TYg, c, W) cdX7_stop (adX7_stop (d, TYg, c, W)) := by
  unfold cdX7_stop adX7_stop
  refine sn_op sAl ?_
  refine sn_op (sIc (n := 0) (by decide)) ?_
  refine sn_op sPutI ?_
  refine sn_op sIl ?_
  refine sn_op sIfLt ?_
  refine sn_op sIl ?_
  refine sn_op (sIc (n := 1) (by decide)) ?_
  refine sn_op sAl ?_
  refine sn_op sGetI ?_
  refine sn_op sIshl ?_
  refine sn_op sCmLt ?_
  refine sn_op (sIc (n := -1) (by decide)) ?_
  refine sn_op sIret ?_
  refine sn_op sAl ?_
  refine sn_op sIl ?_
  refine sn_op sPutI ?_
  refine sn_op sIl ?_
  refine sn_op (sCI (sfX7_bits c hc) (by decide) (by decide +kernel)) ?_
  refine sn_op sIret ?_
  exact sn_nil
def csX7_stop : List AC := [([(2, 1175, 0), (0, -2147483648, 2147483647)], 2, [((0, -2147483648, 2147483647), [((1175, 0), (0, 0)), ((1175, 39), (0, 2147483646))], [(1, (0, 2147483646))]), ((0, -1, -1), [((1175, 0), (0, 0))], [])], [4294968471, 171798693015], [])]
set_option maxRecDepth 100000 in
set_option maxHeartbeats 4000000 in
theorem sfX7_stop (c : Nat × Nat) (hc : c = cA ∨ c = cB) : ∀ ac ∈ csX7_stop, SafeC TYg c mX7_stop ac := by
  intro ac hac
  simp only [csX7_stop, List.mem_cons, List.not_mem_nil, or_false] at hac
  rcases hac with rfl
  · rcases hc with rfl | rfl
    · exact safe_of (ann := []) (fuel := 600) okX7_stop (snX7_stop _ _ cA (Or.inl rfl)) (fun q hq => by cases hq) (by decide) (by decide +kernel)
    · exact safe_of (ann := []) (fuel := 600) okX7_stop (snX7_stop _ _ cB (Or.inr rfl)) (fun q hq => by cases hq) (by decide) (by decide +kernel)
set_option maxRecDepth 100000 in
def adX7_wrong (D : KK) : List ACE := (0, 1, some (aAl 0)) :: (1, 3, some (aGetI D 7 35)) :: (4, 3, some (aIf bEq bNe 8)) :: (7, 1, some (aVret)) :: (8, 1, some (aAl 0)) :: (9, 1, some (aIl 1)) :: (10, 3, some (aPutI D 7 35)) :: (13, 1, some (aAl 0)) :: (14, 1, some (aAl 0)) :: (15, 3, some (aGetI D 7 32)) :: (18, 3, some (aPutI D 7 36)) :: (21, 1, some (aVret)) :: []
set_option maxRecDepth 100000 in
set_option maxHeartbeats 4000000 in
theorem snX7_wrong (d : Nat) (W : List Nat) (c : Nat × Nat) (hc : c = cA ∨ c = cB) : SndAll (d, TYg, c, W) cdX7_wrong (adX7_wrong (d, TYg, c, W)) := by
  unfold cdX7_wrong adX7_wrong
  refine sn_op sAl ?_
  refine sn_op sGetI ?_
  refine sn_op sIfEq ?_
  refine sn_op sVret ?_
  refine sn_op sAl ?_
  refine sn_op sIl ?_
  refine sn_op sPutI ?_
  refine sn_op sAl ?_
  refine sn_op sAl ?_
  refine sn_op sGetI ?_
  refine sn_op sPutI ?_
  refine sn_op sVret ?_
  exact sn_nil
def csX7_wrong : List AC := [([(2, 1175, 0), (0, 1, 1)], 1, [((9, 0, 0), [((1175, 35), (1, 5))], [])], [154618823831, 158913791127], []), ([(2, 1175, 0), (0, 2, 2)], 1, [((9, 0, 0), [((1175, 35), (1, 5))], [])], [154618823831, 158913791127], []), ([(2, 1175, 0), (0, 3, 3)], 1, [((9, 0, 0), [((1175, 35), (1, 5))], [])], [154618823831, 158913791127], []), ([(2, 1175, 0), (0, 4, 4)], 1, [((9, 0, 0), [((1175, 35), (1, 5))], [])], [154618823831, 158913791127], []), ([(2, 1175, 0), (0, 5, 5)], 1, [((9, 0, 0), [((1175, 35), (1, 5))], [])], [154618823831, 158913791127], [])]
set_option maxRecDepth 100000 in
set_option maxHeartbeats 4000000 in
theorem sfX7_wrong (c : Nat × Nat) (hc : c = cA ∨ c = cB) : ∀ ac ∈ csX7_wrong, SafeC TYg c mX7_wrong ac := by
  intro ac hac
  simp only [csX7_wrong, List.mem_cons, List.not_mem_nil, or_false] at hac
  rcases hac with rfl | rfl | rfl | rfl | rfl
  · rcases hc with rfl | rfl
    · exact safe_of (ann := []) (fuel := 600) okX7_wrong (snX7_wrong _ _ cA (Or.inl rfl)) (fun q hq => by cases hq) (by decide) (by decide +kernel)
    · exact safe_of (ann := []) (fuel := 600) okX7_wrong (snX7_wrong _ _ cB (Or.inr rfl)) (fun q hq => by cases hq) (by decide) (by decide +kernel)
  · rcases hc with rfl | rfl
    · exact safe_of (ann := []) (fuel := 600) okX7_wrong (snX7_wrong _ _ cA (Or.inl rfl)) (fun q hq => by cases hq) (by decide) (by decide +kernel)
    · exact safe_of (ann := []) (fuel := 600) okX7_wrong (snX7_wrong _ _ cB (Or.inr rfl)) (fun q hq => by cases hq) (by decide) (by decide +kernel)
  · rcases hc with rfl | rfl
    · exact safe_of (ann := []) (fuel := 600) okX7_wrong (snX7_wrong _ _ cA (Or.inl rfl)) (fun q hq => by cases hq) (by decide) (by decide +kernel)
    · exact safe_of (ann := []) (fuel := 600) okX7_wrong (snX7_wrong _ _ cB (Or.inr rfl)) (fun q hq => by cases hq) (by decide) (by decide +kernel)
  · rcases hc with rfl | rfl
    · exact safe_of (ann := []) (fuel := 600) okX7_wrong (snX7_wrong _ _ cA (Or.inl rfl)) (fun q hq => by cases hq) (by decide) (by decide +kernel)
    · exact safe_of (ann := []) (fuel := 600) okX7_wrong (snX7_wrong _ _ cB (Or.inr rfl)) (fun q hq => by cases hq) (by decide) (by decide +kernel)
  · rcases hc with rfl | rfl
    · exact safe_of (ann := []) (fuel := 600) okX7_wrong (snX7_wrong _ _ cA (Or.inl rfl)) (fun q hq => by cases hq) (by decide) (by decide +kernel)
    · exact safe_of (ann := []) (fuel := 600) okX7_wrong (snX7_wrong _ _ cB (Or.inr rfl)) (fun q hq => by cases hq) (by decide) (by decide +kernel)
set_option maxRecDepth 100000 in
def adX7_told (D : KK) : List ACE := (0, 1, some (aAl 0)) :: (1, 3, some (aGetI D 7 35)) :: (4, 3, some (aIf bEq bNe 9)) :: (7, 1, some (aIc (0))) :: (8, 1, some (aIret)) :: (9, 1, some (aAl 0)) :: (10, 3, some (aGetI D 7 33)) :: (13, 1, some (aIc (1))) :: (14, 3, some (aCm bEq bNe 25)) :: (17, 1, some (aAl 0)) :: (18, 1, some (aIc (1))) :: (19, 3, some (aCall D 7 2 2 csX7_wrong)) :: (22, 3, some (aGoto 44)) :: (25, 1, some (aAl 1)) :: (26, 1, some (aIl 2)) :: (27, 1, some (aIl 3)) :: (28, 1, some (aAl 0)) :: (29, 3, some (aGetI D 7 34)) :: (32, 3, some (aCall D 16 4 5 csX7_found)) :: (35, 1, some (aIc (-1))) :: (36, 3, some (aCm bNe bEq 44)) :: (39, 1, some (aAl 0)) :: (40, 1, some (aIc (4))) :: (41, 3, some (aCall D 7 2 2 csX7_wrong)) :: (44, 1, some (aAl 0)) :: (45, 3, some (aGetI D 7 35)) :: (48, 3, some (aIf bEq bNe 55)) :: (51, 1, some (aIc (0))) :: (52, 3, some (aGoto 65)) :: (55, 1, some (aAl 1)) :: (56, 1, some (aIl 2)) :: (57, 1, some (aIl 3)) :: (58, 1, some (aAl 0)) :: (59, 3, some (aGetI D 7 34)) :: (62, 3, some (aCall D 16 4 5 csX7_found)) :: (65, 1, some (aIret)) :: []
set_option maxRecDepth 100000 in
set_option maxHeartbeats 4000000 in
theorem snX7_told (d : Nat) (W : List Nat) (c : Nat × Nat) (hc : c = cA ∨ c = cB) : SndAll (d, TYg, c, W) cdX7_told (adX7_told (d, TYg, c, W)) := by
  unfold cdX7_told adX7_told
  refine sn_op sAl ?_
  refine sn_op sGetI ?_
  refine sn_op sIfEq ?_
  refine sn_op (sIc (n := 0) (by decide)) ?_
  refine sn_op sIret ?_
  refine sn_op sAl ?_
  refine sn_op sGetI ?_
  refine sn_op (sIc (n := 1) (by decide)) ?_
  refine sn_op sCmEq ?_
  refine sn_op sAl ?_
  refine sn_op (sIc (n := 1) (by decide)) ?_
  refine sn_op (sCV (sfX7_wrong c hc) (by decide) (by decide +kernel)) ?_
  refine sn_op sGoto ?_
  refine sn_op sAl ?_
  refine sn_op sIl ?_
  refine sn_op sIl ?_
  refine sn_op sAl ?_
  refine sn_op sGetI ?_
  refine sn_op (sCI (sfX7_found c hc) (by decide) (by decide +kernel)) ?_
  refine sn_op (sIc (n := -1) (by decide)) ?_
  refine sn_op sCmNe ?_
  refine sn_op sAl ?_
  refine sn_op (sIc (n := 4) (by decide)) ?_
  refine sn_op (sCV (sfX7_wrong c hc) (by decide) (by decide +kernel)) ?_
  refine sn_op sAl ?_
  refine sn_op sGetI ?_
  refine sn_op sIfEq ?_
  refine sn_op (sIc (n := 0) (by decide)) ?_
  refine sn_op sGoto ?_
  refine sn_op sAl ?_
  refine sn_op sIl ?_
  refine sn_op sIl ?_
  refine sn_op sAl ?_
  refine sn_op sGetI ?_
  refine sn_op (sCI (sfX7_found c hc) (by decide) (by decide +kernel)) ?_
  refine sn_op sIret ?_
  exact sn_nil
def csX7_told : List AC := [([(2, 1175, 0), (2, 34008, 0), (0, 4, 4), (0, 0, 4)], 2, [((0, -1, -1), [((1175, 33), (1, 1)), ((1175, 35), (0, 0))], []), ((0, 0, 3), [], [])], [154618823831, 158913791127], []), ([(2, 1175, 0), (2, 42168, 0), (0, 5, 5), (0, 0, 5)], 2, [((0, -1, -1), [((1175, 33), (1, 1)), ((1175, 35), (0, 0))], []), ((0, 0, 4), [], [])], [154618823831, 158913791127], []), ([(2, 1175, 0), (2, 99560, 0), (0, 12, 12), (0, 0, 12)], 2, [((0, -1, -1), [((1175, 33), (1, 1)), ((1175, 35), (0, 0))], []), ((0, 0, 11), [], [])], [154618823831, 158913791127], [])]
set_option maxRecDepth 100000 in
set_option maxHeartbeats 4000000 in
theorem sfX7_told (c : Nat × Nat) (hc : c = cA ∨ c = cB) : ∀ ac ∈ csX7_told, SafeC TYg c mX7_told ac := by
  intro ac hac
  simp only [csX7_told, List.mem_cons, List.not_mem_nil, or_false] at hac
  rcases hac with rfl | rfl | rfl
  · rcases hc with rfl | rfl
    · exact safe_of (ann := []) (fuel := 600) okX7_told (snX7_told _ _ cA (Or.inl rfl)) (fun q hq => by cases hq) (by decide) (by decide +kernel)
    · exact safe_of (ann := []) (fuel := 600) okX7_told (snX7_told _ _ cB (Or.inr rfl)) (fun q hq => by cases hq) (by decide) (by decide +kernel)
  · rcases hc with rfl | rfl
    · exact safe_of (ann := []) (fuel := 600) okX7_told (snX7_told _ _ cA (Or.inl rfl)) (fun q hq => by cases hq) (by decide) (by decide +kernel)
    · exact safe_of (ann := []) (fuel := 600) okX7_told (snX7_told _ _ cB (Or.inr rfl)) (fun q hq => by cases hq) (by decide) (by decide +kernel)
  · rcases hc with rfl | rfl
    · exact safe_of (ann := []) (fuel := 600) okX7_told (snX7_told _ _ cA (Or.inl rfl)) (fun q hq => by cases hq) (by decide) (by decide +kernel)
    · exact safe_of (ann := []) (fuel := 600) okX7_told (snX7_told _ _ cB (Or.inr rfl)) (fun q hq => by cases hq) (by decide) (by decide +kernel)
