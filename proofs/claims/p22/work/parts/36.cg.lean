/-! contracts -/
set_option maxRecDepth 100000 in
def adX7_lacking (D : KK) : List ACE := (0, 1, some (aAl 0)) :: (1, 1, some (aIc (0))) :: (2, 3, some (aPutI D 7 0)) :: (5, 1, some (aIl 1)) :: (6, 1, some (aIc (1))) :: (7, 3, some (aCm bLt (fun C x y => bLe C y x) 16)) :: (10, 1, some (aIl 1)) :: (11, 2, some (aIc (99))) :: (13, 3, some (aCm bLe (fun C x y => bLt C y x) 18)) :: (16, 1, some (aIc (-1))) :: (17, 1, some (aIret)) :: (18, 1, some (aIc (0))) :: (19, 1, some (aIs 2)) :: (20, 1, some (aIc (-1))) :: (21, 1, some (aIs 3)) :: (22, 1, some (aIc (0))) :: (23, 2, some (aIs 4)) :: (25, 0, none) :: (25, 2, some (aIl 4)) :: (27, 3, some (aIc (400))) :: (30, 3, some (aCm (fun C x y => bLt C y x) bLe 115)) :: (33, 1, some (aIc (0))) :: (34, 2, some (aIs 5)) :: (36, 0, none) :: (36, 2, some (aIl 5)) :: (38, 1, some (aAl 0)) :: (39, 3, some (aGetI D 7 6)) :: (42, 3, some (aCm (fun C x y => bLe C y x) bLt 109)) :: (45, 1, some (aAl 0)) :: (46, 3, some (aGetR [(1175, 329128)])) :: (49, 2, some (aIl 5)) :: (51, 1, some (aIald D)) :: (52, 2, some (aIl 4)) :: (54, 3, some (aCm bNe bEq 103)) :: (57, 1, some (aAl 0)) :: (58, 3, some (aGetR [(1175, 329144)])) :: (61, 2, some (aIl 5)) :: (63, 1, some (aIald D)) :: (64, 1, some (aIl 1)) :: (65, 3, some (aCm bEq bNe 71)) :: (68, 3, some (aGoto 103)) :: (71, 1, some (aIl 2)) :: (72, 1, some (aIl 3)) :: (73, 1, some (aIc (-1))) :: (74, 3, some (aCm bEq bNe 97)) :: (77, 1, some (aAl 0)) :: (78, 3, some (aGetR [(1175, 329064)])) :: (81, 1, some (aIl 3)) :: (82, 1, some (aIald D)) :: (83, 1, some (aAl 0)) :: (84, 3, some (aGetR [(1175, 329048)])) :: (87, 2, some (aIl 5)) :: (89, 1, some (aIald D)) :: (90, 3, some (aCm bEq bNe 97)) :: (93, 1, some (aIc (1))) :: (94, 3, some (aGoto 98)) :: (97, 1, some (aIc (0))) :: (98, 1, some (aBin fAdd)) :: (99, 1, some (aIs 2)) :: (100, 2, some (aIl 5)) :: (102, 1, some (aIs 3)) :: (103, 3, some (aInc 5 (1))) :: (106, 3, some (aGoto 36)) :: (109, 3, some (aInc 4 (1))) :: (112, 3, some (aGoto 25)) :: (115, 1, some (aIl 2)) :: (116, 1, some (aIret)) :: []
set_option maxRecDepth 100000 in
set_option maxHeartbeats 4000000 in
theorem snX7_lacking (d : Nat) (W : List Nat) (c : Nat × Nat) (hc : c = cA ∨ c = cB) : SndAll (d, TYg, c, W) cdX7_lacking (adX7_lacking (d, TYg, c, W)) := by
  unfold cdX7_lacking adX7_lacking
  refine sn_op sAl ?_
  refine sn_op (sIc (n := 0) (by decide)) ?_
  refine sn_op sPutI ?_
  refine sn_op sIl ?_
  refine sn_op (sIc (n := 1) (by decide)) ?_
  refine sn_op sCmLt ?_
  refine sn_op sIl ?_
  refine sn_op (sIc (n := 99) (by decide)) ?_
  refine sn_op sCmLe ?_
  refine sn_op (sIc (n := -1) (by decide)) ?_
  refine sn_op sIret ?_
  refine sn_op (sIc (n := 0) (by decide)) ?_
  refine sn_op sIs ?_
  refine sn_op (sIc (n := -1) (by decide)) ?_
  refine sn_op sIs ?_
  refine sn_op (sIc (n := 0) (by decide)) ?_
  refine sn_op sIs ?_
  refine sn_st ?_
  refine sn_op sIl ?_
  refine sn_op (sIc (n := 400) (by decide)) ?_
  refine sn_op sCmGt ?_
  refine sn_op (sIc (n := 0) (by decide)) ?_
  refine sn_op sIs ?_
  refine sn_st ?_
  refine sn_op sIl ?_
  refine sn_op sAl ?_
  refine sn_op sGetI ?_
  refine sn_op sCmGe ?_
  refine sn_op sAl ?_
  refine sn_op sGetR ?_
  refine sn_op sIl ?_
  refine sn_op sIald ?_
  refine sn_op sIl ?_
  refine sn_op sCmNe ?_
  refine sn_op sAl ?_
  refine sn_op sGetR ?_
  refine sn_op sIl ?_
  refine sn_op sIald ?_
  refine sn_op sIl ?_
  refine sn_op sCmEq ?_
  refine sn_op sGoto ?_
  refine sn_op sIl ?_
  refine sn_op sIl ?_
  refine sn_op (sIc (n := -1) (by decide)) ?_
  refine sn_op sCmEq ?_
  refine sn_op sAl ?_
  refine sn_op sGetR ?_
  refine sn_op sIl ?_
  refine sn_op sIald ?_
  refine sn_op sAl ?_
  refine sn_op sGetR ?_
  refine sn_op sIl ?_
  refine sn_op sIald ?_
  refine sn_op sCmEq ?_
  refine sn_op (sIc (n := 1) (by decide)) ?_
  refine sn_op sGoto ?_
  refine sn_op (sIc (n := 0) (by decide)) ?_
  refine sn_op sIadd ?_
  refine sn_op sIs ?_
  refine sn_op sIl ?_
  refine sn_op sIs ?_
  refine sn_op (sInc (n := 1) (by decide)) ?_
  refine sn_op sGoto ?_
  refine sn_op (sInc (n := 1) (by decide)) ?_
  refine sn_op sGoto ?_
  refine sn_op sIl ?_
  refine sn_op sIret ?_
  exact sn_nil
def csX7_lacking : List AC := [([(2, 1175, 0), (0, -2147483648, 2147483647)], 1, [((0, -2147483648, 2147483647), [], []), ((0, -1, -1), [((1175, 0), (0, 0))], [])], [4294968471], [])]
set_option maxRecDepth 100000 in
set_option maxHeartbeats 4000000 in
theorem sfX7_lacking (c : Nat × Nat) (hc : c = cA ∨ c = cB) : ∀ ac ∈ csX7_lacking, SafeC TYg c mX7_lacking ac := by
  intro ac hac
  simp only [csX7_lacking, List.mem_cons, List.not_mem_nil, or_false] at hac
  rcases hac with rfl
  · rcases hc with rfl | rfl
    · exact safe_of (ann := [(25, [(2, 1175, 0), (0, 1, 99), (0, -2147483648, 2147483647), (0, -1, 39), (0, 0, 800), (4, 0, 0)], [(0, 4, 0, 4294967296), (3, 0, 0, 2)]), (36, [(2, 1175, 0), (0, 1, 99), (0, -2147483648, 2147483647), (0, -1, 39), (0, 0, 799), (0, 0, 40)], [(0, 4, 0, 4294967296), (3, 0, 0, 1), (0, 5, 0, 4294967296)])]) (fuel := 600) okX7_lacking (snX7_lacking _ _ cA (Or.inl rfl)) (List.forall_mem_cons.mpr ⟨⟨_, _, rfl⟩, List.forall_mem_cons.mpr ⟨⟨_, _, rfl⟩, (fun q hq => by cases hq)⟩⟩) (by decide) (by decide +kernel)
    · exact safe_of (ann := [(25, [(2, 1175, 0), (0, 1, 99), (0, -2147483648, 2147483647), (0, -1, 39), (0, 0, 800), (4, 0, 0)], [(0, 4, 0, 4294967296), (3, 0, 0, 2)]), (36, [(2, 1175, 0), (0, 1, 99), (0, -2147483648, 2147483647), (0, -1, 39), (0, 0, 799), (0, 0, 40)], [(0, 4, 0, 4294967296), (3, 0, 0, 1), (0, 5, 0, 4294967296)])]) (fuel := 600) okX7_lacking (snX7_lacking _ _ cB (Or.inr rfl)) (List.forall_mem_cons.mpr ⟨⟨_, _, rfl⟩, List.forall_mem_cons.mpr ⟨⟨_, _, rfl⟩, (fun q hq => by cases hq)⟩⟩) (by decide) (by decide +kernel)
set_option maxRecDepth 100000 in
def adX7_lays (D : KK) : List ACE := (0, 1, some (aAl 0)) :: (1, 1, some (aAl 0)) :: (2, 3, some (aGetI D 7 25)) :: (5, 3, some (aPutI D 7 3)) :: (8, 1, some (aAl 0)) :: (9, 1, some (aAl 0)) :: (10, 3, some (aGetI D 7 26)) :: (13, 3, some (aPutI D 7 4)) :: (16, 1, some (aAl 0)) :: (17, 1, some (aAl 0)) :: (18, 3, some (aGetI D 7 27)) :: (21, 3, some (aPutI D 7 5)) :: (24, 1, some (aAl 0)) :: (25, 1, some (aAl 0)) :: (26, 3, some (aGetI D 7 28)) :: (29, 3, some (aPutI D 7 6)) :: (32, 1, some (aAl 0)) :: (33, 1, some (aAl 0)) :: (34, 3, some (aGetI D 7 28)) :: (37, 3, some (aPutI D 7 7)) :: (40, 1, some (aAl 0)) :: (41, 1, some (aIc (0))) :: (42, 3, some (aPutI D 7 39)) :: (45, 1, some (aAl 0)) :: (46, 1, some (aIc (0))) :: (47, 3, some (aPutI D 7 40)) :: (50, 1, some (aIc (0))) :: (51, 1, some (aIs 1)) :: (52, 0, none) :: (52, 1, some (aIl 1)) :: (53, 1, some (aIc (5))) :: (54, 3, some (aCm (fun C x y => bLe C y x) bLt 91)) :: (57, 1, some (aAl 0)) :: (58, 3, some (aGetR [(1175, 42168)])) :: (61, 1, some (aIl 1)) :: (62, 1, some (aAl 0)) :: (63, 3, some (aGetR [(1175, 42168)])) :: (66, 1, some (aIc (5))) :: (67, 1, some (aIl 1)) :: (68, 1, some (aBin fAdd)) :: (69, 1, some (aIald D)) :: (70, 1, some (aIast D)) :: (71, 1, some (aAl 0)) :: (72, 3, some (aGetR [(1175, 42184)])) :: (75, 1, some (aIl 1)) :: (76, 1, some (aAl 0)) :: (77, 3, some (aGetR [(1175, 42184)])) :: (80, 1, some (aIc (5))) :: (81, 1, some (aIl 1)) :: (82, 1, some (aBin fAdd)) :: (83, 1, some (aIald D)) :: (84, 1, some (aIast D)) :: (85, 3, some (aInc 1 (1))) :: (88, 3, some (aGoto 52)) :: (91, 1, some (aIc (0))) :: (92, 1, some (aIs 1)) :: (93, 0, none) :: (93, 1, some (aIl 1)) :: (94, 1, some (aIc (4))) :: (95, 3, some (aCm (fun C x y => bLe C y x) bLt 118)) :: (98, 1, some (aAl 0)) :: (99, 3, some (aGetR [(1175, 34008)])) :: (102, 1, some (aIl 1)) :: (103, 1, some (aAl 0)) :: (104, 3, some (aGetR [(1175, 34008)])) :: (107, 1, some (aIc (4))) :: (108, 1, some (aIl 1)) :: (109, 1, some (aBin fAdd)) :: (110, 1, some (aIald D)) :: (111, 1, some (aIast D)) :: (112, 3, some (aInc 1 (1))) :: (115, 3, some (aGoto 93)) :: (118, 1, some (aIc (0))) :: (119, 1, some (aIs 1)) :: (120, 0, none) :: (120, 1, some (aIl 1)) :: (121, 2, some (aIc (12))) :: (123, 3, some (aCm (fun C x y => bLe C y x) bLt 222)) :: (126, 1, some (aAl 0)) :: (127, 3, some (aGetR [(1175, 99560)])) :: (130, 1, some (aIl 1)) :: (131, 1, some (aAl 0)) :: (132, 3, some (aGetR [(1175, 99560)])) :: (135, 2, some (aIc (12))) :: (137, 1, some (aIl 1)) :: (138, 1, some (aBin fAdd)) :: (139, 1, some (aIald D)) :: (140, 1, some (aIast D)) :: (141, 1, some (aAl 0)) :: (142, 3, some (aGetR [(1175, 99576)])) :: (145, 1, some (aIl 1)) :: (146, 1, some (aAl 0)) :: (147, 3, some (aGetR [(1175, 99576)])) :: (150, 2, some (aIc (12))) :: (152, 1, some (aIl 1)) :: (153, 1, some (aBin fAdd)) :: (154, 1, some (aIald D)) :: (155, 1, some (aIast D)) :: (156, 1, some (aAl 0)) :: (157, 3, some (aGetR [(1175, 99592)])) :: (160, 1, some (aIl 1)) :: (161, 1, some (aAl 0)) :: (162, 3, some (aGetR [(1175, 99592)])) :: (165, 2, some (aIc (12))) :: (167, 1, some (aIl 1)) :: (168, 1, some (aBin fAdd)) :: (169, 1, some (aIald D)) :: (170, 1, some (aIast D)) :: (171, 1, some (aAl 0)) :: (172, 3, some (aGetR [(1175, 99608)])) :: (175, 1, some (aIl 1)) :: (176, 1, some (aAl 0)) :: (177, 3, some (aGetR [(1175, 99608)])) :: (180, 2, some (aIc (12))) :: (182, 1, some (aIl 1)) :: (183, 1, some (aBin fAdd)) :: (184, 1, some (aIald D)) :: (185, 1, some (aIast D)) :: (186, 1, some (aAl 0)) :: (187, 3, some (aGetR [(1175, 99624)])) :: (190, 1, some (aIl 1)) :: (191, 1, some (aAl 0)) :: (192, 3, some (aGetR [(1175, 99624)])) :: (195, 2, some (aIc (12))) :: (197, 1, some (aIl 1)) :: (198, 1, some (aBin fAdd)) :: (199, 1, some (aIald D)) :: (200, 1, some (aIast D)) :: (201, 1, some (aAl 0)) :: (202, 3, some (aGetR [(1175, 99640)])) :: (205, 1, some (aIl 1)) :: (206, 1, some (aAl 0)) :: (207, 3, some (aGetR [(1175, 99640)])) :: (210, 2, some (aIc (12))) :: (212, 1, some (aIl 1)) :: (213, 1, some (aBin fAdd)) :: (214, 1, some (aIald D)) :: (215, 1, some (aIast D)) :: (216, 3, some (aInc 1 (1))) :: (219, 3, some (aGoto 120)) :: (222, 1, some (aIc (0))) :: (223, 1, some (aIs 1)) :: (224, 0, none) :: (224, 1, some (aIl 1)) :: (225, 2, some (aIc (40))) :: (227, 3, some (aCm (fun C x y => bLe C y x) bLt 341)) :: (230, 1, some (aAl 0)) :: (231, 3, some (aGetR [(1175, 329048)])) :: (234, 1, some (aIl 1)) :: (235, 1, some (aAl 0)) :: (236, 3, some (aGetR [(1175, 329048)])) :: (239, 2, some (aIc (40))) :: (241, 1, some (aIl 1)) :: (242, 1, some (aBin fAdd)) :: (243, 1, some (aIald D)) :: (244, 1, some (aIast D)) :: (245, 1, some (aAl 0)) :: (246, 3, some (aGetR [(1175, 329064)])) :: (249, 1, some (aIl 1)) :: (250, 1, some (aAl 0)) :: (251, 3, some (aGetR [(1175, 329064)])) :: (254, 2, some (aIc (40))) :: (256, 1, some (aIl 1)) :: (257, 1, some (aBin fAdd)) :: (258, 1, some (aIald D)) :: (259, 1, some (aIast D)) :: (260, 1, some (aAl 0)) :: (261, 3, some (aGetR [(1175, 329080)])) :: (264, 1, some (aIl 1)) :: (265, 1, some (aAl 0)) :: (266, 3, some (aGetR [(1175, 329080)])) :: (269, 2, some (aIc (40))) :: (271, 1, some (aIl 1)) :: (272, 1, some (aBin fAdd)) :: (273, 1, some (aIald D)) :: (274, 1, some (aIast D)) :: (275, 1, some (aAl 0)) :: (276, 3, some (aGetR [(1175, 329096)])) :: (279, 1, some (aIl 1)) :: (280, 1, some (aAl 0)) :: (281, 3, some (aGetR [(1175, 329096)])) :: (284, 2, some (aIc (40))) :: (286, 1, some (aIl 1)) :: (287, 1, some (aBin fAdd)) :: (288, 1, some (aIald D)) :: (289, 1, some (aIast D)) :: (290, 1, some (aAl 0)) :: (291, 3, some (aGetR [(1175, 329112)])) :: (294, 1, some (aIl 1)) :: (295, 1, some (aAl 0)) :: (296, 3, some (aGetR [(1175, 329112)])) :: (299, 2, some (aIc (40))) :: (301, 1, some (aIl 1)) :: (302, 1, some (aBin fAdd)) :: (303, 1, some (aIald D)) :: (304, 1, some (aIast D)) :: (305, 1, some (aAl 0)) :: (306, 3, some (aGetR [(1175, 329128)])) :: (309, 1, some (aIl 1)) :: (310, 1, some (aAl 0)) :: (311, 3, some (aGetR [(1175, 329128)])) :: (314, 2, some (aIc (40))) :: (316, 1, some (aIl 1)) :: (317, 1, some (aBin fAdd)) :: (318, 1, some (aIald D)) :: (319, 1, some (aIast D)) :: (320, 1, some (aAl 0)) :: (321, 3, some (aGetR [(1175, 329144)])) :: (324, 1, some (aIl 1)) :: (325, 1, some (aAl 0)) :: (326, 3, some (aGetR [(1175, 329144)])) :: (329, 2, some (aIc (40))) :: (331, 1, some (aIl 1)) :: (332, 1, some (aBin fAdd)) :: (333, 1, some (aIald D)) :: (334, 1, some (aIast D)) :: (335, 3, some (aInc 1 (1))) :: (338, 3, some (aGoto 224)) :: (341, 1, some (aVret)) :: []
set_option maxRecDepth 100000 in
set_option maxHeartbeats 4000000 in
theorem snX7_lays (d : Nat) (W : List Nat) (c : Nat × Nat) (hc : c = cA ∨ c = cB) : SndAll (d, TYg, c, W) cdX7_lays (adX7_lays (d, TYg, c, W)) := by
  unfold cdX7_lays adX7_lays
  refine sn_op sAl ?_
  refine sn_op sAl ?_
  refine sn_op sGetI ?_
  refine sn_op sPutI ?_
  refine sn_op sAl ?_
  refine sn_op sAl ?_
  refine sn_op sGetI ?_
  refine sn_op sPutI ?_
  refine sn_op sAl ?_
  refine sn_op sAl ?_
  refine sn_op sGetI ?_
  refine sn_op sPutI ?_
  refine sn_op sAl ?_
  refine sn_op sAl ?_
  refine sn_op sGetI ?_
  refine sn_op sPutI ?_
  refine sn_op sAl ?_
  refine sn_op sAl ?_
  refine sn_op sGetI ?_
  refine sn_op sPutI ?_
  refine sn_op sAl ?_
  refine sn_op (sIc (n := 0) (by decide)) ?_
  refine sn_op sPutI ?_
  refine sn_op sAl ?_
  refine sn_op (sIc (n := 0) (by decide)) ?_
  refine sn_op sPutI ?_
  refine sn_op (sIc (n := 0) (by decide)) ?_
  refine sn_op sIs ?_
  refine sn_st ?_
  refine sn_op sIl ?_
  refine sn_op (sIc (n := 5) (by decide)) ?_
  refine sn_op sCmGe ?_
  refine sn_op sAl ?_
  refine sn_op sGetR ?_
  refine sn_op sIl ?_
  refine sn_op sAl ?_
  refine sn_op sGetR ?_
  refine sn_op (sIc (n := 5) (by decide)) ?_
  refine sn_op sIl ?_
  refine sn_op sIadd ?_
  refine sn_op sIald ?_
  refine sn_op sIast ?_
  refine sn_op sAl ?_
  refine sn_op sGetR ?_
  refine sn_op sIl ?_
  refine sn_op sAl ?_
  refine sn_op sGetR ?_
  refine sn_op (sIc (n := 5) (by decide)) ?_
  refine sn_op sIl ?_
  refine sn_op sIadd ?_
  refine sn_op sIald ?_
  refine sn_op sIast ?_
  refine sn_op (sInc (n := 1) (by decide)) ?_
  refine sn_op sGoto ?_
  refine sn_op (sIc (n := 0) (by decide)) ?_
  refine sn_op sIs ?_
  refine sn_st ?_
  refine sn_op sIl ?_
  refine sn_op (sIc (n := 4) (by decide)) ?_
  refine sn_op sCmGe ?_
  refine sn_op sAl ?_
  refine sn_op sGetR ?_
  refine sn_op sIl ?_
  refine sn_op sAl ?_
  refine sn_op sGetR ?_
  refine sn_op (sIc (n := 4) (by decide)) ?_
  refine sn_op sIl ?_
  refine sn_op sIadd ?_
  refine sn_op sIald ?_
  refine sn_op sIast ?_
  refine sn_op (sInc (n := 1) (by decide)) ?_
  refine sn_op sGoto ?_
  refine sn_op (sIc (n := 0) (by decide)) ?_
  refine sn_op sIs ?_
  refine sn_st ?_
  refine sn_op sIl ?_
  refine sn_op (sIc (n := 12) (by decide)) ?_
  refine sn_op sCmGe ?_
  refine sn_op sAl ?_
  refine sn_op sGetR ?_
  refine sn_op sIl ?_
  refine sn_op sAl ?_
  refine sn_op sGetR ?_
  refine sn_op (sIc (n := 12) (by decide)) ?_
  refine sn_op sIl ?_
  refine sn_op sIadd ?_
  refine sn_op sIald ?_
  refine sn_op sIast ?_
  refine sn_op sAl ?_
  refine sn_op sGetR ?_
  refine sn_op sIl ?_
  refine sn_op sAl ?_
  refine sn_op sGetR ?_
  refine sn_op (sIc (n := 12) (by decide)) ?_
  refine sn_op sIl ?_
  refine sn_op sIadd ?_
  refine sn_op sIald ?_
  refine sn_op sIast ?_
  refine sn_op sAl ?_
  refine sn_op sGetR ?_
  refine sn_op sIl ?_
  refine sn_op sAl ?_
  refine sn_op sGetR ?_
  refine sn_op (sIc (n := 12) (by decide)) ?_
  refine sn_op sIl ?_
  refine sn_op sIadd ?_
  refine sn_op sIald ?_
  refine sn_op sIast ?_
  refine sn_op sAl ?_
  refine sn_op sGetR ?_
  refine sn_op sIl ?_
  refine sn_op sAl ?_
  refine sn_op sGetR ?_
  refine sn_op (sIc (n := 12) (by decide)) ?_
  refine sn_op sIl ?_
  refine sn_op sIadd ?_
  refine sn_op sIald ?_
  refine sn_op sIast ?_
  refine sn_op sAl ?_
  refine sn_op sGetR ?_
  refine sn_op sIl ?_
  refine sn_op sAl ?_
  refine sn_op sGetR ?_
  refine sn_op (sIc (n := 12) (by decide)) ?_
  refine sn_op sIl ?_
  refine sn_op sIadd ?_
  refine sn_op sIald ?_
  refine sn_op sIast ?_
  refine sn_op sAl ?_
  refine sn_op sGetR ?_
  refine sn_op sIl ?_
  refine sn_op sAl ?_
  refine sn_op sGetR ?_
  refine sn_op (sIc (n := 12) (by decide)) ?_
  refine sn_op sIl ?_
  refine sn_op sIadd ?_
  refine sn_op sIald ?_
  refine sn_op sIast ?_
  refine sn_op (sInc (n := 1) (by decide)) ?_
  refine sn_op sGoto ?_
  refine sn_op (sIc (n := 0) (by decide)) ?_
  refine sn_op sIs ?_
  refine sn_st ?_
  refine sn_op sIl ?_
  refine sn_op (sIc (n := 40) (by decide)) ?_
  refine sn_op sCmGe ?_
  refine sn_op sAl ?_
  refine sn_op sGetR ?_
  refine sn_op sIl ?_
  refine sn_op sAl ?_
  refine sn_op sGetR ?_
  refine sn_op (sIc (n := 40) (by decide)) ?_
  refine sn_op sIl ?_
  refine sn_op sIadd ?_
  refine sn_op sIald ?_
  refine sn_op sIast ?_
  refine sn_op sAl ?_
  refine sn_op sGetR ?_
  refine sn_op sIl ?_
  refine sn_op sAl ?_
  refine sn_op sGetR ?_
  refine sn_op (sIc (n := 40) (by decide)) ?_
  refine sn_op sIl ?_
  refine sn_op sIadd ?_
  refine sn_op sIald ?_
  refine sn_op sIast ?_
  refine sn_op sAl ?_
  refine sn_op sGetR ?_
  refine sn_op sIl ?_
  refine sn_op sAl ?_
  refine sn_op sGetR ?_
  refine sn_op (sIc (n := 40) (by decide)) ?_
  refine sn_op sIl ?_
  refine sn_op sIadd ?_
  refine sn_op sIald ?_
  refine sn_op sIast ?_
  refine sn_op sAl ?_
  refine sn_op sGetR ?_
  refine sn_op sIl ?_
  refine sn_op sAl ?_
  refine sn_op sGetR ?_
  refine sn_op (sIc (n := 40) (by decide)) ?_
  refine sn_op sIl ?_
  refine sn_op sIadd ?_
  refine sn_op sIald ?_
  refine sn_op sIast ?_
  refine sn_op sAl ?_
  refine sn_op sGetR ?_
  refine sn_op sIl ?_
  refine sn_op sAl ?_
  refine sn_op sGetR ?_
  refine sn_op (sIc (n := 40) (by decide)) ?_
  refine sn_op sIl ?_
  refine sn_op sIadd ?_
  refine sn_op sIald ?_
  refine sn_op sIast ?_
  refine sn_op sAl ?_
  refine sn_op sGetR ?_
  refine sn_op sIl ?_
  refine sn_op sAl ?_
  refine sn_op sGetR ?_
  refine sn_op (sIc (n := 40) (by decide)) ?_
  refine sn_op sIl ?_
  refine sn_op sIadd ?_
  refine sn_op sIald ?_
  refine sn_op sIast ?_
  refine sn_op sAl ?_
  refine sn_op sGetR ?_
  refine sn_op sIl ?_
  refine sn_op sAl ?_
  refine sn_op sGetR ?_
  refine sn_op (sIc (n := 40) (by decide)) ?_
  refine sn_op sIl ?_
  refine sn_op sIadd ?_
  refine sn_op sIald ?_
  refine sn_op sIast ?_
  refine sn_op (sInc (n := 1) (by decide)) ?_
  refine sn_op sGoto ?_
  refine sn_op sVret ?_
  exact sn_nil
def csX7_lays : List AC := [([(2, 1175, 0)], 1, [((9, 0, 0), [], [])], [34008, 42168, 42184, 99560, 99576, 99592, 99608, 99624, 99640, 329048, 329064, 329080, 329096, 329112, 329128, 329144, 17179870359, 21474837655, 25769804951, 30064772247, 34359739543, 171798693015, 176093660311], [])]
set_option maxRecDepth 100000 in
set_option maxHeartbeats 4000000 in
theorem sfX7_lays (c : Nat × Nat) (hc : c = cA ∨ c = cB) : ∀ ac ∈ csX7_lays, SafeC TYg c mX7_lays ac := by
  intro ac hac
  simp only [csX7_lays, List.mem_cons, List.not_mem_nil, or_false] at hac
  rcases hac with rfl
  · rcases hc with rfl | rfl
    · exact safe_of (ann := [(52, [(2, 1175, 0), (0, 0, 5)], [(3, 0, 0, 4), (0, 1, 0, 4294967296)]), (93, [(2, 1175, 0), (0, 0, 4)], [(3, 0, 0, 3), (0, 1, 0, 4294967296)]), (120, [(2, 1175, 0), (0, 0, 12)], [(3, 0, 0, 2), (0, 1, 0, 4294967296)]), (224, [(2, 1175, 0), (0, 0, 40)], [(3, 0, 0, 1), (0, 1, 0, 4294967296)])]) (fuel := 600) okX7_lays (snX7_lays _ _ cA (Or.inl rfl)) (List.forall_mem_cons.mpr ⟨⟨_, _, rfl⟩, List.forall_mem_cons.mpr ⟨⟨_, _, rfl⟩, List.forall_mem_cons.mpr ⟨⟨_, _, rfl⟩, List.forall_mem_cons.mpr ⟨⟨_, _, rfl⟩, (fun q hq => by cases hq)⟩⟩⟩⟩) (by decide) (by decide +kernel)
    · exact safe_of (ann := [(52, [(2, 1175, 0), (0, 0, 5)], [(3, 0, 0, 4), (0, 1, 0, 4294967296)]), (93, [(2, 1175, 0), (0, 0, 4)], [(3, 0, 0, 3), (0, 1, 0, 4294967296)]), (120, [(2, 1175, 0), (0, 0, 12)], [(3, 0, 0, 2), (0, 1, 0, 4294967296)]), (224, [(2, 1175, 0), (0, 0, 40)], [(3, 0, 0, 1), (0, 1, 0, 4294967296)])]) (fuel := 600) okX7_lays (snX7_lays _ _ cB (Or.inr rfl)) (List.forall_mem_cons.mpr ⟨⟨_, _, rfl⟩, List.forall_mem_cons.mpr ⟨⟨_, _, rfl⟩, List.forall_mem_cons.mpr ⟨⟨_, _, rfl⟩, List.forall_mem_cons.mpr ⟨⟨_, _, rfl⟩, (fun q hq => by cases hq)⟩⟩⟩⟩) (by decide) (by decide +kernel)
set_option maxRecDepth 100000 in
def adX7_paid (D : KK) : List ACE := (0, 2, some (aIc (12))) :: (2, 1, some (aAl 0)) :: (3, 1, some (aAl 0)) :: (4, 3, some (aGetR [(1175, 99560)])) :: (7, 2, some (aIc (12))) :: (9, 1, some (aAl 0)) :: (10, 3, some (aGetI D 7 27)) :: (13, 3, some (aCall D 7 4 4 csX7_told)) :: (16, 1, some (aBin fAdd)) :: (17, 1, some (aIs 1)) :: (18, 1, some (aAl 0)) :: (19, 3, some (aGetI D 7 35)) :: (22, 3, some (aIf bNe bEq 39)) :: (25, 1, some (aAl 0)) :: (26, 3, some (aGetR [(1175, 99659)])) :: (29, 1, some (aIl 1)) :: (30, 1, some (aBald D)) :: (31, 3, some (aIf bEq bNe 39)) :: (34, 1, some (aAl 0)) :: (35, 1, some (aIc (3))) :: (36, 3, some (aCall D 7 2 2 csX7_wrong)) :: (39, 1, some (aAl 0)) :: (40, 3, some (aCall D 7 1 1 csX7_goOn)) :: (43, 1, some (aAl 0)) :: (44, 1, some (aIc (0))) :: (45, 2, some (aIc (999999))) :: (47, 3, some (aCall D 7 3 4 csX7_numeral)) :: (50, 1, some (aIs 2)) :: (51, 1, some (aAl 0)) :: (52, 3, some (aGetI D 7 35)) :: (55, 3, some (aIf bEq bNe 59)) :: (58, 1, some (aVret)) :: (59, 1, some (aAl 0)) :: (60, 3, some (aGetR [(1175, 99640)])) :: (63, 1, some (aIl 1)) :: (64, 1, some (aIl 2)) :: (65, 1, some (aIast D)) :: (66, 1, some (aAl 0)) :: (67, 3, some (aGetR [(1175, 99659)])) :: (70, 1, some (aIl 1)) :: (71, 1, some (aIc (1))) :: (72, 1, some (aBast D)) :: (73, 1, some (aVret)) :: []
set_option maxRecDepth 100000 in
set_option maxHeartbeats 4000000 in
theorem snX7_paid (d : Nat) (W : List Nat) (c : Nat × Nat) (hc : c = cA ∨ c = cB) : SndAll (d, TYg, c, W) cdX7_paid (adX7_paid (d, TYg, c, W)) := by
  unfold cdX7_paid adX7_paid
  refine sn_op (sIc (n := 12) (by decide)) ?_
  refine sn_op sAl ?_
  refine sn_op sAl ?_
  refine sn_op sGetR ?_
  refine sn_op (sIc (n := 12) (by decide)) ?_
  refine sn_op sAl ?_
  refine sn_op sGetI ?_
  refine sn_op (sCI (sfX7_told c hc) (by decide) (by decide +kernel)) ?_
  refine sn_op sIadd ?_
  refine sn_op sIs ?_
  refine sn_op sAl ?_
  refine sn_op sGetI ?_
  refine sn_op sIfNe ?_
  refine sn_op sAl ?_
  refine sn_op sGetR ?_
  refine sn_op sIl ?_
  refine sn_op sBald ?_
  refine sn_op sIfEq ?_
  refine sn_op sAl ?_
  refine sn_op (sIc (n := 3) (by decide)) ?_
  refine sn_op (sCV (sfX7_wrong c hc) (by decide) (by decide +kernel)) ?_
  refine sn_op sAl ?_
  refine sn_op (sCV (sfX7_goOn c hc) (by decide) (by decide +kernel)) ?_
  refine sn_op sAl ?_
  refine sn_op (sIc (n := 0) (by decide)) ?_
  refine sn_op (sIc (n := 999999) (by decide)) ?_
  refine sn_op (sCI (sfX7_numeral c hc) (by decide) (by decide +kernel)) ?_
  refine sn_op sIs ?_
  refine sn_op sAl ?_
  refine sn_op sGetI ?_
  refine sn_op sIfEq ?_
  refine sn_op sVret ?_
  refine sn_op sAl ?_
  refine sn_op sGetR ?_
  refine sn_op sIl ?_
  refine sn_op sIl ?_
  refine sn_op sIast ?_
  refine sn_op sAl ?_
  refine sn_op sGetR ?_
  refine sn_op sIl ?_
  refine sn_op (sIc (n := 1) (by decide)) ?_
  refine sn_op sBast ?_
  refine sn_op sVret ?_
  exact sn_nil
def csX7_paid : List AC := [([(2, 1175, 0)], 6, [((9, 0, 0), [], [])], [99640, 99659, 137438954647, 141733921943, 146028889239, 150323856535, 154618823831, 158913791127], [])]
set_option maxRecDepth 100000 in
set_option maxHeartbeats 4000000 in
theorem sfX7_paid (c : Nat × Nat) (hc : c = cA ∨ c = cB) : ∀ ac ∈ csX7_paid, SafeC TYg c mX7_paid ac := by
  intro ac hac
  simp only [csX7_paid, List.mem_cons, List.not_mem_nil, or_false] at hac
  rcases hac with rfl
  · rcases hc with rfl | rfl
    · exact safe_of (ann := []) (fuel := 600) okX7_paid (snX7_paid _ _ cA (Or.inl rfl)) (fun q hq => by cases hq) (by decide) (by decide +kernel)
    · exact safe_of (ann := []) (fuel := 600) okX7_paid (snX7_paid _ _ cB (Or.inr rfl)) (fun q hq => by cases hq) (by decide) (by decide +kernel)
set_option maxRecDepth 100000 in
def adX7_sale (D : KK) : List ACE := (0, 1, some (aAl 0)) :: (1, 3, some (aGetR [(1175, 329048)])) :: (4, 1, some (aIl 1)) :: (5, 1, some (aAl 0)) :: (6, 1, some (aAl 0)) :: (7, 3, some (aGetR [(1175, 99560)])) :: (10, 2, some (aIc (12))) :: (12, 1, some (aAl 0)) :: (13, 3, some (aGetI D 7 27)) :: (16, 3, some (aCall D 7 4 4 csX7_told)) :: (19, 1, some (aIast D)) :: (20, 1, some (aAl 0)) :: (21, 3, some (aCall D 7 1 1 csX7_goOn)) :: (24, 1, some (aAl 0)) :: (25, 3, some (aGetR [(1175, 329064)])) :: (28, 1, some (aIl 1)) :: (29, 1, some (aAl 0)) :: (30, 1, some (aAl 0)) :: (31, 3, some (aGetR [(1175, 99560)])) :: (34, 2, some (aIc (12))) :: (36, 1, some (aAl 0)) :: (37, 3, some (aGetI D 7 27)) :: (40, 3, some (aCall D 7 4 4 csX7_told)) :: (43, 1, some (aIast D)) :: (44, 1, some (aAl 0)) :: (45, 3, some (aGetI D 7 35)) :: (48, 3, some (aIf bNe bEq 71)) :: (51, 1, some (aAl 0)) :: (52, 3, some (aGetR [(1175, 329064)])) :: (55, 1, some (aIl 1)) :: (56, 1, some (aIald D)) :: (57, 1, some (aAl 0)) :: (58, 3, some (aGetR [(1175, 329048)])) :: (61, 1, some (aIl 1)) :: (62, 1, some (aIald D)) :: (63, 3, some (aCm bNe bEq 71)) :: (66, 1, some (aAl 0)) :: (67, 1, some (aIc (3))) :: (68, 3, some (aCall D 7 2 2 csX7_wrong)) :: (71, 1, some (aAl 0)) :: (72, 3, some (aCall D 7 1 1 csX7_goOn)) :: (75, 1, some (aAl 0)) :: (76, 3, some (aGetR [(1175, 329080)])) :: (79, 1, some (aIl 1)) :: (80, 1, some (aAl 0)) :: (81, 1, some (aIc (1))) :: (82, 3, some (aIc (999))) :: (85, 3, some (aCall D 7 3 4 csX7_numeral)) :: (88, 1, some (aIast D)) :: (89, 1, some (aAl 0)) :: (90, 3, some (aGetR [(1175, 329096)])) :: (93, 1, some (aIl 1)) :: (94, 1, some (aAl 0)) :: (95, 1, some (aAl 0)) :: (96, 3, some (aGetR [(1175, 34008)])) :: (99, 1, some (aIc (4))) :: (100, 1, some (aAl 0)) :: (101, 3, some (aGetI D 7 26)) :: (104, 3, some (aCall D 7 4 4 csX7_told)) :: (107, 1, some (aIast D)) :: (108, 1, some (aAl 0)) :: (109, 3, some (aCall D 7 1 1 csX7_goOn)) :: (112, 1, some (aAl 0)) :: (113, 3, some (aGetR [(1175, 329112)])) :: (116, 1, some (aIl 1)) :: (117, 1, some (aAl 0)) :: (118, 1, some (aIc (1))) :: (119, 3, some (aIc (999))) :: (122, 3, some (aCall D 7 3 4 csX7_numeral)) :: (125, 1, some (aIast D)) :: (126, 1, some (aAl 0)) :: (127, 3, some (aGetI D 7 35)) :: (130, 3, some (aIf bNe bEq 147)) :: (133, 1, some (aAl 0)) :: (134, 2, some (aIc (7))) :: (136, 3, some (aCall D 7 2 2 csX7_isWord)) :: (139, 3, some (aIf bNe bEq 147)) :: (142, 1, some (aAl 0)) :: (143, 1, some (aIc (1))) :: (144, 3, some (aCall D 7 2 2 csX7_wrong)) :: (147, 1, some (aAl 0)) :: (148, 3, some (aCall D 7 1 1 csX7_goOn)) :: (151, 1, some (aAl 0)) :: (152, 3, some (aGetI D 7 35)) :: (155, 3, some (aIf bNe bEq 223)) :: (158, 1, some (aAl 0)) :: (159, 3, some (aGetI D 7 33)) :: (162, 1, some (aIc (2))) :: (163, 3, some (aCm bNe bEq 223)) :: (166, 1, some (aAl 0)) :: (167, 3, some (aGetI D 7 34)) :: (170, 3, some (aIc (400))) :: (173, 3, some (aCm (fun C x y => bLt C y x) bLe 223)) :: (176, 1, some (aAl 0)) :: (177, 3, some (aGetI D 7 34)) :: (180, 1, some (aAl 0)) :: (181, 3, some (aGetR [(1175, 99592)])) :: (184, 2, some (aIc (12))) :: (186, 1, some (aAl 0)) :: (187, 3, some (aGetR [(1175, 329048)])) :: (190, 1, some (aIl 1)) :: (191, 1, some (aIald D)) :: (192, 1, some (aBin fAdd)) :: (193, 1, some (aIald D)) :: (194, 3, some (aCm bLt (fun C x y => bLe C y x) 218)) :: (197, 1, some (aAl 0)) :: (198, 3, some (aGetI D 7 34)) :: (201, 1, some (aAl 0)) :: (202, 3, some (aGetR [(1175, 99592)])) :: (205, 2, some (aIc (12))) :: (207, 1, some (aAl 0)) :: (208, 3, some (aGetR [(1175, 329064)])) :: (211, 1, some (aIl 1)) :: (212, 1, some (aIald D)) :: (213, 1, some (aBin fAdd)) :: (214, 1, some (aIald D)) :: (215, 3, some (aCm (fun C x y => bLe C y x) bLt 223)) :: (218, 1, some (aAl 0)) :: (219, 1, some (aIc (5))) :: (220, 3, some (aCall D 7 2 2 csX7_wrong)) :: (223, 1, some (aAl 0)) :: (224, 3, some (aGetR [(1175, 329128)])) :: (227, 1, some (aIl 1)) :: (228, 1, some (aAl 0)) :: (229, 1, some (aIc (0))) :: (230, 3, some (aIc (400))) :: (233, 3, some (aCall D 7 3 4 csX7_numeral)) :: (236, 1, some (aIast D)) :: (237, 1, some (aAl 0)) :: (238, 3, some (aGetR [(1175, 329144)])) :: (241, 1, some (aIl 1)) :: (242, 1, some (aIc (0))) :: (243, 1, some (aIast D)) :: (244, 1, some (aAl 0)) :: (245, 2, some (aIc (8))) :: (247, 3, some (aCall D 7 2 2 csX7_isWord)) :: (250, 3, some (aIf bEq bNe 270)) :: (253, 1, some (aAl 0)) :: (254, 3, some (aCall D 7 1 2 csX7_next)) :: (257, 1, some (aAl 0)) :: (258, 3, some (aGetR [(1175, 329144)])) :: (261, 1, some (aIl 1)) :: (262, 1, some (aAl 0)) :: (263, 1, some (aIc (1))) :: (264, 2, some (aIc (99))) :: (266, 3, some (aCall D 7 3 4 csX7_numeral)) :: (269, 1, some (aIast D)) :: (270, 1, some (aAl 0)) :: (271, 1, some (aDup)) :: (272, 3, some (aGetI D 7 28)) :: (275, 1, some (aIc (1))) :: (276, 1, some (aBin fAdd)) :: (277, 3, some (aPutI D 7 28)) :: (280, 1, some (aVret)) :: []
set_option maxRecDepth 100000 in
set_option maxHeartbeats 4000000 in
theorem snX7_sale (d : Nat) (W : List Nat) (c : Nat × Nat) (hc : c = cA ∨ c = cB) : SndAll (d, TYg, c, W) cdX7_sale (adX7_sale (d, TYg, c, W)) := by
  unfold cdX7_sale adX7_sale
  refine sn_op sAl ?_
  refine sn_op sGetR ?_
  refine sn_op sIl ?_
  refine sn_op sAl ?_
  refine sn_op sAl ?_
  refine sn_op sGetR ?_
  refine sn_op (sIc (n := 12) (by decide)) ?_
  refine sn_op sAl ?_
  refine sn_op sGetI ?_
  refine sn_op (sCI (sfX7_told c hc) (by decide) (by decide +kernel)) ?_
  refine sn_op sIast ?_
  refine sn_op sAl ?_
  refine sn_op (sCV (sfX7_goOn c hc) (by decide) (by decide +kernel)) ?_
  refine sn_op sAl ?_
  refine sn_op sGetR ?_
  refine sn_op sIl ?_
  refine sn_op sAl ?_
  refine sn_op sAl ?_
  refine sn_op sGetR ?_
  refine sn_op (sIc (n := 12) (by decide)) ?_
  refine sn_op sAl ?_
  refine sn_op sGetI ?_
  refine sn_op (sCI (sfX7_told c hc) (by decide) (by decide +kernel)) ?_
  refine sn_op sIast ?_
  refine sn_op sAl ?_
  refine sn_op sGetI ?_
  refine sn_op sIfNe ?_
  refine sn_op sAl ?_
  refine sn_op sGetR ?_
  refine sn_op sIl ?_
  refine sn_op sIald ?_
  refine sn_op sAl ?_
  refine sn_op sGetR ?_
  refine sn_op sIl ?_
  refine sn_op sIald ?_
  refine sn_op sCmNe ?_
  refine sn_op sAl ?_
  refine sn_op (sIc (n := 3) (by decide)) ?_
  refine sn_op (sCV (sfX7_wrong c hc) (by decide) (by decide +kernel)) ?_
  refine sn_op sAl ?_
  refine sn_op (sCV (sfX7_goOn c hc) (by decide) (by decide +kernel)) ?_
  refine sn_op sAl ?_
  refine sn_op sGetR ?_
  refine sn_op sIl ?_
  refine sn_op sAl ?_
  refine sn_op (sIc (n := 1) (by decide)) ?_
  refine sn_op (sIc (n := 999) (by decide)) ?_
  refine sn_op (sCI (sfX7_numeral c hc) (by decide) (by decide +kernel)) ?_
  refine sn_op sIast ?_
  refine sn_op sAl ?_
  refine sn_op sGetR ?_
  refine sn_op sIl ?_
  refine sn_op sAl ?_
  refine sn_op sAl ?_
  refine sn_op sGetR ?_
  refine sn_op (sIc (n := 4) (by decide)) ?_
  refine sn_op sAl ?_
  refine sn_op sGetI ?_
  refine sn_op (sCI (sfX7_told c hc) (by decide) (by decide +kernel)) ?_
  refine sn_op sIast ?_
  refine sn_op sAl ?_
  refine sn_op (sCV (sfX7_goOn c hc) (by decide) (by decide +kernel)) ?_
  refine sn_op sAl ?_
  refine sn_op sGetR ?_
  refine sn_op sIl ?_
  refine sn_op sAl ?_
  refine sn_op (sIc (n := 1) (by decide)) ?_
  refine sn_op (sIc (n := 999) (by decide)) ?_
  refine sn_op (sCI (sfX7_numeral c hc) (by decide) (by decide +kernel)) ?_
  refine sn_op sIast ?_
  refine sn_op sAl ?_
  refine sn_op sGetI ?_
  refine sn_op sIfNe ?_
  refine sn_op sAl ?_
  refine sn_op (sIc (n := 7) (by decide)) ?_
  refine sn_op (sCI (sfX7_isWord c hc) (by decide) (by decide +kernel)) ?_
  refine sn_op sIfNe ?_
  refine sn_op sAl ?_
  refine sn_op (sIc (n := 1) (by decide)) ?_
  refine sn_op (sCV (sfX7_wrong c hc) (by decide) (by decide +kernel)) ?_
  refine sn_op sAl ?_
  refine sn_op (sCV (sfX7_goOn c hc) (by decide) (by decide +kernel)) ?_
  refine sn_op sAl ?_
  refine sn_op sGetI ?_
  refine sn_op sIfNe ?_
  refine sn_op sAl ?_
  refine sn_op sGetI ?_
  refine sn_op (sIc (n := 2) (by decide)) ?_
  refine sn_op sCmNe ?_
  refine sn_op sAl ?_
  refine sn_op sGetI ?_
  refine sn_op (sIc (n := 400) (by decide)) ?_
  refine sn_op sCmGt ?_
  refine sn_op sAl ?_
  refine sn_op sGetI ?_
  refine sn_op sAl ?_
  refine sn_op sGetR ?_
  refine sn_op (sIc (n := 12) (by decide)) ?_
  refine sn_op sAl ?_
  refine sn_op sGetR ?_
  refine sn_op sIl ?_
  refine sn_op sIald ?_
  refine sn_op sIadd ?_
  refine sn_op sIald ?_
  refine sn_op sCmLt ?_
  refine sn_op sAl ?_
  refine sn_op sGetI ?_
  refine sn_op sAl ?_
  refine sn_op sGetR ?_
  refine sn_op (sIc (n := 12) (by decide)) ?_
  refine sn_op sAl ?_
  refine sn_op sGetR ?_
  refine sn_op sIl ?_
  refine sn_op sIald ?_
  refine sn_op sIadd ?_
  refine sn_op sIald ?_
  refine sn_op sCmGe ?_
  refine sn_op sAl ?_
  refine sn_op (sIc (n := 5) (by decide)) ?_
  refine sn_op (sCV (sfX7_wrong c hc) (by decide) (by decide +kernel)) ?_
  refine sn_op sAl ?_
  refine sn_op sGetR ?_
  refine sn_op sIl ?_
  refine sn_op sAl ?_
  refine sn_op (sIc (n := 0) (by decide)) ?_
  refine sn_op (sIc (n := 400) (by decide)) ?_
  refine sn_op (sCI (sfX7_numeral c hc) (by decide) (by decide +kernel)) ?_
  refine sn_op sIast ?_
  refine sn_op sAl ?_
  refine sn_op sGetR ?_
  refine sn_op sIl ?_
  refine sn_op (sIc (n := 0) (by decide)) ?_
  refine sn_op sIast ?_
  refine sn_op sAl ?_
  refine sn_op (sIc (n := 8) (by decide)) ?_
  refine sn_op (sCI (sfX7_isWord c hc) (by decide) (by decide +kernel)) ?_
  refine sn_op sIfEq ?_
  refine sn_op sAl ?_
  refine sn_op (sCV (sfX7_next c hc) (by decide) (by decide +kernel)) ?_
  refine sn_op sAl ?_
  refine sn_op sGetR ?_
  refine sn_op sIl ?_
  refine sn_op sAl ?_
  refine sn_op (sIc (n := 1) (by decide)) ?_
  refine sn_op (sIc (n := 99) (by decide)) ?_
  refine sn_op (sCI (sfX7_numeral c hc) (by decide) (by decide +kernel)) ?_
  refine sn_op sIast ?_
  refine sn_op sAl ?_
  refine sn_op sDup ?_
  refine sn_op sGetI ?_
  refine sn_op (sIc (n := 1) (by decide)) ?_
  refine sn_op sIadd ?_
  refine sn_op sPutI ?_
  refine sn_op sVret ?_
  exact sn_nil
def csX7_sale : List AC := [([(2, 1175, 0), (0, 40, 69)], 6, [((9, 0, 0), [((1175, 28), (1, 30))], [])], [329048, 329064, 329080, 329096, 329112, 329128, 329144, 124554052759, 137438954647, 141733921943, 146028889239, 150323856535, 154618823831, 158913791127], [((1175, 28), (0, 29))])]
set_option maxRecDepth 100000 in
set_option maxHeartbeats 4000000 in
theorem sfX7_sale (c : Nat × Nat) (hc : c = cA ∨ c = cB) : ∀ ac ∈ csX7_sale, SafeC TYg c mX7_sale ac := by
  intro ac hac
  simp only [csX7_sale, List.mem_cons, List.not_mem_nil, or_false] at hac
  rcases hac with rfl
  · rcases hc with rfl | rfl
    · exact safe_of (ann := []) (fuel := 600) okX7_sale (snX7_sale _ _ cA (Or.inl rfl)) (fun q hq => by cases hq) (by decide) (by decide +kernel)
    · exact safe_of (ann := []) (fuel := 600) okX7_sale (snX7_sale _ _ cB (Or.inr rfl)) (fun q hq => by cases hq) (by decide) (by decide +kernel)
set_option maxRecDepth 100000 in
def adX7_line (D : KK) : List ACE := (0, 1, some (aAl 0)) :: (1, 3, some (aGetI D 7 33)) :: (4, 3, some (aIfNeS 15)) :: (7, 1, some (aAl 0)) :: (8, 3, some (aGetI D 7 34)) :: (11, 1, some (aIc (4))) :: (12, 3, some (aCm bLe (fun C x y => bLt C y x) 21)) :: (15, 1, some (aAl 0)) :: (16, 1, some (aIc (1))) :: (17, 3, some (aCall D 7 2 2 csX7_wrong)) :: (20, 1, some (aVret)) :: (21, 1, some (aAl 0)) :: (22, 3, some (aGetI D 7 34)) :: (25, 1, some (aIs 1)) :: (26, 1, some (aIl 1)) :: (27, 3, some (aIfNeS 38)) :: (30, 1, some (aAl 0)) :: (31, 3, some (aGetI D 7 25)) :: (34, 1, some (aIc (5))) :: (35, 3, some (aCmEqS 79)) :: (38, 1, some (aIl 1)) :: (39, 1, some (aIc (1))) :: (40, 3, some (aCmNeS 51)) :: (43, 1, some (aAl 0)) :: (44, 3, some (aGetI D 7 26)) :: (47, 1, some (aIc (4))) :: (48, 3, some (aCmEqS 79)) :: (51, 1, some (aIl 1)) :: (52, 1, some (aIc (2))) :: (53, 3, some (aCmNeS 65)) :: (56, 1, some (aAl 0)) :: (57, 3, some (aGetI D 7 27)) :: (60, 2, some (aIc (12))) :: (62, 3, some (aCmEqS 79)) :: (65, 1, some (aIl 1)) :: (66, 1, some (aIc (3))) :: (67, 3, some (aCmNeS 85)) :: (70, 1, some (aAl 0)) :: (71, 3, some (aGetI D 7 28)) :: (74, 2, some (aIc (30))) :: (76, 3, some (aCmNeS 85)) :: (79, 1, some (aAl 0)) :: (80, 1, some (aIc (2))) :: (81, 3, some (aCall D 7 2 2 csX7_wrong)) :: (84, 1, some (aVret)) :: (85, 1, some (aAl 0)) :: (86, 3, some (aCall D 7 1 2 csX7_next)) :: (89, 0, none) :: (89, 1, some (aIl 1)) :: (90, 30, some (aSw [(0, 120), (1, 175), (2, 212), (3, 226)] 240)) :: (120, 1, some (aAl 0)) :: (121, 3, some (aGetR [(1175, 42168)])) :: (124, 1, some (aIc (5))) :: (125, 1, some (aAl 0)) :: (126, 3, some (aGetI D 7 25)) :: (129, 1, some (aBin fAdd)) :: (130, 1, some (aAl 0)) :: (131, 1, some (aAl 0)) :: (132, 3, some (aGetR [(1175, 42168)])) :: (135, 1, some (aIc (5))) :: (136, 1, some (aAl 0)) :: (137, 3, some (aGetI D 7 25)) :: (140, 3, some (aCall D 7 4 5 csX7_fresh)) :: (143, 1, some (aIast D)) :: (144, 1, some (aAl 0)) :: (145, 3, some (aGetR [(1175, 42184)])) :: (148, 1, some (aIc (5))) :: (149, 1, some (aAl 0)) :: (150, 3, some (aGetI D 7 25)) :: (153, 1, some (aBin fAdd)) :: (154, 1, some (aAl 0)) :: (155, 1, some (aIc (0))) :: (156, 2, some (aIc (40))) :: (158, 3, some (aCall D 7 3 4 csX7_numeral)) :: (161, 1, some (aIast D)) :: (162, 1, some (aAl 0)) :: (163, 1, some (aDup)) :: (164, 3, some (aGetI D 7 25)) :: (167, 1, some (aIc (1))) :: (168, 1, some (aBin fAdd)) :: (169, 3, some (aPutI D 7 25)) :: (172, 3, some (aGoto 244)) :: (175, 1, some (aAl 0)) :: (176, 3, some (aGetR [(1175, 34008)])) :: (179, 1, some (aIc (4))) :: (180, 1, some (aAl 0)) :: (181, 3, some (aGetI D 7 26)) :: (184, 1, some (aBin fAdd)) :: (185, 1, some (aAl 0)) :: (186, 1, some (aAl 0)) :: (187, 3, some (aGetR [(1175, 34008)])) :: (190, 1, some (aIc (4))) :: (191, 1, some (aAl 0)) :: (192, 3, some (aGetI D 7 26)) :: (195, 3, some (aCall D 7 4 5 csX7_fresh)) :: (198, 1, some (aIast D)) :: (199, 1, some (aAl 0)) :: (200, 1, some (aDup)) :: (201, 3, some (aGetI D 7 26)) :: (204, 1, some (aIc (1))) :: (205, 1, some (aBin fAdd)) :: (206, 3, some (aPutI D 7 26)) :: (209, 3, some (aGoto 244)) :: (212, 1, some (aAl 0)) :: (213, 2, some (aIc (12))) :: (215, 1, some (aAl 0)) :: (216, 3, some (aGetI D 7 27)) :: (219, 1, some (aBin fAdd)) :: (220, 3, some (aCall D 7 2 4 csX7_firmLine)) :: (223, 3, some (aGoto 244)) :: (226, 1, some (aAl 0)) :: (227, 2, some (aIc (40))) :: (229, 1, some (aAl 0)) :: (230, 3, some (aGetI D 7 28)) :: (233, 1, some (aBin fAdd)) :: (234, 3, some (aCall D 7 2 2 csX7_sale)) :: (237, 3, some (aGoto 244)) :: (240, 1, some (aAl 0)) :: (241, 3, some (aCall D 7 1 3 csX7_paid)) :: (244, 1, some (aAl 0)) :: (245, 3, some (aGetI D 7 35)) :: (248, 3, some (aIfEqS 252)) :: (251, 1, some (aVret)) :: (252, 1, some (aAl 0)) :: (253, 3, some (aGetI D 7 33)) :: (256, 1, some (aIc (3))) :: (257, 3, some (aCmEqS 268)) :: (260, 1, some (aAl 0)) :: (261, 1, some (aIc (1))) :: (262, 3, some (aCall D 7 2 2 csX7_wrong)) :: (265, 3, some (aGoto 272)) :: (268, 1, some (aAl 0)) :: (269, 3, some (aCall D 7 1 2 csX7_next)) :: (272, 1, some (aAl 0)) :: (273, 1, some (aDup)) :: (274, 3, some (aGetI D 7 29)) :: (277, 1, some (aIc (1))) :: (278, 1, some (aBin fAdd)) :: (279, 3, some (aPutI D 7 29)) :: (282, 1, some (aVret)) :: []
set_option maxRecDepth 100000 in
set_option maxHeartbeats 4000000 in
theorem snX7_line (d : Nat) (W : List Nat) (c : Nat × Nat) (hc : c = cA ∨ c = cB) : SndAll (d, TYg, c, W) cdX7_line (adX7_line (d, TYg, c, W)) := by
  unfold cdX7_line adX7_line
  refine sn_op sAl ?_
  refine sn_op sGetI ?_
  refine sn_op sIfNeS ?_
  refine sn_op sAl ?_
  refine sn_op sGetI ?_
  refine sn_op (sIc (n := 4) (by decide)) ?_
  refine sn_op sCmLe ?_
  refine sn_op sAl ?_
  refine sn_op (sIc (n := 1) (by decide)) ?_
  refine sn_op (sCV (sfX7_wrong c hc) (by decide) (by decide +kernel)) ?_
  refine sn_op sVret ?_
  refine sn_op sAl ?_
  refine sn_op sGetI ?_
  refine sn_op sIs ?_
  refine sn_op sIl ?_
  refine sn_op sIfNeS ?_
  refine sn_op sAl ?_
  refine sn_op sGetI ?_
  refine sn_op (sIc (n := 5) (by decide)) ?_
  refine sn_op sCmEqS ?_
  refine sn_op sIl ?_
  refine sn_op (sIc (n := 1) (by decide)) ?_
  refine sn_op sCmNeS ?_
  refine sn_op sAl ?_
  refine sn_op sGetI ?_
  refine sn_op (sIc (n := 4) (by decide)) ?_
  refine sn_op sCmEqS ?_
  refine sn_op sIl ?_
  refine sn_op (sIc (n := 2) (by decide)) ?_
  refine sn_op sCmNeS ?_
  refine sn_op sAl ?_
  refine sn_op sGetI ?_
  refine sn_op (sIc (n := 12) (by decide)) ?_
  refine sn_op sCmEqS ?_
  refine sn_op sIl ?_
  refine sn_op (sIc (n := 3) (by decide)) ?_
  refine sn_op sCmNeS ?_
  refine sn_op sAl ?_
  refine sn_op sGetI ?_
  refine sn_op (sIc (n := 30) (by decide)) ?_
  refine sn_op sCmNeS ?_
  refine sn_op sAl ?_
  refine sn_op (sIc (n := 2) (by decide)) ?_
  refine sn_op (sCV (sfX7_wrong c hc) (by decide) (by decide +kernel)) ?_
  refine sn_op sVret ?_
  refine sn_op sAl ?_
  refine sn_op (sCV (sfX7_next c hc) (by decide) (by decide +kernel)) ?_
  refine sn_st ?_
  refine sn_op sIl ?_
  refine sn_op (sSw (by decide)) ?_
  refine sn_op sAl ?_
  refine sn_op sGetR ?_
  refine sn_op (sIc (n := 5) (by decide)) ?_
  refine sn_op sAl ?_
  refine sn_op sGetI ?_
  refine sn_op sIadd ?_
  refine sn_op sAl ?_
  refine sn_op sAl ?_
  refine sn_op sGetR ?_
  refine sn_op (sIc (n := 5) (by decide)) ?_
  refine sn_op sAl ?_
  refine sn_op sGetI ?_
  refine sn_op (sCI (sfX7_fresh c hc) (by decide) (by decide +kernel)) ?_
  refine sn_op sIast ?_
  refine sn_op sAl ?_
  refine sn_op sGetR ?_
  refine sn_op (sIc (n := 5) (by decide)) ?_
  refine sn_op sAl ?_
  refine sn_op sGetI ?_
  refine sn_op sIadd ?_
  refine sn_op sAl ?_
  refine sn_op (sIc (n := 0) (by decide)) ?_
  refine sn_op (sIc (n := 40) (by decide)) ?_
  refine sn_op (sCI (sfX7_numeral c hc) (by decide) (by decide +kernel)) ?_
  refine sn_op sIast ?_
  refine sn_op sAl ?_
  refine sn_op sDup ?_
  refine sn_op sGetI ?_
  refine sn_op (sIc (n := 1) (by decide)) ?_
  refine sn_op sIadd ?_
  refine sn_op sPutI ?_
  refine sn_op sGoto ?_
  refine sn_op sAl ?_
  refine sn_op sGetR ?_
  refine sn_op (sIc (n := 4) (by decide)) ?_
  refine sn_op sAl ?_
  refine sn_op sGetI ?_
  refine sn_op sIadd ?_
  refine sn_op sAl ?_
  refine sn_op sAl ?_
  refine sn_op sGetR ?_
  refine sn_op (sIc (n := 4) (by decide)) ?_
  refine sn_op sAl ?_
  refine sn_op sGetI ?_
  refine sn_op (sCI (sfX7_fresh c hc) (by decide) (by decide +kernel)) ?_
  refine sn_op sIast ?_
  refine sn_op sAl ?_
  refine sn_op sDup ?_
  refine sn_op sGetI ?_
  refine sn_op (sIc (n := 1) (by decide)) ?_
  refine sn_op sIadd ?_
  refine sn_op sPutI ?_
  refine sn_op sGoto ?_
  refine sn_op sAl ?_
  refine sn_op (sIc (n := 12) (by decide)) ?_
  refine sn_op sAl ?_
  refine sn_op sGetI ?_
  refine sn_op sIadd ?_
  refine sn_op (sCV (sfX7_firmLine c hc) (by decide) (by decide +kernel)) ?_
  refine sn_op sGoto ?_
  refine sn_op sAl ?_
  refine sn_op (sIc (n := 40) (by decide)) ?_
  refine sn_op sAl ?_
  refine sn_op sGetI ?_
  refine sn_op sIadd ?_
  refine sn_op (sCV (sfX7_sale c hc) (by decide) (by decide +kernel)) ?_
  refine sn_op sGoto ?_
  refine sn_op sAl ?_
  refine sn_op (sCV (sfX7_paid c hc) (by decide) (by decide +kernel)) ?_
  refine sn_op sAl ?_
  refine sn_op sGetI ?_
  refine sn_op sIfEqS ?_
  refine sn_op sVret ?_
  refine sn_op sAl ?_
  refine sn_op sGetI ?_
  refine sn_op (sIc (n := 3) (by decide)) ?_
  refine sn_op sCmEqS ?_
  refine sn_op sAl ?_
  refine sn_op (sIc (n := 1) (by decide)) ?_
  refine sn_op (sCV (sfX7_wrong c hc) (by decide) (by decide +kernel)) ?_
  refine sn_op sGoto ?_
  refine sn_op sAl ?_
  refine sn_op (sCV (sfX7_next c hc) (by decide) (by decide +kernel)) ?_
  refine sn_op sAl ?_
  refine sn_op sDup ?_
  refine sn_op sGetI ?_
  refine sn_op (sIc (n := 1) (by decide)) ?_
  refine sn_op sIadd ?_
  refine sn_op sPutI ?_
  refine sn_op sVret ?_
  exact sn_nil
def csX7_line : List AC := [([(2, 1175, 0)], 7, [((9, 0, 0), [], [])], [34008, 42168, 42184, 99560, 99576, 99592, 99608, 99624, 99640, 99659, 329048, 329064, 329080, 329096, 329112, 329128, 329144, 111669150871, 115964118167, 120259085463, 124554052759, 128849020055, 137438954647, 141733921943, 146028889239, 150323856535, 154618823831, 158913791127], [])]
set_option maxRecDepth 100000 in
set_option maxHeartbeats 4000000 in
theorem sfX7_line (c : Nat × Nat) (hc : c = cA ∨ c = cB) : ∀ ac ∈ csX7_line, SafeC TYg c mX7_line ac := by
  intro ac hac
  simp only [csX7_line, List.mem_cons, List.not_mem_nil, or_false] at hac
  rcases hac with rfl
  · rcases hc with rfl | rfl
    · exact safe_of (ann := [(89, [], [])]) (fuel := 4000) okX7_line (snX7_line _ _ cA (Or.inl rfl)) (List.forall_mem_cons.mpr ⟨⟨_, _, rfl⟩, (fun q hq => by cases hq)⟩) (by decide) (by decide +kernel)
    · exact safe_of (ann := [(89, [], [])]) (fuel := 4000) okX7_line (snX7_line _ _ cB (Or.inr rfl)) (List.forall_mem_cons.mpr ⟨⟨_, _, rfl⟩, (fun q hq => by cases hq)⟩) (by decide) (by decide +kernel)
set_option maxRecDepth 100000 in
def adX7_look (D : KK) : List ACE := (0, 1, some (aAl 0)) :: (1, 1, some (aAl 0)) :: (2, 1, some (aIl 1)) :: (3, 3, some (aCall D 7 2 2 csX7_isSale)) :: (6, 3, some (aIf bNe bEq 13)) :: (9, 1, some (aIc (1))) :: (10, 3, some (aGoto 28)) :: (13, 1, some (aIl 2)) :: (14, 3, some (aIf bLt (fun C x y => bLe C y x) 23)) :: (17, 1, some (aIl 2)) :: (18, 2, some (aIc (7))) :: (20, 3, some (aCm bLe (fun C x y => bLt C y x) 27)) :: (23, 1, some (aIc (2))) :: (24, 3, some (aGoto 28)) :: (27, 1, some (aIc (0))) :: (28, 3, some (aPutI D 7 0)) :: (31, 1, some (aAl 0)) :: (32, 3, some (aGetI D 7 0)) :: (35, 3, some (aIf bEq bNe 40)) :: (38, 1, some (aIc (0))) :: (39, 1, some (aIret)) :: (40, 1, some (aIl 2)) :: (41, 43, some (aSw [(0, 84), (1, 91), (2, 98), (3, 105), (4, 112), (5, 119), (6, 126)] 133)) :: (84, 1, some (aAl 0)) :: (85, 3, some (aGetR [(1175, 329048)])) :: (88, 1, some (aIl 1)) :: (89, 1, some (aIald D)) :: (90, 1, some (aIret)) :: (91, 1, some (aAl 0)) :: (92, 3, some (aGetR [(1175, 329064)])) :: (95, 1, some (aIl 1)) :: (96, 1, some (aIald D)) :: (97, 1, some (aIret)) :: (98, 1, some (aAl 0)) :: (99, 3, some (aGetR [(1175, 329080)])) :: (102, 1, some (aIl 1)) :: (103, 1, some (aIald D)) :: (104, 1, some (aIret)) :: (105, 1, some (aAl 0)) :: (106, 3, some (aGetR [(1175, 329096)])) :: (109, 1, some (aIl 1)) :: (110, 1, some (aIald D)) :: (111, 1, some (aIret)) :: (112, 1, some (aAl 0)) :: (113, 3, some (aGetR [(1175, 329112)])) :: (116, 1, some (aIl 1)) :: (117, 1, some (aIald D)) :: (118, 1, some (aIret)) :: (119, 1, some (aAl 0)) :: (120, 3, some (aGetR [(1175, 329128)])) :: (123, 1, some (aIl 1)) :: (124, 1, some (aIald D)) :: (125, 1, some (aIret)) :: (126, 1, some (aAl 0)) :: (127, 3, some (aGetR [(1175, 329144)])) :: (130, 1, some (aIl 1)) :: (131, 1, some (aIald D)) :: (132, 1, some (aIret)) :: (133, 1, some (aAl 0)) :: (134, 1, some (aIl 1)) :: (135, 1, some (aAl 0)) :: (136, 3, some (aGetI D 7 40)) :: (139, 3, some (aCall D 7 3 3 csX7_taxOf)) :: (142, 1, some (aIret)) :: []
set_option maxRecDepth 100000 in
set_option maxHeartbeats 4000000 in
theorem snX7_look (d : Nat) (W : List Nat) (c : Nat × Nat) (hc : c = cA ∨ c = cB) : SndAll (d, TYg, c, W) cdX7_look (adX7_look (d, TYg, c, W)) := by
  unfold cdX7_look adX7_look
  refine sn_op sAl ?_
  refine sn_op sAl ?_
  refine sn_op sIl ?_
  refine sn_op (sCI (sfX7_isSale c hc) (by decide) (by decide +kernel)) ?_
  refine sn_op sIfNe ?_
  refine sn_op (sIc (n := 1) (by decide)) ?_
  refine sn_op sGoto ?_
  refine sn_op sIl ?_
  refine sn_op sIfLt ?_
  refine sn_op sIl ?_
  refine sn_op (sIc (n := 7) (by decide)) ?_
  refine sn_op sCmLe ?_
  refine sn_op (sIc (n := 2) (by decide)) ?_
  refine sn_op sGoto ?_
  refine sn_op (sIc (n := 0) (by decide)) ?_
  refine sn_op sPutI ?_
  refine sn_op sAl ?_
  refine sn_op sGetI ?_
  refine sn_op sIfEq ?_
  refine sn_op (sIc (n := 0) (by decide)) ?_
  refine sn_op sIret ?_
  refine sn_op sIl ?_
  refine sn_op (sSw (by decide)) ?_
  refine sn_op sAl ?_
  refine sn_op sGetR ?_
  refine sn_op sIl ?_
  refine sn_op sIald ?_
  refine sn_op sIret ?_
  refine sn_op sAl ?_
  refine sn_op sGetR ?_
  refine sn_op sIl ?_
  refine sn_op sIald ?_
  refine sn_op sIret ?_
  refine sn_op sAl ?_
  refine sn_op sGetR ?_
  refine sn_op sIl ?_
  refine sn_op sIald ?_
  refine sn_op sIret ?_
  refine sn_op sAl ?_
  refine sn_op sGetR ?_
  refine sn_op sIl ?_
  refine sn_op sIald ?_
  refine sn_op sIret ?_
  refine sn_op sAl ?_
  refine sn_op sGetR ?_
  refine sn_op sIl ?_
  refine sn_op sIald ?_
  refine sn_op sIret ?_
  refine sn_op sAl ?_
  refine sn_op sGetR ?_
  refine sn_op sIl ?_
  refine sn_op sIald ?_
  refine sn_op sIret ?_
  refine sn_op sAl ?_
  refine sn_op sGetR ?_
  refine sn_op sIl ?_
  refine sn_op sIald ?_
  refine sn_op sIret ?_
  refine sn_op sAl ?_
  refine sn_op sIl ?_
  refine sn_op sAl ?_
  refine sn_op sGetI ?_
  refine sn_op (sCI (sfX7_taxOf c hc) (by decide) (by decide +kernel)) ?_
  refine sn_op sIret ?_
  exact sn_nil
def csX7_look : List AC := [([(2, 1175, 0), (0, -2147483648, 2147483647), (0, -2147483648, 2147483647)], 3, [((0, -2147483648, 2147483647), [((1175, 0), (0, 0)), ((1175, 6), (1, 40))], [(1, (0, 39)), (2, (3, 7))]), ((0, 0, 999), [((1175, 0), (0, 2))], [])], [4294968471], [])]
set_option maxRecDepth 100000 in
set_option maxHeartbeats 4000000 in
theorem sfX7_look (c : Nat × Nat) (hc : c = cA ∨ c = cB) : ∀ ac ∈ csX7_look, SafeC TYg c mX7_look ac := by
  intro ac hac
  simp only [csX7_look, List.mem_cons, List.not_mem_nil, or_false] at hac
  rcases hac with rfl
  · rcases hc with rfl | rfl
    · exact safe_of (ann := []) (fuel := 600) okX7_look (snX7_look _ _ cA (Or.inl rfl)) (fun q hq => by cases hq) (by decide) (by decide +kernel)
    · exact safe_of (ann := []) (fuel := 600) okX7_look (snX7_look _ _ cB (Or.inr rfl)) (fun q hq => by cases hq) (by decide) (by decide +kernel)
set_option maxRecDepth 100000 in
def adX7_luck (D : KK) : List ACE := (0, 1, some (aAl 0)) :: (1, 1, some (aIc (0))) :: (2, 3, some (aPutI D 7 0)) :: (5, 1, some (aIl 1)) :: (6, 1, some (aIl 2)) :: (7, 1, some (aIl 3)) :: (8, 3, some (aCall D 16 3 3 csX7_isAsked)) :: (11, 3, some (aIf bEq bNe 32)) :: (14, 2, some (aIl 4)) :: (16, 3, some (aIf bLt (fun C x y => bLe C y x) 32)) :: (19, 2, some (aIl 5)) :: (21, 1, some (aIc (1))) :: (22, 3, some (aCm bLt (fun C x y => bLe C y x) 32)) :: (25, 2, some (aIl 5)) :: (27, 2, some (aIc (10))) :: (29, 3, some (aCm bLe (fun C x y => bLt C y x) 34)) :: (32, 1, some (aIc (-1))) :: (33, 1, some (aIret)) :: (34, 1, some (aAl 0)) :: (35, 1, some (aIl 1)) :: (36, 1, some (aIl 2)) :: (37, 1, some (aIl 3)) :: (38, 3, some (aCall D 7 4 5 csX7_seeksNow)) :: (41, 1, some (aAl 0)) :: (42, 3, some (aGetI D 7 47)) :: (45, 3, some (aIf bEq bNe 51)) :: (48, 2, some (aIc (-2))) :: (50, 1, some (aIret)) :: (51, 1, some (aAl 0)) :: (52, 3, some (aGetI D 7 42)) :: (55, 2, some (aIs 6)) :: (57, 2, some (aIl 4)) :: (59, 2, some (aIs 7)) :: (61, 1, some (aIc (0))) :: (62, 2, some (aIs 8)) :: (64, 1, some (aIc (0))) :: (65, 2, some (aIs 9)) :: (67, 0, none) :: (67, 2, some (aIl 9)) :: (69, 2, some (aIl 5)) :: (71, 3, some (aCm (fun C x y => bLe C y x) bLt 227)) :: (74, 1, some (aIc (0))) :: (75, 2, some (aIs 10)) :: (77, 0, none) :: (77, 2, some (aIl 10)) :: (79, 1, some (aAl 0)) :: (80, 3, some (aGetI D 7 6)) :: (83, 3, some (aCm (fun C x y => bLe C y x) bLt 106)) :: (86, 1, some (aAl 0)) :: (87, 3, some (aGetR [(1175, 165384)])) :: (90, 2, some (aIl 10)) :: (92, 1, some (aAl 0)) :: (93, 3, some (aGetR [(1175, 329064)])) :: (96, 2, some (aIl 10)) :: (98, 1, some (aIald D)) :: (99, 1, some (aIast D)) :: (100, 3, some (aInc 10 (1))) :: (103, 3, some (aGoto 77)) :: (106, 1, some (aAl 0)) :: (107, 3, some (aGetI D 7 6)) :: (110, 1, some (aIc (1))) :: (111, 1, some (aBin fSub)) :: (112, 2, some (aIs 10)) :: (114, 0, none) :: (114, 2, some (aIl 10)) :: (116, 3, some (aIf bLe (fun C x y => bLt C y x) 185)) :: (119, 2, some (aIl 7)) :: (121, 3, some (aIc (1103515245))) :: (124, 1, some (aBin fMul)) :: (125, 3, some (aIc (12345))) :: (128, 1, some (aBin fAdd)) :: (129, 3, some (aIc (2147483647))) :: (132, 1, some (aBin fAnd)) :: (133, 2, some (aIs 7)) :: (135, 2, some (aIl 7)) :: (137, 2, some (aIc (16))) :: (139, 1, some (aBin fShr)) :: (140, 2, some (aIl 10)) :: (142, 1, some (aIc (1))) :: (143, 1, some (aBin fAdd)) :: (144, 1, some (aDv fRem)) :: (145, 2, some (aIs 11)) :: (147, 1, some (aAl 0)) :: (148, 3, some (aGetR [(1175, 165384)])) :: (151, 2, some (aIl 10)) :: (153, 1, some (aIald D)) :: (154, 2, some (aIs 12)) :: (156, 1, some (aAl 0)) :: (157, 3, some (aGetR [(1175, 165384)])) :: (160, 2, some (aIl 10)) :: (162, 1, some (aAl 0)) :: (163, 3, some (aGetR [(1175, 165384)])) :: (166, 2, some (aIl 11)) :: (168, 1, some (aIald D)) :: (169, 1, some (aIast D)) :: (170, 1, some (aAl 0)) :: (171, 3, some (aGetR [(1175, 165384)])) :: (174, 2, some (aIl 11)) :: (176, 2, some (aIl 12)) :: (178, 1, some (aIast D)) :: (179, 3, some (aInc 10 (-1))) :: (182, 3, some (aGoto 114)) :: (185, 1, some (aAl 0)) :: (186, 1, some (aIl 1)) :: (187, 1, some (aIl 2)) :: (188, 1, some (aIl 3)) :: (189, 3, some (aCall D 7 4 5 csX7_seeks)) :: (192, 1, some (aAl 0)) :: (193, 3, some (aGetI D 7 47)) :: (196, 3, some (aIf bEq bNe 202)) :: (199, 2, some (aIc (-2))) :: (201, 1, some (aIret)) :: (202, 2, some (aIl 8)) :: (204, 1, some (aAl 0)) :: (205, 3, some (aGetI D 7 42)) :: (208, 2, some (aIl 6)) :: (210, 3, some (aCm bLt (fun C x y => bLe C y x) 217)) :: (213, 1, some (aIc (1))) :: (214, 3, some (aGoto 218)) :: (217, 1, some (aIc (0))) :: (218, 1, some (aBin fAdd)) :: (219, 2, some (aIs 8)) :: (221, 3, some (aInc 9 (1))) :: (224, 3, some (aGoto 67)) :: (227, 2, some (aIl 8)) :: (229, 1, some (aIret)) :: []
set_option maxRecDepth 100000 in
set_option maxHeartbeats 4000000 in
theorem snX7_luck (d : Nat) (W : List Nat) (c : Nat × Nat) (hc : c = cA ∨ c = cB) : SndAll (d, TYg, c, W) cdX7_luck (adX7_luck (d, TYg, c, W)) := by
  unfold cdX7_luck adX7_luck
  refine sn_op sAl ?_
  refine sn_op (sIc (n := 0) (by decide)) ?_
  refine sn_op sPutI ?_
  refine sn_op sIl ?_
  refine sn_op sIl ?_
  refine sn_op sIl ?_
  refine sn_op (sCI (sfX7_isAsked c hc) (by decide) (by decide +kernel)) ?_
  refine sn_op sIfEq ?_
  refine sn_op sIl ?_
  refine sn_op sIfLt ?_
  refine sn_op sIl ?_
  refine sn_op (sIc (n := 1) (by decide)) ?_
  refine sn_op sCmLt ?_
  refine sn_op sIl ?_
  refine sn_op (sIc (n := 10) (by decide)) ?_
  refine sn_op sCmLe ?_
  refine sn_op (sIc (n := -1) (by decide)) ?_
  refine sn_op sIret ?_
  refine sn_op sAl ?_
  refine sn_op sIl ?_
  refine sn_op sIl ?_
  refine sn_op sIl ?_
  refine sn_op (sCV (sfX7_seeksNow c hc) (by decide) (by decide +kernel)) ?_
  refine sn_op sAl ?_
  refine sn_op sGetI ?_
  refine sn_op sIfEq ?_
  refine sn_op (sIc (n := -2) (by decide)) ?_
  refine sn_op sIret ?_
  refine sn_op sAl ?_
  refine sn_op sGetI ?_
  refine sn_op sIs ?_
  refine sn_op sIl ?_
  refine sn_op sIs ?_
  refine sn_op (sIc (n := 0) (by decide)) ?_
  refine sn_op sIs ?_
  refine sn_op (sIc (n := 0) (by decide)) ?_
  refine sn_op sIs ?_
  refine sn_st ?_
  refine sn_op sIl ?_
  refine sn_op sIl ?_
  refine sn_op sCmGe ?_
  refine sn_op (sIc (n := 0) (by decide)) ?_
  refine sn_op sIs ?_
  refine sn_st ?_
  refine sn_op sIl ?_
  refine sn_op sAl ?_
  refine sn_op sGetI ?_
  refine sn_op sCmGe ?_
  refine sn_op sAl ?_
  refine sn_op sGetR ?_
  refine sn_op sIl ?_
  refine sn_op sAl ?_
  refine sn_op sGetR ?_
  refine sn_op sIl ?_
  refine sn_op sIald ?_
  refine sn_op sIast ?_
  refine sn_op (sInc (n := 1) (by decide)) ?_
  refine sn_op sGoto ?_
  refine sn_op sAl ?_
  refine sn_op sGetI ?_
  refine sn_op (sIc (n := 1) (by decide)) ?_
  refine sn_op sIsub ?_
  refine sn_op sIs ?_
  refine sn_st ?_
  refine sn_op sIl ?_
  refine sn_op sIfLe ?_
  refine sn_op sIl ?_
  refine sn_op (sIc (n := 1103515245) (by decide)) ?_
  refine sn_op sImul ?_
  refine sn_op (sIc (n := 12345) (by decide)) ?_
  refine sn_op sIadd ?_
  refine sn_op (sIc (n := 2147483647) (by decide)) ?_
  refine sn_op sIand ?_
  refine sn_op sIs ?_
  refine sn_op sIl ?_
  refine sn_op (sIc (n := 16) (by decide)) ?_
  refine sn_op sIshr ?_
  refine sn_op sIl ?_
  refine sn_op (sIc (n := 1) (by decide)) ?_
  refine sn_op sIadd ?_
  refine sn_op sIrem ?_
  refine sn_op sIs ?_
  refine sn_op sAl ?_
  refine sn_op sGetR ?_
  refine sn_op sIl ?_
  refine sn_op sIald ?_
  refine sn_op sIs ?_
  refine sn_op sAl ?_
  refine sn_op sGetR ?_
  refine sn_op sIl ?_
  refine sn_op sAl ?_
  refine sn_op sGetR ?_
  refine sn_op sIl ?_
  refine sn_op sIald ?_
  refine sn_op sIast ?_
  refine sn_op sAl ?_
  refine sn_op sGetR ?_
  refine sn_op sIl ?_
  refine sn_op sIl ?_
  refine sn_op sIast ?_
  refine sn_op (sInc (n := -1) (by decide)) ?_
  refine sn_op sGoto ?_
  refine sn_op sAl ?_
  refine sn_op sIl ?_
  refine sn_op sIl ?_
  refine sn_op sIl ?_
  refine sn_op (sCV (sfX7_seeks c hc) (by decide) (by decide +kernel)) ?_
  refine sn_op sAl ?_
  refine sn_op sGetI ?_
  refine sn_op sIfEq ?_
  refine sn_op (sIc (n := -2) (by decide)) ?_
  refine sn_op sIret ?_
  refine sn_op sIl ?_
  refine sn_op sAl ?_
  refine sn_op sGetI ?_
  refine sn_op sIl ?_
  refine sn_op sCmLt ?_
  refine sn_op (sIc (n := 1) (by decide)) ?_
  refine sn_op sGoto ?_
  refine sn_op (sIc (n := 0) (by decide)) ?_
  refine sn_op sIadd ?_
  refine sn_op sIs ?_
  refine sn_op (sInc (n := 1) (by decide)) ?_
  refine sn_op sGoto ?_
  refine sn_op sIl ?_
  refine sn_op sIret ?_
  exact sn_nil
def csX7_luck : List AC := [([(2, 1175, 0), (0, -2147483648, 2147483647), (0, -2147483648, 2147483647), (0, -2147483648, 2147483647), (0, -2147483648, 2147483647), (0, -2147483648, 2147483647)], 10, [((0, -2147483648, 2147483647), [], []), ((0, -2, -1), [], [])], [26104, 165384, 820712, 4916696, 4294968471, 184683594903, 206158431383, 210453398679, 214748365975, 219043333271], [])]
set_option maxRecDepth 100000 in
set_option maxHeartbeats 4000000 in
theorem sfX7_luck (c : Nat × Nat) (hc : c = cA ∨ c = cB) : ∀ ac ∈ csX7_luck, SafeC TYg c mX7_luck ac := by
  intro ac hac
  simp only [csX7_luck, List.mem_cons, List.not_mem_nil, or_false] at hac
  rcases hac with rfl
  · rcases hc with rfl | rfl
    · exact safe_of (ann := [(67, [(2, 1175, 0), (0, 0, 1), (0, 2, 6), (0, 0, 400), (0, 0, 2147483647), (0, 1, 10), (0, 0, 200), (0, 0, 2147483647), (0, -2147483648, 2147483647), (0, 0, 10), (4, 0, 0), (4, 0, 0), (4, 0, 0)], [(0, 9, 0, 4294967296), (3, 0, 0, 3)]), (77, [(2, 1175, 0), (0, 0, 1), (0, 2, 6), (0, 0, 400), (0, 0, 2147483647), (0, 1, 10), (0, 0, 200), (0, 0, 2147483647), (0, -2147483648, 2147483647), (0, 0, 9), (0, 0, 40), (4, 0, 0), (4, 0, 0)], [(0, 9, 0, 4294967296), (3, 0, 0, 2), (0, 10, 0, 4294967296)]), (114, [(2, 1175, 0), (0, 0, 1), (0, 2, 6), (0, 0, 400), (0, 0, 2147483647), (0, 1, 10), (0, 0, 200), (0, 0, 2147483647), (0, -2147483648, 2147483647), (0, 0, 9), (0, -1, 39), (4, 0, 0), (4, 0, 0)], [(0, 9, 0, 4294967296), (3, 0, 0, 1), (2, 10, 0, -4294967296)])]) (fuel := 600) okX7_luck (snX7_luck _ _ cA (Or.inl rfl)) (List.forall_mem_cons.mpr ⟨⟨_, _, rfl⟩, List.forall_mem_cons.mpr ⟨⟨_, _, rfl⟩, List.forall_mem_cons.mpr ⟨⟨_, _, rfl⟩, (fun q hq => by cases hq)⟩⟩⟩) (by decide) (by decide +kernel)
    · exact safe_of (ann := [(67, [(2, 1175, 0), (0, 0, 1), (0, 2, 6), (0, 0, 400), (0, 0, 2147483647), (0, 1, 10), (0, 0, 200), (0, 0, 2147483647), (0, -2147483648, 2147483647), (0, 0, 10), (4, 0, 0), (4, 0, 0), (4, 0, 0)], [(0, 9, 0, 4294967296), (3, 0, 0, 3)]), (77, [(2, 1175, 0), (0, 0, 1), (0, 2, 6), (0, 0, 400), (0, 0, 2147483647), (0, 1, 10), (0, 0, 200), (0, 0, 2147483647), (0, -2147483648, 2147483647), (0, 0, 9), (0, 0, 40), (4, 0, 0), (4, 0, 0)], [(0, 9, 0, 4294967296), (3, 0, 0, 2), (0, 10, 0, 4294967296)]), (114, [(2, 1175, 0), (0, 0, 1), (0, 2, 6), (0, 0, 400), (0, 0, 2147483647), (0, 1, 10), (0, 0, 200), (0, 0, 2147483647), (0, -2147483648, 2147483647), (0, 0, 9), (0, -1, 39), (4, 0, 0), (4, 0, 0)], [(0, 9, 0, 4294967296), (3, 0, 0, 1), (2, 10, 0, -4294967296)])]) (fuel := 600) okX7_luck (snX7_luck _ _ cB (Or.inr rfl)) (List.forall_mem_cons.mpr ⟨⟨_, _, rfl⟩, List.forall_mem_cons.mpr ⟨⟨_, _, rfl⟩, List.forall_mem_cons.mpr ⟨⟨_, _, rfl⟩, (fun q hq => by cases hq)⟩⟩⟩) (by decide) (by decide +kernel)
set_option maxRecDepth 100000 in
def adX7_mayHand (D : KK) : List ACE := (0, 1, some (aAl 0)) :: (1, 3, some (aGetR [(1175, 329064)])) :: (4, 1, some (aIl 1)) :: (5, 1, some (aIald D)) :: (6, 1, some (aAl 0)) :: (7, 3, some (aGetR [(1175, 329048)])) :: (10, 1, some (aIl 2)) :: (11, 1, some (aIald D)) :: (12, 3, some (aCm bNe bEq 44)) :: (15, 1, some (aAl 0)) :: (16, 3, some (aGetR [(1175, 329064)])) :: (19, 1, some (aIl 1)) :: (20, 1, some (aIald D)) :: (21, 1, some (aIl 3)) :: (22, 3, some (aCm bEq bNe 44)) :: (25, 1, some (aAl 0)) :: (26, 3, some (aGetR [(1175, 329128)])) :: (29, 1, some (aIl 1)) :: (30, 1, some (aIald D)) :: (31, 1, some (aAl 0)) :: (32, 3, some (aGetR [(1175, 329128)])) :: (35, 1, some (aIl 2)) :: (36, 1, some (aIald D)) :: (37, 3, some (aCm (fun C x y => bLt C y x) bLe 44)) :: (40, 1, some (aIc (1))) :: (41, 3, some (aGoto 45)) :: (44, 1, some (aIc (0))) :: (45, 1, some (aZret)) :: []
set_option maxRecDepth 100000 in
set_option maxHeartbeats 4000000 in
theorem snX7_mayHand (d : Nat) (W : List Nat) (c : Nat × Nat) (hc : c = cA ∨ c = cB) : SndAll (d, TYg, c, W) cdX7_mayHand (adX7_mayHand (d, TYg, c, W)) := by
  unfold cdX7_mayHand adX7_mayHand
  refine sn_op sAl ?_
  refine sn_op sGetR ?_
  refine sn_op sIl ?_
  refine sn_op sIald ?_
  refine sn_op sAl ?_
  refine sn_op sGetR ?_
  refine sn_op sIl ?_
  refine sn_op sIald ?_
  refine sn_op sCmNe ?_
  refine sn_op sAl ?_
  refine sn_op sGetR ?_
  refine sn_op sIl ?_
  refine sn_op sIald ?_
  refine sn_op sIl ?_
  refine sn_op sCmEq ?_
  refine sn_op sAl ?_
  refine sn_op sGetR ?_
  refine sn_op sIl ?_
  refine sn_op sIald ?_
  refine sn_op sAl ?_
  refine sn_op sGetR ?_
  refine sn_op sIl ?_
  refine sn_op sIald ?_
  refine sn_op sCmGt ?_
  refine sn_op (sIc (n := 1) (by decide)) ?_
  refine sn_op sGoto ?_
  refine sn_op (sIc (n := 0) (by decide)) ?_
  refine sn_op sZret ?_
  exact sn_nil
def csX7_mayHand : List AC := [([(2, 1175, 0), (0, 0, 0), (0, 0, 0), (0, 0, 11)], 1, [((0, 0, 0), [], []), ((0, 1, 1), [], [])], [], []), ([(2, 1175, 0), (0, 0, 39), (0, 0, 39), (0, 0, 11)], 1, [((0, 0, 0), [], []), ((0, 1, 1), [], [])], [], [])]
set_option maxRecDepth 100000 in
set_option maxHeartbeats 4000000 in
theorem sfX7_mayHand (c : Nat × Nat) (hc : c = cA ∨ c = cB) : ∀ ac ∈ csX7_mayHand, SafeC TYg c mX7_mayHand ac := by
  intro ac hac
  simp only [csX7_mayHand, List.mem_cons, List.not_mem_nil, or_false] at hac
  rcases hac with rfl | rfl
  · rcases hc with rfl | rfl
    · exact safe_of (ann := []) (fuel := 600) okX7_mayHand (snX7_mayHand _ _ cA (Or.inl rfl)) (fun q hq => by cases hq) (by decide) (by decide +kernel)
    · exact safe_of (ann := []) (fuel := 600) okX7_mayHand (snX7_mayHand _ _ cB (Or.inr rfl)) (fun q hq => by cases hq) (by decide) (by decide +kernel)
  · rcases hc with rfl | rfl
    · exact safe_of (ann := []) (fuel := 600) okX7_mayHand (snX7_mayHand _ _ cA (Or.inl rfl)) (fun q hq => by cases hq) (by decide) (by decide +kernel)
    · exact safe_of (ann := []) (fuel := 600) okX7_mayHand (snX7_mayHand _ _ cB (Or.inr rfl)) (fun q hq => by cases hq) (by decide) (by decide +kernel)
set_option maxRecDepth 100000 in
def adX7_named (D : KK) : List ACE := (0, 1, some (aAl 0)) :: (1, 1, some (aIc (0))) :: (2, 3, some (aPutI D 7 0)) :: (5, 1, some (aIl 1)) :: (6, 3, some (aIf bNe bEq 25)) :: (9, 1, some (aAl 0)) :: (10, 3, some (aGetR [(1175, 42168)])) :: (13, 1, some (aIc (0))) :: (14, 1, some (aAl 0)) :: (15, 3, some (aGetI D 7 3)) :: (18, 1, some (aIl 2)) :: (19, 3, some (aCall D 16 4 5 csX7_found)) :: (22, 3, some (aGoto 68)) :: (25, 1, some (aIl 1)) :: (26, 1, some (aIc (1))) :: (27, 3, some (aCm bNe bEq 46)) :: (30, 1, some (aAl 0)) :: (31, 3, some (aGetR [(1175, 34008)])) :: (34, 1, some (aIc (0))) :: (35, 1, some (aAl 0)) :: (36, 3, some (aGetI D 7 4)) :: (39, 1, some (aIl 2)) :: (40, 3, some (aCall D 16 4 5 csX7_found)) :: (43, 3, some (aGoto 68)) :: (46, 1, some (aIl 1)) :: (47, 1, some (aIc (2))) :: (48, 3, some (aCm bNe bEq 67)) :: (51, 1, some (aAl 0)) :: (52, 3, some (aGetR [(1175, 99560)])) :: (55, 1, some (aIc (0))) :: (56, 1, some (aAl 0)) :: (57, 3, some (aGetI D 7 5)) :: (60, 1, some (aIl 2)) :: (61, 3, some (aCall D 16 4 5 csX7_found)) :: (64, 3, some (aGoto 68)) :: (67, 1, some (aIc (-1))) :: (68, 1, some (aIret)) :: []
set_option maxRecDepth 100000 in
set_option maxHeartbeats 4000000 in
theorem snX7_named (d : Nat) (W : List Nat) (c : Nat × Nat) (hc : c = cA ∨ c = cB) : SndAll (d, TYg, c, W) cdX7_named (adX7_named (d, TYg, c, W)) := by
  unfold cdX7_named adX7_named
  refine sn_op sAl ?_
  refine sn_op (sIc (n := 0) (by decide)) ?_
  refine sn_op sPutI ?_
  refine sn_op sIl ?_
  refine sn_op sIfNe ?_
  refine sn_op sAl ?_
  refine sn_op sGetR ?_
  refine sn_op (sIc (n := 0) (by decide)) ?_
  refine sn_op sAl ?_
  refine sn_op sGetI ?_
  refine sn_op sIl ?_
  refine sn_op (sCI (sfX7_found c hc) (by decide) (by decide +kernel)) ?_
  refine sn_op sGoto ?_
  refine sn_op sIl ?_
  refine sn_op (sIc (n := 1) (by decide)) ?_
  refine sn_op sCmNe ?_
  refine sn_op sAl ?_
  refine sn_op sGetR ?_
  refine sn_op (sIc (n := 0) (by decide)) ?_
  refine sn_op sAl ?_
  refine sn_op sGetI ?_
  refine sn_op sIl ?_
  refine sn_op (sCI (sfX7_found c hc) (by decide) (by decide +kernel)) ?_
  refine sn_op sGoto ?_
  refine sn_op sIl ?_
  refine sn_op (sIc (n := 2) (by decide)) ?_
  refine sn_op sCmNe ?_
  refine sn_op sAl ?_
  refine sn_op sGetR ?_
  refine sn_op (sIc (n := 0) (by decide)) ?_
  refine sn_op sAl ?_
  refine sn_op sGetI ?_
  refine sn_op sIl ?_
  refine sn_op (sCI (sfX7_found c hc) (by decide) (by decide +kernel)) ?_
  refine sn_op sGoto ?_
  refine sn_op (sIc (n := -1) (by decide)) ?_
  refine sn_op sIret ?_
  exact sn_nil
def csX7_named : List AC := [([(2, 1175, 0), (0, -2147483648, 2147483647), (0, -2147483648, 2147483647)], 2, [((0, -1, -1), [((1175, 0), (0, 0))], []), ((0, 0, 11), [((1175, 0), (0, 0))], [(1, (0, 2))])], [4294968471], [])]
set_option maxRecDepth 100000 in
set_option maxHeartbeats 4000000 in
theorem sfX7_named (c : Nat × Nat) (hc : c = cA ∨ c = cB) : ∀ ac ∈ csX7_named, SafeC TYg c mX7_named ac := by
  intro ac hac
  simp only [csX7_named, List.mem_cons, List.not_mem_nil, or_false] at hac
  rcases hac with rfl
  · rcases hc with rfl | rfl
    · exact safe_of (ann := []) (fuel := 600) okX7_named (snX7_named _ _ cA (Or.inl rfl)) (fun q hq => by cases hq) (by decide) (by decide +kernel)
    · exact safe_of (ann := []) (fuel := 600) okX7_named (snX7_named _ _ cB (Or.inr rfl)) (fun q hq => by cases hq) (by decide) (by decide +kernel)
set_option maxRecDepth 100000 in
def adX7_pay (D : KK) : List ACE := (0, 1, some (aAl 0)) :: (1, 1, some (aIc (0))) :: (2, 3, some (aPutI D 7 0)) :: (5, 1, some (aAl 0)) :: (6, 1, some (aIl 1)) :: (7, 3, some (aCall D 7 2 2 csX7_isFirm)) :: (10, 3, some (aIf bEq bNe 36)) :: (13, 1, some (aIl 2)) :: (14, 3, some (aIf bLt (fun C x y => bLe C y x) 36)) :: (17, 1, some (aIl 2)) :: (18, 2, some (aIc (999999))) :: (20, 3, some (aCm (fun C x y => bLt C y x) bLe 36)) :: (23, 1, some (aAl 0)) :: (24, 3, some (aGetR [(1175, 99640)])) :: (27, 1, some (aIl 1)) :: (28, 1, some (aIald D)) :: (29, 1, some (aIl 2)) :: (30, 1, some (aBin fAdd)) :: (31, 2, some (aIc (999999))) :: (33, 3, some (aCm bLe (fun C x y => bLt C y x) 38)) :: (36, 1, some (aIc (-1))) :: (37, 1, some (aIret)) :: (38, 1, some (aAl 0)) :: (39, 3, some (aGetR [(1175, 99640)])) :: (42, 1, some (aIl 1)) :: (43, 1, some (aDup2)) :: (44, 1, some (aIald D)) :: (45, 1, some (aIl 2)) :: (46, 1, some (aBin fAdd)) :: (47, 1, some (aIast D)) :: (48, 1, some (aAl 0)) :: (49, 3, some (aGetR [(1175, 99640)])) :: (52, 1, some (aIl 1)) :: (53, 1, some (aIald D)) :: (54, 1, some (aIret)) :: []
set_option maxRecDepth 100000 in
set_option maxHeartbeats 4000000 in
theorem snX7_pay (d : Nat) (W : List Nat) (c : Nat × Nat) (hc : c = cA ∨ c = cB) : SndAll (d, TYg, c, W) cdX7_pay (adX7_pay (d, TYg, c, W)) := by
  unfold cdX7_pay adX7_pay
  refine sn_op sAl ?_
  refine sn_op (sIc (n := 0) (by decide)) ?_
  refine sn_op sPutI ?_
  refine sn_op sAl ?_
  refine sn_op sIl ?_
  refine sn_op (sCI (sfX7_isFirm c hc) (by decide) (by decide +kernel)) ?_
  refine sn_op sIfEq ?_
  refine sn_op sIl ?_
  refine sn_op sIfLt ?_
  refine sn_op sIl ?_
  refine sn_op (sIc (n := 999999) (by decide)) ?_
  refine sn_op sCmGt ?_
  refine sn_op sAl ?_
  refine sn_op sGetR ?_
  refine sn_op sIl ?_
  refine sn_op sIald ?_
  refine sn_op sIl ?_
  refine sn_op sIadd ?_
  refine sn_op (sIc (n := 999999) (by decide)) ?_
  refine sn_op sCmLe ?_
  refine sn_op (sIc (n := -1) (by decide)) ?_
  refine sn_op sIret ?_
  refine sn_op sAl ?_
  refine sn_op sGetR ?_
  refine sn_op sIl ?_
  refine sn_op sDup2 ?_
  refine sn_op sIald ?_
  refine sn_op sIl ?_
  refine sn_op sIadd ?_
  refine sn_op sIast ?_
  refine sn_op sAl ?_
  refine sn_op sGetR ?_
  refine sn_op sIl ?_
  refine sn_op sIald ?_
  refine sn_op sIret ?_
  exact sn_nil
def csX7_pay : List AC := [([(2, 1175, 0), (0, -2147483648, 2147483647), (0, -2147483648, 2147483647)], 2, [((0, -2147483648, 2147483647), [((1175, 0), (0, 0)), ((1175, 5), (1, 12))], [(1, (0, 11)), (2, (0, 999999))]), ((0, -1, -1), [((1175, 0), (0, 0))], [])], [99640, 4294968471], [])]
set_option maxRecDepth 100000 in
set_option maxHeartbeats 4000000 in
theorem sfX7_pay (c : Nat × Nat) (hc : c = cA ∨ c = cB) : ∀ ac ∈ csX7_pay, SafeC TYg c mX7_pay ac := by
  intro ac hac
  simp only [csX7_pay, List.mem_cons, List.not_mem_nil, or_false] at hac
  rcases hac with rfl
  · rcases hc with rfl | rfl
    · exact safe_of (ann := []) (fuel := 600) okX7_pay (snX7_pay _ _ cA (Or.inl rfl)) (fun q hq => by cases hq) (by decide) (by decide +kernel)
    · exact safe_of (ann := []) (fuel := 600) okX7_pay (snX7_pay _ _ cB (Or.inr rfl)) (fun q hq => by cases hq) (by decide) (by decide +kernel)
set_option maxRecDepth 100000 in
def adX7_round (D : KK) : List ACE := (0, 1, some (aAl 0)) :: (1, 1, some (aIc (0))) :: (2, 3, some (aPutI D 7 0)) :: (5, 1, some (aIl 1)) :: (6, 1, some (aIl 2)) :: (7, 1, some (aIl 3)) :: (8, 3, some (aCall D 16 3 3 csX7_isAsked)) :: (11, 3, some (aIf bEq bNe 19)) :: (14, 2, some (aIl 5)) :: (16, 3, some (aIf (fun C x y => bLe C y x) bLt 21)) :: (19, 1, some (aIc (-1))) :: (20, 1, some (aIret)) :: (21, 1, some (aAl 0)) :: (22, 1, some (aIl 1)) :: (23, 1, some (aIl 2)) :: (24, 1, some (aIl 3)) :: (25, 3, some (aCall D 7 4 5 csX7_seeksNow)) :: (28, 1, some (aAl 0)) :: (29, 3, some (aGetI D 7 47)) :: (32, 3, some (aIf bEq bNe 38)) :: (35, 2, some (aIc (-2))) :: (37, 1, some (aIret)) :: (38, 2, some (aIl 4)) :: (40, 3, some (aIf bLt (fun C x y => bLe C y x) 66)) :: (43, 2, some (aIl 4)) :: (45, 1, some (aAl 0)) :: (46, 3, some (aGetI D 7 42)) :: (49, 3, some (aCm (fun C x y => bLe C y x) bLt 66)) :: (52, 2, some (aIl 5)) :: (54, 1, some (aIc (4))) :: (55, 1, some (aBin fSub)) :: (56, 1, some (aAl 0)) :: (57, 3, some (aGetR [(1175, 820712)])) :: (60, 2, some (aIl 4)) :: (62, 1, some (aIald D)) :: (63, 3, some (aCm bLt (fun C x y => bLe C y x) 68)) :: (66, 1, some (aIc (-1))) :: (67, 1, some (aIret)) :: (68, 2, some (aIl 5)) :: (70, 30, some (aSw [(0, 100), (1, 108), (2, 115), (3, 130)] 137)) :: (100, 1, some (aAl 0)) :: (101, 3, some (aGetR [(1175, 820712)])) :: (104, 2, some (aIl 4)) :: (106, 1, some (aIald D)) :: (107, 1, some (aIret)) :: (108, 1, some (aAl 0)) :: (109, 2, some (aIl 4)) :: (111, 3, some (aCall D 7 2 4 csX7_carries)) :: (114, 1, some (aIret)) :: (115, 1, some (aAl 0)) :: (116, 2, some (aIl 4)) :: (118, 1, some (aAl 0)) :: (119, 3, some (aGetI D 7 40)) :: (122, 1, some (aAl 0)) :: (123, 3, some (aGetI D 7 40)) :: (126, 3, some (aCall D 7 4 8 csX7_takesOf)) :: (129, 1, some (aIret)) :: (130, 1, some (aAl 0)) :: (131, 2, some (aIl 4)) :: (133, 3, some (aCall D 7 2 4 csX7_firmsOf)) :: (136, 1, some (aIret)) :: (137, 1, some (aAl 0)) :: (138, 3, some (aGetR [(1175, 4916696)])) :: (141, 2, some (aIc (6))) :: (143, 2, some (aIl 4)) :: (145, 1, some (aBin fMul)) :: (146, 2, some (aIl 5)) :: (148, 1, some (aBin fAdd)) :: (149, 1, some (aIc (4))) :: (150, 1, some (aBin fSub)) :: (151, 1, some (aIald D)) :: (152, 1, some (aIret)) :: []
set_option maxRecDepth 100000 in
set_option maxHeartbeats 4000000 in
theorem snX7_round (d : Nat) (W : List Nat) (c : Nat × Nat) (hc : c = cA ∨ c = cB) : SndAll (d, TYg, c, W) cdX7_round (adX7_round (d, TYg, c, W)) := by
  unfold cdX7_round adX7_round
  refine sn_op sAl ?_
  refine sn_op (sIc (n := 0) (by decide)) ?_
  refine sn_op sPutI ?_
  refine sn_op sIl ?_
  refine sn_op sIl ?_
  refine sn_op sIl ?_
  refine sn_op (sCI (sfX7_isAsked c hc) (by decide) (by decide +kernel)) ?_
  refine sn_op sIfEq ?_
  refine sn_op sIl ?_
  refine sn_op sIfGe ?_
  refine sn_op (sIc (n := -1) (by decide)) ?_
  refine sn_op sIret ?_
  refine sn_op sAl ?_
  refine sn_op sIl ?_
  refine sn_op sIl ?_
  refine sn_op sIl ?_
  refine sn_op (sCV (sfX7_seeksNow c hc) (by decide) (by decide +kernel)) ?_
  refine sn_op sAl ?_
  refine sn_op sGetI ?_
  refine sn_op sIfEq ?_
  refine sn_op (sIc (n := -2) (by decide)) ?_
  refine sn_op sIret ?_
  refine sn_op sIl ?_
  refine sn_op sIfLt ?_
  refine sn_op sIl ?_
  refine sn_op sAl ?_
  refine sn_op sGetI ?_
  refine sn_op sCmGe ?_
  refine sn_op sIl ?_
  refine sn_op (sIc (n := 4) (by decide)) ?_
  refine sn_op sIsub ?_
  refine sn_op sAl ?_
  refine sn_op sGetR ?_
  refine sn_op sIl ?_
  refine sn_op sIald ?_
  refine sn_op sCmLt ?_
  refine sn_op (sIc (n := -1) (by decide)) ?_
  refine sn_op sIret ?_
  refine sn_op sIl ?_
  refine sn_op (sSw (by decide)) ?_
  refine sn_op sAl ?_
  refine sn_op sGetR ?_
  refine sn_op sIl ?_
  refine sn_op sIald ?_
  refine sn_op sIret ?_
  refine sn_op sAl ?_
  refine sn_op sIl ?_
  refine sn_op (sCI (sfX7_carries c hc) (by decide) (by decide +kernel)) ?_
  refine sn_op sIret ?_
  refine sn_op sAl ?_
  refine sn_op sIl ?_
  refine sn_op sAl ?_
  refine sn_op sGetI ?_
  refine sn_op sAl ?_
  refine sn_op sGetI ?_
  refine sn_op (sCI (sfX7_takesOf c hc) (by decide) (by decide +kernel)) ?_
  refine sn_op sIret ?_
  refine sn_op sAl ?_
  refine sn_op sIl ?_
  refine sn_op (sCI (sfX7_firmsOf c hc) (by decide) (by decide +kernel)) ?_
  refine sn_op sIret ?_
  refine sn_op sAl ?_
  refine sn_op sGetR ?_
  refine sn_op (sIc (n := 6) (by decide)) ?_
  refine sn_op sIl ?_
  refine sn_op sImul ?_
  refine sn_op sIl ?_
  refine sn_op sIadd ?_
  refine sn_op (sIc (n := 4) (by decide)) ?_
  refine sn_op sIsub ?_
  refine sn_op sIald ?_
  refine sn_op sIret ?_
  exact sn_nil
def csX7_round : List AC := [([(2, 1175, 0), (0, -2147483648, 2147483647), (0, -2147483648, 2147483647), (0, -2147483648, 2147483647), (0, -2147483648, 2147483647), (0, -2147483648, 2147483647)], 10, [((0, -2147483648, 2147483647), [((1175, 0), (0, 0)), ((1175, 42), (1, 200)), ((1175, 47), (0, 0)), ((1175, 49), (2, 6))], [(1, (0, 1)), (2, (2, 6)), (3, (0, 400)), (4, (0, 199)), (5, (2, 3))]), ((0, -2, -1), [((1175, 0), (0, 0))], []), ((0, 0, 999), [((1175, 0), (0, 0)), ((1175, 42), (1, 200)), ((1175, 47), (0, 0)), ((1175, 49), (2, 6))], [(1, (0, 1)), (2, (2, 6)), (3, (0, 400)), (4, (0, 199)), (5, (0, 9))])], [26104, 165384, 820712, 4916696, 4294968471, 184683594903, 206158431383, 210453398679, 214748365975, 219043333271], [])]
set_option maxRecDepth 100000 in
set_option maxHeartbeats 4000000 in
theorem sfX7_round (c : Nat × Nat) (hc : c = cA ∨ c = cB) : ∀ ac ∈ csX7_round, SafeC TYg c mX7_round ac := by
  intro ac hac
  simp only [csX7_round, List.mem_cons, List.not_mem_nil, or_false] at hac
  rcases hac with rfl
  · rcases hc with rfl | rfl
    · exact safe_of (ann := []) (fuel := 600) okX7_round (snX7_round _ _ cA (Or.inl rfl)) (fun q hq => by cases hq) (by decide) (by decide +kernel)
    · exact safe_of (ann := []) (fuel := 600) okX7_round (snX7_round _ _ cB (Or.inr rfl)) (fun q hq => by cases hq) (by decide) (by decide +kernel)
set_option maxRecDepth 100000 in
def adX7_rounds (D : KK) : List ACE := (0, 1, some (aAl 0)) :: (1, 1, some (aIc (0))) :: (2, 3, some (aPutI D 7 0)) :: (5, 1, some (aIl 1)) :: (6, 1, some (aIl 2)) :: (7, 1, some (aIl 3)) :: (8, 3, some (aCall D 16 3 3 csX7_isAsked)) :: (11, 3, some (aIf bNe bEq 16)) :: (14, 1, some (aIc (-1))) :: (15, 1, some (aIret)) :: (16, 1, some (aAl 0)) :: (17, 1, some (aIl 1)) :: (18, 1, some (aIl 2)) :: (19, 1, some (aIl 3)) :: (20, 3, some (aCall D 7 4 5 csX7_seeksNow)) :: (23, 1, some (aAl 0)) :: (24, 3, some (aGetI D 7 47)) :: (27, 3, some (aIf bEq bNe 35)) :: (30, 2, some (aIc (-2))) :: (32, 3, some (aGoto 39)) :: (35, 1, some (aAl 0)) :: (36, 3, some (aGetI D 7 42)) :: (39, 1, some (aIret)) :: []
set_option maxRecDepth 100000 in
set_option maxHeartbeats 4000000 in
theorem snX7_rounds (d : Nat) (W : List Nat) (c : Nat × Nat) (hc : c = cA ∨ c = cB) : SndAll (d, TYg, c, W) cdX7_rounds (adX7_rounds (d, TYg, c, W)) := by
  unfold cdX7_rounds adX7_rounds
  refine sn_op sAl ?_
  refine sn_op (sIc (n := 0) (by decide)) ?_
  refine sn_op sPutI ?_
  refine sn_op sIl ?_
  refine sn_op sIl ?_
  refine sn_op sIl ?_
  refine sn_op (sCI (sfX7_isAsked c hc) (by decide) (by decide +kernel)) ?_
  refine sn_op sIfNe ?_
  refine sn_op (sIc (n := -1) (by decide)) ?_
  refine sn_op sIret ?_
  refine sn_op sAl ?_
  refine sn_op sIl ?_
  refine sn_op sIl ?_
  refine sn_op sIl ?_
  refine sn_op (sCV (sfX7_seeksNow c hc) (by decide) (by decide +kernel)) ?_
  refine sn_op sAl ?_
  refine sn_op sGetI ?_
  refine sn_op sIfEq ?_
  refine sn_op (sIc (n := -2) (by decide)) ?_
  refine sn_op sGoto ?_
  refine sn_op sAl ?_
  refine sn_op sGetI ?_
  refine sn_op sIret ?_
  exact sn_nil
def csX7_rounds : List AC := [([(2, 1175, 0), (0, -2147483648, 2147483647), (0, -2147483648, 2147483647), (0, -2147483648, 2147483647)], 10, [((0, -2, -1), [((1175, 0), (0, 0))], []), ((0, 0, 200), [((1175, 0), (0, 0)), ((1175, 47), (0, 0)), ((1175, 49), (2, 6))], [(1, (0, 1)), (2, (2, 6)), (3, (0, 400))])], [26104, 165384, 820712, 4916696, 4294968471, 184683594903, 206158431383, 210453398679, 214748365975, 219043333271], [])]
set_option maxRecDepth 100000 in
set_option maxHeartbeats 4000000 in
theorem sfX7_rounds (c : Nat × Nat) (hc : c = cA ∨ c = cB) : ∀ ac ∈ csX7_rounds, SafeC TYg c mX7_rounds ac := by
  intro ac hac
  simp only [csX7_rounds, List.mem_cons, List.not_mem_nil, or_false] at hac
  rcases hac with rfl
  · rcases hc with rfl | rfl
    · exact safe_of (ann := []) (fuel := 600) okX7_rounds (snX7_rounds _ _ cA (Or.inl rfl)) (fun q hq => by cases hq) (by decide) (by decide +kernel)
    · exact safe_of (ann := []) (fuel := 600) okX7_rounds (snX7_rounds _ _ cB (Or.inr rfl)) (fun q hq => by cases hq) (by decide) (by decide +kernel)
set_option maxRecDepth 100000 in
def adX7_rule (D : KK) : List ACE := (0, 1, some (aAl 0)) :: (1, 1, some (aIc (0))) :: (2, 3, some (aPutI D 7 0)) :: (5, 1, some (aIl 1)) :: (6, 3, some (aIf bLt (fun C x y => bLe C y x) 19)) :: (9, 1, some (aIl 1)) :: (10, 1, some (aIc (1))) :: (11, 1, some (aAl 0)) :: (12, 3, some (aGetI D 7 3)) :: (15, 1, some (aBin fTop)) :: (16, 3, some (aCm bLt (fun C x y => bLe C y x) 21)) :: (19, 1, some (aIc (-1))) :: (20, 1, some (aIret)) :: (21, 1, some (aAl 0)) :: (22, 1, some (aIl 1)) :: (23, 3, some (aPutI D 7 40)) :: (26, 1, some (aIl 1)) :: (27, 3, some (aCall D 16 1 3 csX7_bits)) :: (30, 1, some (aIret)) :: []
set_option maxRecDepth 100000 in
set_option maxHeartbeats 4000000 in
theorem snX7_rule (d : Nat) (W : List Nat) (c : Nat × Nat) (hc : c = cA ∨ c = cB) : SndAll (d, TYg, c, W) cdX7_rule (adX7_rule (d, TYg, c, W)) := by
  unfold cdX7_rule adX7_rule
  refine sn_op sAl ?_
  refine sn_op (sIc (n := 0) (by decide)) ?_
  refine sn_op sPutI ?_
  refine sn_op sIl ?_
  refine sn_op sIfLt ?_
  refine sn_op sIl ?_
  refine sn_op (sIc (n := 1) (by decide)) ?_
  refine sn_op sAl ?_
  refine sn_op sGetI ?_
  refine sn_op sIshl ?_
  refine sn_op sCmLt ?_
  refine sn_op (sIc (n := -1) (by decide)) ?_
  refine sn_op sIret ?_
  refine sn_op sAl ?_
  refine sn_op sIl ?_
  refine sn_op sPutI ?_
  refine sn_op sIl ?_
  refine sn_op (sCI (sfX7_bits c hc) (by decide) (by decide +kernel)) ?_
  refine sn_op sIret ?_
  exact sn_nil
def csX7_rule : List AC := [([(2, 1175, 0), (0, -2147483648, 2147483647)], 2, [((0, -2147483648, 2147483647), [((1175, 0), (0, 0)), ((1175, 40), (0, 2147483646))], [(1, (0, 2147483646))]), ((0, -1, -1), [((1175, 0), (0, 0))], [])], [4294968471, 176093660311], [])]
set_option maxRecDepth 100000 in
set_option maxHeartbeats 4000000 in
theorem sfX7_rule (c : Nat × Nat) (hc : c = cA ∨ c = cB) : ∀ ac ∈ csX7_rule, SafeC TYg c mX7_rule ac := by
  intro ac hac
  simp only [csX7_rule, List.mem_cons, List.not_mem_nil, or_false] at hac
  rcases hac with rfl
  · rcases hc with rfl | rfl
    · exact safe_of (ann := []) (fuel := 600) okX7_rule (snX7_rule _ _ cA (Or.inl rfl)) (fun q hq => by cases hq) (by decide) (by decide +kernel)
    · exact safe_of (ann := []) (fuel := 600) okX7_rule (snX7_rule _ _ cB (Or.inr rfl)) (fun q hq => by cases hq) (by decide) (by decide +kernel)
set_option maxRecDepth 100000 in
def adX7_sell (D : KK) : List ACE := (0, 1, some (aAl 0)) :: (1, 1, some (aIc (0))) :: (2, 3, some (aPutI D 7 0)) :: (5, 1, some (aAl 0)) :: (6, 1, some (aIl 1)) :: (7, 3, some (aCall D 7 2 2 csX7_isFirm)) :: (10, 3, some (aIf bEq bNe 75)) :: (13, 1, some (aAl 0)) :: (14, 1, some (aIl 2)) :: (15, 3, some (aCall D 7 2 2 csX7_isFirm)) :: (18, 3, some (aIf bEq bNe 75)) :: (21, 1, some (aIl 1)) :: (22, 1, some (aIl 2)) :: (23, 3, some (aCm bEq bNe 75)) :: (26, 1, some (aIl 3)) :: (27, 1, some (aIc (1))) :: (28, 3, some (aCm bLt (fun C x y => bLe C y x) 75)) :: (31, 1, some (aIl 3)) :: (32, 3, some (aIc (999))) :: (35, 3, some (aCm (fun C x y => bLt C y x) bLe 75)) :: (38, 2, some (aIl 4)) :: (40, 3, some (aIf bLt (fun C x y => bLe C y x) 75)) :: (43, 2, some (aIl 4)) :: (45, 1, some (aAl 0)) :: (46, 3, some (aGetI D 7 4)) :: (49, 3, some (aCm (fun C x y => bLe C y x) bLt 75)) :: (52, 2, some (aIl 5)) :: (54, 1, some (aIc (1))) :: (55, 3, some (aCm bLt (fun C x y => bLe C y x) 75)) :: (58, 2, some (aIl 5)) :: (60, 3, some (aIc (999))) :: (63, 3, some (aCm (fun C x y => bLt C y x) bLe 75)) :: (66, 1, some (aAl 0)) :: (67, 3, some (aGetI D 7 6)) :: (70, 2, some (aIc (40))) :: (72, 3, some (aCm bNe bEq 77)) :: (75, 1, some (aIc (-1))) :: (76, 1, some (aIret)) :: (77, 2, some (aIl 6)) :: (79, 1, some (aAl 0)) :: (80, 3, some (aGetR [(1175, 99592)])) :: (83, 1, some (aIl 1)) :: (84, 1, some (aIald D)) :: (85, 3, some (aCm bLt (fun C x y => bLe C y x) 119)) :: (88, 2, some (aIl 6)) :: (90, 1, some (aAl 0)) :: (91, 3, some (aGetR [(1175, 99592)])) :: (94, 1, some (aIl 2)) :: (95, 1, some (aIald D)) :: (96, 3, some (aCm bLt (fun C x y => bLe C y x) 119)) :: (99, 2, some (aIl 6)) :: (101, 3, some (aIc (400))) :: (104, 3, some (aCm (fun C x y => bLt C y x) bLe 119)) :: (107, 2, some (aIl 7)) :: (109, 3, some (aIf bLt (fun C x y => bLe C y x) 119)) :: (112, 2, some (aIl 7)) :: (114, 2, some (aIc (99))) :: (116, 3, some (aCm bLe (fun C x y => bLt C y x) 121)) :: (119, 1, some (aIc (-1))) :: (120, 1, some (aIret)) :: (121, 1, some (aAl 0)) :: (122, 3, some (aGetR [(1175, 329048)])) :: (125, 1, some (aAl 0)) :: (126, 3, some (aGetI D 7 6)) :: (129, 1, some (aIl 1)) :: (130, 1, some (aIast D)) :: (131, 1, some (aAl 0)) :: (132, 3, some (aGetR [(1175, 329064)])) :: (135, 1, some (aAl 0)) :: (136, 3, some (aGetI D 7 6)) :: (139, 1, some (aIl 2)) :: (140, 1, some (aIast D)) :: (141, 1, some (aAl 0)) :: (142, 3, some (aGetR [(1175, 329080)])) :: (145, 1, some (aAl 0)) :: (146, 3, some (aGetI D 7 6)) :: (149, 1, some (aIl 3)) :: (150, 1, some (aIast D)) :: (151, 1, some (aAl 0)) :: (152, 3, some (aGetR [(1175, 329096)])) :: (155, 1, some (aAl 0)) :: (156, 3, some (aGetI D 7 6)) :: (159, 2, some (aIl 4)) :: (161, 1, some (aIast D)) :: (162, 1, some (aAl 0)) :: (163, 3, some (aGetR [(1175, 329112)])) :: (166, 1, some (aAl 0)) :: (167, 3, some (aGetI D 7 6)) :: (170, 2, some (aIl 5)) :: (172, 1, some (aIast D)) :: (173, 1, some (aAl 0)) :: (174, 3, some (aGetR [(1175, 329128)])) :: (177, 1, some (aAl 0)) :: (178, 3, some (aGetI D 7 6)) :: (181, 2, some (aIl 6)) :: (183, 1, some (aIast D)) :: (184, 1, some (aAl 0)) :: (185, 3, some (aGetR [(1175, 329144)])) :: (188, 1, some (aAl 0)) :: (189, 3, some (aGetI D 7 6)) :: (192, 2, some (aIl 7)) :: (194, 1, some (aIast D)) :: (195, 1, some (aAl 0)) :: (196, 1, some (aDup)) :: (197, 3, some (aGetI D 7 6)) :: (200, 1, some (aIc (1))) :: (201, 1, some (aBin fAdd)) :: (202, 3, some (aPutI D 7 6)) :: (205, 1, some (aAl 0)) :: (206, 3, some (aGetI D 7 6)) :: (209, 1, some (aIc (1))) :: (210, 1, some (aBin fSub)) :: (211, 1, some (aIret)) :: []
set_option maxRecDepth 100000 in
set_option maxHeartbeats 4000000 in
theorem snX7_sell (d : Nat) (W : List Nat) (c : Nat × Nat) (hc : c = cA ∨ c = cB) : SndAll (d, TYg, c, W) cdX7_sell (adX7_sell (d, TYg, c, W)) := by
  unfold cdX7_sell adX7_sell
  refine sn_op sAl ?_
  refine sn_op (sIc (n := 0) (by decide)) ?_
  refine sn_op sPutI ?_
  refine sn_op sAl ?_
  refine sn_op sIl ?_
  refine sn_op (sCI (sfX7_isFirm c hc) (by decide) (by decide +kernel)) ?_
  refine sn_op sIfEq ?_
  refine sn_op sAl ?_
  refine sn_op sIl ?_
  refine sn_op (sCI (sfX7_isFirm c hc) (by decide) (by decide +kernel)) ?_
  refine sn_op sIfEq ?_
  refine sn_op sIl ?_
  refine sn_op sIl ?_
  refine sn_op sCmEq ?_
  refine sn_op sIl ?_
  refine sn_op (sIc (n := 1) (by decide)) ?_
  refine sn_op sCmLt ?_
  refine sn_op sIl ?_
  refine sn_op (sIc (n := 999) (by decide)) ?_
  refine sn_op sCmGt ?_
  refine sn_op sIl ?_
  refine sn_op sIfLt ?_
  refine sn_op sIl ?_
  refine sn_op sAl ?_
  refine sn_op sGetI ?_
  refine sn_op sCmGe ?_
  refine sn_op sIl ?_
  refine sn_op (sIc (n := 1) (by decide)) ?_
  refine sn_op sCmLt ?_
  refine sn_op sIl ?_
  refine sn_op (sIc (n := 999) (by decide)) ?_
  refine sn_op sCmGt ?_
  refine sn_op sAl ?_
  refine sn_op sGetI ?_
  refine sn_op (sIc (n := 40) (by decide)) ?_
  refine sn_op sCmNe ?_
  refine sn_op (sIc (n := -1) (by decide)) ?_
  refine sn_op sIret ?_
  refine sn_op sIl ?_
  refine sn_op sAl ?_
  refine sn_op sGetR ?_
  refine sn_op sIl ?_
  refine sn_op sIald ?_
  refine sn_op sCmLt ?_
  refine sn_op sIl ?_
  refine sn_op sAl ?_
  refine sn_op sGetR ?_
  refine sn_op sIl ?_
  refine sn_op sIald ?_
  refine sn_op sCmLt ?_
  refine sn_op sIl ?_
  refine sn_op (sIc (n := 400) (by decide)) ?_
  refine sn_op sCmGt ?_
  refine sn_op sIl ?_
  refine sn_op sIfLt ?_
  refine sn_op sIl ?_
  refine sn_op (sIc (n := 99) (by decide)) ?_
  refine sn_op sCmLe ?_
  refine sn_op (sIc (n := -1) (by decide)) ?_
  refine sn_op sIret ?_
  refine sn_op sAl ?_
  refine sn_op sGetR ?_
  refine sn_op sAl ?_
  refine sn_op sGetI ?_
  refine sn_op sIl ?_
  refine sn_op sIast ?_
  refine sn_op sAl ?_
  refine sn_op sGetR ?_
  refine sn_op sAl ?_
  refine sn_op sGetI ?_
  refine sn_op sIl ?_
  refine sn_op sIast ?_
  refine sn_op sAl ?_
  refine sn_op sGetR ?_
  refine sn_op sAl ?_
  refine sn_op sGetI ?_
  refine sn_op sIl ?_
  refine sn_op sIast ?_
  refine sn_op sAl ?_
  refine sn_op sGetR ?_
  refine sn_op sAl ?_
  refine sn_op sGetI ?_
  refine sn_op sIl ?_
  refine sn_op sIast ?_
  refine sn_op sAl ?_
  refine sn_op sGetR ?_
  refine sn_op sAl ?_
  refine sn_op sGetI ?_
  refine sn_op sIl ?_
  refine sn_op sIast ?_
  refine sn_op sAl ?_
  refine sn_op sGetR ?_
  refine sn_op sAl ?_
  refine sn_op sGetI ?_
  refine sn_op sIl ?_
  refine sn_op sIast ?_
  refine sn_op sAl ?_
  refine sn_op sGetR ?_
  refine sn_op sAl ?_
  refine sn_op sGetI ?_
  refine sn_op sIl ?_
  refine sn_op sIast ?_
  refine sn_op sAl ?_
  refine sn_op sDup ?_
  refine sn_op sGetI ?_
  refine sn_op (sIc (n := 1) (by decide)) ?_
  refine sn_op sIadd ?_
  refine sn_op sPutI ?_
  refine sn_op sAl ?_
  refine sn_op sGetI ?_
  refine sn_op (sIc (n := 1) (by decide)) ?_
  refine sn_op sIsub ?_
  refine sn_op sIret ?_
  exact sn_nil
def csX7_sell : List AC := [([(2, 1175, 0), (0, -2147483648, 2147483647), (0, -2147483648, 2147483647), (0, -2147483648, 2147483647), (0, -2147483648, 2147483647), (0, -2147483648, 2147483647), (0, -2147483648, 2147483647), (0, -2147483648, 2147483647)], 2, [((0, -1, -1), [((1175, 0), (0, 0))], []), ((0, 0, 39), [((1175, 0), (0, 0)), ((1175, 4), (1, 4)), ((1175, 5), (1, 12)), ((1175, 6), (1, 40))], [(1, (0, 11)), (2, (0, 11)), (3, (1, 999)), (4, (0, 3)), (5, (1, 999)), (6, (-2147483648, 400)), (7, (0, 99))])], [329048, 329064, 329080, 329096, 329112, 329128, 329144, 4294968471, 30064772247], [])]
set_option maxRecDepth 100000 in
set_option maxHeartbeats 4000000 in
theorem sfX7_sell (c : Nat × Nat) (hc : c = cA ∨ c = cB) : ∀ ac ∈ csX7_sell, SafeC TYg c mX7_sell ac := by
  intro ac hac
  simp only [csX7_sell, List.mem_cons, List.not_mem_nil, or_false] at hac
  rcases hac with rfl
  · rcases hc with rfl | rfl
    · exact safe_of (ann := []) (fuel := 600) okX7_sell (snX7_sell _ _ cA (Or.inl rfl)) (fun q hq => by cases hq) (by decide) (by decide +kernel)
    · exact safe_of (ann := []) (fuel := 600) okX7_sell (snX7_sell _ _ cB (Or.inr rfl)) (fun q hq => by cases hq) (by decide) (by decide +kernel)
set_option maxRecDepth 100000 in
def adX7_signs (D : KK) : List ACE := (0, 1, some (aAl 0)) :: (1, 1, some (aIc (0))) :: (2, 3, some (aPutI D 7 0)) :: (5, 1, some (aAl 0)) :: (6, 1, some (aIl 1)) :: (7, 3, some (aCall D 7 2 2 csX7_isFirm)) :: (10, 3, some (aIf bEq bNe 23)) :: (13, 1, some (aIl 2)) :: (14, 1, some (aIl 3)) :: (15, 2, some (aIl 4)) :: (17, 3, some (aCall D 16 3 3 csX7_isAsked)) :: (20, 3, some (aIf bNe bEq 25)) :: (23, 1, some (aIc (-1))) :: (24, 1, some (aIret)) :: (25, 1, some (aAl 0)) :: (26, 1, some (aIl 2)) :: (27, 1, some (aIl 3)) :: (28, 2, some (aIl 4)) :: (30, 3, some (aCall D 7 4 5 csX7_seeksNow)) :: (33, 1, some (aAl 0)) :: (34, 3, some (aCall D 7 1 4 csX7_parties)) :: (37, 1, some (aAl 0)) :: (38, 3, some (aGetI D 7 47)) :: (41, 3, some (aIf bEq bNe 49)) :: (44, 2, some (aIc (-2))) :: (46, 3, some (aGoto 54)) :: (49, 1, some (aAl 0)) :: (50, 1, some (aIl 1)) :: (51, 3, some (aCall D 7 2 2 csX7_signsOf)) :: (54, 1, some (aIret)) :: []
set_option maxRecDepth 100000 in
set_option maxHeartbeats 4000000 in
theorem snX7_signs (d : Nat) (W : List Nat) (c : Nat × Nat) (hc : c = cA ∨ c = cB) : SndAll (d, TYg, c, W) cdX7_signs (adX7_signs (d, TYg, c, W)) := by
  unfold cdX7_signs adX7_signs
  refine sn_op sAl ?_
  refine sn_op (sIc (n := 0) (by decide)) ?_
  refine sn_op sPutI ?_
  refine sn_op sAl ?_
  refine sn_op sIl ?_
  refine sn_op (sCI (sfX7_isFirm c hc) (by decide) (by decide +kernel)) ?_
  refine sn_op sIfEq ?_
  refine sn_op sIl ?_
  refine sn_op sIl ?_
  refine sn_op sIl ?_
  refine sn_op (sCI (sfX7_isAsked c hc) (by decide) (by decide +kernel)) ?_
  refine sn_op sIfNe ?_
  refine sn_op (sIc (n := -1) (by decide)) ?_
  refine sn_op sIret ?_
  refine sn_op sAl ?_
  refine sn_op sIl ?_
  refine sn_op sIl ?_
  refine sn_op sIl ?_
  refine sn_op (sCV (sfX7_seeksNow c hc) (by decide) (by decide +kernel)) ?_
  refine sn_op sAl ?_
  refine sn_op (sCV (sfX7_parties c hc) (by decide) (by decide +kernel)) ?_
  refine sn_op sAl ?_
  refine sn_op sGetI ?_
  refine sn_op sIfEq ?_
  refine sn_op (sIc (n := -2) (by decide)) ?_
  refine sn_op sGoto ?_
  refine sn_op sAl ?_
  refine sn_op sIl ?_
  refine sn_op (sCI (sfX7_signsOf c hc) (by decide) (by decide +kernel)) ?_
  refine sn_op sIret ?_
  exact sn_nil
def csX7_signs : List AC := [([(2, 1175, 0), (0, -2147483648, 2147483647), (0, -2147483648, 2147483647), (0, -2147483648, 2147483647), (0, -2147483648, 2147483647)], 10, [((0, -2, -1), [((1175, 0), (0, 0))], []), ((0, 0, 15), [((1175, 0), (0, 0)), ((1175, 5), (1, 12)), ((1175, 47), (0, 0)), ((1175, 49), (2, 6))], [(1, (0, 11)), (2, (0, 1)), (3, (2, 6)), (4, (0, 400))])], [26104, 50632, 165384, 820712, 4916696, 4294968471, 184683594903, 206158431383, 210453398679, 214748365975, 219043333271], [])]
set_option maxRecDepth 100000 in
set_option maxHeartbeats 4000000 in
theorem sfX7_signs (c : Nat × Nat) (hc : c = cA ∨ c = cB) : ∀ ac ∈ csX7_signs, SafeC TYg c mX7_signs ac := by
  intro ac hac
  simp only [csX7_signs, List.mem_cons, List.not_mem_nil, or_false] at hac
  rcases hac with rfl
  · rcases hc with rfl | rfl
    · exact safe_of (ann := []) (fuel := 600) okX7_signs (snX7_signs _ _ cA (Or.inl rfl)) (fun q hq => by cases hq) (by decide) (by decide +kernel)
    · exact safe_of (ann := []) (fuel := 600) okX7_signs (snX7_signs _ _ cB (Or.inr rfl)) (fun q hq => by cases hq) (by decide) (by decide +kernel)
set_option maxRecDepth 100000 in
def adX7_starve (D : KK) : List ACE := (0, 1, some (aAl 0)) :: (1, 1, some (aIc (0))) :: (2, 3, some (aPutI D 7 0)) :: (5, 1, some (aIl 1)) :: (6, 1, some (aIl 2)) :: (7, 1, some (aIl 3)) :: (8, 3, some (aCall D 16 3 3 csX7_isAsked)) :: (11, 3, some (aIf bEq bNe 30)) :: (14, 2, some (aIl 4)) :: (16, 3, some (aIf bLt (fun C x y => bLe C y x) 30)) :: (19, 2, some (aIl 5)) :: (21, 3, some (aIf bLt (fun C x y => bLe C y x) 30)) :: (24, 2, some (aIl 5)) :: (26, 1, some (aIc (2))) :: (27, 3, some (aCm bLe (fun C x y => bLt C y x) 34)) :: (30, 3, some (aJc (-1))) :: (33, 1, some (aJret)) :: (34, 1, some (aAl 0)) :: (35, 1, some (aIl 1)) :: (36, 1, some (aIl 2)) :: (37, 1, some (aIl 3)) :: (38, 3, some (aCall D 7 4 5 csX7_seeksNow)) :: (41, 1, some (aAl 0)) :: (42, 3, some (aGetI D 7 47)) :: (45, 3, some (aIf bEq bNe 52)) :: (48, 3, some (aJc (-2))) :: (51, 1, some (aJret)) :: (52, 1, some (aIc (-1))) :: (53, 2, some (aIs 6)) :: (55, 1, some (aJc (0))) :: (56, 2, some (aJs 7)) :: (58, 1, some (aIc (0))) :: (59, 2, some (aIs 9)) :: (61, 1, some (aIc (0))) :: (62, 2, some (aIs 10)) :: (64, 0, none) :: (64, 2, some (aIl 10)) :: (66, 1, some (aIc (1))) :: (67, 1, some (aAl 0)) :: (68, 3, some (aGetI D 7 3)) :: (71, 1, some (aBin fTop)) :: (72, 3, some (aCm (fun C x y => bLe C y x) bLt 192)) :: (75, 1, some (aIc (0))) :: (76, 2, some (aIs 11)) :: (78, 1, some (aIc (0))) :: (79, 2, some (aIs 12)) :: (81, 0, none) :: (81, 2, some (aIl 12)) :: (83, 1, some (aAl 0)) :: (84, 3, some (aGetI D 7 3)) :: (87, 3, some (aCm (fun C x y => bLe C y x) bLt 122)) :: (90, 2, some (aIl 11)) :: (92, 2, some (aIl 10)) :: (94, 2, some (aIl 12)) :: (96, 1, some (aBin fShr)) :: (97, 1, some (aIc (1))) :: (98, 1, some (aBin fAnd)) :: (99, 1, some (aIc (1))) :: (100, 3, some (aCm bNe bEq 112)) :: (103, 1, some (aAl 0)) :: (104, 2, some (aIl 12)) :: (106, 3, some (aCall D 7 2 4 csX7_burdenOf)) :: (109, 3, some (aGoto 113)) :: (112, 1, some (aIc (0))) :: (113, 1, some (aBin fAdd)) :: (114, 2, some (aIs 11)) :: (116, 3, some (aInc 12 (1))) :: (119, 3, some (aGoto 81)) :: (122, 2, some (aIl 11)) :: (124, 2, some (aIl 4)) :: (126, 3, some (aCm bLe (fun C x y => bLt C y x) 132)) :: (129, 3, some (aGoto 186)) :: (132, 1, some (aAl 0)) :: (133, 1, some (aIc (0))) :: (134, 1, some (aIc (0))) :: (135, 2, some (aIl 10)) :: (137, 3, some (aCall D 7 4 7 csX7_allTakes)) :: (140, 2, some (aJs 12)) :: (142, 2, some (aIl 6)) :: (144, 1, some (aIc (-1))) :: (145, 3, some (aCm bEq bNe 174)) :: (148, 2, some (aJl 12)) :: (150, 2, some (aJl 7)) :: (152, 1, some (aLcmp)) :: (153, 3, some (aIf (fun C x y => bLt C y x) bLe 186)) :: (156, 2, some (aJl 12)) :: (158, 2, some (aJl 7)) :: (160, 1, some (aLcmp)) :: (161, 3, some (aIf bNe bEq 174)) :: (164, 2, some (aIl 11)) :: (166, 2, some (aIl 9)) :: (168, 3, some (aCm bLt (fun C x y => bLe C y x) 174)) :: (171, 3, some (aGoto 186)) :: (174, 2, some (aIl 10)) :: (176, 2, some (aIs 6)) :: (178, 2, some (aJl 12)) :: (180, 2, some (aJs 7)) :: (182, 2, some (aIl 11)) :: (184, 2, some (aIs 9)) :: (186, 3, some (aInc 10 (1))) :: (189, 3, some (aGoto 64)) :: (192, 2, some (aIl 5)) :: (194, 3, some (aIf bNe bEq 203)) :: (197, 2, some (aIl 6)) :: (199, 1, some (aUn (fun C x => (6, rng C x)))) :: (200, 3, some (aGoto 217)) :: (203, 2, some (aIl 5)) :: (205, 1, some (aIc (1))) :: (206, 3, some (aCm bNe bEq 214)) :: (209, 2, some (aJl 7)) :: (211, 3, some (aGoto 217)) :: (214, 2, some (aIl 9)) :: (216, 1, some (aUn (fun C x => (6, rng C x)))) :: (217, 1, some (aJret)) :: []
set_option maxRecDepth 100000 in
set_option maxHeartbeats 4000000 in
theorem snX7_starve (d : Nat) (W : List Nat) (c : Nat × Nat) (hc : c = cA ∨ c = cB) : SndAll (d, TYg, c, W) cdX7_starve (adX7_starve (d, TYg, c, W)) := by
  unfold cdX7_starve adX7_starve
  refine sn_op sAl ?_
  refine sn_op (sIc (n := 0) (by decide)) ?_
  refine sn_op sPutI ?_
  refine sn_op sIl ?_
  refine sn_op sIl ?_
  refine sn_op sIl ?_
  refine sn_op (sCI (sfX7_isAsked c hc) (by decide) (by decide +kernel)) ?_
  refine sn_op sIfEq ?_
  refine sn_op sIl ?_
  refine sn_op sIfLt ?_
  refine sn_op sIl ?_
  refine sn_op sIfLt ?_
  refine sn_op sIl ?_
  refine sn_op (sIc (n := 2) (by decide)) ?_
  refine sn_op sCmLe ?_
  refine sn_op (sJc (n := -1) (by decide)) ?_
  refine sn_op sJret ?_
  refine sn_op sAl ?_
  refine sn_op sIl ?_
  refine sn_op sIl ?_
  refine sn_op sIl ?_
  refine sn_op (sCV (sfX7_seeksNow c hc) (by decide) (by decide +kernel)) ?_
  refine sn_op sAl ?_
  refine sn_op sGetI ?_
  refine sn_op sIfEq ?_
  refine sn_op (sJc (n := -2) (by decide)) ?_
  refine sn_op sJret ?_
  refine sn_op (sIc (n := -1) (by decide)) ?_
  refine sn_op sIs ?_
  refine sn_op (sJc (n := 0) (by decide)) ?_
  refine sn_op sJs ?_
  refine sn_op (sIc (n := 0) (by decide)) ?_
  refine sn_op sIs ?_
  refine sn_op (sIc (n := 0) (by decide)) ?_
  refine sn_op sIs ?_
  refine sn_st ?_
  refine sn_op sIl ?_
  refine sn_op (sIc (n := 1) (by decide)) ?_
  refine sn_op sAl ?_
  refine sn_op sGetI ?_
  refine sn_op sIshl ?_
  refine sn_op sCmGe ?_
  refine sn_op (sIc (n := 0) (by decide)) ?_
  refine sn_op sIs ?_
  refine sn_op (sIc (n := 0) (by decide)) ?_
  refine sn_op sIs ?_
  refine sn_st ?_
  refine sn_op sIl ?_
  refine sn_op sAl ?_
  refine sn_op sGetI ?_
  refine sn_op sCmGe ?_
  refine sn_op sIl ?_
  refine sn_op sIl ?_
  refine sn_op sIl ?_
  refine sn_op sIshr ?_
  refine sn_op (sIc (n := 1) (by decide)) ?_
  refine sn_op sIand ?_
  refine sn_op (sIc (n := 1) (by decide)) ?_
  refine sn_op sCmNe ?_
  refine sn_op sAl ?_
  refine sn_op sIl ?_
  refine sn_op (sCI (sfX7_burdenOf c hc) (by decide) (by decide +kernel)) ?_
  refine sn_op sGoto ?_
  refine sn_op (sIc (n := 0) (by decide)) ?_
  refine sn_op sIadd ?_
  refine sn_op sIs ?_
  refine sn_op (sInc (n := 1) (by decide)) ?_
  refine sn_op sGoto ?_
  refine sn_op sIl ?_
  refine sn_op sIl ?_
  refine sn_op sCmLe ?_
  refine sn_op sGoto ?_
  refine sn_op sAl ?_
  refine sn_op (sIc (n := 0) (by decide)) ?_
  refine sn_op (sIc (n := 0) (by decide)) ?_
  refine sn_op sIl ?_
  refine sn_op (sCJ (sfX7_allTakes c hc) (by decide) (by decide +kernel)) ?_
  refine sn_op sJs ?_
  refine sn_op sIl ?_
  refine sn_op (sIc (n := -1) (by decide)) ?_
  refine sn_op sCmEq ?_
  refine sn_op sJl ?_
  refine sn_op sJl ?_
  refine sn_op sLcmp ?_
  refine sn_op sIfGt ?_
  refine sn_op sJl ?_
  refine sn_op sJl ?_
  refine sn_op sLcmp ?_
  refine sn_op sIfNe ?_
  refine sn_op sIl ?_
  refine sn_op sIl ?_
  refine sn_op sCmLt ?_
  refine sn_op sGoto ?_
  refine sn_op sIl ?_
  refine sn_op sIs ?_
  refine sn_op sJl ?_
  refine sn_op sJs ?_
  refine sn_op sIl ?_
  refine sn_op sIs ?_
  refine sn_op (sInc (n := 1) (by decide)) ?_
  refine sn_op sGoto ?_
  refine sn_op sIl ?_
  refine sn_op sIfNe ?_
  refine sn_op sIl ?_
  refine sn_op sI2l ?_
  refine sn_op sGoto ?_
  refine sn_op sIl ?_
  refine sn_op (sIc (n := 1) (by decide)) ?_
  refine sn_op sCmNe ?_
  refine sn_op sJl ?_
  refine sn_op sGoto ?_
  refine sn_op sIl ?_
  refine sn_op sI2l ?_
  refine sn_op sJret ?_
  exact sn_nil
def csX7_starve : List AC := [([(2, 1175, 0), (0, -2147483648, 2147483647), (0, -2147483648, 2147483647), (0, -2147483648, 2147483647), (0, -2147483648, 2147483647), (0, -2147483648, 2147483647)], 10, [((8, 0, 0), [], [])], [26104, 165384, 820712, 4916696, 4294968471, 184683594903, 206158431383, 210453398679, 214748365975, 219043333271], [])]
set_option maxRecDepth 100000 in
set_option maxHeartbeats 4000000 in
theorem sfX7_starve (c : Nat × Nat) (hc : c = cA ∨ c = cB) : ∀ ac ∈ csX7_starve, SafeC TYg c mX7_starve ac := by
  intro ac hac
  simp only [csX7_starve, List.mem_cons, List.not_mem_nil, or_false] at hac
  rcases hac with rfl
  · rcases hc with rfl | rfl
    · exact safe_of (ann := [(64, [(2, 1175, 0), (0, 0, 1), (0, 2, 6), (0, 0, 400), (0, 0, 2147483647), (0, 0, 2), (0, -1, 2147483646), (8, 0, 0), (4, 0, 0), (0, -2147483648, 2147483647), (0, 0, 2147483647), (4, 0, 0), (4, 0, 0), (4, 0, 0)], [(0, 10, 0, 4294967296), (3, 0, 0, 2)]), (81, [(2, 1175, 0), (0, 0, 1), (0, 2, 6), (0, 0, 400), (0, 0, 2147483647), (0, 0, 2), (0, -1, 2147483646), (8, 0, 0), (4, 0, 0), (0, -2147483648, 2147483647), (0, 0, 2147483646), (0, -2147483648, 2147483647), (0, 0, 5), (4, 0, 0)], [(0, 10, 0, 4294967296), (3, 0, 0, 1), (0, 12, 0, 4294967296)])]) (fuel := 600) okX7_starve (snX7_starve _ _ cA (Or.inl rfl)) (List.forall_mem_cons.mpr ⟨⟨_, _, rfl⟩, List.forall_mem_cons.mpr ⟨⟨_, _, rfl⟩, (fun q hq => by cases hq)⟩⟩) (by decide) (by decide +kernel)
    · exact safe_of (ann := [(64, [(2, 1175, 0), (0, 0, 1), (0, 2, 6), (0, 0, 400), (0, 0, 2147483647), (0, 0, 2), (0, -1, 2147483646), (8, 0, 0), (4, 0, 0), (0, -2147483648, 2147483647), (0, 0, 2147483647), (4, 0, 0), (4, 0, 0), (4, 0, 0)], [(0, 10, 0, 4294967296), (3, 0, 0, 2)]), (81, [(2, 1175, 0), (0, 0, 1), (0, 2, 6), (0, 0, 400), (0, 0, 2147483647), (0, 0, 2), (0, -1, 2147483646), (8, 0, 0), (4, 0, 0), (0, -2147483648, 2147483647), (0, 0, 2147483646), (0, -2147483648, 2147483647), (0, 0, 5), (4, 0, 0)], [(0, 10, 0, 4294967296), (3, 0, 0, 1), (0, 12, 0, 4294967296)])]) (fuel := 600) okX7_starve (snX7_starve _ _ cB (Or.inr rfl)) (List.forall_mem_cons.mpr ⟨⟨_, _, rfl⟩, List.forall_mem_cons.mpr ⟨⟨_, _, rfl⟩, (fun q hq => by cases hq)⟩⟩) (by decide) (by decide +kernel)
set_option maxRecDepth 100000 in
def adX7_stop (D : KK) : List ACE := (0, 1, some (aAl 0)) :: (1, 1, some (aIc (0))) :: (2, 3, some (aPutI D 7 0)) :: (5, 1, some (aIl 1)) :: (6, 3, some (aIf bLt (fun C x y => bLe C y x) 19)) :: (9, 1, some (aIl 1)) :: (10, 1, some (aIc (1))) :: (11, 1, some (aAl 0)) :: (12, 3, some (aGetI D 7 5)) :: (15, 1, some (aBin fTop)) :: (16, 3, some (aCm bLt (fun C x y => bLe C y x) 21)) :: (19, 1, some (aIc (-1))) :: (20, 1, some (aIret)) :: (21, 1, some (aAl 0)) :: (22, 1, some (aIl 1)) :: (23, 3, some (aPutI D 7 39)) :: (26, 1, some (aIl 1)) :: (27, 3, some (aCall D 16 1 3 csX7_bits)) :: (30, 1, some (aIret)) :: []
set_option maxRecDepth 100000 in
set_option maxHeartbeats 4000000 in
theorem snX7_stop (d : Nat) (W : List Nat) (c : Nat × Nat) (hc : c = cA ∨ c = cB) : SndAll (d, TYg, c, W) cdX7_stop (adX7_stop (d, TYg, c, W)) := by
  unfold cdX7_stop adX7_stop
  refine sn_op sAl ?_
  refine sn_op (sIc (n := 0) (by decide)) ?_
  refine sn_op sPutI ?_
  refine sn_op sIl ?_
  refine sn_op sIfLt ?_
  refine sn_op sIl ?_
  refine sn_op (sIc (n := 1) (by decide)) ?_
  refine sn_op sAl ?_
  refine sn_op sGetI ?_
  refine sn_op sIshl ?_
  refine sn_op sCmLt ?_
  refine sn_op (sIc (n := -1) (by decide)) ?_
  refine sn_op sIret ?_
  refine sn_op sAl ?_
  refine sn_op sIl ?_
  refine sn_op sPutI ?_
  refine sn_op sIl ?_
  refine sn_op (sCI (sfX7_bits c hc) (by decide) (by decide +kernel)) ?_
  refine sn_op sIret ?_
  exact sn_nil
def csX7_stop : List AC := [([(2, 1175, 0), (0, -2147483648, 2147483647)], 2, [((0, -2147483648, 2147483647), [((1175, 0), (0, 0)), ((1175, 39), (0, 2147483646))], [(1, (0, 2147483646))]), ((0, -1, -1), [((1175, 0), (0, 0))], [])], [4294968471, 171798693015], [])]
set_option maxRecDepth 100000 in
set_option maxHeartbeats 4000000 in
theorem sfX7_stop (c : Nat × Nat) (hc : c = cA ∨ c = cB) : ∀ ac ∈ csX7_stop, SafeC TYg c mX7_stop ac := by
  intro ac hac
  simp only [csX7_stop, List.mem_cons, List.not_mem_nil, or_false] at hac
  rcases hac with rfl
  · rcases hc with rfl | rfl
    · exact safe_of (ann := []) (fuel := 600) okX7_stop (snX7_stop _ _ cA (Or.inl rfl)) (fun q hq => by cases hq) (by decide) (by decide +kernel)
    · exact safe_of (ann := []) (fuel := 600) okX7_stop (snX7_stop _ _ cB (Or.inr rfl)) (fun q hq => by cases hq) (by decide) (by decide +kernel)
set_option maxRecDepth 100000 in
def adX7_takes (D : KK) : List ACE := (0, 1, some (aAl 0)) :: (1, 1, some (aIc (0))) :: (2, 3, some (aPutI D 7 0)) :: (5, 1, some (aIl 1)) :: (6, 1, some (aIl 2)) :: (7, 1, some (aIl 3)) :: (8, 3, some (aCall D 16 3 3 csX7_isAsked)) :: (11, 3, some (aIf bNe bEq 18)) :: (14, 3, some (aJc (-1))) :: (17, 1, some (aJret)) :: (18, 1, some (aAl 0)) :: (19, 1, some (aIl 1)) :: (20, 1, some (aIl 2)) :: (21, 1, some (aIl 3)) :: (22, 3, some (aCall D 7 4 5 csX7_seeksNow)) :: (25, 1, some (aAl 0)) :: (26, 3, some (aGetI D 7 47)) :: (29, 3, some (aIf bEq bNe 38)) :: (32, 3, some (aJc (-2))) :: (35, 3, some (aGoto 51)) :: (38, 1, some (aAl 0)) :: (39, 1, some (aIc (0))) :: (40, 1, some (aAl 0)) :: (41, 3, some (aGetI D 7 40)) :: (44, 1, some (aAl 0)) :: (45, 3, some (aGetI D 7 40)) :: (48, 3, some (aCall D 7 4 7 csX7_allTakes)) :: (51, 1, some (aJret)) :: []
set_option maxRecDepth 100000 in
set_option maxHeartbeats 4000000 in
theorem snX7_takes (d : Nat) (W : List Nat) (c : Nat × Nat) (hc : c = cA ∨ c = cB) : SndAll (d, TYg, c, W) cdX7_takes (adX7_takes (d, TYg, c, W)) := by
  unfold cdX7_takes adX7_takes
  refine sn_op sAl ?_
  refine sn_op (sIc (n := 0) (by decide)) ?_
  refine sn_op sPutI ?_
  refine sn_op sIl ?_
  refine sn_op sIl ?_
  refine sn_op sIl ?_
  refine sn_op (sCI (sfX7_isAsked c hc) (by decide) (by decide +kernel)) ?_
  refine sn_op sIfNe ?_
  refine sn_op (sJc (n := -1) (by decide)) ?_
  refine sn_op sJret ?_
  refine sn_op sAl ?_
  refine sn_op sIl ?_
  refine sn_op sIl ?_
  refine sn_op sIl ?_
  refine sn_op (sCV (sfX7_seeksNow c hc) (by decide) (by decide +kernel)) ?_
  refine sn_op sAl ?_
  refine sn_op sGetI ?_
  refine sn_op sIfEq ?_
  refine sn_op (sJc (n := -2) (by decide)) ?_
  refine sn_op sGoto ?_
  refine sn_op sAl ?_
  refine sn_op (sIc (n := 0) (by decide)) ?_
  refine sn_op sAl ?_
  refine sn_op sGetI ?_
  refine sn_op sAl ?_
  refine sn_op sGetI ?_
  refine sn_op (sCJ (sfX7_allTakes c hc) (by decide) (by decide +kernel)) ?_
  refine sn_op sJret ?_
  exact sn_nil
def csX7_takes : List AC := [([(2, 1175, 0), (0, -2147483648, 2147483647), (0, -2147483648, 2147483647), (0, -2147483648, 2147483647)], 10, [((8, 0, 0), [((1175, 0), (0, 0))], [])], [26104, 165384, 820712, 4916696, 4294968471, 184683594903, 206158431383, 210453398679, 214748365975, 219043333271], [])]
set_option maxRecDepth 100000 in
set_option maxHeartbeats 4000000 in
theorem sfX7_takes (c : Nat × Nat) (hc : c = cA ∨ c = cB) : ∀ ac ∈ csX7_takes, SafeC TYg c mX7_takes ac := by
  intro ac hac
  simp only [csX7_takes, List.mem_cons, List.not_mem_nil, or_false] at hac
  rcases hac with rfl
  · rcases hc with rfl | rfl
    · exact safe_of (ann := []) (fuel := 600) okX7_takes (snX7_takes _ _ cA (Or.inl rfl)) (fun q hq => by cases hq) (by decide) (by decide +kernel)
    · exact safe_of (ann := []) (fuel := 600) okX7_takes (snX7_takes _ _ cB (Or.inr rfl)) (fun q hq => by cases hq) (by decide) (by decide +kernel)
