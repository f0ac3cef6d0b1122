set_option maxRecDepth 100000 in
def cdX7_feed : List CE := (0, 1, some (oAl 0)) :: (1, 1, some (oIc 0)) :: (2, 3, some (oPutI 7 0)) :: (5, 1, some (oAl 0)) :: (6, 3, some (oGetI 7 2)) :: (9, 3, some (oIc 780)) ::
  (12, 3, some (oCmLe 17)) :: (15, 1, some (oIc (-1))) :: (16, 1, some oIret) :: (17, 1, some (oIc 0)) :: (18, 2, some (oIs 6)) :: (20, 0, none) ::
  (20, 2, some (oIl 6)) :: (22, 2, some (oIc 20)) :: (24, 3, some (oCmGe 110)) :: (27, 2, some (oIl 6)) :: (29, 1, some (oIc 4)) :: (30, 3, some (oCmGe 37)) ::
  (33, 1, some (oIl 1)) :: (34, 3, some (oGoto 73)) :: (37, 2, some (oIl 6)) :: (39, 2, some (oIc 8)) :: (41, 3, some (oCmGe 48)) :: (44, 1, some (oIl 2)) ::
  (45, 3, some (oGoto 73)) :: (48, 2, some (oIl 6)) :: (50, 2, some (oIc 12)) :: (52, 3, some (oCmGe 59)) :: (55, 1, some (oIl 3)) :: (56, 3, some (oGoto 73)) ::
  (59, 2, some (oIl 6)) :: (61, 2, some (oIc 16)) :: (63, 3, some (oCmGe 71)) :: (66, 2, some (oIl 4)) :: (68, 3, some (oGoto 73)) :: (71, 2, some (oIl 5)) ::
  (73, 2, some (oIs 7)) :: (75, 1, some (oAl 0)) :: (76, 3, some (oGetR [(1175, 3277992)])) :: (79, 1, some (oAl 0)) :: (80, 3, some (oGetI 7 2)) :: (83, 2, some (oIl 6)) ::
  (85, 1, some oIadd) :: (86, 2, some (oIl 7)) :: (88, 2, some (oIc 24)) :: (90, 2, some (oIc 8)) :: (92, 2, some (oIl 6)) :: (94, 1, some (oIc 4)) ::
  (95, 1, some oIrem) :: (96, 1, some oImul) :: (97, 1, some oIsub) :: (98, 1, some oIshr) :: (99, 3, some (oIc 255)) :: (102, 1, some oIand) ::
  (103, 1, some oIast) :: (104, 3, some (oInc 6 1)) :: (107, 3, some (oGoto 20)) :: (110, 1, some (oAl 0)) :: (111, 1, some oDup) :: (112, 3, some (oGetI 7 2)) ::
  (115, 2, some (oIc 20)) :: (117, 1, some oIadd) :: (118, 3, some (oPutI 7 2)) :: (121, 1, some (oAl 0)) :: (122, 3, some (oGetI 7 2)) :: (125, 1, some oIret) :: []
set_option maxRecDepth 100000 in
set_option maxHeartbeats 4000000 in
theorem okX7_feed : CodeOk mX7_feed cdX7_feed := by
  refine ⟨by rfl, ?_⟩
  show CodeAll mX7_feed cdX7_feed
  refine ce_op (okAl1 (k := 0) (by decide +kernel) rfl) ?_
  refine ce_op (okIc1 (n := 0) (by decide +kernel) (by decide)) ?_
  refine ce_op (okPutI clX7 (k := 0) (x := 102) (by decide +kernel) (by decide) rfl wd1000 rfl rfl (by decide +kernel)) ?_
  refine ce_op (okAl1 (k := 0) (by decide +kernel) rfl) ?_
  refine ce_op (okGetI clX7 (k := 2) (x := 105) (by decide +kernel) (by decide) rfl wd1002 (Or.inl rfl)) ?_
  refine ce_op (okIc3 (n := 780) (by decide +kernel) (by decide)) ?_
  refine ce_op (okCmLe (off := 5) (by decide +kernel) (by decide)) ?_
  refine ce_op (okIc1 (n := (-1)) (by decide +kernel) (by decide)) ?_
  refine ce_op (okIret (by decide +kernel) rfl) ?_
  refine ce_op (okIc1 (n := 0) (by decide +kernel) (by decide)) ?_
  refine ce_op (okIs2 (by decide +kernel) (by decide)) ?_
  refine ce_st ?_
  refine ce_op (okIl2 (by decide +kernel)) ?_
  refine ce_op (okIc2 (n := 20) (by decide +kernel) (by decide)) ?_
  refine ce_op (okCmGe (off := 86) (by decide +kernel) (by decide)) ?_
  refine ce_op (okIl2 (by decide +kernel)) ?_
  refine ce_op (okIc1 (n := 4) (by decide +kernel) (by decide)) ?_
  refine ce_op (okCmGe (off := 7) (by decide +kernel) (by decide)) ?_
  refine ce_op (okIl1 (k := 1) (by decide +kernel) rfl) ?_
  refine ce_op (okGoto (off := 39) (by decide +kernel) (by decide)) ?_
  refine ce_op (okIl2 (by decide +kernel)) ?_
  refine ce_op (okIc2 (n := 8) (by decide +kernel) (by decide)) ?_
  refine ce_op (okCmGe (off := 7) (by decide +kernel) (by decide)) ?_
  refine ce_op (okIl1 (k := 2) (by decide +kernel) rfl) ?_
  refine ce_op (okGoto (off := 28) (by decide +kernel) (by decide)) ?_
  refine ce_op (okIl2 (by decide +kernel)) ?_
  refine ce_op (okIc2 (n := 12) (by decide +kernel) (by decide)) ?_
  refine ce_op (okCmGe (off := 7) (by decide +kernel) (by decide)) ?_
  refine ce_op (okIl1 (k := 3) (by decide +kernel) rfl) ?_
  refine ce_op (okGoto (off := 17) (by decide +kernel) (by decide)) ?_
  refine ce_op (okIl2 (by decide +kernel)) ?_
  refine ce_op (okIc2 (n := 16) (by decide +kernel) (by decide)) ?_
  refine ce_op (okCmGe (off := 8) (by decide +kernel) (by decide)) ?_
  refine ce_op (okIl2 (by decide +kernel)) ?_
  refine ce_op (okGoto (off := 5) (by decide +kernel) (by decide)) ?_
  refine ce_op (okIl2 (by decide +kernel)) ?_
  refine ce_op (okIs2 (by decide +kernel) (by decide)) ?_
  refine ce_op (okAl1 (k := 0) (by decide +kernel) rfl) ?_
  refine ce_op (okGetR clX7 (k := 1) (x := 9) (by decide +kernel) (by decide) rfl wd1001 rfl (by decide +kernel)) ?_
  refine ce_op (okAl1 (k := 0) (by decide +kernel) rfl) ?_
  refine ce_op (okGetI clX7 (k := 2) (x := 105) (by decide +kernel) (by decide) rfl wd1002 (Or.inl rfl)) ?_
  refine ce_op (okIl2 (by decide +kernel)) ?_
  refine ce_op (okIadd (by decide +kernel)) ?_
  refine ce_op (okIl2 (by decide +kernel)) ?_
  refine ce_op (okIc2 (n := 24) (by decide +kernel) (by decide)) ?_
  refine ce_op (okIc2 (n := 8) (by decide +kernel) (by decide)) ?_
  refine ce_op (okIl2 (by decide +kernel)) ?_
  refine ce_op (okIc1 (n := 4) (by decide +kernel) (by decide)) ?_
  refine ce_op (okIrem (by decide +kernel)) ?_
  refine ce_op (okImul (by decide +kernel)) ?_
  refine ce_op (okIsub (by decide +kernel)) ?_
  refine ce_op (okIshr (by decide +kernel)) ?_
  refine ce_op (okIc3 (n := 255) (by decide +kernel) (by decide)) ?_
  refine ce_op (okIand (by decide +kernel)) ?_
  refine ce_op (okIast (by decide +kernel)) ?_
  refine ce_op (okInc (n := 1) (by decide +kernel) (by decide)) ?_
  refine ce_op (okGoto (off := (-87)) (by decide +kernel) (by decide)) ?_
  refine ce_op (okAl1 (k := 0) (by decide +kernel) rfl) ?_
  refine ce_op (okDup (by decide +kernel)) ?_
  refine ce_op (okGetI clX7 (k := 2) (x := 105) (by decide +kernel) (by decide) rfl wd1002 (Or.inl rfl)) ?_
  refine ce_op (okIc2 (n := 20) (by decide +kernel) (by decide)) ?_
  refine ce_op (okIadd (by decide +kernel)) ?_
  refine ce_op (okPutI clX7 (k := 2) (x := 105) (by decide +kernel) (by decide) rfl wd1002 rfl rfl (by decide +kernel)) ?_
  refine ce_op (okAl1 (k := 0) (by decide +kernel) rfl) ?_
  refine ce_op (okGetI clX7 (k := 2) (x := 105) (by decide +kernel) (by decide) rfl wd1002 (Or.inl rfl)) ?_
  refine ce_op (okIret (by decide +kernel) rfl) ?_
  exact ce_nil
set_option maxRecDepth 100000 in
def cdX7_here : List CE := (0, 1, some (oAl 0)) :: (1, 3, some (oGetI 7 31)) :: (4, 1, some (oAl 0)) :: (5, 3, some (oGetI 7 30)) :: (8, 3, some (oCmGe 23)) :: (11, 1, some (oAl 0)) ::
  (12, 3, some (oGetR [(1175, 3277992)])) :: (15, 1, some (oAl 0)) :: (16, 3, some (oGetI 7 31)) :: (19, 1, some oIald) :: (20, 3, some (oGoto 24)) :: (23, 1, some (oIc (-1))) ::
  (24, 1, some oIret) :: []
set_option maxRecDepth 100000 in
set_option maxHeartbeats 4000000 in
theorem okX7_here : CodeOk mX7_here cdX7_here := by
  refine ⟨by rfl, ?_⟩
  show CodeAll mX7_here cdX7_here
  refine ce_op (okAl1 (k := 0) (by decide +kernel) rfl) ?_
  refine ce_op (okGetI clX7 (k := 31) (x := 108) (by decide +kernel) (by decide) rfl wd1031 (Or.inl rfl)) ?_
  refine ce_op (okAl1 (k := 0) (by decide +kernel) rfl) ?_
  refine ce_op (okGetI clX7 (k := 30) (x := 111) (by decide +kernel) (by decide) rfl wd1030 (Or.inl rfl)) ?_
  refine ce_op (okCmGe (off := 15) (by decide +kernel) (by decide)) ?_
  refine ce_op (okAl1 (k := 0) (by decide +kernel) rfl) ?_
  refine ce_op (okGetR clX7 (k := 1) (x := 9) (by decide +kernel) (by decide) rfl wd1001 rfl (by decide +kernel)) ?_
  refine ce_op (okAl1 (k := 0) (by decide +kernel) rfl) ?_
  refine ce_op (okGetI clX7 (k := 31) (x := 108) (by decide +kernel) (by decide) rfl wd1031 (Or.inl rfl)) ?_
  refine ce_op (okIald (by decide +kernel)) ?_
  refine ce_op (okGoto (off := 4) (by decide +kernel) (by decide)) ?_
  refine ce_op (okIc1 (n := (-1)) (by decide +kernel) (by decide)) ?_
  refine ce_op (okIret (by decide +kernel) rfl) ?_
  exact ce_nil
set_option maxRecDepth 100000 in
def cdX7_isSmall : List CE := (0, 1, some (oIl 0)) :: (1, 2, some (oIc 97)) :: (3, 3, some (oCmLt 16)) :: (6, 1, some (oIl 0)) :: (7, 2, some (oIc 122)) :: (9, 3, some (oCmGt 16)) ::
  (12, 1, some (oIc 1)) :: (13, 3, some (oGoto 17)) :: (16, 1, some (oIc 0)) :: (17, 1, some oZret) :: []
set_option maxRecDepth 100000 in
set_option maxHeartbeats 4000000 in
theorem okX7_isSmall : CodeOk mX7_isSmall cdX7_isSmall := by
  refine ⟨by rfl, ?_⟩
  show CodeAll mX7_isSmall cdX7_isSmall
  refine ce_op (okIl1 (k := 0) (by decide +kernel) rfl) ?_
  refine ce_op (okIc2 (n := 97) (by decide +kernel) (by decide)) ?_
  refine ce_op (okCmLt (off := 13) (by decide +kernel) (by decide)) ?_
  refine ce_op (okIl1 (k := 0) (by decide +kernel) rfl) ?_
  refine ce_op (okIc2 (n := 122) (by decide +kernel) (by decide)) ?_
  refine ce_op (okCmGt (off := 7) (by decide +kernel) (by decide)) ?_
  refine ce_op (okIc1 (n := 1) (by decide +kernel) (by decide)) ?_
  refine ce_op (okGoto (off := 4) (by decide +kernel) (by decide)) ?_
  refine ce_op (okIc1 (n := 0) (by decide +kernel) (by decide)) ?_
  refine ce_op (okZret (by decide +kernel) rfl) ?_
  exact ce_nil
set_option maxRecDepth 100000 in
def cdX7_isDigit : List CE := (0, 1, some (oIl 0)) :: (1, 2, some (oIc 48)) :: (3, 3, some (oCmLt 16)) :: (6, 1, some (oIl 0)) :: (7, 2, some (oIc 57)) :: (9, 3, some (oCmGt 16)) ::
  (12, 1, some (oIc 1)) :: (13, 3, some (oGoto 17)) :: (16, 1, some (oIc 0)) :: (17, 1, some oZret) :: []
set_option maxRecDepth 100000 in
set_option maxHeartbeats 4000000 in
theorem okX7_isDigit : CodeOk mX7_isDigit cdX7_isDigit := by
  refine ⟨by rfl, ?_⟩
  show CodeAll mX7_isDigit cdX7_isDigit
  refine ce_op (okIl1 (k := 0) (by decide +kernel) rfl) ?_
  refine ce_op (okIc2 (n := 48) (by decide +kernel) (by decide)) ?_
  refine ce_op (okCmLt (off := 13) (by decide +kernel) (by decide)) ?_
  refine ce_op (okIl1 (k := 0) (by decide +kernel) rfl) ?_
  refine ce_op (okIc2 (n := 57) (by decide +kernel) (by decide)) ?_
  refine ce_op (okCmGt (off := 7) (by decide +kernel) (by decide)) ?_
  refine ce_op (okIc1 (n := 1) (by decide +kernel) (by decide)) ?_
  refine ce_op (okGoto (off := 4) (by decide +kernel) (by decide)) ?_
  refine ce_op (okIc1 (n := 0) (by decide +kernel) (by decide)) ?_
  refine ce_op (okZret (by decide +kernel) rfl) ?_
  exact ce_nil
set_option maxRecDepth 100000 in
def cdX7_next : List CE := (0, 0, none) :: (0, 1, some (oAl 0)) :: (1, 3, some (oCI 7 mX7_here 1)) :: (4, 2, some (oIc 10)) :: (6, 3, some (oCmEq 18)) :: (9, 1, some (oAl 0)) ::
  (10, 3, some (oCI 7 mX7_here 1)) :: (13, 2, some (oIc 32)) :: (15, 3, some (oCmNe 31)) :: (18, 1, some (oAl 0)) :: (19, 1, some oDup) :: (20, 3, some (oGetI 7 31)) ::
  (23, 1, some (oIc 1)) :: (24, 1, some oIadd) :: (25, 3, some (oPutI 7 31)) :: (28, 3, some (oGoto 0)) :: (31, 1, some (oAl 0)) :: (32, 1, some (oAl 0)) ::
  (33, 3, some (oGetI 7 31)) :: (36, 3, some (oPutI 7 32)) :: (39, 1, some (oAl 0)) :: (40, 3, some (oCI 7 mX7_here 1)) :: (43, 1, some (oIs 1)) :: (44, 1, some (oIl 1)) ::
  (45, 1, some (oIc (-1))) :: (46, 3, some (oCmNe 57)) :: (49, 1, some (oAl 0)) :: (50, 1, some (oIc 4)) :: (51, 3, some (oPutI 7 33)) :: (54, 3, some (oGoto 245)) ::
  (57, 1, some (oIl 1)) :: (58, 3, some (oCI 16 mX7_isSmall 1)) :: (61, 3, some (oIfEq 145)) :: (64, 0, none) :: (64, 1, some (oAl 0)) :: (65, 3, some (oCI 7 mX7_here 1)) ::
  (68, 3, some (oCI 16 mX7_isSmall 1)) :: (71, 3, some (oIfEq 87)) :: (74, 1, some (oAl 0)) :: (75, 1, some oDup) :: (76, 3, some (oGetI 7 31)) :: (79, 1, some (oIc 1)) ::
  (80, 1, some oIadd) :: (81, 3, some (oPutI 7 31)) :: (84, 3, some (oGoto 64)) :: (87, 1, some (oAl 0)) :: (88, 1, some (oAl 0)) :: (89, 3, some (oCI 7 mX7_word 1)) ::
  (92, 3, some (oPutI 7 34)) :: (95, 1, some (oAl 0)) :: (96, 1, some (oAl 0)) :: (97, 3, some (oGetI 7 34)) :: (100, 1, some (oIc (-1))) :: (101, 3, some (oCmEq 108)) ::
  (104, 1, some (oIc 0)) :: (105, 3, some (oGoto 127)) :: (108, 1, some (oAl 0)) :: (109, 3, some (oGetI 7 31)) :: (112, 1, some (oAl 0)) :: (113, 3, some (oGetI 7 32)) ::
  (116, 1, some oIsub) :: (117, 2, some (oIc 6)) :: (119, 3, some (oCmLe 126)) :: (122, 1, some (oIc 5)) :: (123, 3, some (oGoto 127)) :: (126, 1, some (oIc 1)) ::
  (127, 3, some (oPutI 7 33)) :: (130, 1, some (oAl 0)) :: (131, 3, some (oGetI 7 33)) :: (134, 1, some (oIc 1)) :: (135, 3, some (oCmNe 245)) :: (138, 1, some (oAl 0)) ::
  (139, 3, some (oCV 7 mX7_name 1)) :: (142, 3, some (oGoto 245)) :: (145, 1, some (oIl 1)) :: (146, 3, some (oCI 16 mX7_isDigit 1)) :: (149, 3, some (oIfEq 220)) :: (152, 1, some (oAl 0)) ::
  (153, 1, some (oIc 2)) :: (154, 3, some (oPutI 7 33)) :: (157, 1, some (oAl 0)) :: (158, 1, some (oIc 0)) :: (159, 3, some (oPutI 7 34)) :: (162, 0, none) ::
  (162, 1, some (oAl 0)) :: (163, 3, some (oCI 7 mX7_here 1)) :: (166, 3, some (oCI 16 mX7_isDigit 1)) :: (169, 3, some (oIfEq 245)) :: (172, 1, some (oAl 0)) :: (173, 1, some (oAl 0)) ::
  (174, 3, some (oGetI 7 34)) :: (177, 2, some (oIc 999999)) :: (179, 3, some (oCmLe 189)) :: (182, 1, some (oAl 0)) :: (183, 3, some (oGetI 7 34)) :: (186, 3, some (oGoto 204)) ::
  (189, 2, some (oIc 10)) :: (191, 1, some (oAl 0)) :: (192, 3, some (oGetI 7 34)) :: (195, 1, some oImul) :: (196, 1, some (oAl 0)) :: (197, 3, some (oCI 7 mX7_here 1)) ::
  (200, 1, some oIadd) :: (201, 2, some (oIc 48)) :: (203, 1, some oIsub) :: (204, 3, some (oPutI 7 34)) :: (207, 1, some (oAl 0)) :: (208, 1, some oDup) ::
  (209, 3, some (oGetI 7 31)) :: (212, 1, some (oIc 1)) :: (213, 1, some oIadd) :: (214, 3, some (oPutI 7 31)) :: (217, 3, some (oGoto 162)) :: (220, 1, some (oAl 0)) ::
  (221, 1, some (oIl 1)) :: (222, 2, some (oIc 59)) :: (224, 3, some (oCmNe 231)) :: (227, 1, some (oIc 3)) :: (228, 3, some (oGoto 232)) :: (231, 1, some (oIc 5)) ::
  (232, 3, some (oPutI 7 33)) :: (235, 1, some (oAl 0)) :: (236, 1, some oDup) :: (237, 3, some (oGetI 7 31)) :: (240, 1, some (oIc 1)) :: (241, 1, some oIadd) ::
  (242, 3, some (oPutI 7 31)) :: (245, 1, some oVret) :: []
set_option maxRecDepth 100000 in
set_option maxHeartbeats 4000000 in
theorem okX7_next : CodeOk mX7_next cdX7_next := by
  refine ⟨by rfl, ?_⟩
  show CodeAll mX7_next cdX7_next
  refine ce_st ?_
  refine ce_op (okAl1 (k := 0) (by decide +kernel) rfl) ?_
  refine ce_op (okCI miX7_here (rV clX7 (x := 114) miX7_here rfl (by decide +kernel) wd1181 wd1183 wd48)) ?_
  refine ce_op (okIc2 (n := 10) (by decide +kernel) (by decide)) ?_
  refine ce_op (okCmEq (off := 12) (by decide +kernel) (by decide)) ?_
  refine ce_op (okAl1 (k := 0) (by decide +kernel) rfl) ?_
  refine ce_op (okCI miX7_here (rV clX7 (x := 114) miX7_here rfl (by decide +kernel) wd1181 wd1183 wd48)) ?_
  refine ce_op (okIc2 (n := 32) (by decide +kernel) (by decide)) ?_
  refine ce_op (okCmNe (off := 16) (by decide +kernel) (by decide)) ?_
  refine ce_op (okAl1 (k := 0) (by decide +kernel) rfl) ?_
  refine ce_op (okDup (by decide +kernel)) ?_
  refine ce_op (okGetI clX7 (k := 31) (x := 108) (by decide +kernel) (by decide) rfl wd1031 (Or.inl rfl)) ?_
  refine ce_op (okIc1 (n := 1) (by decide +kernel) (by decide)) ?_
  refine ce_op (okIadd (by decide +kernel)) ?_
  refine ce_op (okPutI clX7 (k := 31) (x := 108) (by decide +kernel) (by decide) rfl wd1031 rfl rfl (by decide +kernel)) ?_
  refine ce_op (okGoto (off := (-28)) (by decide +kernel) (by decide)) ?_
  refine ce_op (okAl1 (k := 0) (by decide +kernel) rfl) ?_
  refine ce_op (okAl1 (k := 0) (by decide +kernel) rfl) ?_
  refine ce_op (okGetI clX7 (k := 31) (x := 108) (by decide +kernel) (by decide) rfl wd1031 (Or.inl rfl)) ?_
  refine ce_op (okPutI clX7 (k := 32) (x := 118) (by decide +kernel) (by decide) rfl wd1032 rfl rfl (by decide +kernel)) ?_
  refine ce_op (okAl1 (k := 0) (by decide +kernel) rfl) ?_
  refine ce_op (okCI miX7_here (rV clX7 (x := 114) miX7_here rfl (by decide +kernel) wd1181 wd1183 wd48)) ?_
  refine ce_op (okIs1 (k := 1) (by decide +kernel) rfl (by decide)) ?_
  refine ce_op (okIl1 (k := 1) (by decide +kernel) rfl) ?_
  refine ce_op (okIc1 (n := (-1)) (by decide +kernel) (by decide)) ?_
  refine ce_op (okCmNe (off := 11) (by decide +kernel) (by decide)) ?_
  refine ce_op (okAl1 (k := 0) (by decide +kernel) rfl) ?_
  refine ce_op (okIc1 (n := 4) (by decide +kernel) (by decide)) ?_
  refine ce_op (okPutI clX7 (k := 33) (x := 121) (by decide +kernel) (by decide) rfl wd1033 rfl rfl (by decide +kernel)) ?_
  refine ce_op (okGoto (off := 191) (by decide +kernel) (by decide)) ?_
  refine ce_op (okIl1 (k := 1) (by decide +kernel) rfl) ?_
  refine ce_op (okCI miX7_isSmall (rS (x := 124) miX7_isSmall (by decide +kernel) wd1185 wd1186)) ?_
  refine ce_op (okIfEq (off := 84) (by decide +kernel) (by decide)) ?_
  refine ce_st ?_
  refine ce_op (okAl1 (k := 0) (by decide +kernel) rfl) ?_
  refine ce_op (okCI miX7_here (rV clX7 (x := 114) miX7_here rfl (by decide +kernel) wd1181 wd1183 wd48)) ?_
  refine ce_op (okCI miX7_isSmall (rS (x := 124) miX7_isSmall (by decide +kernel) wd1185 wd1186)) ?_
  refine ce_op (okIfEq (off := 16) (by decide +kernel) (by decide)) ?_
  refine ce_op (okAl1 (k := 0) (by decide +kernel) rfl) ?_
  refine ce_op (okDup (by decide +kernel)) ?_
  refine ce_op (okGetI clX7 (k := 31) (x := 108) (by decide +kernel) (by decide) rfl wd1031 (Or.inl rfl)) ?_
  refine ce_op (okIc1 (n := 1) (by decide +kernel) (by decide)) ?_
  refine ce_op (okIadd (by decide +kernel)) ?_
  refine ce_op (okPutI clX7 (k := 31) (x := 108) (by decide +kernel) (by decide) rfl wd1031 rfl rfl (by decide +kernel)) ?_
  refine ce_op (okGoto (off := (-20)) (by decide +kernel) (by decide)) ?_
  refine ce_op (okAl1 (k := 0) (by decide +kernel) rfl) ?_
  refine ce_op (okAl1 (k := 0) (by decide +kernel) rfl) ?_
  refine ce_op (okCI miX7_word (rV clX7 (x := 128) miX7_word rfl (by decide +kernel) wd1188 wd1190 wd49)) ?_
  refine ce_op (okPutI clX7 (k := 34) (x := 131) (by decide +kernel) (by decide) rfl wd1034 rfl rfl (by decide +kernel)) ?_
  refine ce_op (okAl1 (k := 0) (by decide +kernel) rfl) ?_
  refine ce_op (okAl1 (k := 0) (by decide +kernel) rfl) ?_
  refine ce_op (okGetI clX7 (k := 34) (x := 131) (by decide +kernel) (by decide) rfl wd1034 (Or.inl rfl)) ?_
  refine ce_op (okIc1 (n := (-1)) (by decide +kernel) (by decide)) ?_
  refine ce_op (okCmEq (off := 7) (by decide +kernel) (by decide)) ?_
  refine ce_op (okIc1 (n := 0) (by decide +kernel) (by decide)) ?_
  refine ce_op (okGoto (off := 22) (by decide +kernel) (by decide)) ?_
  refine ce_op (okAl1 (k := 0) (by decide +kernel) rfl) ?_
  refine ce_op (okGetI clX7 (k := 31) (x := 108) (by decide +kernel) (by decide) rfl wd1031 (Or.inl rfl)) ?_
  refine ce_op (okAl1 (k := 0) (by decide +kernel) rfl) ?_
  refine ce_op (okGetI clX7 (k := 32) (x := 118) (by decide +kernel) (by decide) rfl wd1032 (Or.inl rfl)) ?_
  refine ce_op (okIsub (by decide +kernel)) ?_
  refine ce_op (okIc2 (n := 6) (by decide +kernel) (by decide)) ?_
  refine ce_op (okCmLe (off := 7) (by decide +kernel) (by decide)) ?_
  refine ce_op (okIc1 (n := 5) (by decide +kernel) (by decide)) ?_
  refine ce_op (okGoto (off := 4) (by decide +kernel) (by decide)) ?_
  refine ce_op (okIc1 (n := 1) (by decide +kernel) (by decide)) ?_
  refine ce_op (okPutI clX7 (k := 33) (x := 121) (by decide +kernel) (by decide) rfl wd1033 rfl rfl (by decide +kernel)) ?_
  refine ce_op (okAl1 (k := 0) (by decide +kernel) rfl) ?_
  refine ce_op (okGetI clX7 (k := 33) (x := 121) (by decide +kernel) (by decide) rfl wd1033 (Or.inl rfl)) ?_
  refine ce_op (okIc1 (n := 1) (by decide +kernel) (by decide)) ?_
  refine ce_op (okCmNe (off := 110) (by decide +kernel) (by decide)) ?_
  refine ce_op (okAl1 (k := 0) (by decide +kernel) rfl) ?_
  refine ce_op (okCV miX7_name (rV clX7 (x := 134) miX7_name rfl (by decide +kernel) wd1241 wd1243 wd50)) ?_
  refine ce_op (okGoto (off := 103) (by decide +kernel) (by decide)) ?_
  refine ce_op (okIl1 (k := 1) (by decide +kernel) rfl) ?_
  refine ce_op (okCI miX7_isDigit (rS (x := 137) miX7_isDigit (by decide +kernel) wd1245 wd1246)) ?_
  refine ce_op (okIfEq (off := 71) (by decide +kernel) (by decide)) ?_
  refine ce_op (okAl1 (k := 0) (by decide +kernel) rfl) ?_
  refine ce_op (okIc1 (n := 2) (by decide +kernel) (by decide)) ?_
  refine ce_op (okPutI clX7 (k := 33) (x := 121) (by decide +kernel) (by decide) rfl wd1033 rfl rfl (by decide +kernel)) ?_
  refine ce_op (okAl1 (k := 0) (by decide +kernel) rfl) ?_
  refine ce_op (okIc1 (n := 0) (by decide +kernel) (by decide)) ?_
  refine ce_op (okPutI clX7 (k := 34) (x := 131) (by decide +kernel) (by decide) rfl wd1034 rfl rfl (by decide +kernel)) ?_
  refine ce_st ?_
  refine ce_op (okAl1 (k := 0) (by decide +kernel) rfl) ?_
  refine ce_op (okCI miX7_here (rV clX7 (x := 114) miX7_here rfl (by decide +kernel) wd1181 wd1183 wd48)) ?_
  refine ce_op (okCI miX7_isDigit (rS (x := 137) miX7_isDigit (by decide +kernel) wd1245 wd1246)) ?_
  refine ce_op (okIfEq (off := 76) (by decide +kernel) (by decide)) ?_
  refine ce_op (okAl1 (k := 0) (by decide +kernel) rfl) ?_
  refine ce_op (okAl1 (k := 0) (by decide +kernel) rfl) ?_
  refine ce_op (okGetI clX7 (k := 34) (x := 131) (by decide +kernel) (by decide) rfl wd1034 (Or.inl rfl)) ?_
  refine ce_op (okIcL (k := 140) (by decide +kernel) wd1248) ?_
  refine ce_op (okCmLe (off := 10) (by decide +kernel) (by decide)) ?_
  refine ce_op (okAl1 (k := 0) (by decide +kernel) rfl) ?_
  refine ce_op (okGetI clX7 (k := 34) (x := 131) (by decide +kernel) (by decide) rfl wd1034 (Or.inl rfl)) ?_
  refine ce_op (okGoto (off := 18) (by decide +kernel) (by decide)) ?_
  refine ce_op (okIc2 (n := 10) (by decide +kernel) (by decide)) ?_
  refine ce_op (okAl1 (k := 0) (by decide +kernel) rfl) ?_
  refine ce_op (okGetI clX7 (k := 34) (x := 131) (by decide +kernel) (by decide) rfl wd1034 (Or.inl rfl)) ?_
  refine ce_op (okImul (by decide +kernel)) ?_
  refine ce_op (okAl1 (k := 0) (by decide +kernel) rfl) ?_
  refine ce_op (okCI miX7_here (rV clX7 (x := 114) miX7_here rfl (by decide +kernel) wd1181 wd1183 wd48)) ?_
  refine ce_op (okIadd (by decide +kernel)) ?_
  refine ce_op (okIc2 (n := 48) (by decide +kernel) (by decide)) ?_
  refine ce_op (okIsub (by decide +kernel)) ?_
  refine ce_op (okPutI clX7 (k := 34) (x := 131) (by decide +kernel) (by decide) rfl wd1034 rfl rfl (by decide +kernel)) ?_
  refine ce_op (okAl1 (k := 0) (by decide +kernel) rfl) ?_
  refine ce_op (okDup (by decide +kernel)) ?_
  refine ce_op (okGetI clX7 (k := 31) (x := 108) (by decide +kernel) (by decide) rfl wd1031 (Or.inl rfl)) ?_
  refine ce_op (okIc1 (n := 1) (by decide +kernel) (by decide)) ?_
  refine ce_op (okIadd (by decide +kernel)) ?_
  refine ce_op (okPutI clX7 (k := 31) (x := 108) (by decide +kernel) (by decide) rfl wd1031 rfl rfl (by decide +kernel)) ?_
  refine ce_op (okGoto (off := (-55)) (by decide +kernel) (by decide)) ?_
  refine ce_op (okAl1 (k := 0) (by decide +kernel) rfl) ?_
  refine ce_op (okIl1 (k := 1) (by decide +kernel) rfl) ?_
  refine ce_op (okIc2 (n := 59) (by decide +kernel) (by decide)) ?_
  refine ce_op (okCmNe (off := 7) (by decide +kernel) (by decide)) ?_
  refine ce_op (okIc1 (n := 3) (by decide +kernel) (by decide)) ?_
  refine ce_op (okGoto (off := 4) (by decide +kernel) (by decide)) ?_
  refine ce_op (okIc1 (n := 5) (by decide +kernel) (by decide)) ?_
  refine ce_op (okPutI clX7 (k := 33) (x := 121) (by decide +kernel) (by decide) rfl wd1033 rfl rfl (by decide +kernel)) ?_
  refine ce_op (okAl1 (k := 0) (by decide +kernel) rfl) ?_
  refine ce_op (okDup (by decide +kernel)) ?_
  refine ce_op (okGetI clX7 (k := 31) (x := 108) (by decide +kernel) (by decide) rfl wd1031 (Or.inl rfl)) ?_
  refine ce_op (okIc1 (n := 1) (by decide +kernel) (by decide)) ?_
  refine ce_op (okIadd (by decide +kernel)) ?_
  refine ce_op (okPutI clX7 (k := 31) (x := 108) (by decide +kernel) (by decide) rfl wd1031 rfl rfl (by decide +kernel)) ?_
  refine ce_op (okVret (by decide +kernel) rfl) ?_
  exact ce_nil
set_option maxRecDepth 100000 in
def cdX7_word : List CE := (0, 1, some (oIc 0)) :: (1, 1, some (oIs 1)) :: (2, 1, some (oIc 0)) :: (3, 1, some (oIs 2)) :: (4, 0, none) :: (4, 1, some (oIl 2)) :: (5, 5, some oSL) :: (10, 3, some (oCmGe 123)) :: (13, 1, some (oIc 0)) :: (14, 1, some (oIs 3)) :: (15, 0, none) :: (15, 8, some (oSA 2 3)) :: (23, 2, some (oIc 32)) :: (25, 3, some (oCmEq 69)) :: (28, 1, some (oAl 0)) :: (29, 3, some (oGetI 7 32)) :: (32, 1, some (oIl 3)) :: (33, 1, some oIadd) :: (34, 1, some (oAl 0)) :: (35, 3, some (oGetI 7 31)) :: (38, 3, some (oCmGe 69)) :: (41, 1, some (oAl 0)) :: (42, 3, some (oGetR [(1175, 3277992)])) :: (45, 1, some (oAl 0)) :: (46, 3, some (oGetI 7 32)) :: (49, 1, some (oIl 3)) :: (50, 1, some oIadd) :: (51, 1, some oIald) :: (52, 8, some (oSA 2 3)) :: (60, 3, some (oCmNe 69)) :: (63, 3, some (oInc 3 1)) :: (66, 3, some (oGoto 15)) :: (69, 8, some (oSA 2 3)) :: (77, 2, some (oIc 32)) :: (79, 3, some (oCmNe 97)) :: (82, 1, some (oAl 0)) :: (83, 3, some (oGetI 7 32)) :: (86, 1, some (oIl 3)) :: (87, 1, some oIadd) :: (88, 1, some (oAl 0)) :: (89, 3, some (oGetI 7 31)) :: (92, 3, some (oCmNe 97)) :: (95, 1, some (oIl 1)) :: (96, 1, some oIret) :: (97, 0, none) :: (97, 6, some (oSB 2)) :: (103, 2, some (oIc 32)) :: (105, 3, some (oCmEq 114)) :: (108, 3, some (oInc 2 1)) :: (111, 3, some (oGoto 97)) :: (114, 3, some (oInc 2 1)) :: (117, 3, some (oInc 1 1)) :: (120, 3, some (oGoto 4)) :: (123, 1, some (oIc (-1))) :: (124, 1, some oIret) :: []
set_option maxRecDepth 100000 in
set_option maxHeartbeats 4000000 in
theorem okX7_word : CodeOk mX7_word cdX7_word := by
  refine ⟨by rfl, ?_⟩
  show CodeAll mX7_word cdX7_word
  refine ce_op (okIc1 (n := 0) (by decide +kernel) (by decide)) ?_
  refine ce_op (okIs1 (k := 1) (by decide +kernel) rfl (by decide)) ?_
  refine ce_op (okIc1 (n := 0) (by decide +kernel) (by decide)) ?_
  refine ce_op (okIs1 (k := 2) (by decide +kernel) rfl (by decide)) ?_
  refine ce_st ?_
  refine ce_op (okIl1 (k := 2) (by decide +kernel) rfl) ?_
  refine ce_op (okSL rfl (by decide +kernel) (by decide +kernel)) ?_
  refine ce_op (okCmGe (off := 113) (by decide +kernel) (by decide)) ?_
  refine ce_op (okIc1 (n := 0) (by decide +kernel) (by decide)) ?_
  refine ce_op (okIs1 (k := 3) (by decide +kernel) rfl (by decide)) ?_
  refine ce_st ?_
  refine ce_op (okSA (k1 := 2) (k2 := 3) rfl rfl rfl (by decide +kernel) (by decide +kernel) (by decide +kernel) (by decide +kernel) (by decide +kernel)) ?_
  refine ce_op (okIc2 (n := 32) (by decide +kernel) (by decide)) ?_
  refine ce_op (okCmEq (off := 44) (by decide +kernel) (by decide)) ?_
  refine ce_op (okAl1 (k := 0) (by decide +kernel) rfl) ?_
  refine ce_op (okGetI clX7 (k := 32) (x := 118) (by decide +kernel) (by decide) rfl wd1032 (Or.inl rfl)) ?_
  refine ce_op (okIl1 (k := 3) (by decide +kernel) rfl) ?_
  refine ce_op (okIadd (by decide +kernel)) ?_
  refine ce_op (okAl1 (k := 0) (by decide +kernel) rfl) ?_
  refine ce_op (okGetI clX7 (k := 31) (x := 108) (by decide +kernel) (by decide) rfl wd1031 (Or.inl rfl)) ?_
  refine ce_op (okCmGe (off := 31) (by decide +kernel) (by decide)) ?_
  refine ce_op (okAl1 (k := 0) (by decide +kernel) rfl) ?_
  refine ce_op (okGetR clX7 (k := 1) (x := 9) (by decide +kernel) (by decide) rfl wd1001 rfl (by decide +kernel)) ?_
  refine ce_op (okAl1 (k := 0) (by decide +kernel) rfl) ?_
  refine ce_op (okGetI clX7 (k := 32) (x := 118) (by decide +kernel) (by decide) rfl wd1032 (Or.inl rfl)) ?_
  refine ce_op (okIl1 (k := 3) (by decide +kernel) rfl) ?_
  refine ce_op (okIadd (by decide +kernel)) ?_
  refine ce_op (okIald (by decide +kernel)) ?_
  refine ce_op (okSA (k1 := 2) (k2 := 3) rfl rfl rfl (by decide +kernel) (by decide +kernel) (by decide +kernel) (by decide +kernel) (by decide +kernel)) ?_
  refine ce_op (okCmNe (off := 9) (by decide +kernel) (by decide)) ?_
  refine ce_op (okInc (n := 1) (by decide +kernel) (by decide)) ?_
  refine ce_op (okGoto (off := (-51)) (by decide +kernel) (by decide)) ?_
  refine ce_op (okSA (k1 := 2) (k2 := 3) rfl rfl rfl (by decide +kernel) (by decide +kernel) (by decide +kernel) (by decide +kernel) (by decide +kernel)) ?_
  refine ce_op (okIc2 (n := 32) (by decide +kernel) (by decide)) ?_
  refine ce_op (okCmNe (off := 18) (by decide +kernel) (by decide)) ?_
  refine ce_op (okAl1 (k := 0) (by decide +kernel) rfl) ?_
  refine ce_op (okGetI clX7 (k := 32) (x := 118) (by decide +kernel) (by decide) rfl wd1032 (Or.inl rfl)) ?_
  refine ce_op (okIl1 (k := 3) (by decide +kernel) rfl) ?_
  refine ce_op (okIadd (by decide +kernel)) ?_
  refine ce_op (okAl1 (k := 0) (by decide +kernel) rfl) ?_
  refine ce_op (okGetI clX7 (k := 31) (x := 108) (by decide +kernel) (by decide) rfl wd1031 (Or.inl rfl)) ?_
  refine ce_op (okCmNe (off := 5) (by decide +kernel) (by decide)) ?_
  refine ce_op (okIl1 (k := 1) (by decide +kernel) rfl) ?_
  refine ce_op (okIret (by decide +kernel) rfl) ?_
  refine ce_st ?_
  refine ce_op (okSB (k1 := 2) rfl rfl (by decide +kernel) (by decide +kernel) (by decide +kernel)) ?_
  refine ce_op (okIc2 (n := 32) (by decide +kernel) (by decide)) ?_
  refine ce_op (okCmEq (off := 9) (by decide +kernel) (by decide)) ?_
  refine ce_op (okInc (n := 1) (by decide +kernel) (by decide)) ?_
  refine ce_op (okGoto (off := (-14)) (by decide +kernel) (by decide)) ?_
  refine ce_op (okInc (n := 1) (by decide +kernel) (by decide)) ?_
  refine ce_op (okInc (n := 1) (by decide +kernel) (by decide)) ?_
  refine ce_op (okGoto (off := (-116)) (by decide +kernel) (by decide)) ?_
  refine ce_op (okIc1 (n := (-1)) (by decide +kernel) (by decide)) ?_
  refine ce_op (okIret (by decide +kernel) rfl) ?_
  exact ce_nil
set_option maxRecDepth 100000 in
def cdX7_name : List CE := (0, 1, some (oAl 0)) :: (1, 1, some (oIc 0)) :: (2, 3, some (oPutI 7 34)) :: (5, 1, some (oIc 0)) :: (6, 1, some (oIs 1)) :: (7, 0, none) ::
  (7, 1, some (oIl 1)) :: (8, 2, some (oIc 6)) :: (10, 3, some (oCmGe 63)) :: (13, 1, some (oAl 0)) :: (14, 1, some (oAl 0)) :: (15, 3, some (oGetI 7 34)) ::
  (18, 1, some (oIc 5)) :: (19, 1, some oIshl) :: (20, 1, some (oAl 0)) :: (21, 3, some (oGetI 7 32)) :: (24, 1, some (oIl 1)) :: (25, 1, some oIadd) ::
  (26, 1, some (oAl 0)) :: (27, 3, some (oGetI 7 31)) :: (30, 3, some (oCmGe 52)) :: (33, 1, some (oAl 0)) :: (34, 3, some (oGetR [(1175, 3277992)])) :: (37, 1, some (oAl 0)) ::
  (38, 3, some (oGetI 7 32)) :: (41, 1, some (oIl 1)) :: (42, 1, some oIadd) :: (43, 1, some oIald) :: (44, 2, some (oIc 97)) :: (46, 1, some oIsub) ::
  (47, 1, some (oIc 1)) :: (48, 1, some oIadd) :: (49, 3, some (oGoto 53)) :: (52, 1, some (oIc 0)) :: (53, 1, some oIor) :: (54, 3, some (oPutI 7 34)) ::
  (57, 3, some (oInc 1 1)) :: (60, 3, some (oGoto 7)) :: (63, 1, some oVret) :: []
set_option maxRecDepth 100000 in
set_option maxHeartbeats 4000000 in
theorem okX7_name : CodeOk mX7_name cdX7_name := by
  refine ⟨by rfl, ?_⟩
  show CodeAll mX7_name cdX7_name
  refine ce_op (okAl1 (k := 0) (by decide +kernel) rfl) ?_
  refine ce_op (okIc1 (n := 0) (by decide +kernel) (by decide)) ?_
  refine ce_op (okPutI clX7 (k := 34) (x := 131) (by decide +kernel) (by decide) rfl wd1034 rfl rfl (by decide +kernel)) ?_
  refine ce_op (okIc1 (n := 0) (by decide +kernel) (by decide)) ?_
  refine ce_op (okIs1 (k := 1) (by decide +kernel) rfl (by decide)) ?_
  refine ce_st ?_
  refine ce_op (okIl1 (k := 1) (by decide +kernel) rfl) ?_
  refine ce_op (okIc2 (n := 6) (by decide +kernel) (by decide)) ?_
  refine ce_op (okCmGe (off := 53) (by decide +kernel) (by decide)) ?_
  refine ce_op (okAl1 (k := 0) (by decide +kernel) rfl) ?_
  refine ce_op (okAl1 (k := 0) (by decide +kernel) rfl) ?_
  refine ce_op (okGetI clX7 (k := 34) (x := 131) (by decide +kernel) (by decide) rfl wd1034 (Or.inl rfl)) ?_
  refine ce_op (okIc1 (n := 5) (by decide +kernel) (by decide)) ?_
  refine ce_op (okIshl (by decide +kernel)) ?_
  refine ce_op (okAl1 (k := 0) (by decide +kernel) rfl) ?_
  refine ce_op (okGetI clX7 (k := 32) (x := 118) (by decide +kernel) (by decide) rfl wd1032 (Or.inl rfl)) ?_
  refine ce_op (okIl1 (k := 1) (by decide +kernel) rfl) ?_
  refine ce_op (okIadd (by decide +kernel)) ?_
  refine ce_op (okAl1 (k := 0) (by decide +kernel) rfl) ?_
  refine ce_op (okGetI clX7 (k := 31) (x := 108) (by decide +kernel) (by decide) rfl wd1031 (Or.inl rfl)) ?_
  refine ce_op (okCmGe (off := 22) (by decide +kernel) (by decide)) ?_
  refine ce_op (okAl1 (k := 0) (by decide +kernel) rfl) ?_
  refine ce_op (okGetR clX7 (k := 1) (x := 9) (by decide +kernel) (by decide) rfl wd1001 rfl (by decide +kernel)) ?_
  refine ce_op (okAl1 (k := 0) (by decide +kernel) rfl) ?_
  refine ce_op (okGetI clX7 (k := 32) (x := 118) (by decide +kernel) (by decide) rfl wd1032 (Or.inl rfl)) ?_
  refine ce_op (okIl1 (k := 1) (by decide +kernel) rfl) ?_
  refine ce_op (okIadd (by decide +kernel)) ?_
  refine ce_op (okIald (by decide +kernel)) ?_
  refine ce_op (okIc2 (n := 97) (by decide +kernel) (by decide)) ?_
  refine ce_op (okIsub (by decide +kernel)) ?_
  refine ce_op (okIc1 (n := 1) (by decide +kernel) (by decide)) ?_
  refine ce_op (okIadd (by decide +kernel)) ?_
  refine ce_op (okGoto (off := 4) (by decide +kernel) (by decide)) ?_
  refine ce_op (okIc1 (n := 0) (by decide +kernel) (by decide)) ?_
  refine ce_op (okIor (by decide +kernel)) ?_
  refine ce_op (okPutI clX7 (k := 34) (x := 131) (by decide +kernel) (by decide) rfl wd1034 rfl rfl (by decide +kernel)) ?_
  refine ce_op (okInc (n := 1) (by decide +kernel) (by decide)) ?_
  refine ce_op (okGoto (off := (-53)) (by decide +kernel) (by decide)) ?_
  refine ce_op (okVret (by decide +kernel) rfl) ?_
  exact ce_nil
set_option maxRecDepth 100000 in
def cdX7_wrong : List CE := (0, 1, some (oAl 0)) :: (1, 3, some (oGetI 7 35)) :: (4, 3, some (oIfEq 8)) :: (7, 1, some oVret) :: (8, 1, some (oAl 0)) :: (9, 1, some (oIl 1)) ::
  (10, 3, some (oPutI 7 35)) :: (13, 1, some (oAl 0)) :: (14, 1, some (oAl 0)) :: (15, 3, some (oGetI 7 32)) :: (18, 3, some (oPutI 7 36)) :: (21, 1, some oVret) :: []
set_option maxRecDepth 100000 in
set_option maxHeartbeats 4000000 in
theorem okX7_wrong : CodeOk mX7_wrong cdX7_wrong := by
  refine ⟨by rfl, ?_⟩
  show CodeAll mX7_wrong cdX7_wrong
  refine ce_op (okAl1 (k := 0) (by decide +kernel) rfl) ?_
  refine ce_op (okGetI clX7 (k := 35) (x := 152) (by decide +kernel) (by decide) rfl wd1035 (Or.inl rfl)) ?_
  refine ce_op (okIfEq (off := 4) (by decide +kernel) (by decide)) ?_
  refine ce_op (okVret (by decide +kernel) rfl) ?_
  refine ce_op (okAl1 (k := 0) (by decide +kernel) rfl) ?_
  refine ce_op (okIl1 (k := 1) (by decide +kernel) rfl) ?_
  refine ce_op (okPutI clX7 (k := 35) (x := 152) (by decide +kernel) (by decide) rfl wd1035 rfl rfl (by decide +kernel)) ?_
  refine ce_op (okAl1 (k := 0) (by decide +kernel) rfl) ?_
  refine ce_op (okAl1 (k := 0) (by decide +kernel) rfl) ?_
  refine ce_op (okGetI clX7 (k := 32) (x := 118) (by decide +kernel) (by decide) rfl wd1032 (Or.inl rfl)) ?_
  refine ce_op (okPutI clX7 (k := 36) (x := 155) (by decide +kernel) (by decide) rfl wd1036 rfl rfl (by decide +kernel)) ?_
  refine ce_op (okVret (by decide +kernel) rfl) ?_
  exact ce_nil
set_option maxRecDepth 100000 in
def cdX7_isWord : List CE := (0, 1, some (oAl 0)) :: (1, 3, some (oGetI 7 35)) :: (4, 3, some (oIfNe 26)) :: (7, 1, some (oAl 0)) :: (8, 3, some (oGetI 7 33)) :: (11, 3, some (oIfNe 26)) ::
  (14, 1, some (oAl 0)) :: (15, 3, some (oGetI 7 34)) :: (18, 1, some (oIl 1)) :: (19, 3, some (oCmNe 26)) :: (22, 1, some (oIc 1)) :: (23, 3, some (oGoto 27)) ::
  (26, 1, some (oIc 0)) :: (27, 1, some oZret) :: []
set_option maxRecDepth 100000 in
set_option maxHeartbeats 4000000 in
theorem okX7_isWord : CodeOk mX7_isWord cdX7_isWord := by
  refine ⟨by rfl, ?_⟩
  show CodeAll mX7_isWord cdX7_isWord
  refine ce_op (okAl1 (k := 0) (by decide +kernel) rfl) ?_
  refine ce_op (okGetI clX7 (k := 35) (x := 152) (by decide +kernel) (by decide) rfl wd1035 (Or.inl rfl)) ?_
  refine ce_op (okIfNe (off := 22) (by decide +kernel) (by decide)) ?_
  refine ce_op (okAl1 (k := 0) (by decide +kernel) rfl) ?_
  refine ce_op (okGetI clX7 (k := 33) (x := 121) (by decide +kernel) (by decide) rfl wd1033 (Or.inl rfl)) ?_
  refine ce_op (okIfNe (off := 15) (by decide +kernel) (by decide)) ?_
  refine ce_op (okAl1 (k := 0) (by decide +kernel) rfl) ?_
  refine ce_op (okGetI clX7 (k := 34) (x := 131) (by decide +kernel) (by decide) rfl wd1034 (Or.inl rfl)) ?_
  refine ce_op (okIl1 (k := 1) (by decide +kernel) rfl) ?_
  refine ce_op (okCmNe (off := 7) (by decide +kernel) (by decide)) ?_
  refine ce_op (okIc1 (n := 1) (by decide +kernel) (by decide)) ?_
  refine ce_op (okGoto (off := 4) (by decide +kernel) (by decide)) ?_
  refine ce_op (okIc1 (n := 0) (by decide +kernel) (by decide)) ?_
  refine ce_op (okZret (by decide +kernel) rfl) ?_
  exact ce_nil
set_option maxRecDepth 100000 in
def cdX7_numeral : List CE := (0, 1, some (oAl 0)) :: (1, 3, some (oGetI 7 35)) :: (4, 3, some (oIfEq 9)) :: (7, 1, some (oIl 1)) :: (8, 1, some oIret) :: (9, 1, some (oAl 0)) ::
  (10, 3, some (oGetI 7 33)) :: (13, 1, some (oIc 2)) :: (14, 3, some (oCmEq 25)) :: (17, 1, some (oAl 0)) :: (18, 1, some (oIc 1)) :: (19, 3, some (oCV 7 mX7_wrong 2)) ::
  (22, 3, some (oGoto 46)) :: (25, 1, some (oAl 0)) :: (26, 3, some (oGetI 7 34)) :: (29, 1, some (oIl 1)) :: (30, 3, some (oCmLt 41)) :: (33, 1, some (oAl 0)) ::
  (34, 3, some (oGetI 7 34)) :: (37, 1, some (oIl 2)) :: (38, 3, some (oCmLe 46)) :: (41, 1, some (oAl 0)) :: (42, 1, some (oIc 2)) :: (43, 3, some (oCV 7 mX7_wrong 2)) ::
  (46, 1, some (oAl 0)) :: (47, 3, some (oGetI 7 35)) :: (50, 3, some (oIfEq 55)) :: (53, 1, some (oIl 1)) :: (54, 1, some oIret) :: (55, 1, some (oAl 0)) ::
  (56, 3, some (oGetI 7 34)) :: (59, 1, some (oIs 3)) :: (60, 1, some (oAl 0)) :: (61, 3, some (oCV 7 mX7_next 1)) :: (64, 1, some (oIl 3)) :: (65, 1, some oIret) :: []
set_option maxRecDepth 100000 in
set_option maxHeartbeats 4000000 in
theorem okX7_numeral : CodeOk mX7_numeral cdX7_numeral := by
  refine ⟨by rfl, ?_⟩
  show CodeAll mX7_numeral cdX7_numeral
  refine ce_op (okAl1 (k := 0) (by decide +kernel) rfl) ?_
  refine ce_op (okGetI clX7 (k := 35) (x := 152) (by decide +kernel) (by decide) rfl wd1035 (Or.inl rfl)) ?_
  refine ce_op (okIfEq (off := 5) (by decide +kernel) (by decide)) ?_
  refine ce_op (okIl1 (k := 1) (by decide +kernel) rfl) ?_
  refine ce_op (okIret (by decide +kernel) rfl) ?_
  refine ce_op (okAl1 (k := 0) (by decide +kernel) rfl) ?_
  refine ce_op (okGetI clX7 (k := 33) (x := 121) (by decide +kernel) (by decide) rfl wd1033 (Or.inl rfl)) ?_
  refine ce_op (okIc1 (n := 2) (by decide +kernel) (by decide)) ?_
  refine ce_op (okCmEq (off := 11) (by decide +kernel) (by decide)) ?_
  refine ce_op (okAl1 (k := 0) (by decide +kernel) rfl) ?_
  refine ce_op (okIc1 (n := 1) (by decide +kernel) (by decide)) ?_
  refine ce_op (okCV miX7_wrong (rV clX7 (x := 158) miX7_wrong rfl (by decide +kernel) wd1253 wd1255 wd52)) ?_
  refine ce_op (okGoto (off := 24) (by decide +kernel) (by decide)) ?_
  refine ce_op (okAl1 (k := 0) (by decide +kernel) rfl) ?_
  refine ce_op (okGetI clX7 (k := 34) (x := 131) (by decide +kernel) (by decide) rfl wd1034 (Or.inl rfl)) ?_
  refine ce_op (okIl1 (k := 1) (by decide +kernel) rfl) ?_
  refine ce_op (okCmLt (off := 11) (by decide +kernel) (by decide)) ?_
  refine ce_op (okAl1 (k := 0) (by decide +kernel) rfl) ?_
  refine ce_op (okGetI clX7 (k := 34) (x := 131) (by decide +kernel) (by decide) rfl wd1034 (Or.inl rfl)) ?_
  refine ce_op (okIl1 (k := 2) (by decide +kernel) rfl) ?_
  refine ce_op (okCmLe (off := 8) (by decide +kernel) (by decide)) ?_
  refine ce_op (okAl1 (k := 0) (by decide +kernel) rfl) ?_
  refine ce_op (okIc1 (n := 2) (by decide +kernel) (by decide)) ?_
  refine ce_op (okCV miX7_wrong (rV clX7 (x := 158) miX7_wrong rfl (by decide +kernel) wd1253 wd1255 wd52)) ?_
  refine ce_op (okAl1 (k := 0) (by decide +kernel) rfl) ?_
  refine ce_op (okGetI clX7 (k := 35) (x := 152) (by decide +kernel) (by decide) rfl wd1035 (Or.inl rfl)) ?_
  refine ce_op (okIfEq (off := 5) (by decide +kernel) (by decide)) ?_
  refine ce_op (okIl1 (k := 1) (by decide +kernel) rfl) ?_
  refine ce_op (okIret (by decide +kernel) rfl) ?_
  refine ce_op (okAl1 (k := 0) (by decide +kernel) rfl) ?_
  refine ce_op (okGetI clX7 (k := 34) (x := 131) (by decide +kernel) (by decide) rfl wd1034 (Or.inl rfl)) ?_
  refine ce_op (okIs1 (k := 3) (by decide +kernel) rfl (by decide)) ?_
  refine ce_op (okAl1 (k := 0) (by decide +kernel) rfl) ?_
  refine ce_op (okCV miX7_next (rV clX7 (x := 162) miX7_next rfl (by decide +kernel) wd1177 wd1179 wd47)) ?_
  refine ce_op (okIl1 (k := 3) (by decide +kernel) rfl) ?_
  refine ce_op (okIret (by decide +kernel) rfl) ?_
  exact ce_nil
set_option maxRecDepth 100000 in
def cdX7_found : List CE := (0, 1, some (oIc 0)) :: (1, 2, some (oIs 4)) :: (3, 0, none) :: (3, 2, some (oIl 4)) :: (5, 1, some (oIl 2)) :: (6, 3, some (oCmGe 28)) ::
  (9, 1, some (oAl 0)) :: (10, 1, some (oIl 1)) :: (11, 2, some (oIl 4)) :: (13, 1, some oIadd) :: (14, 1, some oIald) :: (15, 1, some (oIl 3)) ::
  (16, 3, some (oCmNe 22)) :: (19, 2, some (oIl 4)) :: (21, 1, some oIret) :: (22, 3, some (oInc 4 1)) :: (25, 3, some (oGoto 3)) :: (28, 1, some (oIc (-1))) ::
  (29, 1, some oIret) :: []
set_option maxRecDepth 100000 in
set_option maxHeartbeats 4000000 in
theorem okX7_found : CodeOk mX7_found cdX7_found := by
  refine ⟨by rfl, ?_⟩
  show CodeAll mX7_found cdX7_found
  refine ce_op (okIc1 (n := 0) (by decide +kernel) (by decide)) ?_
  refine ce_op (okIs2 (by decide +kernel) (by decide)) ?_
  refine ce_st ?_
  refine ce_op (okIl2 (by decide +kernel)) ?_
  refine ce_op (okIl1 (k := 2) (by decide +kernel) rfl) ?_
  refine ce_op (okCmGe (off := 22) (by decide +kernel) (by decide)) ?_
  refine ce_op (okAl1 (k := 0) (by decide +kernel) rfl) ?_
  refine ce_op (okIl1 (k := 1) (by decide +kernel) rfl) ?_
  refine ce_op (okIl2 (by decide +kernel)) ?_
  refine ce_op (okIadd (by decide +kernel)) ?_
  refine ce_op (okIald (by decide +kernel)) ?_
  refine ce_op (okIl1 (k := 3) (by decide +kernel) rfl) ?_
  refine ce_op (okCmNe (off := 6) (by decide +kernel) (by decide)) ?_
  refine ce_op (okIl2 (by decide +kernel)) ?_
  refine ce_op (okIret (by decide +kernel) rfl) ?_
  refine ce_op (okInc (n := 1) (by decide +kernel) (by decide)) ?_
  refine ce_op (okGoto (off := (-22)) (by decide +kernel) (by decide)) ?_
  refine ce_op (okIc1 (n := (-1)) (by decide +kernel) (by decide)) ?_
  refine ce_op (okIret (by decide +kernel) rfl) ?_
  exact ce_nil
set_option maxRecDepth 100000 in
def cdX7_fresh : List CE := (0, 1, some (oAl 0)) :: (1, 3, some (oGetI 7 35)) :: (4, 3, some (oIfEq 9)) :: (7, 1, some (oIc 0)) :: (8, 1, some oIret) :: (9, 1, some (oAl 0)) ::
  (10, 3, some (oGetI 7 33)) :: (13, 1, some (oIc 1)) :: (14, 3, some (oCmEq 25)) :: (17, 1, some (oAl 0)) :: (18, 1, some (oIc 1)) :: (19, 3, some (oCV 7 mX7_wrong 2)) ::
  (22, 3, some (oGoto 44)) :: (25, 1, some (oAl 1)) :: (26, 1, some (oIl 2)) :: (27, 1, some (oIl 3)) :: (28, 1, some (oAl 0)) :: (29, 3, some (oGetI 7 34)) ::
  (32, 3, some (oCI 16 mX7_found 4)) :: (35, 1, some (oIc (-1))) :: (36, 3, some (oCmEq 44)) :: (39, 1, some (oAl 0)) :: (40, 1, some (oIc 3)) :: (41, 3, some (oCV 7 mX7_wrong 2)) ::
  (44, 1, some (oAl 0)) :: (45, 3, some (oGetI 7 35)) :: (48, 3, some (oIfEq 53)) :: (51, 1, some (oIc 0)) :: (52, 1, some oIret) :: (53, 1, some (oAl 0)) ::
  (54, 3, some (oGetI 7 34)) :: (57, 2, some (oIs 4)) :: (59, 1, some (oAl 0)) :: (60, 3, some (oCV 7 mX7_next 1)) :: (63, 2, some (oIl 4)) :: (65, 1, some oIret) :: []
set_option maxRecDepth 100000 in
set_option maxHeartbeats 4000000 in
theorem okX7_fresh : CodeOk mX7_fresh cdX7_fresh := by
  refine ⟨by rfl, ?_⟩
  show CodeAll mX7_fresh cdX7_fresh
  refine ce_op (okAl1 (k := 0) (by decide +kernel) rfl) ?_
  refine ce_op (okGetI clX7 (k := 35) (x := 152) (by decide +kernel) (by decide) rfl wd1035 (Or.inl rfl)) ?_
  refine ce_op (okIfEq (off := 5) (by decide +kernel) (by decide)) ?_
  refine ce_op (okIc1 (n := 0) (by decide +kernel) (by decide)) ?_
  refine ce_op (okIret (by decide +kernel) rfl) ?_
  refine ce_op (okAl1 (k := 0) (by decide +kernel) rfl) ?_
  refine ce_op (okGetI clX7 (k := 33) (x := 121) (by decide +kernel) (by decide) rfl wd1033 (Or.inl rfl)) ?_
  refine ce_op (okIc1 (n := 1) (by decide +kernel) (by decide)) ?_
  refine ce_op (okCmEq (off := 11) (by decide +kernel) (by decide)) ?_
  refine ce_op (okAl1 (k := 0) (by decide +kernel) rfl) ?_
  refine ce_op (okIc1 (n := 1) (by decide +kernel) (by decide)) ?_
  refine ce_op (okCV miX7_wrong (rV clX7 (x := 158) miX7_wrong rfl (by decide +kernel) wd1253 wd1255 wd52)) ?_
  refine ce_op (okGoto (off := 22) (by decide +kernel) (by decide)) ?_
  refine ce_op (okAl1 (k := 1) (by decide +kernel) rfl) ?_
  refine ce_op (okIl1 (k := 2) (by decide +kernel) rfl) ?_
  refine ce_op (okIl1 (k := 3) (by decide +kernel) rfl) ?_
  refine ce_op (okAl1 (k := 0) (by decide +kernel) rfl) ?_
  refine ce_op (okGetI clX7 (k := 34) (x := 131) (by decide +kernel) (by decide) rfl wd1034 (Or.inl rfl)) ?_
  refine ce_op (okCI miX7_found (rS (x := 165) miX7_found (by decide +kernel) wd1261 wd1262)) ?_
  refine ce_op (okIc1 (n := (-1)) (by decide +kernel) (by decide)) ?_
  refine ce_op (okCmEq (off := 8) (by decide +kernel) (by decide)) ?_
  refine ce_op (okAl1 (k := 0) (by decide +kernel) rfl) ?_
  refine ce_op (okIc1 (n := 3) (by decide +kernel) (by decide)) ?_
  refine ce_op (okCV miX7_wrong (rV clX7 (x := 158) miX7_wrong rfl (by decide +kernel) wd1253 wd1255 wd52)) ?_
  refine ce_op (okAl1 (k := 0) (by decide +kernel) rfl) ?_
  refine ce_op (okGetI clX7 (k := 35) (x := 152) (by decide +kernel) (by decide) rfl wd1035 (Or.inl rfl)) ?_
  refine ce_op (okIfEq (off := 5) (by decide +kernel) (by decide)) ?_
  refine ce_op (okIc1 (n := 0) (by decide +kernel) (by decide)) ?_
  refine ce_op (okIret (by decide +kernel) rfl) ?_
  refine ce_op (okAl1 (k := 0) (by decide +kernel) rfl) ?_
  refine ce_op (okGetI clX7 (k := 34) (x := 131) (by decide +kernel) (by decide) rfl wd1034 (Or.inl rfl)) ?_
  refine ce_op (okIs2 (by decide +kernel) (by decide)) ?_
  refine ce_op (okAl1 (k := 0) (by decide +kernel) rfl) ?_
  refine ce_op (okCV miX7_next (rV clX7 (x := 162) miX7_next rfl (by decide +kernel) wd1177 wd1179 wd47)) ?_
  refine ce_op (okIl2 (by decide +kernel)) ?_
  refine ce_op (okIret (by decide +kernel) rfl) ?_
  exact ce_nil
set_option maxRecDepth 100000 in
def cdX7_told : List CE := (0, 1, some (oAl 0)) :: (1, 3, some (oGetI 7 35)) :: (4, 3, some (oIfEq 9)) :: (7, 1, some (oIc 0)) :: (8, 1, some oIret) :: (9, 1, some (oAl 0)) ::
  (10, 3, some (oGetI 7 33)) :: (13, 1, some (oIc 1)) :: (14, 3, some (oCmEq 25)) :: (17, 1, some (oAl 0)) :: (18, 1, some (oIc 1)) :: (19, 3, some (oCV 7 mX7_wrong 2)) ::
  (22, 3, some (oGoto 44)) :: (25, 1, some (oAl 1)) :: (26, 1, some (oIl 2)) :: (27, 1, some (oIl 3)) :: (28, 1, some (oAl 0)) :: (29, 3, some (oGetI 7 34)) ::
  (32, 3, some (oCI 16 mX7_found 4)) :: (35, 1, some (oIc (-1))) :: (36, 3, some (oCmNe 44)) :: (39, 1, some (oAl 0)) :: (40, 1, some (oIc 4)) :: (41, 3, some (oCV 7 mX7_wrong 2)) ::
  (44, 1, some (oAl 0)) :: (45, 3, some (oGetI 7 35)) :: (48, 3, some (oIfEq 55)) :: (51, 1, some (oIc 0)) :: (52, 3, some (oGoto 65)) :: (55, 1, some (oAl 1)) ::
  (56, 1, some (oIl 2)) :: (57, 1, some (oIl 3)) :: (58, 1, some (oAl 0)) :: (59, 3, some (oGetI 7 34)) :: (62, 3, some (oCI 16 mX7_found 4)) :: (65, 1, some oIret) :: []
set_option maxRecDepth 100000 in
set_option maxHeartbeats 4000000 in
theorem okX7_told : CodeOk mX7_told cdX7_told := by
  refine ⟨by rfl, ?_⟩
  show CodeAll mX7_told cdX7_told
  refine ce_op (okAl1 (k := 0) (by decide +kernel) rfl) ?_
  refine ce_op (okGetI clX7 (k := 35) (x := 152) (by decide +kernel) (by decide) rfl wd1035 (Or.inl rfl)) ?_
  refine ce_op (okIfEq (off := 5) (by decide +kernel) (by decide)) ?_
  refine ce_op (okIc1 (n := 0) (by decide +kernel) (by decide)) ?_
  refine ce_op (okIret (by decide +kernel) rfl) ?_
  refine ce_op (okAl1 (k := 0) (by decide +kernel) rfl) ?_
  refine ce_op (okGetI clX7 (k := 33) (x := 121) (by decide +kernel) (by decide) rfl wd1033 (Or.inl rfl)) ?_
  refine ce_op (okIc1 (n := 1) (by decide +kernel) (by decide)) ?_
  refine ce_op (okCmEq (off := 11) (by decide +kernel) (by decide)) ?_
  refine ce_op (okAl1 (k := 0) (by decide +kernel) rfl) ?_
  refine ce_op (okIc1 (n := 1) (by decide +kernel) (by decide)) ?_
  refine ce_op (okCV miX7_wrong (rV clX7 (x := 158) miX7_wrong rfl (by decide +kernel) wd1253 wd1255 wd52)) ?_
  refine ce_op (okGoto (off := 22) (by decide +kernel) (by decide)) ?_
  refine ce_op (okAl1 (k := 1) (by decide +kernel) rfl) ?_
  refine ce_op (okIl1 (k := 2) (by decide +kernel) rfl) ?_
  refine ce_op (okIl1 (k := 3) (by decide +kernel) rfl) ?_
  refine ce_op (okAl1 (k := 0) (by decide +kernel) rfl) ?_
  refine ce_op (okGetI clX7 (k := 34) (x := 131) (by decide +kernel) (by decide) rfl wd1034 (Or.inl rfl)) ?_
  refine ce_op (okCI miX7_found (rS (x := 165) miX7_found (by decide +kernel) wd1261 wd1262)) ?_
  refine ce_op (okIc1 (n := (-1)) (by decide +kernel) (by decide)) ?_
  refine ce_op (okCmNe (off := 8) (by decide +kernel) (by decide)) ?_
  refine ce_op (okAl1 (k := 0) (by decide +kernel) rfl) ?_
  refine ce_op (okIc1 (n := 4) (by decide +kernel) (by decide)) ?_
  refine ce_op (okCV miX7_wrong (rV clX7 (x := 158) miX7_wrong rfl (by decide +kernel) wd1253 wd1255 wd52)) ?_
  refine ce_op (okAl1 (k := 0) (by decide +kernel) rfl) ?_
  refine ce_op (okGetI clX7 (k := 35) (x := 152) (by decide +kernel) (by decide) rfl wd1035 (Or.inl rfl)) ?_
  refine ce_op (okIfEq (off := 7) (by decide +kernel) (by decide)) ?_
  refine ce_op (okIc1 (n := 0) (by decide +kernel) (by decide)) ?_
  refine ce_op (okGoto (off := 13) (by decide +kernel) (by decide)) ?_
  refine ce_op (okAl1 (k := 1) (by decide +kernel) rfl) ?_
  refine ce_op (okIl1 (k := 2) (by decide +kernel) rfl) ?_
  refine ce_op (okIl1 (k := 3) (by decide +kernel) rfl) ?_
  refine ce_op (okAl1 (k := 0) (by decide +kernel) rfl) ?_
  refine ce_op (okGetI clX7 (k := 34) (x := 131) (by decide +kernel) (by decide) rfl wd1034 (Or.inl rfl)) ?_
  refine ce_op (okCI miX7_found (rS (x := 165) miX7_found (by decide +kernel) wd1261 wd1262)) ?_
  refine ce_op (okIret (by decide +kernel) rfl) ?_
  exact ce_nil
set_option maxRecDepth 100000 in
def cdX7_goOn : List CE := (0, 1, some (oAl 0)) :: (1, 3, some (oGetI 7 35)) :: (4, 3, some (oIfNe 11)) :: (7, 1, some (oAl 0)) :: (8, 3, some (oCV 7 mX7_next 1)) :: (11, 1, some oVret) :: []
set_option maxRecDepth 100000 in
set_option maxHeartbeats 4000000 in
theorem okX7_goOn : CodeOk mX7_goOn cdX7_goOn := by
  refine ⟨by rfl, ?_⟩
  show CodeAll mX7_goOn cdX7_goOn
  refine ce_op (okAl1 (k := 0) (by decide +kernel) rfl) ?_
  refine ce_op (okGetI clX7 (k := 35) (x := 152) (by decide +kernel) (by decide) rfl wd1035 (Or.inl rfl)) ?_
  refine ce_op (okIfNe (off := 7) (by decide +kernel) (by decide)) ?_
  refine ce_op (okAl1 (k := 0) (by decide +kernel) rfl) ?_
  refine ce_op (okCV miX7_next (rV clX7 (x := 162) miX7_next rfl (by decide +kernel) wd1177 wd1179 wd47)) ?_
  refine ce_op (okVret (by decide +kernel) rfl) ?_
  exact ce_nil
set_option maxRecDepth 100000 in
def cdX7_line : List CE := (0, 1, some (oAl 0)) :: (1, 3, some (oGetI 7 33)) :: (4, 3, some (oIfNe 15)) :: (7, 1, some (oAl 0)) :: (8, 3, some (oGetI 7 34)) :: (11, 1, some (oIc 4)) ::
  (12, 3, some (oCmLe 21)) :: (15, 1, some (oAl 0)) :: (16, 1, some (oIc 1)) :: (17, 3, some (oCV 7 mX7_wrong 2)) :: (20, 1, some oVret) :: (21, 1, some (oAl 0)) ::
  (22, 3, some (oGetI 7 34)) :: (25, 1, some (oIs 1)) :: (26, 1, some (oIl 1)) :: (27, 3, some (oIfNe 38)) :: (30, 1, some (oAl 0)) :: (31, 3, some (oGetI 7 25)) ::
  (34, 1, some (oIc 5)) :: (35, 3, some (oCmEq 79)) :: (38, 1, some (oIl 1)) :: (39, 1, some (oIc 1)) :: (40, 3, some (oCmNe 51)) :: (43, 1, some (oAl 0)) ::
  (44, 3, some (oGetI 7 26)) :: (47, 1, some (oIc 4)) :: (48, 3, some (oCmEq 79)) :: (51, 1, some (oIl 1)) :: (52, 1, some (oIc 2)) :: (53, 3, some (oCmNe 65)) ::
  (56, 1, some (oAl 0)) :: (57, 3, some (oGetI 7 27)) :: (60, 2, some (oIc 12)) :: (62, 3, some (oCmEq 79)) :: (65, 1, some (oIl 1)) :: (66, 1, some (oIc 3)) ::
  (67, 3, some (oCmNe 85)) :: (70, 1, some (oAl 0)) :: (71, 3, some (oGetI 7 28)) :: (74, 2, some (oIc 30)) :: (76, 3, some (oCmNe 85)) :: (79, 1, some (oAl 0)) ::
  (80, 1, some (oIc 2)) :: (81, 3, some (oCV 7 mX7_wrong 2)) :: (84, 1, some oVret) :: (85, 1, some (oAl 0)) :: (86, 3, some (oCV 7 mX7_next 1)) :: (89, 0, none) :: (89, 1, some (oIl 1)) ::
  (90, 30, some (oSw [(0, 120), (1, 175), (2, 212), (3, 226)] 240)) :: (120, 1, some (oAl 0)) :: (121, 3, some (oGetR [(1175, 42168)])) :: (124, 1, some (oIc 5)) :: (125, 1, some (oAl 0)) :: (126, 3, some (oGetI 7 25)) ::
  (129, 1, some oIadd) :: (130, 1, some (oAl 0)) :: (131, 1, some (oAl 0)) :: (132, 3, some (oGetR [(1175, 42168)])) :: (135, 1, some (oIc 5)) :: (136, 1, some (oAl 0)) ::
  (137, 3, some (oGetI 7 25)) :: (140, 3, some (oCI 7 mX7_fresh 4)) :: (143, 1, some oIast) :: (144, 1, some (oAl 0)) :: (145, 3, some (oGetR [(1175, 42184)])) :: (148, 1, some (oIc 5)) ::
  (149, 1, some (oAl 0)) :: (150, 3, some (oGetI 7 25)) :: (153, 1, some oIadd) :: (154, 1, some (oAl 0)) :: (155, 1, some (oIc 0)) :: (156, 2, some (oIc 40)) ::
  (158, 3, some (oCI 7 mX7_numeral 3)) :: (161, 1, some oIast) :: (162, 1, some (oAl 0)) :: (163, 1, some oDup) :: (164, 3, some (oGetI 7 25)) :: (167, 1, some (oIc 1)) ::
  (168, 1, some oIadd) :: (169, 3, some (oPutI 7 25)) :: (172, 3, some (oGoto 244)) :: (175, 1, some (oAl 0)) :: (176, 3, some (oGetR [(1175, 34008)])) :: (179, 1, some (oIc 4)) ::
  (180, 1, some (oAl 0)) :: (181, 3, some (oGetI 7 26)) :: (184, 1, some oIadd) :: (185, 1, some (oAl 0)) :: (186, 1, some (oAl 0)) :: (187, 3, some (oGetR [(1175, 34008)])) ::
  (190, 1, some (oIc 4)) :: (191, 1, some (oAl 0)) :: (192, 3, some (oGetI 7 26)) :: (195, 3, some (oCI 7 mX7_fresh 4)) :: (198, 1, some oIast) :: (199, 1, some (oAl 0)) ::
  (200, 1, some oDup) :: (201, 3, some (oGetI 7 26)) :: (204, 1, some (oIc 1)) :: (205, 1, some oIadd) :: (206, 3, some (oPutI 7 26)) :: (209, 3, some (oGoto 244)) ::
  (212, 1, some (oAl 0)) :: (213, 2, some (oIc 12)) :: (215, 1, some (oAl 0)) :: (216, 3, some (oGetI 7 27)) :: (219, 1, some oIadd) :: (220, 3, some (oCV 7 mX7_firmLine 2)) ::
  (223, 3, some (oGoto 244)) :: (226, 1, some (oAl 0)) :: (227, 2, some (oIc 40)) :: (229, 1, some (oAl 0)) :: (230, 3, some (oGetI 7 28)) :: (233, 1, some oIadd) ::
  (234, 3, some (oCV 7 mX7_sale 2)) :: (237, 3, some (oGoto 244)) :: (240, 1, some (oAl 0)) :: (241, 3, some (oCV 7 mX7_paid 1)) :: (244, 1, some (oAl 0)) :: (245, 3, some (oGetI 7 35)) ::
  (248, 3, some (oIfEq 252)) :: (251, 1, some oVret) :: (252, 1, some (oAl 0)) :: (253, 3, some (oGetI 7 33)) :: (256, 1, some (oIc 3)) :: (257, 3, some (oCmEq 268)) ::
  (260, 1, some (oAl 0)) :: (261, 1, some (oIc 1)) :: (262, 3, some (oCV 7 mX7_wrong 2)) :: (265, 3, some (oGoto 272)) :: (268, 1, some (oAl 0)) :: (269, 3, some (oCV 7 mX7_next 1)) ::
  (272, 1, some (oAl 0)) :: (273, 1, some oDup) :: (274, 3, some (oGetI 7 29)) :: (277, 1, some (oIc 1)) :: (278, 1, some oIadd) :: (279, 3, some (oPutI 7 29)) ::
  (282, 1, some oVret) :: []
set_option maxRecDepth 100000 in
set_option maxHeartbeats 4000000 in
theorem okX7_line : CodeOk mX7_line cdX7_line := by
  refine ⟨by rfl, ?_⟩
  show CodeAll mX7_line cdX7_line
  refine ce_op (okAl1 (k := 0) (by decide +kernel) rfl) ?_
  refine ce_op (okGetI clX7 (k := 33) (x := 121) (by decide +kernel) (by decide) rfl wd1033 (Or.inl rfl)) ?_
  refine ce_op (okIfNe (off := 11) (by decide +kernel) (by decide)) ?_
  refine ce_op (okAl1 (k := 0) (by decide +kernel) rfl) ?_
  refine ce_op (okGetI clX7 (k := 34) (x := 131) (by decide +kernel) (by decide) rfl wd1034 (Or.inl rfl)) ?_
  refine ce_op (okIc1 (n := 4) (by decide +kernel) (by decide)) ?_
  refine ce_op (okCmLe (off := 9) (by decide +kernel) (by decide)) ?_
  refine ce_op (okAl1 (k := 0) (by decide +kernel) rfl) ?_
  refine ce_op (okIc1 (n := 1) (by decide +kernel) (by decide)) ?_
  refine ce_op (okCV miX7_wrong (rV clX7 (x := 158) miX7_wrong rfl (by decide +kernel) wd1253 wd1255 wd52)) ?_
  refine ce_op (okVret (by decide +kernel) rfl) ?_
  refine ce_op (okAl1 (k := 0) (by decide +kernel) rfl) ?_
  refine ce_op (okGetI clX7 (k := 34) (x := 131) (by decide +kernel) (by decide) rfl wd1034 (Or.inl rfl)) ?_
  refine ce_op (okIs1 (k := 1) (by decide +kernel) rfl (by decide)) ?_
  refine ce_op (okIl1 (k := 1) (by decide +kernel) rfl) ?_
  refine ce_op (okIfNe (off := 11) (by decide +kernel) (by decide)) ?_
  refine ce_op (okAl1 (k := 0) (by decide +kernel) rfl) ?_
  refine ce_op (okGetI clX7 (k := 25) (x := 169) (by decide +kernel) (by decide) rfl wd1025 (Or.inl rfl)) ?_
  refine ce_op (okIc1 (n := 5) (by decide +kernel) (by decide)) ?_
  refine ce_op (okCmEq (off := 44) (by decide +kernel) (by decide)) ?_
  refine ce_op (okIl1 (k := 1) (by decide +kernel) rfl) ?_
  refine ce_op (okIc1 (n := 1) (by decide +kernel) (by decide)) ?_
  refine ce_op (okCmNe (off := 11) (by decide +kernel) (by decide)) ?_
  refine ce_op (okAl1 (k := 0) (by decide +kernel) rfl) ?_
  refine ce_op (okGetI clX7 (k := 26) (x := 172) (by decide +kernel) (by decide) rfl wd1026 (Or.inl rfl)) ?_
  refine ce_op (okIc1 (n := 4) (by decide +kernel) (by decide)) ?_
  refine ce_op (okCmEq (off := 31) (by decide +kernel) (by decide)) ?_
  refine ce_op (okIl1 (k := 1) (by decide +kernel) rfl) ?_
  refine ce_op (okIc1 (n := 2) (by decide +kernel) (by decide)) ?_
  refine ce_op (okCmNe (off := 12) (by decide +kernel) (by decide)) ?_
  refine ce_op (okAl1 (k := 0) (by decide +kernel) rfl) ?_
  refine ce_op (okGetI clX7 (k := 27) (x := 175) (by decide +kernel) (by decide) rfl wd1027 (Or.inl rfl)) ?_
  refine ce_op (okIc2 (n := 12) (by decide +kernel) (by decide)) ?_
  refine ce_op (okCmEq (off := 17) (by decide +kernel) (by decide)) ?_
  refine ce_op (okIl1 (k := 1) (by decide +kernel) rfl) ?_
  refine ce_op (okIc1 (n := 3) (by decide +kernel) (by decide)) ?_
  refine ce_op (okCmNe (off := 18) (by decide +kernel) (by decide)) ?_
  refine ce_op (okAl1 (k := 0) (by decide +kernel) rfl) ?_
  refine ce_op (okGetI clX7 (k := 28) (x := 178) (by decide +kernel) (by decide) rfl wd1028 (Or.inl rfl)) ?_
  refine ce_op (okIc2 (n := 30) (by decide +kernel) (by decide)) ?_
  refine ce_op (okCmNe (off := 9) (by decide +kernel) (by decide)) ?_
  refine ce_op (okAl1 (k := 0) (by decide +kernel) rfl) ?_
  refine ce_op (okIc1 (n := 2) (by decide +kernel) (by decide)) ?_
  refine ce_op (okCV miX7_wrong (rV clX7 (x := 158) miX7_wrong rfl (by decide +kernel) wd1253 wd1255 wd52)) ?_
  refine ce_op (okVret (by decide +kernel) rfl) ?_
  refine ce_op (okAl1 (k := 0) (by decide +kernel) rfl) ?_
  refine ce_op (okCV miX7_next (rV clX7 (x := 162) miX7_next rfl (by decide +kernel) wd1177 wd1179 wd47)) ?_
  refine ce_st ?_
  refine ce_op (okIl1 (k := 1) (by decide +kernel) rfl) ?_
  refine ce_op (okTsw (dO := 150) (lo := 0) (hi := 3) (offs := #[30, 85, 122, 136]) (by decide +kernel) (by decide) (by decide +kernel) (by decide +kernel) (sw_all (by decide +kernel))) ?_
  refine ce_op (okAl1 (k := 0) (by decide +kernel) rfl) ?_
  refine ce_op (okGetR clX7 (k := 8) (x := 15) (by decide +kernel) (by decide) rfl wd1008 rfl (by decide +kernel)) ?_
  refine ce_op (okIc1 (n := 5) (by decide +kernel) (by decide)) ?_
  refine ce_op (okAl1 (k := 0) (by decide +kernel) rfl) ?_
  refine ce_op (okGetI clX7 (k := 25) (x := 169) (by decide +kernel) (by decide) rfl wd1025 (Or.inl rfl)) ?_
  refine ce_op (okIadd (by decide +kernel)) ?_
  refine ce_op (okAl1 (k := 0) (by decide +kernel) rfl) ?_
  refine ce_op (okAl1 (k := 0) (by decide +kernel) rfl) ?_
  refine ce_op (okGetR clX7 (k := 8) (x := 15) (by decide +kernel) (by decide) rfl wd1008 rfl (by decide +kernel)) ?_
  refine ce_op (okIc1 (n := 5) (by decide +kernel) (by decide)) ?_
  refine ce_op (okAl1 (k := 0) (by decide +kernel) rfl) ?_
  refine ce_op (okGetI clX7 (k := 25) (x := 169) (by decide +kernel) (by decide) rfl wd1025 (Or.inl rfl)) ?_
  refine ce_op (okCI miX7_fresh (rV clX7 (x := 181) miX7_fresh rfl (by decide +kernel) wd1257 wd1259 wd53)) ?_
  refine ce_op (okIast (by decide +kernel)) ?_
  refine ce_op (okAl1 (k := 0) (by decide +kernel) rfl) ?_
  refine ce_op (okGetR clX7 (k := 9) (x := 18) (by decide +kernel) (by decide) rfl wd1009 rfl (by decide +kernel)) ?_
  refine ce_op (okIc1 (n := 5) (by decide +kernel) (by decide)) ?_
  refine ce_op (okAl1 (k := 0) (by decide +kernel) rfl) ?_
  refine ce_op (okGetI clX7 (k := 25) (x := 169) (by decide +kernel) (by decide) rfl wd1025 (Or.inl rfl)) ?_
  refine ce_op (okIadd (by decide +kernel)) ?_
  refine ce_op (okAl1 (k := 0) (by decide +kernel) rfl) ?_
  refine ce_op (okIc1 (n := 0) (by decide +kernel) (by decide)) ?_
  refine ce_op (okIc2 (n := 40) (by decide +kernel) (by decide)) ?_
  refine ce_op (okCI miX7_numeral (rV clX7 (x := 185) miX7_numeral rfl (by decide +kernel) wd1264 wd1266 wd54)) ?_
  refine ce_op (okIast (by decide +kernel)) ?_
  refine ce_op (okAl1 (k := 0) (by decide +kernel) rfl) ?_
  refine ce_op (okDup (by decide +kernel)) ?_
  refine ce_op (okGetI clX7 (k := 25) (x := 169) (by decide +kernel) (by decide) rfl wd1025 (Or.inl rfl)) ?_
  refine ce_op (okIc1 (n := 1) (by decide +kernel) (by decide)) ?_
  refine ce_op (okIadd (by decide +kernel)) ?_
  refine ce_op (okPutI clX7 (k := 25) (x := 169) (by decide +kernel) (by decide) rfl wd1025 rfl rfl (by decide +kernel)) ?_
  refine ce_op (okGoto (off := 72) (by decide +kernel) (by decide)) ?_
  refine ce_op (okAl1 (k := 0) (by decide +kernel) rfl) ?_
  refine ce_op (okGetR clX7 (k := 10) (x := 21) (by decide +kernel) (by decide) rfl wd1010 rfl (by decide +kernel)) ?_
  refine ce_op (okIc1 (n := 4) (by decide +kernel) (by decide)) ?_
  refine ce_op (okAl1 (k := 0) (by decide +kernel) rfl) ?_
  refine ce_op (okGetI clX7 (k := 26) (x := 172) (by decide +kernel) (by decide) rfl wd1026 (Or.inl rfl)) ?_
  refine ce_op (okIadd (by decide +kernel)) ?_
  refine ce_op (okAl1 (k := 0) (by decide +kernel) rfl) ?_
  refine ce_op (okAl1 (k := 0) (by decide +kernel) rfl) ?_
  refine ce_op (okGetR clX7 (k := 10) (x := 21) (by decide +kernel) (by decide) rfl wd1010 rfl (by decide +kernel)) ?_
  refine ce_op (okIc1 (n := 4) (by decide +kernel) (by decide)) ?_
  refine ce_op (okAl1 (k := 0) (by decide +kernel) rfl) ?_
  refine ce_op (okGetI clX7 (k := 26) (x := 172) (by decide +kernel) (by decide) rfl wd1026 (Or.inl rfl)) ?_
  refine ce_op (okCI miX7_fresh (rV clX7 (x := 181) miX7_fresh rfl (by decide +kernel) wd1257 wd1259 wd53)) ?_
  refine ce_op (okIast (by decide +kernel)) ?_
  refine ce_op (okAl1 (k := 0) (by decide +kernel) rfl) ?_
  refine ce_op (okDup (by decide +kernel)) ?_
  refine ce_op (okGetI clX7 (k := 26) (x := 172) (by decide +kernel) (by decide) rfl wd1026 (Or.inl rfl)) ?_
  refine ce_op (okIc1 (n := 1) (by decide +kernel) (by decide)) ?_
  refine ce_op (okIadd (by decide +kernel)) ?_
  refine ce_op (okPutI clX7 (k := 26) (x := 172) (by decide +kernel) (by decide) rfl wd1026 rfl rfl (by decide +kernel)) ?_
  refine ce_op (okGoto (off := 35) (by decide +kernel) (by decide)) ?_
  refine ce_op (okAl1 (k := 0) (by decide +kernel) rfl) ?_
  refine ce_op (okIc2 (n := 12) (by decide +kernel) (by decide)) ?_
  refine ce_op (okAl1 (k := 0) (by decide +kernel) rfl) ?_
  refine ce_op (okGetI clX7 (k := 27) (x := 175) (by decide +kernel) (by decide) rfl wd1027 (Or.inl rfl)) ?_
  refine ce_op (okIadd (by decide +kernel)) ?_
  refine ce_op (okCV miX7_firmLine (rV clX7 (x := 189) miX7_firmLine rfl (by decide +kernel) wd1268 wd1270 wd55)) ?_
  refine ce_op (okGoto (off := 21) (by decide +kernel) (by decide)) ?_
  refine ce_op (okAl1 (k := 0) (by decide +kernel) rfl) ?_
  refine ce_op (okIc2 (n := 40) (by decide +kernel) (by decide)) ?_
  refine ce_op (okAl1 (k := 0) (by decide +kernel) rfl) ?_
  refine ce_op (okGetI clX7 (k := 28) (x := 178) (by decide +kernel) (by decide) rfl wd1028 (Or.inl rfl)) ?_
  refine ce_op (okIadd (by decide +kernel)) ?_
  refine ce_op (okCV miX7_sale (rV clX7 (x := 192) miX7_sale rfl (by decide +kernel) wd1284 wd1286 wd59)) ?_
  refine ce_op (okGoto (off := 7) (by decide +kernel) (by decide)) ?_
  refine ce_op (okAl1 (k := 0) (by decide +kernel) rfl) ?_
  refine ce_op (okCV miX7_paid (rV clX7 (x := 195) miX7_paid rfl (by decide +kernel) wd1288 wd1290 wd60)) ?_
  refine ce_op (okAl1 (k := 0) (by decide +kernel) rfl) ?_
  refine ce_op (okGetI clX7 (k := 35) (x := 152) (by decide +kernel) (by decide) rfl wd1035 (Or.inl rfl)) ?_
  refine ce_op (okIfEq (off := 4) (by decide +kernel) (by decide)) ?_
  refine ce_op (okVret (by decide +kernel) rfl) ?_
  refine ce_op (okAl1 (k := 0) (by decide +kernel) rfl) ?_
  refine ce_op (okGetI clX7 (k := 33) (x := 121) (by decide +kernel) (by decide) rfl wd1033 (Or.inl rfl)) ?_
  refine ce_op (okIc1 (n := 3) (by decide +kernel) (by decide)) ?_
  refine ce_op (okCmEq (off := 11) (by decide +kernel) (by decide)) ?_
  refine ce_op (okAl1 (k := 0) (by decide +kernel) rfl) ?_
  refine ce_op (okIc1 (n := 1) (by decide +kernel) (by decide)) ?_
  refine ce_op (okCV miX7_wrong (rV clX7 (x := 158) miX7_wrong rfl (by decide +kernel) wd1253 wd1255 wd52)) ?_
  refine ce_op (okGoto (off := 7) (by decide +kernel) (by decide)) ?_
  refine ce_op (okAl1 (k := 0) (by decide +kernel) rfl) ?_
  refine ce_op (okCV miX7_next (rV clX7 (x := 162) miX7_next rfl (by decide +kernel) wd1177 wd1179 wd47)) ?_
  refine ce_op (okAl1 (k := 0) (by decide +kernel) rfl) ?_
  refine ce_op (okDup (by decide +kernel)) ?_
  refine ce_op (okGetI clX7 (k := 29) (x := 197) (by decide +kernel) (by decide) rfl wd1029 (Or.inl rfl)) ?_
  refine ce_op (okIc1 (n := 1) (by decide +kernel) (by decide)) ?_
  refine ce_op (okIadd (by decide +kernel)) ?_
  refine ce_op (okPutI clX7 (k := 29) (x := 197) (by decide +kernel) (by decide) rfl wd1029 rfl rfl (by decide +kernel)) ?_
  refine ce_op (okVret (by decide +kernel) rfl) ?_
  exact ce_nil
set_option maxRecDepth 100000 in
def cdX7_firmLine : List CE := (0, 1, some (oAl 0)) :: (1, 3, some (oGetR [(1175, 99560)])) :: (4, 1, some (oIl 1)) :: (5, 1, some (oAl 0)) :: (6, 1, some (oAl 0)) :: (7, 3, some (oGetR [(1175, 99560)])) ::
  (10, 2, some (oIc 12)) :: (12, 1, some (oAl 0)) :: (13, 3, some (oGetI 7 27)) :: (16, 3, some (oCI 7 mX7_fresh 4)) :: (19, 1, some oIast) :: (20, 1, some (oAl 0)) ::
  (21, 3, some (oGetR [(1175, 99576)])) :: (24, 1, some (oIl 1)) :: (25, 1, some (oAl 0)) :: (26, 1, some (oAl 0)) :: (27, 3, some (oGetR [(1175, 42168)])) :: (30, 1, some (oIc 5)) ::
  (31, 1, some (oAl 0)) :: (32, 3, some (oGetI 7 25)) :: (35, 3, some (oCI 7 mX7_told 4)) :: (38, 1, some oIast) :: (39, 1, some (oAl 0)) :: (40, 3, some (oCV 7 mX7_goOn 1)) ::
  (43, 1, some (oAl 0)) :: (44, 3, some (oGetR [(1175, 99592)])) :: (47, 1, some (oIl 1)) :: (48, 1, some (oAl 0)) :: (49, 1, some (oIc 0)) :: (50, 3, some (oIc 400)) ::
  (53, 3, some (oCI 7 mX7_numeral 3)) :: (56, 1, some oIast) :: (57, 1, some (oAl 0)) :: (58, 3, some (oGetR [(1175, 99608)])) :: (61, 1, some (oIl 1)) :: (62, 1, some (oIc 0)) ::
  (63, 1, some oIast) :: (64, 1, some (oAl 0)) :: (65, 3, some (oGetR [(1175, 99624)])) :: (68, 1, some (oIl 1)) :: (69, 1, some (oIc 0)) :: (70, 1, some oIast) ::
  (71, 1, some (oAl 0)) :: (72, 3, some (oGetR [(1175, 99640)])) :: (75, 1, some (oIl 1)) :: (76, 1, some (oIc 0)) :: (77, 1, some oIast) :: (78, 1, some (oAl 0)) ::
  (79, 3, some (oGetR [(1175, 99659)])) :: (82, 1, some (oIl 1)) :: (83, 1, some (oIc 0)) :: (84, 1, some oBast) :: (85, 0, none) :: (85, 1, some (oAl 0)) ::
  (86, 1, some (oIc 5)) :: (87, 3, some (oCI 7 mX7_isWord 2)) :: (90, 3, some (oIfNe 102)) :: (93, 1, some (oAl 0)) :: (94, 2, some (oIc 6)) :: (96, 3, some (oCI 7 mX7_isWord 2)) ::
  (99, 3, some (oIfEq 179)) :: (102, 1, some (oAl 0)) :: (103, 3, some (oGetI 7 34)) :: (106, 1, some (oIc 5)) :: (107, 3, some (oCmNe 114)) :: (110, 1, some (oIc 1)) ::
  (111, 3, some (oGoto 115)) :: (114, 1, some (oIc 0)) :: (115, 1, some (oIs 2)) :: (116, 1, some (oIl 2)) :: (117, 3, some (oIfEq 129)) :: (120, 1, some (oAl 0)) ::
  (121, 3, some (oGetR [(1175, 99608)])) :: (124, 1, some (oIl 1)) :: (125, 1, some oIald) :: (126, 3, some (oGoto 135)) :: (129, 1, some (oAl 0)) :: (130, 3, some (oGetR [(1175, 99624)])) ::
  (133, 1, some (oIl 1)) :: (134, 1, some oIald) :: (135, 3, some (oIfEq 143)) :: (138, 1, some (oAl 0)) :: (139, 1, some (oIc 3)) :: (140, 3, some (oCV 7 mX7_wrong 2)) ::
  (143, 1, some (oAl 0)) :: (144, 3, some (oCV 7 mX7_goOn 1)) :: (147, 1, some (oAl 0)) :: (148, 1, some (oIc 1)) :: (149, 2, some (oIc 99)) :: (151, 3, some (oCI 7 mX7_numeral 3)) ::
  (154, 1, some (oIs 3)) :: (155, 1, some (oIl 2)) :: (156, 3, some (oIfEq 169)) :: (159, 1, some (oAl 0)) :: (160, 3, some (oGetR [(1175, 99608)])) :: (163, 1, some (oIl 1)) ::
  (164, 1, some (oIl 3)) :: (165, 1, some oIast) :: (166, 3, some (oGoto 176)) :: (169, 1, some (oAl 0)) :: (170, 3, some (oGetR [(1175, 99624)])) :: (173, 1, some (oIl 1)) ::
  (174, 1, some (oIl 3)) :: (175, 1, some oIast) :: (176, 3, some (oGoto 85)) :: (179, 1, some (oAl 0)) :: (180, 1, some oDup) :: (181, 3, some (oGetI 7 27)) ::
  (184, 1, some (oIc 1)) :: (185, 1, some oIadd) :: (186, 3, some (oPutI 7 27)) :: (189, 1, some oVret) :: []
set_option maxRecDepth 100000 in
set_option maxHeartbeats 4000000 in
theorem okX7_firmLine : CodeOk mX7_firmLine cdX7_firmLine := by
  refine ⟨by rfl, ?_⟩
  show CodeAll mX7_firmLine cdX7_firmLine
  refine ce_op (okAl1 (k := 0) (by decide +kernel) rfl) ?_
  refine ce_op (okGetR clX7 (k := 11) (x := 24) (by decide +kernel) (by decide) rfl wd1011 rfl (by decide +kernel)) ?_
  refine ce_op (okIl1 (k := 1) (by decide +kernel) rfl) ?_
  refine ce_op (okAl1 (k := 0) (by decide +kernel) rfl) ?_
  refine ce_op (okAl1 (k := 0) (by decide +kernel) rfl) ?_
  refine ce_op (okGetR clX7 (k := 11) (x := 24) (by decide +kernel) (by decide) rfl wd1011 rfl (by decide +kernel)) ?_
  refine ce_op (okIc2 (n := 12) (by decide +kernel) (by decide)) ?_
  refine ce_op (okAl1 (k := 0) (by decide +kernel) rfl) ?_
  refine ce_op (okGetI clX7 (k := 27) (x := 175) (by decide +kernel) (by decide) rfl wd1027 (Or.inl rfl)) ?_
  refine ce_op (okCI miX7_fresh (rV clX7 (x := 181) miX7_fresh rfl (by decide +kernel) wd1257 wd1259 wd53)) ?_
  refine ce_op (okIast (by decide +kernel)) ?_
  refine ce_op (okAl1 (k := 0) (by decide +kernel) rfl) ?_
  refine ce_op (okGetR clX7 (k := 12) (x := 27) (by decide +kernel) (by decide) rfl wd1012 rfl (by decide +kernel)) ?_
  refine ce_op (okIl1 (k := 1) (by decide +kernel) rfl) ?_
  refine ce_op (okAl1 (k := 0) (by decide +kernel) rfl) ?_
  refine ce_op (okAl1 (k := 0) (by decide +kernel) rfl) ?_
  refine ce_op (okGetR clX7 (k := 8) (x := 15) (by decide +kernel) (by decide) rfl wd1008 rfl (by decide +kernel)) ?_
  refine ce_op (okIc1 (n := 5) (by decide +kernel) (by decide)) ?_
  refine ce_op (okAl1 (k := 0) (by decide +kernel) rfl) ?_
  refine ce_op (okGetI clX7 (k := 25) (x := 169) (by decide +kernel) (by decide) rfl wd1025 (Or.inl rfl)) ?_
  refine ce_op (okCI miX7_told (rV clX7 (x := 200) miX7_told rfl (by decide +kernel) wd1272 wd1274 wd56)) ?_
  refine ce_op (okIast (by decide +kernel)) ?_
  refine ce_op (okAl1 (k := 0) (by decide +kernel) rfl) ?_
  refine ce_op (okCV miX7_goOn (rV clX7 (x := 203) miX7_goOn rfl (by decide +kernel) wd1276 wd1278 wd57)) ?_
  refine ce_op (okAl1 (k := 0) (by decide +kernel) rfl) ?_
  refine ce_op (okGetR clX7 (k := 13) (x := 30) (by decide +kernel) (by decide) rfl wd1013 rfl (by decide +kernel)) ?_
  refine ce_op (okIl1 (k := 1) (by decide +kernel) rfl) ?_
  refine ce_op (okAl1 (k := 0) (by decide +kernel) rfl) ?_
  refine ce_op (okIc1 (n := 0) (by decide +kernel) (by decide)) ?_
  refine ce_op (okIc3 (n := 400) (by decide +kernel) (by decide)) ?_
  refine ce_op (okCI miX7_numeral (rV clX7 (x := 185) miX7_numeral rfl (by decide +kernel) wd1264 wd1266 wd54)) ?_
  refine ce_op (okIast (by decide +kernel)) ?_
  refine ce_op (okAl1 (k := 0) (by decide +kernel) rfl) ?_
  refine ce_op (okGetR clX7 (k := 14) (x := 33) (by decide +kernel) (by decide) rfl wd1014 rfl (by decide +kernel)) ?_
  refine ce_op (okIl1 (k := 1) (by decide +kernel) rfl) ?_
  refine ce_op (okIc1 (n := 0) (by decide +kernel) (by decide)) ?_
  refine ce_op (okIast (by decide +kernel)) ?_
  refine ce_op (okAl1 (k := 0) (by decide +kernel) rfl) ?_
  refine ce_op (okGetR clX7 (k := 15) (x := 36) (by decide +kernel) (by decide) rfl wd1015 rfl (by decide +kernel)) ?_
  refine ce_op (okIl1 (k := 1) (by decide +kernel) rfl) ?_
  refine ce_op (okIc1 (n := 0) (by decide +kernel) (by decide)) ?_
  refine ce_op (okIast (by decide +kernel)) ?_
  refine ce_op (okAl1 (k := 0) (by decide +kernel) rfl) ?_
  refine ce_op (okGetR clX7 (k := 16) (x := 39) (by decide +kernel) (by decide) rfl wd1016 rfl (by decide +kernel)) ?_
  refine ce_op (okIl1 (k := 1) (by decide +kernel) rfl) ?_
  refine ce_op (okIc1 (n := 0) (by decide +kernel) (by decide)) ?_
  refine ce_op (okIast (by decide +kernel)) ?_
  refine ce_op (okAl1 (k := 0) (by decide +kernel) rfl) ?_
  refine ce_op (okGetR clX7 (k := 17) (x := 42) (by decide +kernel) (by decide) rfl wd1017 rfl (by decide +kernel)) ?_
  refine ce_op (okIl1 (k := 1) (by decide +kernel) rfl) ?_
  refine ce_op (okIc1 (n := 0) (by decide +kernel) (by decide)) ?_
  refine ce_op (okBast (by decide +kernel)) ?_
  refine ce_st ?_
  refine ce_op (okAl1 (k := 0) (by decide +kernel) rfl) ?_
  refine ce_op (okIc1 (n := 5) (by decide +kernel) (by decide)) ?_
  refine ce_op (okCI miX7_isWord (rV clX7 (x := 206) miX7_isWord rfl (by decide +kernel) wd1280 wd1282 wd58)) ?_
  refine ce_op (okIfNe (off := 12) (by decide +kernel) (by decide)) ?_
  refine ce_op (okAl1 (k := 0) (by decide +kernel) rfl) ?_
  refine ce_op (okIc2 (n := 6) (by decide +kernel) (by decide)) ?_
  refine ce_op (okCI miX7_isWord (rV clX7 (x := 206) miX7_isWord rfl (by decide +kernel) wd1280 wd1282 wd58)) ?_
  refine ce_op (okIfEq (off := 80) (by decide +kernel) (by decide)) ?_
  refine ce_op (okAl1 (k := 0) (by decide +kernel) rfl) ?_
  refine ce_op (okGetI clX7 (k := 34) (x := 131) (by decide +kernel) (by decide) rfl wd1034 (Or.inl rfl)) ?_
  refine ce_op (okIc1 (n := 5) (by decide +kernel) (by decide)) ?_
  refine ce_op (okCmNe (off := 7) (by decide +kernel) (by decide)) ?_
  refine ce_op (okIc1 (n := 1) (by decide +kernel) (by decide)) ?_
  refine ce_op (okGoto (off := 4) (by decide +kernel) (by decide)) ?_
  refine ce_op (okIc1 (n := 0) (by decide +kernel) (by decide)) ?_
  refine ce_op (okIs1 (k := 2) (by decide +kernel) rfl (by decide)) ?_
  refine ce_op (okIl1 (k := 2) (by decide +kernel) rfl) ?_
  refine ce_op (okIfEq (off := 12) (by decide +kernel) (by decide)) ?_
  refine ce_op (okAl1 (k := 0) (by decide +kernel) rfl) ?_
  refine ce_op (okGetR clX7 (k := 14) (x := 33) (by decide +kernel) (by decide) rfl wd1014 rfl (by decide +kernel)) ?_
  refine ce_op (okIl1 (k := 1) (by decide +kernel) rfl) ?_
  refine ce_op (okIald (by decide +kernel)) ?_
  refine ce_op (okGoto (off := 9) (by decide +kernel) (by decide)) ?_
  refine ce_op (okAl1 (k := 0) (by decide +kernel) rfl) ?_
  refine ce_op (okGetR clX7 (k := 15) (x := 36) (by decide +kernel) (by decide) rfl wd1015 rfl (by decide +kernel)) ?_
  refine ce_op (okIl1 (k := 1) (by decide +kernel) rfl) ?_
  refine ce_op (okIald (by decide +kernel)) ?_
  refine ce_op (okIfEq (off := 8) (by decide +kernel) (by decide)) ?_
  refine ce_op (okAl1 (k := 0) (by decide +kernel) rfl) ?_
  refine ce_op (okIc1 (n := 3) (by decide +kernel) (by decide)) ?_
  refine ce_op (okCV miX7_wrong (rV clX7 (x := 158) miX7_wrong rfl (by decide +kernel) wd1253 wd1255 wd52)) ?_
  refine ce_op (okAl1 (k := 0) (by decide +kernel) rfl) ?_
  refine ce_op (okCV miX7_goOn (rV clX7 (x := 203) miX7_goOn rfl (by decide +kernel) wd1276 wd1278 wd57)) ?_
  refine ce_op (okAl1 (k := 0) (by decide +kernel) rfl) ?_
  refine ce_op (okIc1 (n := 1) (by decide +kernel) (by decide)) ?_
  refine ce_op (okIc2 (n := 99) (by decide +kernel) (by decide)) ?_
  refine ce_op (okCI miX7_numeral (rV clX7 (x := 185) miX7_numeral rfl (by decide +kernel) wd1264 wd1266 wd54)) ?_
  refine ce_op (okIs1 (k := 3) (by decide +kernel) rfl (by decide)) ?_
  refine ce_op (okIl1 (k := 2) (by decide +kernel) rfl) ?_
  refine ce_op (okIfEq (off := 13) (by decide +kernel) (by decide)) ?_
  refine ce_op (okAl1 (k := 0) (by decide +kernel) rfl) ?_
  refine ce_op (okGetR clX7 (k := 14) (x := 33) (by decide +kernel) (by decide) rfl wd1014 rfl (by decide +kernel)) ?_
  refine ce_op (okIl1 (k := 1) (by decide +kernel) rfl) ?_
  refine ce_op (okIl1 (k := 3) (by decide +kernel) rfl) ?_
  refine ce_op (okIast (by decide +kernel)) ?_
  refine ce_op (okGoto (off := 10) (by decide +kernel) (by decide)) ?_
  refine ce_op (okAl1 (k := 0) (by decide +kernel) rfl) ?_
  refine ce_op (okGetR clX7 (k := 15) (x := 36) (by decide +kernel) (by decide) rfl wd1015 rfl (by decide +kernel)) ?_
  refine ce_op (okIl1 (k := 1) (by decide +kernel) rfl) ?_
  refine ce_op (okIl1 (k := 3) (by decide +kernel) rfl) ?_
  refine ce_op (okIast (by decide +kernel)) ?_
  refine ce_op (okGoto (off := (-91)) (by decide +kernel) (by decide)) ?_
  refine ce_op (okAl1 (k := 0) (by decide +kernel) rfl) ?_
  refine ce_op (okDup (by decide +kernel)) ?_
  refine ce_op (okGetI clX7 (k := 27) (x := 175) (by decide +kernel) (by decide) rfl wd1027 (Or.inl rfl)) ?_
  refine ce_op (okIc1 (n := 1) (by decide +kernel) (by decide)) ?_
  refine ce_op (okIadd (by decide +kernel)) ?_
  refine ce_op (okPutI clX7 (k := 27) (x := 175) (by decide +kernel) (by decide) rfl wd1027 rfl rfl (by decide +kernel)) ?_
  refine ce_op (okVret (by decide +kernel) rfl) ?_
  exact ce_nil
set_option maxRecDepth 100000 in
def cdX7_sale : List CE := (0, 1, some (oAl 0)) :: (1, 3, some (oGetR [(1175, 329048)])) :: (4, 1, some (oIl 1)) :: (5, 1, some (oAl 0)) :: (6, 1, some (oAl 0)) :: (7, 3, some (oGetR [(1175, 99560)])) ::
  (10, 2, some (oIc 12)) :: (12, 1, some (oAl 0)) :: (13, 3, some (oGetI 7 27)) :: (16, 3, some (oCI 7 mX7_told 4)) :: (19, 1, some oIast) :: (20, 1, some (oAl 0)) ::
  (21, 3, some (oCV 7 mX7_goOn 1)) :: (24, 1, some (oAl 0)) :: (25, 3, some (oGetR [(1175, 329064)])) :: (28, 1, some (oIl 1)) :: (29, 1, some (oAl 0)) :: (30, 1, some (oAl 0)) ::
  (31, 3, some (oGetR [(1175, 99560)])) :: (34, 2, some (oIc 12)) :: (36, 1, some (oAl 0)) :: (37, 3, some (oGetI 7 27)) :: (40, 3, some (oCI 7 mX7_told 4)) :: (43, 1, some oIast) ::
  (44, 1, some (oAl 0)) :: (45, 3, some (oGetI 7 35)) :: (48, 3, some (oIfNe 71)) :: (51, 1, some (oAl 0)) :: (52, 3, some (oGetR [(1175, 329064)])) :: (55, 1, some (oIl 1)) ::
  (56, 1, some oIald) :: (57, 1, some (oAl 0)) :: (58, 3, some (oGetR [(1175, 329048)])) :: (61, 1, some (oIl 1)) :: (62, 1, some oIald) :: (63, 3, some (oCmNe 71)) ::
  (66, 1, some (oAl 0)) :: (67, 1, some (oIc 3)) :: (68, 3, some (oCV 7 mX7_wrong 2)) :: (71, 1, some (oAl 0)) :: (72, 3, some (oCV 7 mX7_goOn 1)) :: (75, 1, some (oAl 0)) ::
  (76, 3, some (oGetR [(1175, 329080)])) :: (79, 1, some (oIl 1)) :: (80, 1, some (oAl 0)) :: (81, 1, some (oIc 1)) :: (82, 3, some (oIc 999)) :: (85, 3, some (oCI 7 mX7_numeral 3)) ::
  (88, 1, some oIast) :: (89, 1, some (oAl 0)) :: (90, 3, some (oGetR [(1175, 329096)])) :: (93, 1, some (oIl 1)) :: (94, 1, some (oAl 0)) :: (95, 1, some (oAl 0)) ::
  (96, 3, some (oGetR [(1175, 34008)])) :: (99, 1, some (oIc 4)) :: (100, 1, some (oAl 0)) :: (101, 3, some (oGetI 7 26)) :: (104, 3, some (oCI 7 mX7_told 4)) :: (107, 1, some oIast) ::
  (108, 1, some (oAl 0)) :: (109, 3, some (oCV 7 mX7_goOn 1)) :: (112, 1, some (oAl 0)) :: (113, 3, some (oGetR [(1175, 329112)])) :: (116, 1, some (oIl 1)) :: (117, 1, some (oAl 0)) ::
  (118, 1, some (oIc 1)) :: (119, 3, some (oIc 999)) :: (122, 3, some (oCI 7 mX7_numeral 3)) :: (125, 1, some oIast) :: (126, 1, some (oAl 0)) :: (127, 3, some (oGetI 7 35)) ::
  (130, 3, some (oIfNe 147)) :: (133, 1, some (oAl 0)) :: (134, 2, some (oIc 7)) :: (136, 3, some (oCI 7 mX7_isWord 2)) :: (139, 3, some (oIfNe 147)) :: (142, 1, some (oAl 0)) ::
  (143, 1, some (oIc 1)) :: (144, 3, some (oCV 7 mX7_wrong 2)) :: (147, 1, some (oAl 0)) :: (148, 3, some (oCV 7 mX7_goOn 1)) :: (151, 1, some (oAl 0)) :: (152, 3, some (oGetI 7 35)) ::
  (155, 3, some (oIfNe 223)) :: (158, 1, some (oAl 0)) :: (159, 3, some (oGetI 7 33)) :: (162, 1, some (oIc 2)) :: (163, 3, some (oCmNe 223)) :: (166, 1, some (oAl 0)) ::
  (167, 3, some (oGetI 7 34)) :: (170, 3, some (oIc 400)) :: (173, 3, some (oCmGt 223)) :: (176, 1, some (oAl 0)) :: (177, 3, some (oGetI 7 34)) :: (180, 1, some (oAl 0)) ::
  (181, 3, some (oGetR [(1175, 99592)])) :: (184, 2, some (oIc 12)) :: (186, 1, some (oAl 0)) :: (187, 3, some (oGetR [(1175, 329048)])) :: (190, 1, some (oIl 1)) :: (191, 1, some oIald) ::
  (192, 1, some oIadd) :: (193, 1, some oIald) :: (194, 3, some (oCmLt 218)) :: (197, 1, some (oAl 0)) :: (198, 3, some (oGetI 7 34)) :: (201, 1, some (oAl 0)) ::
  (202, 3, some (oGetR [(1175, 99592)])) :: (205, 2, some (oIc 12)) :: (207, 1, some (oAl 0)) :: (208, 3, some (oGetR [(1175, 329064)])) :: (211, 1, some (oIl 1)) :: (212, 1, some oIald) ::
  (213, 1, some oIadd) :: (214, 1, some oIald) :: (215, 3, some (oCmGe 223)) :: (218, 1, some (oAl 0)) :: (219, 1, some (oIc 5)) :: (220, 3, some (oCV 7 mX7_wrong 2)) ::
  (223, 1, some (oAl 0)) :: (224, 3, some (oGetR [(1175, 329128)])) :: (227, 1, some (oIl 1)) :: (228, 1, some (oAl 0)) :: (229, 1, some (oIc 0)) :: (230, 3, some (oIc 400)) ::
  (233, 3, some (oCI 7 mX7_numeral 3)) :: (236, 1, some oIast) :: (237, 1, some (oAl 0)) :: (238, 3, some (oGetR [(1175, 329144)])) :: (241, 1, some (oIl 1)) :: (242, 1, some (oIc 0)) ::
  (243, 1, some oIast) :: (244, 1, some (oAl 0)) :: (245, 2, some (oIc 8)) :: (247, 3, some (oCI 7 mX7_isWord 2)) :: (250, 3, some (oIfEq 270)) :: (253, 1, some (oAl 0)) ::
  (254, 3, some (oCV 7 mX7_next 1)) :: (257, 1, some (oAl 0)) :: (258, 3, some (oGetR [(1175, 329144)])) :: (261, 1, some (oIl 1)) :: (262, 1, some (oAl 0)) :: (263, 1, some (oIc 1)) ::
  (264, 2, some (oIc 99)) :: (266, 3, some (oCI 7 mX7_numeral 3)) :: (269, 1, some oIast) :: (270, 1, some (oAl 0)) :: (271, 1, some oDup) :: (272, 3, some (oGetI 7 28)) ::
  (275, 1, some (oIc 1)) :: (276, 1, some oIadd) :: (277, 3, some (oPutI 7 28)) :: (280, 1, some oVret) :: []
set_option maxRecDepth 100000 in
set_option maxHeartbeats 4000000 in
theorem okX7_sale : CodeOk mX7_sale cdX7_sale := by
  refine ⟨by rfl, ?_⟩
  show CodeAll mX7_sale cdX7_sale
  refine ce_op (okAl1 (k := 0) (by decide +kernel) rfl) ?_
  refine ce_op (okGetR clX7 (k := 18) (x := 46) (by decide +kernel) (by decide) rfl wd1018 rfl (by decide +kernel)) ?_
  refine ce_op (okIl1 (k := 1) (by decide +kernel) rfl) ?_
  refine ce_op (okAl1 (k := 0) (by decide +kernel) rfl) ?_
  refine ce_op (okAl1 (k := 0) (by decide +kernel) rfl) ?_
  refine ce_op (okGetR clX7 (k := 11) (x := 24) (by decide +kernel) (by decide) rfl wd1011 rfl (by decide +kernel)) ?_
  refine ce_op (okIc2 (n := 12) (by decide +kernel) (by decide)) ?_
  refine ce_op (okAl1 (k := 0) (by decide +kernel) rfl) ?_
  refine ce_op (okGetI clX7 (k := 27) (x := 175) (by decide +kernel) (by decide) rfl wd1027 (Or.inl rfl)) ?_
  refine ce_op (okCI miX7_told (rV clX7 (x := 200) miX7_told rfl (by decide +kernel) wd1272 wd1274 wd56)) ?_
  refine ce_op (okIast (by decide +kernel)) ?_
  refine ce_op (okAl1 (k := 0) (by decide +kernel) rfl) ?_
  refine ce_op (okCV miX7_goOn (rV clX7 (x := 203) miX7_goOn rfl (by decide +kernel) wd1276 wd1278 wd57)) ?_
  refine ce_op (okAl1 (k := 0) (by decide +kernel) rfl) ?_
  refine ce_op (okGetR clX7 (k := 19) (x := 49) (by decide +kernel) (by decide) rfl wd1019 rfl (by decide +kernel)) ?_
  refine ce_op (okIl1 (k := 1) (by decide +kernel) rfl) ?_
  refine ce_op (okAl1 (k := 0) (by decide +kernel) rfl) ?_
  refine ce_op (okAl1 (k := 0) (by decide +kernel) rfl) ?_
  refine ce_op (okGetR clX7 (k := 11) (x := 24) (by decide +kernel) (by decide) rfl wd1011 rfl (by decide +kernel)) ?_
  refine ce_op (okIc2 (n := 12) (by decide +kernel) (by decide)) ?_
  refine ce_op (okAl1 (k := 0) (by decide +kernel) rfl) ?_
  refine ce_op (okGetI clX7 (k := 27) (x := 175) (by decide +kernel) (by decide) rfl wd1027 (Or.inl rfl)) ?_
  refine ce_op (okCI miX7_told (rV clX7 (x := 200) miX7_told rfl (by decide +kernel) wd1272 wd1274 wd56)) ?_
  refine ce_op (okIast (by decide +kernel)) ?_
  refine ce_op (okAl1 (k := 0) (by decide +kernel) rfl) ?_
  refine ce_op (okGetI clX7 (k := 35) (x := 152) (by decide +kernel) (by decide) rfl wd1035 (Or.inl rfl)) ?_
  refine ce_op (okIfNe (off := 23) (by decide +kernel) (by decide)) ?_
  refine ce_op (okAl1 (k := 0) (by decide +kernel) rfl) ?_
  refine ce_op (okGetR clX7 (k := 19) (x := 49) (by decide +kernel) (by decide) rfl wd1019 rfl (by decide +kernel)) ?_
  refine ce_op (okIl1 (k := 1) (by decide +kernel) rfl) ?_
  refine ce_op (okIald (by decide +kernel)) ?_
  refine ce_op (okAl1 (k := 0) (by decide +kernel) rfl) ?_
  refine ce_op (okGetR clX7 (k := 18) (x := 46) (by decide +kernel) (by decide) rfl wd1018 rfl (by decide +kernel)) ?_
  refine ce_op (okIl1 (k := 1) (by decide +kernel) rfl) ?_
  refine ce_op (okIald (by decide +kernel)) ?_
  refine ce_op (okCmNe (off := 8) (by decide +kernel) (by decide)) ?_
  refine ce_op (okAl1 (k := 0) (by decide +kernel) rfl) ?_
  refine ce_op (okIc1 (n := 3) (by decide +kernel) (by decide)) ?_
  refine ce_op (okCV miX7_wrong (rV clX7 (x := 158) miX7_wrong rfl (by decide +kernel) wd1253 wd1255 wd52)) ?_
  refine ce_op (okAl1 (k := 0) (by decide +kernel) rfl) ?_
  refine ce_op (okCV miX7_goOn (rV clX7 (x := 203) miX7_goOn rfl (by decide +kernel) wd1276 wd1278 wd57)) ?_
  refine ce_op (okAl1 (k := 0) (by decide +kernel) rfl) ?_
  refine ce_op (okGetR clX7 (k := 20) (x := 52) (by decide +kernel) (by decide) rfl wd1020 rfl (by decide +kernel)) ?_
  refine ce_op (okIl1 (k := 1) (by decide +kernel) rfl) ?_
  refine ce_op (okAl1 (k := 0) (by decide +kernel) rfl) ?_
  refine ce_op (okIc1 (n := 1) (by decide +kernel) (by decide)) ?_
  refine ce_op (okIc3 (n := 999) (by decide +kernel) (by decide)) ?_
  refine ce_op (okCI miX7_numeral (rV clX7 (x := 185) miX7_numeral rfl (by decide +kernel) wd1264 wd1266 wd54)) ?_
  refine ce_op (okIast (by decide +kernel)) ?_
  refine ce_op (okAl1 (k := 0) (by decide +kernel) rfl) ?_
  refine ce_op (okGetR clX7 (k := 21) (x := 55) (by decide +kernel) (by decide) rfl wd1021 rfl (by decide +kernel)) ?_
  refine ce_op (okIl1 (k := 1) (by decide +kernel) rfl) ?_
  refine ce_op (okAl1 (k := 0) (by decide +kernel) rfl) ?_
  refine ce_op (okAl1 (k := 0) (by decide +kernel) rfl) ?_
  refine ce_op (okGetR clX7 (k := 10) (x := 21) (by decide +kernel) (by decide) rfl wd1010 rfl (by decide +kernel)) ?_
  refine ce_op (okIc1 (n := 4) (by decide +kernel) (by decide)) ?_
  refine ce_op (okAl1 (k := 0) (by decide +kernel) rfl) ?_
  refine ce_op (okGetI clX7 (k := 26) (x := 172) (by decide +kernel) (by decide) rfl wd1026 (Or.inl rfl)) ?_
  refine ce_op (okCI miX7_told (rV clX7 (x := 200) miX7_told rfl (by decide +kernel) wd1272 wd1274 wd56)) ?_
  refine ce_op (okIast (by decide +kernel)) ?_
  refine ce_op (okAl1 (k := 0) (by decide +kernel) rfl) ?_
  refine ce_op (okCV miX7_goOn (rV clX7 (x := 203) miX7_goOn rfl (by decide +kernel) wd1276 wd1278 wd57)) ?_
  refine ce_op (okAl1 (k := 0) (by decide +kernel) rfl) ?_
  refine ce_op (okGetR clX7 (k := 22) (x := 58) (by decide +kernel) (by decide) rfl wd1022 rfl (by decide +kernel)) ?_
  refine ce_op (okIl1 (k := 1) (by decide +kernel) rfl) ?_
  refine ce_op (okAl1 (k := 0) (by decide +kernel) rfl) ?_
  refine ce_op (okIc1 (n := 1) (by decide +kernel) (by decide)) ?_
  refine ce_op (okIc3 (n := 999) (by decide +kernel) (by decide)) ?_
  refine ce_op (okCI miX7_numeral (rV clX7 (x := 185) miX7_numeral rfl (by decide +kernel) wd1264 wd1266 wd54)) ?_
  refine ce_op (okIast (by decide +kernel)) ?_
  refine ce_op (okAl1 (k := 0) (by decide +kernel) rfl) ?_
  refine ce_op (okGetI clX7 (k := 35) (x := 152) (by decide +kernel) (by decide) rfl wd1035 (Or.inl rfl)) ?_
  refine ce_op (okIfNe (off := 17) (by decide +kernel) (by decide)) ?_
  refine ce_op (okAl1 (k := 0) (by decide +kernel) rfl) ?_
  refine ce_op (okIc2 (n := 7) (by decide +kernel) (by decide)) ?_
  refine ce_op (okCI miX7_isWord (rV clX7 (x := 206) miX7_isWord rfl (by decide +kernel) wd1280 wd1282 wd58)) ?_
  refine ce_op (okIfNe (off := 8) (by decide +kernel) (by decide)) ?_
  refine ce_op (okAl1 (k := 0) (by decide +kernel) rfl) ?_
  refine ce_op (okIc1 (n := 1) (by decide +kernel) (by decide)) ?_
  refine ce_op (okCV miX7_wrong (rV clX7 (x := 158) miX7_wrong rfl (by decide +kernel) wd1253 wd1255 wd52)) ?_
  refine ce_op (okAl1 (k := 0) (by decide +kernel) rfl) ?_
  refine ce_op (okCV miX7_goOn (rV clX7 (x := 203) miX7_goOn rfl (by decide +kernel) wd1276 wd1278 wd57)) ?_
  refine ce_op (okAl1 (k := 0) (by decide +kernel) rfl) ?_
  refine ce_op (okGetI clX7 (k := 35) (x := 152) (by decide +kernel) (by decide) rfl wd1035 (Or.inl rfl)) ?_
  refine ce_op (okIfNe (off := 68) (by decide +kernel) (by decide)) ?_
  refine ce_op (okAl1 (k := 0) (by decide +kernel) rfl) ?_
  refine ce_op (okGetI clX7 (k := 33) (x := 121) (by decide +kernel) (by decide) rfl wd1033 (Or.inl rfl)) ?_
  refine ce_op (okIc1 (n := 2) (by decide +kernel) (by decide)) ?_
  refine ce_op (okCmNe (off := 60) (by decide +kernel) (by decide)) ?_
  refine ce_op (okAl1 (k := 0) (by decide +kernel) rfl) ?_
  refine ce_op (okGetI clX7 (k := 34) (x := 131) (by decide +kernel) (by decide) rfl wd1034 (Or.inl rfl)) ?_
  refine ce_op (okIc3 (n := 400) (by decide +kernel) (by decide)) ?_
  refine ce_op (okCmGt (off := 50) (by decide +kernel) (by decide)) ?_
  refine ce_op (okAl1 (k := 0) (by decide +kernel) rfl) ?_
  refine ce_op (okGetI clX7 (k := 34) (x := 131) (by decide +kernel) (by decide) rfl wd1034 (Or.inl rfl)) ?_
  refine ce_op (okAl1 (k := 0) (by decide +kernel) rfl) ?_
  refine ce_op (okGetR clX7 (k := 13) (x := 30) (by decide +kernel) (by decide) rfl wd1013 rfl (by decide +kernel)) ?_
  refine ce_op (okIc2 (n := 12) (by decide +kernel) (by decide)) ?_
  refine ce_op (okAl1 (k := 0) (by decide +kernel) rfl) ?_
  refine ce_op (okGetR clX7 (k := 18) (x := 46) (by decide +kernel) (by decide) rfl wd1018 rfl (by decide +kernel)) ?_
  refine ce_op (okIl1 (k := 1) (by decide +kernel) rfl) ?_
  refine ce_op (okIald (by decide +kernel)) ?_
  refine ce_op (okIadd (by decide +kernel)) ?_
  refine ce_op (okIald (by decide +kernel)) ?_
  refine ce_op (okCmLt (off := 24) (by decide +kernel) (by decide)) ?_
  refine ce_op (okAl1 (k := 0) (by decide +kernel) rfl) ?_
  refine ce_op (okGetI clX7 (k := 34) (x := 131) (by decide +kernel) (by decide) rfl wd1034 (Or.inl rfl)) ?_
  refine ce_op (okAl1 (k := 0) (by decide +kernel) rfl) ?_
  refine ce_op (okGetR clX7 (k := 13) (x := 30) (by decide +kernel) (by decide) rfl wd1013 rfl (by decide +kernel)) ?_
  refine ce_op (okIc2 (n := 12) (by decide +kernel) (by decide)) ?_
  refine ce_op (okAl1 (k := 0) (by decide +kernel) rfl) ?_
  refine ce_op (okGetR clX7 (k := 19) (x := 49) (by decide +kernel) (by decide) rfl wd1019 rfl (by decide +kernel)) ?_
  refine ce_op (okIl1 (k := 1) (by decide +kernel) rfl) ?_
  refine ce_op (okIald (by decide +kernel)) ?_
  refine ce_op (okIadd (by decide +kernel)) ?_
  refine ce_op (okIald (by decide +kernel)) ?_
  refine ce_op (okCmGe (off := 8) (by decide +kernel) (by decide)) ?_
  refine ce_op (okAl1 (k := 0) (by decide +kernel) rfl) ?_
  refine ce_op (okIc1 (n := 5) (by decide +kernel) (by decide)) ?_
  refine ce_op (okCV miX7_wrong (rV clX7 (x := 158) miX7_wrong rfl (by decide +kernel) wd1253 wd1255 wd52)) ?_
  refine ce_op (okAl1 (k := 0) (by decide +kernel) rfl) ?_
  refine ce_op (okGetR clX7 (k := 23) (x := 61) (by decide +kernel) (by decide) rfl wd1023 rfl (by decide +kernel)) ?_
  refine ce_op (okIl1 (k := 1) (by decide +kernel) rfl) ?_
  refine ce_op (okAl1 (k := 0) (by decide +kernel) rfl) ?_
  refine ce_op (okIc1 (n := 0) (by decide +kernel) (by decide)) ?_
  refine ce_op (okIc3 (n := 400) (by decide +kernel) (by decide)) ?_
  refine ce_op (okCI miX7_numeral (rV clX7 (x := 185) miX7_numeral rfl (by decide +kernel) wd1264 wd1266 wd54)) ?_
  refine ce_op (okIast (by decide +kernel)) ?_
  refine ce_op (okAl1 (k := 0) (by decide +kernel) rfl) ?_
  refine ce_op (okGetR clX7 (k := 24) (x := 64) (by decide +kernel) (by decide) rfl wd1024 rfl (by decide +kernel)) ?_
  refine ce_op (okIl1 (k := 1) (by decide +kernel) rfl) ?_
  refine ce_op (okIc1 (n := 0) (by decide +kernel) (by decide)) ?_
  refine ce_op (okIast (by decide +kernel)) ?_
  refine ce_op (okAl1 (k := 0) (by decide +kernel) rfl) ?_
  refine ce_op (okIc2 (n := 8) (by decide +kernel) (by decide)) ?_
  refine ce_op (okCI miX7_isWord (rV clX7 (x := 206) miX7_isWord rfl (by decide +kernel) wd1280 wd1282 wd58)) ?_
  refine ce_op (okIfEq (off := 20) (by decide +kernel) (by decide)) ?_
  refine ce_op (okAl1 (k := 0) (by decide +kernel) rfl) ?_
  refine ce_op (okCV miX7_next (rV clX7 (x := 162) miX7_next rfl (by decide +kernel) wd1177 wd1179 wd47)) ?_
  refine ce_op (okAl1 (k := 0) (by decide +kernel) rfl) ?_
  refine ce_op (okGetR clX7 (k := 24) (x := 64) (by decide +kernel) (by decide) rfl wd1024 rfl (by decide +kernel)) ?_
  refine ce_op (okIl1 (k := 1) (by decide +kernel) rfl) ?_
  refine ce_op (okAl1 (k := 0) (by decide +kernel) rfl) ?_
  refine ce_op (okIc1 (n := 1) (by decide +kernel) (by decide)) ?_
  refine ce_op (okIc2 (n := 99) (by decide +kernel) (by decide)) ?_
  refine ce_op (okCI miX7_numeral (rV clX7 (x := 185) miX7_numeral rfl (by decide +kernel) wd1264 wd1266 wd54)) ?_
  refine ce_op (okIast (by decide +kernel)) ?_
  refine ce_op (okAl1 (k := 0) (by decide +kernel) rfl) ?_
  refine ce_op (okDup (by decide +kernel)) ?_
  refine ce_op (okGetI clX7 (k := 28) (x := 178) (by decide +kernel) (by decide) rfl wd1028 (Or.inl rfl)) ?_
  refine ce_op (okIc1 (n := 1) (by decide +kernel) (by decide)) ?_
  refine ce_op (okIadd (by decide +kernel)) ?_
  refine ce_op (okPutI clX7 (k := 28) (x := 178) (by decide +kernel) (by decide) rfl wd1028 rfl rfl (by decide +kernel)) ?_
  refine ce_op (okVret (by decide +kernel) rfl) ?_
  exact ce_nil
set_option maxRecDepth 100000 in
def cdX7_paid : List CE := (0, 2, some (oIc 12)) :: (2, 1, some (oAl 0)) :: (3, 1, some (oAl 0)) :: (4, 3, some (oGetR [(1175, 99560)])) :: (7, 2, some (oIc 12)) :: (9, 1, some (oAl 0)) ::
  (10, 3, some (oGetI 7 27)) :: (13, 3, some (oCI 7 mX7_told 4)) :: (16, 1, some oIadd) :: (17, 1, some (oIs 1)) :: (18, 1, some (oAl 0)) :: (19, 3, some (oGetI 7 35)) ::
  (22, 3, some (oIfNe 39)) :: (25, 1, some (oAl 0)) :: (26, 3, some (oGetR [(1175, 99659)])) :: (29, 1, some (oIl 1)) :: (30, 1, some oBald) :: (31, 3, some (oIfEq 39)) ::
  (34, 1, some (oAl 0)) :: (35, 1, some (oIc 3)) :: (36, 3, some (oCV 7 mX7_wrong 2)) :: (39, 1, some (oAl 0)) :: (40, 3, some (oCV 7 mX7_goOn 1)) :: (43, 1, some (oAl 0)) ::
  (44, 1, some (oIc 0)) :: (45, 2, some (oIc 999999)) :: (47, 3, some (oCI 7 mX7_numeral 3)) :: (50, 1, some (oIs 2)) :: (51, 1, some (oAl 0)) :: (52, 3, some (oGetI 7 35)) ::
  (55, 3, some (oIfEq 59)) :: (58, 1, some oVret) :: (59, 1, some (oAl 0)) :: (60, 3, some (oGetR [(1175, 99640)])) :: (63, 1, some (oIl 1)) :: (64, 1, some (oIl 2)) ::
  (65, 1, some oIast) :: (66, 1, some (oAl 0)) :: (67, 3, some (oGetR [(1175, 99659)])) :: (70, 1, some (oIl 1)) :: (71, 1, some (oIc 1)) :: (72, 1, some oBast) ::
  (73, 1, some oVret) :: []
set_option maxRecDepth 100000 in
set_option maxHeartbeats 4000000 in
theorem okX7_paid : CodeOk mX7_paid cdX7_paid := by
  refine ⟨by rfl, ?_⟩
  show CodeAll mX7_paid cdX7_paid
  refine ce_op (okIc2 (n := 12) (by decide +kernel) (by decide)) ?_
  refine ce_op (okAl1 (k := 0) (by decide +kernel) rfl) ?_
  refine ce_op (okAl1 (k := 0) (by decide +kernel) rfl) ?_
  refine ce_op (okGetR clX7 (k := 11) (x := 24) (by decide +kernel) (by decide) rfl wd1011 rfl (by decide +kernel)) ?_
  refine ce_op (okIc2 (n := 12) (by decide +kernel) (by decide)) ?_
  refine ce_op (okAl1 (k := 0) (by decide +kernel) rfl) ?_
  refine ce_op (okGetI clX7 (k := 27) (x := 175) (by decide +kernel) (by decide) rfl wd1027 (Or.inl rfl)) ?_
  refine ce_op (okCI miX7_told (rV clX7 (x := 200) miX7_told rfl (by decide +kernel) wd1272 wd1274 wd56)) ?_
  refine ce_op (okIadd (by decide +kernel)) ?_
  refine ce_op (okIs1 (k := 1) (by decide +kernel) rfl (by decide)) ?_
  refine ce_op (okAl1 (k := 0) (by decide +kernel) rfl) ?_
  refine ce_op (okGetI clX7 (k := 35) (x := 152) (by decide +kernel) (by decide) rfl wd1035 (Or.inl rfl)) ?_
  refine ce_op (okIfNe (off := 17) (by decide +kernel) (by decide)) ?_
  refine ce_op (okAl1 (k := 0) (by decide +kernel) rfl) ?_
  refine ce_op (okGetR clX7 (k := 17) (x := 42) (by decide +kernel) (by decide) rfl wd1017 rfl (by decide +kernel)) ?_
  refine ce_op (okIl1 (k := 1) (by decide +kernel) rfl) ?_
  refine ce_op (okBald (by decide +kernel)) ?_
  refine ce_op (okIfEq (off := 8) (by decide +kernel) (by decide)) ?_
  refine ce_op (okAl1 (k := 0) (by decide +kernel) rfl) ?_
  refine ce_op (okIc1 (n := 3) (by decide +kernel) (by decide)) ?_
  refine ce_op (okCV miX7_wrong (rV clX7 (x := 158) miX7_wrong rfl (by decide +kernel) wd1253 wd1255 wd52)) ?_
  refine ce_op (okAl1 (k := 0) (by decide +kernel) rfl) ?_
  refine ce_op (okCV miX7_goOn (rV clX7 (x := 203) miX7_goOn rfl (by decide +kernel) wd1276 wd1278 wd57)) ?_
  refine ce_op (okAl1 (k := 0) (by decide +kernel) rfl) ?_
  refine ce_op (okIc1 (n := 0) (by decide +kernel) (by decide)) ?_
  refine ce_op (okIcL (k := 140) (by decide +kernel) wd1248) ?_
  refine ce_op (okCI miX7_numeral (rV clX7 (x := 185) miX7_numeral rfl (by decide +kernel) wd1264 wd1266 wd54)) ?_
  refine ce_op (okIs1 (k := 2) (by decide +kernel) rfl (by decide)) ?_
  refine ce_op (okAl1 (k := 0) (by decide +kernel) rfl) ?_
  refine ce_op (okGetI clX7 (k := 35) (x := 152) (by decide +kernel) (by decide) rfl wd1035 (Or.inl rfl)) ?_
  refine ce_op (okIfEq (off := 4) (by decide +kernel) (by decide)) ?_
  refine ce_op (okVret (by decide +kernel) rfl) ?_
  refine ce_op (okAl1 (k := 0) (by decide +kernel) rfl) ?_
  refine ce_op (okGetR clX7 (k := 16) (x := 39) (by decide +kernel) (by decide) rfl wd1016 rfl (by decide +kernel)) ?_
  refine ce_op (okIl1 (k := 1) (by decide +kernel) rfl) ?_
  refine ce_op (okIl1 (k := 2) (by decide +kernel) rfl) ?_
  refine ce_op (okIast (by decide +kernel)) ?_
  refine ce_op (okAl1 (k := 0) (by decide +kernel) rfl) ?_
  refine ce_op (okGetR clX7 (k := 17) (x := 42) (by decide +kernel) (by decide) rfl wd1017 rfl (by decide +kernel)) ?_
  refine ce_op (okIl1 (k := 1) (by decide +kernel) rfl) ?_
  refine ce_op (okIc1 (n := 1) (by decide +kernel) (by decide)) ?_
  refine ce_op (okBast (by decide +kernel)) ?_
  refine ce_op (okVret (by decide +kernel) rfl) ?_
  exact ce_nil
set_option maxRecDepth 100000 in
def cdX7_book : List CE := (0, 1, some (oAl 0)) :: (1, 1, some (oIc 0)) :: (2, 3, some (oPutI 7 0)) :: (5, 1, some (oIl 1)) :: (6, 3, some (oIfLt 17)) :: (9, 1, some (oIl 1)) ::
  (10, 1, some (oAl 0)) :: (11, 3, some (oGetI 7 2)) :: (14, 3, some (oCmLe 20)) :: (17, 2, some (oIc (-2))) :: (19, 1, some oIret) :: (20, 1, some (oAl 0)) ::
  (21, 1, some (oIl 1)) :: (22, 3, some (oPutI 7 30)) :: (25, 1, some (oAl 0)) :: (26, 1, some (oIc 0)) :: (27, 3, some (oPutI 7 2)) :: (30, 1, some (oAl 0)) ::
  (31, 1, some (oIc 0)) :: (32, 3, some (oPutI 7 31)) :: (35, 1, some (oAl 0)) :: (36, 1, some (oIc 0)) :: (37, 3, some (oPutI 7 35)) :: (40, 1, some (oAl 0)) ::
  (41, 1, some (oIc (-1))) :: (42, 3, some (oPutI 7 36)) :: (45, 1, some (oAl 0)) :: (46, 1, some (oIc 0)) :: (47, 3, some (oPutI 7 25)) :: (50, 1, some (oAl 0)) ::
  (51, 1, some (oIc 0)) :: (52, 3, some (oPutI 7 26)) :: (55, 1, some (oAl 0)) :: (56, 1, some (oIc 0)) :: (57, 3, some (oPutI 7 27)) :: (60, 1, some (oAl 0)) ::
  (61, 1, some (oIc 0)) :: (62, 3, some (oPutI 7 28)) :: (65, 1, some (oAl 0)) :: (66, 1, some (oIc 0)) :: (67, 3, some (oPutI 7 29)) :: (70, 1, some (oAl 0)) ::
  (71, 3, some (oCV 7 mX7_next 1)) :: (74, 0, none) :: (74, 1, some (oAl 0)) :: (75, 3, some (oGetI 7 35)) :: (78, 3, some (oIfNe 96)) :: (81, 1, some (oAl 0)) ::
  (82, 3, some (oGetI 7 33)) :: (85, 1, some (oIc 4)) :: (86, 3, some (oCmEq 96)) :: (89, 1, some (oAl 0)) :: (90, 3, some (oCV 7 mX7_line 1)) :: (93, 3, some (oGoto 74)) ::
  (96, 1, some (oAl 0)) :: (97, 1, some (oAl 0)) :: (98, 3, some (oGetI 7 35)) :: (101, 3, some (oPutI 7 37)) :: (104, 1, some (oAl 0)) :: (105, 1, some (oAl 0)) ::
  (106, 3, some (oGetI 7 36)) :: (109, 3, some (oPutI 7 38)) :: (112, 1, some (oAl 0)) :: (113, 3, some (oGetI 7 35)) :: (116, 3, some (oIfEq 121)) :: (119, 1, some (oIc (-1))) ::
  (120, 1, some oIret) :: (121, 1, some (oAl 0)) :: (122, 3, some (oCV 7 mX7_lays 1)) :: (125, 1, some (oAl 0)) :: (126, 3, some (oGetI 7 29)) :: (129, 1, some oIret) :: []
set_option maxRecDepth 100000 in
set_option maxHeartbeats 4000000 in
theorem okX7_book : CodeOk mX7_book cdX7_book := by
  refine ⟨by rfl, ?_⟩
  show CodeAll mX7_book cdX7_book
  refine ce_op (okAl1 (k := 0) (by decide +kernel) rfl) ?_
  refine ce_op (okIc1 (n := 0) (by decide +kernel) (by decide)) ?_
  refine ce_op (okPutI clX7 (k := 0) (x := 102) (by decide +kernel) (by decide) rfl wd1000 rfl rfl (by decide +kernel)) ?_
  refine ce_op (okIl1 (k := 1) (by decide +kernel) rfl) ?_
  refine ce_op (okIfLt (off := 11) (by decide +kernel) (by decide)) ?_
  refine ce_op (okIl1 (k := 1) (by decide +kernel) rfl) ?_
  refine ce_op (okAl1 (k := 0) (by decide +kernel) rfl) ?_
  refine ce_op (okGetI clX7 (k := 2) (x := 105) (by decide +kernel) (by decide) rfl wd1002 (Or.inl rfl)) ?_
  refine ce_op (okCmLe (off := 6) (by decide +kernel) (by decide)) ?_
  refine ce_op (okIc2 (n := (-2)) (by decide +kernel) (by decide)) ?_
  refine ce_op (okIret (by decide +kernel) rfl) ?_
  refine ce_op (okAl1 (k := 0) (by decide +kernel) rfl) ?_
  refine ce_op (okIl1 (k := 1) (by decide +kernel) rfl) ?_
  refine ce_op (okPutI clX7 (k := 30) (x := 111) (by decide +kernel) (by decide) rfl wd1030 rfl rfl (by decide +kernel)) ?_
  refine ce_op (okAl1 (k := 0) (by decide +kernel) rfl) ?_
  refine ce_op (okIc1 (n := 0) (by decide +kernel) (by decide)) ?_
  refine ce_op (okPutI clX7 (k := 2) (x := 105) (by decide +kernel) (by decide) rfl wd1002 rfl rfl (by decide +kernel)) ?_
  refine ce_op (okAl1 (k := 0) (by decide +kernel) rfl) ?_
  refine ce_op (okIc1 (n := 0) (by decide +kernel) (by decide)) ?_
  refine ce_op (okPutI clX7 (k := 31) (x := 108) (by decide +kernel) (by decide) rfl wd1031 rfl rfl (by decide +kernel)) ?_
  refine ce_op (okAl1 (k := 0) (by decide +kernel) rfl) ?_
  refine ce_op (okIc1 (n := 0) (by decide +kernel) (by decide)) ?_
  refine ce_op (okPutI clX7 (k := 35) (x := 152) (by decide +kernel) (by decide) rfl wd1035 rfl rfl (by decide +kernel)) ?_
  refine ce_op (okAl1 (k := 0) (by decide +kernel) rfl) ?_
  refine ce_op (okIc1 (n := (-1)) (by decide +kernel) (by decide)) ?_
  refine ce_op (okPutI clX7 (k := 36) (x := 155) (by decide +kernel) (by decide) rfl wd1036 rfl rfl (by decide +kernel)) ?_
  refine ce_op (okAl1 (k := 0) (by decide +kernel) rfl) ?_
  refine ce_op (okIc1 (n := 0) (by decide +kernel) (by decide)) ?_
  refine ce_op (okPutI clX7 (k := 25) (x := 169) (by decide +kernel) (by decide) rfl wd1025 rfl rfl (by decide +kernel)) ?_
  refine ce_op (okAl1 (k := 0) (by decide +kernel) rfl) ?_
  refine ce_op (okIc1 (n := 0) (by decide +kernel) (by decide)) ?_
  refine ce_op (okPutI clX7 (k := 26) (x := 172) (by decide +kernel) (by decide) rfl wd1026 rfl rfl (by decide +kernel)) ?_
  refine ce_op (okAl1 (k := 0) (by decide +kernel) rfl) ?_
  refine ce_op (okIc1 (n := 0) (by decide +kernel) (by decide)) ?_
  refine ce_op (okPutI clX7 (k := 27) (x := 175) (by decide +kernel) (by decide) rfl wd1027 rfl rfl (by decide +kernel)) ?_
  refine ce_op (okAl1 (k := 0) (by decide +kernel) rfl) ?_
  refine ce_op (okIc1 (n := 0) (by decide +kernel) (by decide)) ?_
  refine ce_op (okPutI clX7 (k := 28) (x := 178) (by decide +kernel) (by decide) rfl wd1028 rfl rfl (by decide +kernel)) ?_
  refine ce_op (okAl1 (k := 0) (by decide +kernel) rfl) ?_
  refine ce_op (okIc1 (n := 0) (by decide +kernel) (by decide)) ?_
  refine ce_op (okPutI clX7 (k := 29) (x := 197) (by decide +kernel) (by decide) rfl wd1029 rfl rfl (by decide +kernel)) ?_
  refine ce_op (okAl1 (k := 0) (by decide +kernel) rfl) ?_
  refine ce_op (okCV miX7_next (rV clX7 (x := 162) miX7_next rfl (by decide +kernel) wd1177 wd1179 wd47)) ?_
  refine ce_st ?_
  refine ce_op (okAl1 (k := 0) (by decide +kernel) rfl) ?_
  refine ce_op (okGetI clX7 (k := 35) (x := 152) (by decide +kernel) (by decide) rfl wd1035 (Or.inl rfl)) ?_
  refine ce_op (okIfNe (off := 18) (by decide +kernel) (by decide)) ?_
  refine ce_op (okAl1 (k := 0) (by decide +kernel) rfl) ?_
  refine ce_op (okGetI clX7 (k := 33) (x := 121) (by decide +kernel) (by decide) rfl wd1033 (Or.inl rfl)) ?_
  refine ce_op (okIc1 (n := 4) (by decide +kernel) (by decide)) ?_
  refine ce_op (okCmEq (off := 10) (by decide +kernel) (by decide)) ?_
  refine ce_op (okAl1 (k := 0) (by decide +kernel) rfl) ?_
  refine ce_op (okCV miX7_line (rV clX7 (x := 209) miX7_line rfl (by decide +kernel) wd1249 wd1251 wd51)) ?_
  refine ce_op (okGoto (off := (-19)) (by decide +kernel) (by decide)) ?_
  refine ce_op (okAl1 (k := 0) (by decide +kernel) rfl) ?_
  refine ce_op (okAl1 (k := 0) (by decide +kernel) rfl) ?_
  refine ce_op (okGetI clX7 (k := 35) (x := 152) (by decide +kernel) (by decide) rfl wd1035 (Or.inl rfl)) ?_
  refine ce_op (okPutI clX7 (k := 37) (x := 211) (by decide +kernel) (by decide) rfl wd1037 rfl rfl (by decide +kernel)) ?_
  refine ce_op (okAl1 (k := 0) (by decide +kernel) rfl) ?_
  refine ce_op (okAl1 (k := 0) (by decide +kernel) rfl) ?_
  refine ce_op (okGetI clX7 (k := 36) (x := 155) (by decide +kernel) (by decide) rfl wd1036 (Or.inl rfl)) ?_
  refine ce_op (okPutI clX7 (k := 38) (x := 67) (by decide +kernel) (by decide) rfl wd1038 rfl rfl (by decide +kernel)) ?_
  refine ce_op (okAl1 (k := 0) (by decide +kernel) rfl) ?_
  refine ce_op (okGetI clX7 (k := 35) (x := 152) (by decide +kernel) (by decide) rfl wd1035 (Or.inl rfl)) ?_
  refine ce_op (okIfEq (off := 5) (by decide +kernel) (by decide)) ?_
  refine ce_op (okIc1 (n := (-1)) (by decide +kernel) (by decide)) ?_
  refine ce_op (okIret (by decide +kernel) rfl) ?_
  refine ce_op (okAl1 (k := 0) (by decide +kernel) rfl) ?_
  refine ce_op (okCV miX7_lays (rV clX7 (x := 214) miX7_lays rfl (by decide +kernel) wd1292 wd1294 wd61)) ?_
  refine ce_op (okAl1 (k := 0) (by decide +kernel) rfl) ?_
  refine ce_op (okGetI clX7 (k := 29) (x := 197) (by decide +kernel) (by decide) rfl wd1029 (Or.inl rfl)) ?_
  refine ce_op (okIret (by decide +kernel) rfl) ?_
  exact ce_nil
set_option maxRecDepth 100000 in
def cdX7_lays : List CE := (0, 1, some (oAl 0)) :: (1, 1, some (oAl 0)) :: (2, 3, some (oGetI 7 25)) :: (5, 3, some (oPutI 7 3)) :: (8, 1, some (oAl 0)) :: (9, 1, some (oAl 0)) ::
  (10, 3, some (oGetI 7 26)) :: (13, 3, some (oPutI 7 4)) :: (16, 1, some (oAl 0)) :: (17, 1, some (oAl 0)) :: (18, 3, some (oGetI 7 27)) :: (21, 3, some (oPutI 7 5)) ::
  (24, 1, some (oAl 0)) :: (25, 1, some (oAl 0)) :: (26, 3, some (oGetI 7 28)) :: (29, 3, some (oPutI 7 6)) :: (32, 1, some (oAl 0)) :: (33, 1, some (oAl 0)) ::
  (34, 3, some (oGetI 7 28)) :: (37, 3, some (oPutI 7 7)) :: (40, 1, some (oAl 0)) :: (41, 1, some (oIc 0)) :: (42, 3, some (oPutI 7 39)) :: (45, 1, some (oAl 0)) ::
  (46, 1, some (oIc 0)) :: (47, 3, some (oPutI 7 40)) :: (50, 1, some (oIc 0)) :: (51, 1, some (oIs 1)) :: (52, 0, none) :: (52, 1, some (oIl 1)) ::
  (53, 1, some (oIc 5)) :: (54, 3, some (oCmGe 91)) :: (57, 1, some (oAl 0)) :: (58, 3, some (oGetR [(1175, 42168)])) :: (61, 1, some (oIl 1)) :: (62, 1, some (oAl 0)) ::
  (63, 3, some (oGetR [(1175, 42168)])) :: (66, 1, some (oIc 5)) :: (67, 1, some (oIl 1)) :: (68, 1, some oIadd) :: (69, 1, some oIald) :: (70, 1, some oIast) ::
  (71, 1, some (oAl 0)) :: (72, 3, some (oGetR [(1175, 42184)])) :: (75, 1, some (oIl 1)) :: (76, 1, some (oAl 0)) :: (77, 3, some (oGetR [(1175, 42184)])) :: (80, 1, some (oIc 5)) ::
  (81, 1, some (oIl 1)) :: (82, 1, some oIadd) :: (83, 1, some oIald) :: (84, 1, some oIast) :: (85, 3, some (oInc 1 1)) :: (88, 3, some (oGoto 52)) ::
  (91, 1, some (oIc 0)) :: (92, 1, some (oIs 1)) :: (93, 0, none) :: (93, 1, some (oIl 1)) :: (94, 1, some (oIc 4)) :: (95, 3, some (oCmGe 118)) ::
  (98, 1, some (oAl 0)) :: (99, 3, some (oGetR [(1175, 34008)])) :: (102, 1, some (oIl 1)) :: (103, 1, some (oAl 0)) :: (104, 3, some (oGetR [(1175, 34008)])) :: (107, 1, some (oIc 4)) ::
  (108, 1, some (oIl 1)) :: (109, 1, some oIadd) :: (110, 1, some oIald) :: (111, 1, some oIast) :: (112, 3, some (oInc 1 1)) :: (115, 3, some (oGoto 93)) ::
  (118, 1, some (oIc 0)) :: (119, 1, some (oIs 1)) :: (120, 0, none) :: (120, 1, some (oIl 1)) :: (121, 2, some (oIc 12)) :: (123, 3, some (oCmGe 222)) ::
  (126, 1, some (oAl 0)) :: (127, 3, some (oGetR [(1175, 99560)])) :: (130, 1, some (oIl 1)) :: (131, 1, some (oAl 0)) :: (132, 3, some (oGetR [(1175, 99560)])) :: (135, 2, some (oIc 12)) ::
  (137, 1, some (oIl 1)) :: (138, 1, some oIadd) :: (139, 1, some oIald) :: (140, 1, some oIast) :: (141, 1, some (oAl 0)) :: (142, 3, some (oGetR [(1175, 99576)])) ::
  (145, 1, some (oIl 1)) :: (146, 1, some (oAl 0)) :: (147, 3, some (oGetR [(1175, 99576)])) :: (150, 2, some (oIc 12)) :: (152, 1, some (oIl 1)) :: (153, 1, some oIadd) ::
  (154, 1, some oIald) :: (155, 1, some oIast) :: (156, 1, some (oAl 0)) :: (157, 3, some (oGetR [(1175, 99592)])) :: (160, 1, some (oIl 1)) :: (161, 1, some (oAl 0)) ::
  (162, 3, some (oGetR [(1175, 99592)])) :: (165, 2, some (oIc 12)) :: (167, 1, some (oIl 1)) :: (168, 1, some oIadd) :: (169, 1, some oIald) :: (170, 1, some oIast) ::
  (171, 1, some (oAl 0)) :: (172, 3, some (oGetR [(1175, 99608)])) :: (175, 1, some (oIl 1)) :: (176, 1, some (oAl 0)) :: (177, 3, some (oGetR [(1175, 99608)])) :: (180, 2, some (oIc 12)) ::
  (182, 1, some (oIl 1)) :: (183, 1, some oIadd) :: (184, 1, some oIald) :: (185, 1, some oIast) :: (186, 1, some (oAl 0)) :: (187, 3, some (oGetR [(1175, 99624)])) ::
  (190, 1, some (oIl 1)) :: (191, 1, some (oAl 0)) :: (192, 3, some (oGetR [(1175, 99624)])) :: (195, 2, some (oIc 12)) :: (197, 1, some (oIl 1)) :: (198, 1, some oIadd) ::
  (199, 1, some oIald) :: (200, 1, some oIast) :: (201, 1, some (oAl 0)) :: (202, 3, some (oGetR [(1175, 99640)])) :: (205, 1, some (oIl 1)) :: (206, 1, some (oAl 0)) ::
  (207, 3, some (oGetR [(1175, 99640)])) :: (210, 2, some (oIc 12)) :: (212, 1, some (oIl 1)) :: (213, 1, some oIadd) :: (214, 1, some oIald) :: (215, 1, some oIast) ::
  (216, 3, some (oInc 1 1)) :: (219, 3, some (oGoto 120)) :: (222, 1, some (oIc 0)) :: (223, 1, some (oIs 1)) :: (224, 0, none) :: (224, 1, some (oIl 1)) ::
  (225, 2, some (oIc 40)) :: (227, 3, some (oCmGe 341)) :: (230, 1, some (oAl 0)) :: (231, 3, some (oGetR [(1175, 329048)])) :: (234, 1, some (oIl 1)) :: (235, 1, some (oAl 0)) ::
  (236, 3, some (oGetR [(1175, 329048)])) :: (239, 2, some (oIc 40)) :: (241, 1, some (oIl 1)) :: (242, 1, some oIadd) :: (243, 1, some oIald) :: (244, 1, some oIast) ::
  (245, 1, some (oAl 0)) :: (246, 3, some (oGetR [(1175, 329064)])) :: (249, 1, some (oIl 1)) :: (250, 1, some (oAl 0)) :: (251, 3, some (oGetR [(1175, 329064)])) :: (254, 2, some (oIc 40)) ::
  (256, 1, some (oIl 1)) :: (257, 1, some oIadd) :: (258, 1, some oIald) :: (259, 1, some oIast) :: (260, 1, some (oAl 0)) :: (261, 3, some (oGetR [(1175, 329080)])) ::
  (264, 1, some (oIl 1)) :: (265, 1, some (oAl 0)) :: (266, 3, some (oGetR [(1175, 329080)])) :: (269, 2, some (oIc 40)) :: (271, 1, some (oIl 1)) :: (272, 1, some oIadd) ::
  (273, 1, some oIald) :: (274, 1, some oIast) :: (275, 1, some (oAl 0)) :: (276, 3, some (oGetR [(1175, 329096)])) :: (279, 1, some (oIl 1)) :: (280, 1, some (oAl 0)) ::
  (281, 3, some (oGetR [(1175, 329096)])) :: (284, 2, some (oIc 40)) :: (286, 1, some (oIl 1)) :: (287, 1, some oIadd) :: (288, 1, some oIald) :: (289, 1, some oIast) ::
  (290, 1, some (oAl 0)) :: (291, 3, some (oGetR [(1175, 329112)])) :: (294, 1, some (oIl 1)) :: (295, 1, some (oAl 0)) :: (296, 3, some (oGetR [(1175, 329112)])) :: (299, 2, some (oIc 40)) ::
  (301, 1, some (oIl 1)) :: (302, 1, some oIadd) :: (303, 1, some oIald) :: (304, 1, some oIast) :: (305, 1, some (oAl 0)) :: (306, 3, some (oGetR [(1175, 329128)])) ::
  (309, 1, some (oIl 1)) :: (310, 1, some (oAl 0)) :: (311, 3, some (oGetR [(1175, 329128)])) :: (314, 2, some (oIc 40)) :: (316, 1, some (oIl 1)) :: (317, 1, some oIadd) ::
  (318, 1, some oIald) :: (319, 1, some oIast) :: (320, 1, some (oAl 0)) :: (321, 3, some (oGetR [(1175, 329144)])) :: (324, 1, some (oIl 1)) :: (325, 1, some (oAl 0)) ::
  (326, 3, some (oGetR [(1175, 329144)])) :: (329, 2, some (oIc 40)) :: (331, 1, some (oIl 1)) :: (332, 1, some oIadd) :: (333, 1, some oIald) :: (334, 1, some oIast) ::
  (335, 3, some (oInc 1 1)) :: (338, 3, some (oGoto 224)) :: (341, 1, some oVret) :: []
set_option maxRecDepth 100000 in
set_option maxHeartbeats 4000000 in
theorem okX7_lays : CodeOk mX7_lays cdX7_lays := by
  refine ⟨by rfl, ?_⟩
  show CodeAll mX7_lays cdX7_lays
  refine ce_op (okAl1 (k := 0) (by decide +kernel) rfl) ?_
  refine ce_op (okAl1 (k := 0) (by decide +kernel) rfl) ?_
  refine ce_op (okGetI clX7 (k := 25) (x := 169) (by decide +kernel) (by decide) rfl wd1025 (Or.inl rfl)) ?_
  refine ce_op (okPutI clX7 (k := 3) (x := 217) (by decide +kernel) (by decide) rfl wd1003 rfl rfl (by decide +kernel)) ?_
  refine ce_op (okAl1 (k := 0) (by decide +kernel) rfl) ?_
  refine ce_op (okAl1 (k := 0) (by decide +kernel) rfl) ?_
  refine ce_op (okGetI clX7 (k := 26) (x := 172) (by decide +kernel) (by decide) rfl wd1026 (Or.inl rfl)) ?_
  refine ce_op (okPutI clX7 (k := 4) (x := 220) (by decide +kernel) (by decide) rfl wd1004 rfl rfl (by decide +kernel)) ?_
  refine ce_op (okAl1 (k := 0) (by decide +kernel) rfl) ?_
  refine ce_op (okAl1 (k := 0) (by decide +kernel) rfl) ?_
  refine ce_op (okGetI clX7 (k := 27) (x := 175) (by decide +kernel) (by decide) rfl wd1027 (Or.inl rfl)) ?_
  refine ce_op (okPutI clX7 (k := 5) (x := 223) (by decide +kernel) (by decide) rfl wd1005 rfl rfl (by decide +kernel)) ?_
  refine ce_op (okAl1 (k := 0) (by decide +kernel) rfl) ?_
  refine ce_op (okAl1 (k := 0) (by decide +kernel) rfl) ?_
  refine ce_op (okGetI clX7 (k := 28) (x := 178) (by decide +kernel) (by decide) rfl wd1028 (Or.inl rfl)) ?_
  refine ce_op (okPutI clX7 (k := 6) (x := 226) (by decide +kernel) (by decide) rfl wd1006 rfl rfl (by decide +kernel)) ?_
  refine ce_op (okAl1 (k := 0) (by decide +kernel) rfl) ?_
  refine ce_op (okAl1 (k := 0) (by decide +kernel) rfl) ?_
  refine ce_op (okGetI clX7 (k := 28) (x := 178) (by decide +kernel) (by decide) rfl wd1028 (Or.inl rfl)) ?_
  refine ce_op (okPutI clX7 (k := 7) (x := 229) (by decide +kernel) (by decide) rfl wd1007 rfl rfl (by decide +kernel)) ?_
  refine ce_op (okAl1 (k := 0) (by decide +kernel) rfl) ?_
  refine ce_op (okIc1 (n := 0) (by decide +kernel) (by decide)) ?_
  refine ce_op (okPutI clX7 (k := 39) (x := 232) (by decide +kernel) (by decide) rfl wd1039 rfl rfl (by decide +kernel)) ?_
  refine ce_op (okAl1 (k := 0) (by decide +kernel) rfl) ?_
  refine ce_op (okIc1 (n := 0) (by decide +kernel) (by decide)) ?_
  refine ce_op (okPutI clX7 (k := 40) (x := 235) (by decide +kernel) (by decide) rfl wd1040 rfl rfl (by decide +kernel)) ?_
  refine ce_op (okIc1 (n := 0) (by decide +kernel) (by decide)) ?_
  refine ce_op (okIs1 (k := 1) (by decide +kernel) rfl (by decide)) ?_
  refine ce_st ?_
  refine ce_op (okIl1 (k := 1) (by decide +kernel) rfl) ?_
  refine ce_op (okIc1 (n := 5) (by decide +kernel) (by decide)) ?_
  refine ce_op (okCmGe (off := 37) (by decide +kernel) (by decide)) ?_
  refine ce_op (okAl1 (k := 0) (by decide +kernel) rfl) ?_
  refine ce_op (okGetR clX7 (k := 8) (x := 15) (by decide +kernel) (by decide) rfl wd1008 rfl (by decide +kernel)) ?_
  refine ce_op (okIl1 (k := 1) (by decide +kernel) rfl) ?_
  refine ce_op (okAl1 (k := 0) (by decide +kernel) rfl) ?_
  refine ce_op (okGetR clX7 (k := 8) (x := 15) (by decide +kernel) (by decide) rfl wd1008 rfl (by decide +kernel)) ?_
  refine ce_op (okIc1 (n := 5) (by decide +kernel) (by decide)) ?_
  refine ce_op (okIl1 (k := 1) (by decide +kernel) rfl) ?_
  refine ce_op (okIadd (by decide +kernel)) ?_
  refine ce_op (okIald (by decide +kernel)) ?_
  refine ce_op (okIast (by decide +kernel)) ?_
  refine ce_op (okAl1 (k := 0) (by decide +kernel) rfl) ?_
  refine ce_op (okGetR clX7 (k := 9) (x := 18) (by decide +kernel) (by decide) rfl wd1009 rfl (by decide +kernel)) ?_
  refine ce_op (okIl1 (k := 1) (by decide +kernel) rfl) ?_
  refine ce_op (okAl1 (k := 0) (by decide +kernel) rfl) ?_
  refine ce_op (okGetR clX7 (k := 9) (x := 18) (by decide +kernel) (by decide) rfl wd1009 rfl (by decide +kernel)) ?_
  refine ce_op (okIc1 (n := 5) (by decide +kernel) (by decide)) ?_
  refine ce_op (okIl1 (k := 1) (by decide +kernel) rfl) ?_
  refine ce_op (okIadd (by decide +kernel)) ?_
  refine ce_op (okIald (by decide +kernel)) ?_
  refine ce_op (okIast (by decide +kernel)) ?_
  refine ce_op (okInc (n := 1) (by decide +kernel) (by decide)) ?_
  refine ce_op (okGoto (off := (-36)) (by decide +kernel) (by decide)) ?_
  refine ce_op (okIc1 (n := 0) (by decide +kernel) (by decide)) ?_
  refine ce_op (okIs1 (k := 1) (by decide +kernel) rfl (by decide)) ?_
  refine ce_st ?_
  refine ce_op (okIl1 (k := 1) (by decide +kernel) rfl) ?_
  refine ce_op (okIc1 (n := 4) (by decide +kernel) (by decide)) ?_
  refine ce_op (okCmGe (off := 23) (by decide +kernel) (by decide)) ?_
  refine ce_op (okAl1 (k := 0) (by decide +kernel) rfl) ?_
  refine ce_op (okGetR clX7 (k := 10) (x := 21) (by decide +kernel) (by decide) rfl wd1010 rfl (by decide +kernel)) ?_
  refine ce_op (okIl1 (k := 1) (by decide +kernel) rfl) ?_
  refine ce_op (okAl1 (k := 0) (by decide +kernel) rfl) ?_
  refine ce_op (okGetR clX7 (k := 10) (x := 21) (by decide +kernel) (by decide) rfl wd1010 rfl (by decide +kernel)) ?_
  refine ce_op (okIc1 (n := 4) (by decide +kernel) (by decide)) ?_
  refine ce_op (okIl1 (k := 1) (by decide +kernel) rfl) ?_
  refine ce_op (okIadd (by decide +kernel)) ?_
  refine ce_op (okIald (by decide +kernel)) ?_
  refine ce_op (okIast (by decide +kernel)) ?_
  refine ce_op (okInc (n := 1) (by decide +kernel) (by decide)) ?_
  refine ce_op (okGoto (off := (-22)) (by decide +kernel) (by decide)) ?_
  refine ce_op (okIc1 (n := 0) (by decide +kernel) (by decide)) ?_
  refine ce_op (okIs1 (k := 1) (by decide +kernel) rfl (by decide)) ?_
  refine ce_st ?_
  refine ce_op (okIl1 (k := 1) (by decide +kernel) rfl) ?_
  refine ce_op (okIc2 (n := 12) (by decide +kernel) (by decide)) ?_
  refine ce_op (okCmGe (off := 99) (by decide +kernel) (by decide)) ?_
  refine ce_op (okAl1 (k := 0) (by decide +kernel) rfl) ?_
  refine ce_op (okGetR clX7 (k := 11) (x := 24) (by decide +kernel) (by decide) rfl wd1011 rfl (by decide +kernel)) ?_
  refine ce_op (okIl1 (k := 1) (by decide +kernel) rfl) ?_
  refine ce_op (okAl1 (k := 0) (by decide +kernel) rfl) ?_
  refine ce_op (okGetR clX7 (k := 11) (x := 24) (by decide +kernel) (by decide) rfl wd1011 rfl (by decide +kernel)) ?_
  refine ce_op (okIc2 (n := 12) (by decide +kernel) (by decide)) ?_
  refine ce_op (okIl1 (k := 1) (by decide +kernel) rfl) ?_
  refine ce_op (okIadd (by decide +kernel)) ?_
  refine ce_op (okIald (by decide +kernel)) ?_
  refine ce_op (okIast (by decide +kernel)) ?_
  refine ce_op (okAl1 (k := 0) (by decide +kernel) rfl) ?_
  refine ce_op (okGetR clX7 (k := 12) (x := 27) (by decide +kernel) (by decide) rfl wd1012 rfl (by decide +kernel)) ?_
  refine ce_op (okIl1 (k := 1) (by decide +kernel) rfl) ?_
  refine ce_op (okAl1 (k := 0) (by decide +kernel) rfl) ?_
  refine ce_op (okGetR clX7 (k := 12) (x := 27) (by decide +kernel) (by decide) rfl wd1012 rfl (by decide +kernel)) ?_
  refine ce_op (okIc2 (n := 12) (by decide +kernel) (by decide)) ?_
  refine ce_op (okIl1 (k := 1) (by decide +kernel) rfl) ?_
  refine ce_op (okIadd (by decide +kernel)) ?_
  refine ce_op (okIald (by decide +kernel)) ?_
  refine ce_op (okIast (by decide +kernel)) ?_
  refine ce_op (okAl1 (k := 0) (by decide +kernel) rfl) ?_
  refine ce_op (okGetR clX7 (k := 13) (x := 30) (by decide +kernel) (by decide) rfl wd1013 rfl (by decide +kernel)) ?_
  refine ce_op (okIl1 (k := 1) (by decide +kernel) rfl) ?_
  refine ce_op (okAl1 (k := 0) (by decide +kernel) rfl) ?_
  refine ce_op (okGetR clX7 (k := 13) (x := 30) (by decide +kernel) (by decide) rfl wd1013 rfl (by decide +kernel)) ?_
  refine ce_op (okIc2 (n := 12) (by decide +kernel) (by decide)) ?_
  refine ce_op (okIl1 (k := 1) (by decide +kernel) rfl) ?_
  refine ce_op (okIadd (by decide +kernel)) ?_
  refine ce_op (okIald (by decide +kernel)) ?_
  refine ce_op (okIast (by decide +kernel)) ?_
  refine ce_op (okAl1 (k := 0) (by decide +kernel) rfl) ?_
  refine ce_op (okGetR clX7 (k := 14) (x := 33) (by decide +kernel) (by decide) rfl wd1014 rfl (by decide +kernel)) ?_
  refine ce_op (okIl1 (k := 1) (by decide +kernel) rfl) ?_
  refine ce_op (okAl1 (k := 0) (by decide +kernel) rfl) ?_
  refine ce_op (okGetR clX7 (k := 14) (x := 33) (by decide +kernel) (by decide) rfl wd1014 rfl (by decide +kernel)) ?_
  refine ce_op (okIc2 (n := 12) (by decide +kernel) (by decide)) ?_
  refine ce_op (okIl1 (k := 1) (by decide +kernel) rfl) ?_
  refine ce_op (okIadd (by decide +kernel)) ?_
  refine ce_op (okIald (by decide +kernel)) ?_
  refine ce_op (okIast (by decide +kernel)) ?_
  refine ce_op (okAl1 (k := 0) (by decide +kernel) rfl) ?_
  refine ce_op (okGetR clX7 (k := 15) (x := 36) (by decide +kernel) (by decide) rfl wd1015 rfl (by decide +kernel)) ?_
  refine ce_op (okIl1 (k := 1) (by decide +kernel) rfl) ?_
  refine ce_op (okAl1 (k := 0) (by decide +kernel) rfl) ?_
  refine ce_op (okGetR clX7 (k := 15) (x := 36) (by decide +kernel) (by decide) rfl wd1015 rfl (by decide +kernel)) ?_
  refine ce_op (okIc2 (n := 12) (by decide +kernel) (by decide)) ?_
  refine ce_op (okIl1 (k := 1) (by decide +kernel) rfl) ?_
  refine ce_op (okIadd (by decide +kernel)) ?_
  refine ce_op (okIald (by decide +kernel)) ?_
  refine ce_op (okIast (by decide +kernel)) ?_
  refine ce_op (okAl1 (k := 0) (by decide +kernel) rfl) ?_
  refine ce_op (okGetR clX7 (k := 16) (x := 39) (by decide +kernel) (by decide) rfl wd1016 rfl (by decide +kernel)) ?_
  refine ce_op (okIl1 (k := 1) (by decide +kernel) rfl) ?_
  refine ce_op (okAl1 (k := 0) (by decide +kernel) rfl) ?_
  refine ce_op (okGetR clX7 (k := 16) (x := 39) (by decide +kernel) (by decide) rfl wd1016 rfl (by decide +kernel)) ?_
  refine ce_op (okIc2 (n := 12) (by decide +kernel) (by decide)) ?_
  refine ce_op (okIl1 (k := 1) (by decide +kernel) rfl) ?_
  refine ce_op (okIadd (by decide +kernel)) ?_
  refine ce_op (okIald (by decide +kernel)) ?_
  refine ce_op (okIast (by decide +kernel)) ?_
  refine ce_op (okInc (n := 1) (by decide +kernel) (by decide)) ?_
  refine ce_op (okGoto (off := (-99)) (by decide +kernel) (by decide)) ?_
  refine ce_op (okIc1 (n := 0) (by decide +kernel) (by decide)) ?_
  refine ce_op (okIs1 (k := 1) (by decide +kernel) rfl (by decide)) ?_
  refine ce_st ?_
  refine ce_op (okIl1 (k := 1) (by decide +kernel) rfl) ?_
  refine ce_op (okIc2 (n := 40) (by decide +kernel) (by decide)) ?_
  refine ce_op (okCmGe (off := 114) (by decide +kernel) (by decide)) ?_
  refine ce_op (okAl1 (k := 0) (by decide +kernel) rfl) ?_
  refine ce_op (okGetR clX7 (k := 18) (x := 46) (by decide +kernel) (by decide) rfl wd1018 rfl (by decide +kernel)) ?_
  refine ce_op (okIl1 (k := 1) (by decide +kernel) rfl) ?_
  refine ce_op (okAl1 (k := 0) (by decide +kernel) rfl) ?_
  refine ce_op (okGetR clX7 (k := 18) (x := 46) (by decide +kernel) (by decide) rfl wd1018 rfl (by decide +kernel)) ?_
  refine ce_op (okIc2 (n := 40) (by decide +kernel) (by decide)) ?_
  refine ce_op (okIl1 (k := 1) (by decide +kernel) rfl) ?_
  refine ce_op (okIadd (by decide +kernel)) ?_
  refine ce_op (okIald (by decide +kernel)) ?_
  refine ce_op (okIast (by decide +kernel)) ?_
  refine ce_op (okAl1 (k := 0) (by decide +kernel) rfl) ?_
  refine ce_op (okGetR clX7 (k := 19) (x := 49) (by decide +kernel) (by decide) rfl wd1019 rfl (by decide +kernel)) ?_
  refine ce_op (okIl1 (k := 1) (by decide +kernel) rfl) ?_
  refine ce_op (okAl1 (k := 0) (by decide +kernel) rfl) ?_
  refine ce_op (okGetR clX7 (k := 19) (x := 49) (by decide +kernel) (by decide) rfl wd1019 rfl (by decide +kernel)) ?_
  refine ce_op (okIc2 (n := 40) (by decide +kernel) (by decide)) ?_
  refine ce_op (okIl1 (k := 1) (by decide +kernel) rfl) ?_
  refine ce_op (okIadd (by decide +kernel)) ?_
  refine ce_op (okIald (by decide +kernel)) ?_
  refine ce_op (okIast (by decide +kernel)) ?_
  refine ce_op (okAl1 (k := 0) (by decide +kernel) rfl) ?_
  refine ce_op (okGetR clX7 (k := 20) (x := 52) (by decide +kernel) (by decide) rfl wd1020 rfl (by decide +kernel)) ?_
  refine ce_op (okIl1 (k := 1) (by decide +kernel) rfl) ?_
  refine ce_op (okAl1 (k := 0) (by decide +kernel) rfl) ?_
  refine ce_op (okGetR clX7 (k := 20) (x := 52) (by decide +kernel) (by decide) rfl wd1020 rfl (by decide +kernel)) ?_
  refine ce_op (okIc2 (n := 40) (by decide +kernel) (by decide)) ?_
  refine ce_op (okIl1 (k := 1) (by decide +kernel) rfl) ?_
  refine ce_op (okIadd (by decide +kernel)) ?_
  refine ce_op (okIald (by decide +kernel)) ?_
  refine ce_op (okIast (by decide +kernel)) ?_
  refine ce_op (okAl1 (k := 0) (by decide +kernel) rfl) ?_
  refine ce_op (okGetR clX7 (k := 21) (x := 55) (by decide +kernel) (by decide) rfl wd1021 rfl (by decide +kernel)) ?_
  refine ce_op (okIl1 (k := 1) (by decide +kernel) rfl) ?_
  refine ce_op (okAl1 (k := 0) (by decide +kernel) rfl) ?_
  refine ce_op (okGetR clX7 (k := 21) (x := 55) (by decide +kernel) (by decide) rfl wd1021 rfl (by decide +kernel)) ?_
  refine ce_op (okIc2 (n := 40) (by decide +kernel) (by decide)) ?_
  refine ce_op (okIl1 (k := 1) (by decide +kernel) rfl) ?_
  refine ce_op (okIadd (by decide +kernel)) ?_
  refine ce_op (okIald (by decide +kernel)) ?_
  refine ce_op (okIast (by decide +kernel)) ?_
  refine ce_op (okAl1 (k := 0) (by decide +kernel) rfl) ?_
  refine ce_op (okGetR clX7 (k := 22) (x := 58) (by decide +kernel) (by decide) rfl wd1022 rfl (by decide +kernel)) ?_
  refine ce_op (okIl1 (k := 1) (by decide +kernel) rfl) ?_
  refine ce_op (okAl1 (k := 0) (by decide +kernel) rfl) ?_
  refine ce_op (okGetR clX7 (k := 22) (x := 58) (by decide +kernel) (by decide) rfl wd1022 rfl (by decide +kernel)) ?_
  refine ce_op (okIc2 (n := 40) (by decide +kernel) (by decide)) ?_
  refine ce_op (okIl1 (k := 1) (by decide +kernel) rfl) ?_
  refine ce_op (okIadd (by decide +kernel)) ?_
  refine ce_op (okIald (by decide +kernel)) ?_
  refine ce_op (okIast (by decide +kernel)) ?_
  refine ce_op (okAl1 (k := 0) (by decide +kernel) rfl) ?_
  refine ce_op (okGetR clX7 (k := 23) (x := 61) (by decide +kernel) (by decide) rfl wd1023 rfl (by decide +kernel)) ?_
  refine ce_op (okIl1 (k := 1) (by decide +kernel) rfl) ?_
  refine ce_op (okAl1 (k := 0) (by decide +kernel) rfl) ?_
  refine ce_op (okGetR clX7 (k := 23) (x := 61) (by decide +kernel) (by decide) rfl wd1023 rfl (by decide +kernel)) ?_
  refine ce_op (okIc2 (n := 40) (by decide +kernel) (by decide)) ?_
  refine ce_op (okIl1 (k := 1) (by decide +kernel) rfl) ?_
  refine ce_op (okIadd (by decide +kernel)) ?_
  refine ce_op (okIald (by decide +kernel)) ?_
  refine ce_op (okIast (by decide +kernel)) ?_
  refine ce_op (okAl1 (k := 0) (by decide +kernel) rfl) ?_
  refine ce_op (okGetR clX7 (k := 24) (x := 64) (by decide +kernel) (by decide) rfl wd1024 rfl (by decide +kernel)) ?_
  refine ce_op (okIl1 (k := 1) (by decide +kernel) rfl) ?_
  refine ce_op (okAl1 (k := 0) (by decide +kernel) rfl) ?_
  refine ce_op (okGetR clX7 (k := 24) (x := 64) (by decide +kernel) (by decide) rfl wd1024 rfl (by decide +kernel)) ?_
  refine ce_op (okIc2 (n := 40) (by decide +kernel) (by decide)) ?_
  refine ce_op (okIl1 (k := 1) (by decide +kernel) rfl) ?_
  refine ce_op (okIadd (by decide +kernel)) ?_
  refine ce_op (okIald (by decide +kernel)) ?_
  refine ce_op (okIast (by decide +kernel)) ?_
  refine ce_op (okInc (n := 1) (by decide +kernel) (by decide)) ?_
  refine ce_op (okGoto (off := (-114)) (by decide +kernel) (by decide)) ?_
  refine ce_op (okVret (by decide +kernel) rfl) ?_
  exact ce_nil
set_option maxRecDepth 100000 in
def cdX7_fault : List CE := (0, 1, some (oAl 0)) :: (1, 1, some (oIc 0)) :: (2, 3, some (oPutI 7 0)) :: (5, 1, some (oIl 1)) :: (6, 3, some (oIfNe 16)) :: (9, 1, some (oAl 0)) ::
  (10, 3, some (oGetI 7 37)) :: (13, 3, some (oGoto 29)) :: (16, 1, some (oIl 1)) :: (17, 1, some (oIc 1)) :: (18, 3, some (oCmNe 28)) :: (21, 1, some (oAl 0)) ::
  (22, 3, some (oGetI 7 38)) :: (25, 3, some (oGoto 29)) :: (28, 1, some (oIc (-1))) :: (29, 1, some oIret) :: []
set_option maxRecDepth 100000 in
set_option maxHeartbeats 4000000 in
theorem okX7_fault : CodeOk mX7_fault cdX7_fault := by
  refine ⟨by rfl, ?_⟩
  show CodeAll mX7_fault cdX7_fault
  refine ce_op (okAl1 (k := 0) (by decide +kernel) rfl) ?_
  refine ce_op (okIc1 (n := 0) (by decide +kernel) (by decide)) ?_
  refine ce_op (okPutI clX7 (k := 0) (x := 102) (by decide +kernel) (by decide) rfl wd1000 rfl rfl (by decide +kernel)) ?_
  refine ce_op (okIl1 (k := 1) (by decide +kernel) rfl) ?_
  refine ce_op (okIfNe (off := 10) (by decide +kernel) (by decide)) ?_
  refine ce_op (okAl1 (k := 0) (by decide +kernel) rfl) ?_
  refine ce_op (okGetI clX7 (k := 37) (x := 211) (by decide +kernel) (by decide) rfl wd1037 (Or.inl rfl)) ?_
  refine ce_op (okGoto (off := 16) (by decide +kernel) (by decide)) ?_
  refine ce_op (okIl1 (k := 1) (by decide +kernel) rfl) ?_
  refine ce_op (okIc1 (n := 1) (by decide +kernel) (by decide)) ?_
  refine ce_op (okCmNe (off := 10) (by decide +kernel) (by decide)) ?_
  refine ce_op (okAl1 (k := 0) (by decide +kernel) rfl) ?_
  refine ce_op (okGetI clX7 (k := 38) (x := 67) (by decide +kernel) (by decide) rfl wd1038 (Or.inl rfl)) ?_
  refine ce_op (okGoto (off := 4) (by decide +kernel) (by decide)) ?_
  refine ce_op (okIc1 (n := (-1)) (by decide +kernel) (by decide)) ?_
  refine ce_op (okIret (by decide +kernel) rfl) ?_
  exact ce_nil
set_option maxRecDepth 100000 in
def cdX7_named : List CE := (0, 1, some (oAl 0)) :: (1, 1, some (oIc 0)) :: (2, 3, some (oPutI 7 0)) :: (5, 1, some (oIl 1)) :: (6, 3, some (oIfNe 25)) :: (9, 1, some (oAl 0)) ::
  (10, 3, some (oGetR [(1175, 42168)])) :: (13, 1, some (oIc 0)) :: (14, 1, some (oAl 0)) :: (15, 3, some (oGetI 7 3)) :: (18, 1, some (oIl 2)) :: (19, 3, some (oCI 16 mX7_found 4)) ::
  (22, 3, some (oGoto 68)) :: (25, 1, some (oIl 1)) :: (26, 1, some (oIc 1)) :: (27, 3, some (oCmNe 46)) :: (30, 1, some (oAl 0)) :: (31, 3, some (oGetR [(1175, 34008)])) ::
  (34, 1, some (oIc 0)) :: (35, 1, some (oAl 0)) :: (36, 3, some (oGetI 7 4)) :: (39, 1, some (oIl 2)) :: (40, 3, some (oCI 16 mX7_found 4)) :: (43, 3, some (oGoto 68)) ::
  (46, 1, some (oIl 1)) :: (47, 1, some (oIc 2)) :: (48, 3, some (oCmNe 67)) :: (51, 1, some (oAl 0)) :: (52, 3, some (oGetR [(1175, 99560)])) :: (55, 1, some (oIc 0)) ::
  (56, 1, some (oAl 0)) :: (57, 3, some (oGetI 7 5)) :: (60, 1, some (oIl 2)) :: (61, 3, some (oCI 16 mX7_found 4)) :: (64, 3, some (oGoto 68)) :: (67, 1, some (oIc (-1))) ::
  (68, 1, some oIret) :: []
set_option maxRecDepth 100000 in
set_option maxHeartbeats 4000000 in
theorem okX7_named : CodeOk mX7_named cdX7_named := by
  refine ⟨by rfl, ?_⟩
  show CodeAll mX7_named cdX7_named
  refine ce_op (okAl1 (k := 0) (by decide +kernel) rfl) ?_
  refine ce_op (okIc1 (n := 0) (by decide +kernel) (by decide)) ?_
  refine ce_op (okPutI clX7 (k := 0) (x := 102) (by decide +kernel) (by decide) rfl wd1000 rfl rfl (by decide +kernel)) ?_
  refine ce_op (okIl1 (k := 1) (by decide +kernel) rfl) ?_
  refine ce_op (okIfNe (off := 19) (by decide +kernel) (by decide)) ?_
  refine ce_op (okAl1 (k := 0) (by decide +kernel) rfl) ?_
  refine ce_op (okGetR clX7 (k := 8) (x := 15) (by decide +kernel) (by decide) rfl wd1008 rfl (by decide +kernel)) ?_
  refine ce_op (okIc1 (n := 0) (by decide +kernel) (by decide)) ?_
  refine ce_op (okAl1 (k := 0) (by decide +kernel) rfl) ?_
  refine ce_op (okGetI clX7 (k := 3) (x := 217) (by decide +kernel) (by decide) rfl wd1003 (Or.inl rfl)) ?_
  refine ce_op (okIl1 (k := 2) (by decide +kernel) rfl) ?_
  refine ce_op (okCI miX7_found (rS (x := 165) miX7_found (by decide +kernel) wd1261 wd1262)) ?_
  refine ce_op (okGoto (off := 46) (by decide +kernel) (by decide)) ?_
  refine ce_op (okIl1 (k := 1) (by decide +kernel) rfl) ?_
  refine ce_op (okIc1 (n := 1) (by decide +kernel) (by decide)) ?_
  refine ce_op (okCmNe (off := 19) (by decide +kernel) (by decide)) ?_
  refine ce_op (okAl1 (k := 0) (by decide +kernel) rfl) ?_
  refine ce_op (okGetR clX7 (k := 10) (x := 21) (by decide +kernel) (by decide) rfl wd1010 rfl (by decide +kernel)) ?_
  refine ce_op (okIc1 (n := 0) (by decide +kernel) (by decide)) ?_
  refine ce_op (okAl1 (k := 0) (by decide +kernel) rfl) ?_
  refine ce_op (okGetI clX7 (k := 4) (x := 220) (by decide +kernel) (by decide) rfl wd1004 (Or.inl rfl)) ?_
  refine ce_op (okIl1 (k := 2) (by decide +kernel) rfl) ?_
  refine ce_op (okCI miX7_found (rS (x := 165) miX7_found (by decide +kernel) wd1261 wd1262)) ?_
  refine ce_op (okGoto (off := 25) (by decide +kernel) (by decide)) ?_
  refine ce_op (okIl1 (k := 1) (by decide +kernel) rfl) ?_
  refine ce_op (okIc1 (n := 2) (by decide +kernel) (by decide)) ?_
  refine ce_op (okCmNe (off := 19) (by decide +kernel) (by decide)) ?_
  refine ce_op (okAl1 (k := 0) (by decide +kernel) rfl) ?_
  refine ce_op (okGetR clX7 (k := 11) (x := 24) (by decide +kernel) (by decide) rfl wd1011 rfl (by decide +kernel)) ?_
  refine ce_op (okIc1 (n := 0) (by decide +kernel) (by decide)) ?_
  refine ce_op (okAl1 (k := 0) (by decide +kernel) rfl) ?_
  refine ce_op (okGetI clX7 (k := 5) (x := 223) (by decide +kernel) (by decide) rfl wd1005 (Or.inl rfl)) ?_
  refine ce_op (okIl1 (k := 2) (by decide +kernel) rfl) ?_
  refine ce_op (okCI miX7_found (rS (x := 165) miX7_found (by decide +kernel) wd1261 wd1262)) ?_
  refine ce_op (okGoto (off := 4) (by decide +kernel) (by decide)) ?_
  refine ce_op (okIc1 (n := (-1)) (by decide +kernel) (by decide)) ?_
  refine ce_op (okIret (by decide +kernel) rfl) ?_
  exact ce_nil
set_option maxRecDepth 100000 in
def cdX7_isFirm : List CE := (0, 1, some (oIl 1)) :: (1, 3, some (oIfLt 16)) :: (4, 1, some (oIl 1)) :: (5, 1, some (oAl 0)) :: (6, 3, some (oGetI 7 5)) :: (9, 3, some (oCmGe 16)) ::
  (12, 1, some (oIc 1)) :: (13, 3, some (oGoto 17)) :: (16, 1, some (oIc 0)) :: (17, 1, some oZret) :: []
set_option maxRecDepth 100000 in
set_option maxHeartbeats 4000000 in
theorem okX7_isFirm : CodeOk mX7_isFirm cdX7_isFirm := by
  refine ⟨by rfl, ?_⟩
  show CodeAll mX7_isFirm cdX7_isFirm
  refine ce_op (okIl1 (k := 1) (by decide +kernel) rfl) ?_
  refine ce_op (okIfLt (off := 15) (by decide +kernel) (by decide)) ?_
  refine ce_op (okIl1 (k := 1) (by decide +kernel) rfl) ?_
  refine ce_op (okAl1 (k := 0) (by decide +kernel) rfl) ?_
  refine ce_op (okGetI clX7 (k := 5) (x := 223) (by decide +kernel) (by decide) rfl wd1005 (Or.inl rfl)) ?_
  refine ce_op (okCmGe (off := 7) (by decide +kernel) (by decide)) ?_
  refine ce_op (okIc1 (n := 1) (by decide +kernel) (by decide)) ?_
  refine ce_op (okGoto (off := 4) (by decide +kernel) (by decide)) ?_
  refine ce_op (okIc1 (n := 0) (by decide +kernel) (by decide)) ?_
  refine ce_op (okZret (by decide +kernel) rfl) ?_
  exact ce_nil
set_option maxRecDepth 100000 in
def cdX7_isSale : List CE := (0, 1, some (oIl 1)) :: (1, 3, some (oIfLt 16)) :: (4, 1, some (oIl 1)) :: (5, 1, some (oAl 0)) :: (6, 3, some (oGetI 7 6)) :: (9, 3, some (oCmGe 16)) ::
  (12, 1, some (oIc 1)) :: (13, 3, some (oGoto 17)) :: (16, 1, some (oIc 0)) :: (17, 1, some oZret) :: []
set_option maxRecDepth 100000 in
set_option maxHeartbeats 4000000 in
theorem okX7_isSale : CodeOk mX7_isSale cdX7_isSale := by
  refine ⟨by rfl, ?_⟩
  show CodeAll mX7_isSale cdX7_isSale
  refine ce_op (okIl1 (k := 1) (by decide +kernel) rfl) ?_
  refine ce_op (okIfLt (off := 15) (by decide +kernel) (by decide)) ?_
  refine ce_op (okIl1 (k := 1) (by decide +kernel) rfl) ?_
  refine ce_op (okAl1 (k := 0) (by decide +kernel) rfl) ?_
  refine ce_op (okGetI clX7 (k := 6) (x := 226) (by decide +kernel) (by decide) rfl wd1006 (Or.inl rfl)) ?_
  refine ce_op (okCmGe (off := 7) (by decide +kernel) (by decide)) ?_
  refine ce_op (okIc1 (n := 1) (by decide +kernel) (by decide)) ?_
  refine ce_op (okGoto (off := 4) (by decide +kernel) (by decide)) ?_
  refine ce_op (okIc1 (n := 0) (by decide +kernel) (by decide)) ?_
  refine ce_op (okZret (by decide +kernel) rfl) ?_
  exact ce_nil
set_option maxRecDepth 100000 in
def cdX7_rate : List CE := (0, 1, some (oAl 0)) :: (1, 3, some (oGetR [(1175, 99576)])) :: (4, 1, some (oAl 0)) :: (5, 3, some (oGetR [(1175, 329048)])) :: (8, 1, some (oIl 1)) :: (9, 1, some oIald) ::
  (10, 1, some oIald) :: (11, 1, some (oIs 3)) :: (12, 1, some (oIl 3)) :: (13, 1, some (oAl 0)) :: (14, 3, some (oGetR [(1175, 99576)])) :: (17, 1, some (oAl 0)) ::
  (18, 3, some (oGetR [(1175, 329064)])) :: (21, 1, some (oIl 1)) :: (22, 1, some oIald) :: (23, 1, some oIald) :: (24, 3, some (oCmNe 36)) :: (27, 1, some (oIl 2)) ::
  (28, 1, some (oIl 3)) :: (29, 1, some oIshr) :: (30, 1, some (oIc 1)) :: (31, 1, some oIand) :: (32, 1, some (oIc 1)) :: (33, 3, some (oCmNe 40)) ::
  (36, 1, some (oIc 0)) :: (37, 3, some (oGoto 46)) :: (40, 1, some (oAl 0)) :: (41, 3, some (oGetR [(1175, 42184)])) :: (44, 1, some (oIl 3)) :: (45, 1, some oIald) ::
  (46, 1, some oIret) :: []
set_option maxRecDepth 100000 in
set_option maxHeartbeats 4000000 in
theorem okX7_rate : CodeOk mX7_rate cdX7_rate := by
  refine ⟨by rfl, ?_⟩
  show CodeAll mX7_rate cdX7_rate
  refine ce_op (okAl1 (k := 0) (by decide +kernel) rfl) ?_
  refine ce_op (okGetR clX7 (k := 12) (x := 27) (by decide +kernel) (by decide) rfl wd1012 rfl (by decide +kernel)) ?_
  refine ce_op (okAl1 (k := 0) (by decide +kernel) rfl) ?_
  refine ce_op (okGetR clX7 (k := 18) (x := 46) (by decide +kernel) (by decide) rfl wd1018 rfl (by decide +kernel)) ?_
  refine ce_op (okIl1 (k := 1) (by decide +kernel) rfl) ?_
  refine ce_op (okIald (by decide +kernel)) ?_
  refine ce_op (okIald (by decide +kernel)) ?_
  refine ce_op (okIs1 (k := 3) (by decide +kernel) rfl (by decide)) ?_
  refine ce_op (okIl1 (k := 3) (by decide +kernel) rfl) ?_
  refine ce_op (okAl1 (k := 0) (by decide +kernel) rfl) ?_
  refine ce_op (okGetR clX7 (k := 12) (x := 27) (by decide +kernel) (by decide) rfl wd1012 rfl (by decide +kernel)) ?_
  refine ce_op (okAl1 (k := 0) (by decide +kernel) rfl) ?_
  refine ce_op (okGetR clX7 (k := 19) (x := 49) (by decide +kernel) (by decide) rfl wd1019 rfl (by decide +kernel)) ?_
  refine ce_op (okIl1 (k := 1) (by decide +kernel) rfl) ?_
  refine ce_op (okIald (by decide +kernel)) ?_
  refine ce_op (okIald (by decide +kernel)) ?_
  refine ce_op (okCmNe (off := 12) (by decide +kernel) (by decide)) ?_
  refine ce_op (okIl1 (k := 2) (by decide +kernel) rfl) ?_
  refine ce_op (okIl1 (k := 3) (by decide +kernel) rfl) ?_
  refine ce_op (okIshr (by decide +kernel)) ?_
  refine ce_op (okIc1 (n := 1) (by decide +kernel) (by decide)) ?_
  refine ce_op (okIand (by decide +kernel)) ?_
  refine ce_op (okIc1 (n := 1) (by decide +kernel) (by decide)) ?_
  refine ce_op (okCmNe (off := 7) (by decide +kernel) (by decide)) ?_
  refine ce_op (okIc1 (n := 0) (by decide +kernel) (by decide)) ?_
  refine ce_op (okGoto (off := 9) (by decide +kernel) (by decide)) ?_
  refine ce_op (okAl1 (k := 0) (by decide +kernel) rfl) ?_
  refine ce_op (okGetR clX7 (k := 9) (x := 18) (by decide +kernel) (by decide) rfl wd1009 rfl (by decide +kernel)) ?_
  refine ce_op (okIl1 (k := 3) (by decide +kernel) rfl) ?_
  refine ce_op (okIald (by decide +kernel)) ?_
  refine ce_op (okIret (by decide +kernel) rfl) ?_
  exact ce_nil
set_option maxRecDepth 100000 in
def cdX7_taxOf : List CE := (0, 1, some (oAl 0)) :: (1, 3, some (oGetR [(1175, 329080)])) :: (4, 1, some (oIl 1)) :: (5, 1, some oIald) :: (6, 1, some (oAl 0)) :: (7, 3, some (oGetR [(1175, 329112)])) ::
  (10, 1, some (oIl 1)) :: (11, 1, some oIald) :: (12, 1, some oImul) :: (13, 1, some (oAl 0)) :: (14, 1, some (oIl 1)) :: (15, 1, some (oIl 2)) ::
  (16, 3, some (oCI 7 mX7_rate 3)) :: (19, 1, some oImul) :: (20, 1, some oIret) :: []
set_option maxRecDepth 100000 in
set_option maxHeartbeats 4000000 in
theorem okX7_taxOf : CodeOk mX7_taxOf cdX7_taxOf := by
  refine ⟨by rfl, ?_⟩
  show CodeAll mX7_taxOf cdX7_taxOf
  refine ce_op (okAl1 (k := 0) (by decide +kernel) rfl) ?_
  refine ce_op (okGetR clX7 (k := 20) (x := 52) (by decide +kernel) (by decide) rfl wd1020 rfl (by decide +kernel)) ?_
  refine ce_op (okIl1 (k := 1) (by decide +kernel) rfl) ?_
  refine ce_op (okIald (by decide +kernel)) ?_
  refine ce_op (okAl1 (k := 0) (by decide +kernel) rfl) ?_
  refine ce_op (okGetR clX7 (k := 22) (x := 58) (by decide +kernel) (by decide) rfl wd1022 rfl (by decide +kernel)) ?_
  refine ce_op (okIl1 (k := 1) (by decide +kernel) rfl) ?_
  refine ce_op (okIald (by decide +kernel)) ?_
  refine ce_op (okImul (by decide +kernel)) ?_
  refine ce_op (okAl1 (k := 0) (by decide +kernel) rfl) ?_
  refine ce_op (okIl1 (k := 1) (by decide +kernel) rfl) ?_
  refine ce_op (okIl1 (k := 2) (by decide +kernel) rfl) ?_
  refine ce_op (okCI miX7_rate (rV clX7 (x := 238) miX7_rate rfl (by decide +kernel) wd1316 wd1318 wd64)) ?_
  refine ce_op (okImul (by decide +kernel)) ?_
  refine ce_op (okIret (by decide +kernel) rfl) ?_
  exact ce_nil
set_option maxRecDepth 100000 in
def cdX7_owes : List CE := (0, 1, some (oIc 0)) :: (1, 1, some (oIs 3)) :: (2, 1, some (oIc 0)) :: (3, 2, some (oIs 4)) :: (5, 0, none) :: (5, 2, some (oIl 4)) ::
  (7, 1, some (oAl 0)) :: (8, 3, some (oGetI 7 6)) :: (11, 3, some (oCmGe 67)) :: (14, 1, some (oIl 3)) :: (15, 1, some (oAl 0)) :: (16, 3, some (oGetR [(1175, 329048)])) ::
  (19, 2, some (oIl 4)) :: (21, 1, some oIald) :: (22, 1, some (oIl 1)) :: (23, 3, some (oCmNe 36)) :: (26, 1, some (oAl 0)) :: (27, 2, some (oIl 4)) ::
  (29, 1, some (oIl 2)) :: (30, 3, some (oCI 7 mX7_taxOf 3)) :: (33, 3, some (oGoto 59)) :: (36, 1, some (oAl 0)) :: (37, 3, some (oGetR [(1175, 329064)])) :: (40, 2, some (oIl 4)) ::
  (42, 1, some oIald) :: (43, 1, some (oIl 1)) :: (44, 3, some (oCmNe 58)) :: (47, 1, some (oAl 0)) :: (48, 2, some (oIl 4)) :: (50, 1, some (oIl 2)) ::
  (51, 3, some (oCI 7 mX7_taxOf 3)) :: (54, 1, some oIneg) :: (55, 3, some (oGoto 59)) :: (58, 1, some (oIc 0)) :: (59, 1, some oIadd) :: (60, 1, some (oIs 3)) ::
  (61, 3, some (oInc 4 1)) :: (64, 3, some (oGoto 5)) :: (67, 1, some (oIl 3)) :: (68, 1, some oIret) :: []
set_option maxRecDepth 100000 in
set_option maxHeartbeats 4000000 in
theorem okX7_owes : CodeOk mX7_owes cdX7_owes := by
  refine ⟨by rfl, ?_⟩
  show CodeAll mX7_owes cdX7_owes
  refine ce_op (okIc1 (n := 0) (by decide +kernel) (by decide)) ?_
  refine ce_op (okIs1 (k := 3) (by decide +kernel) rfl (by decide)) ?_
  refine ce_op (okIc1 (n := 0) (by decide +kernel) (by decide)) ?_
  refine ce_op (okIs2 (by decide +kernel) (by decide)) ?_
  refine ce_st ?_
  refine ce_op (okIl2 (by decide +kernel)) ?_
  refine ce_op (okAl1 (k := 0) (by decide +kernel) rfl) ?_
  refine ce_op (okGetI clX7 (k := 6) (x := 226) (by decide +kernel) (by decide) rfl wd1006 (Or.inl rfl)) ?_
  refine ce_op (okCmGe (off := 56) (by decide +kernel) (by decide)) ?_
  refine ce_op (okIl1 (k := 3) (by decide +kernel) rfl) ?_
  refine ce_op (okAl1 (k := 0) (by decide +kernel) rfl) ?_
  refine ce_op (okGetR clX7 (k := 18) (x := 46) (by decide +kernel) (by decide) rfl wd1018 rfl (by decide +kernel)) ?_
  refine ce_op (okIl2 (by decide +kernel)) ?_
  refine ce_op (okIald (by decide +kernel)) ?_
  refine ce_op (okIl1 (k := 1) (by decide +kernel) rfl) ?_
  refine ce_op (okCmNe (off := 13) (by decide +kernel) (by decide)) ?_
  refine ce_op (okAl1 (k := 0) (by decide +kernel) rfl) ?_
  refine ce_op (okIl2 (by decide +kernel)) ?_
  refine ce_op (okIl1 (k := 2) (by decide +kernel) rfl) ?_
  refine ce_op (okCI miX7_taxOf (rV clX7 (x := 241) miX7_taxOf rfl (by decide +kernel) wd1312 wd1314 wd63)) ?_
  refine ce_op (okGoto (off := 26) (by decide +kernel) (by decide)) ?_
  refine ce_op (okAl1 (k := 0) (by decide +kernel) rfl) ?_
  refine ce_op (okGetR clX7 (k := 19) (x := 49) (by decide +kernel) (by decide) rfl wd1019 rfl (by decide +kernel)) ?_
  refine ce_op (okIl2 (by decide +kernel)) ?_
  refine ce_op (okIald (by decide +kernel)) ?_
  refine ce_op (okIl1 (k := 1) (by decide +kernel) rfl) ?_
  refine ce_op (okCmNe (off := 14) (by decide +kernel) (by decide)) ?_
  refine ce_op (okAl1 (k := 0) (by decide +kernel) rfl) ?_
  refine ce_op (okIl2 (by decide +kernel)) ?_
  refine ce_op (okIl1 (k := 2) (by decide +kernel) rfl) ?_
  refine ce_op (okCI miX7_taxOf (rV clX7 (x := 241) miX7_taxOf rfl (by decide +kernel) wd1312 wd1314 wd63)) ?_
  refine ce_op (okIneg (by decide +kernel)) ?_
  refine ce_op (okGoto (off := 4) (by decide +kernel) (by decide)) ?_
  refine ce_op (okIc1 (n := 0) (by decide +kernel) (by decide)) ?_
  refine ce_op (okIadd (by decide +kernel)) ?_
  refine ce_op (okIs1 (k := 3) (by decide +kernel) rfl (by decide)) ?_
  refine ce_op (okInc (n := 1) (by decide +kernel) (by decide)) ?_
  refine ce_op (okGoto (off := (-59)) (by decide +kernel) (by decide)) ?_
  refine ce_op (okIl1 (k := 3) (by decide +kernel) rfl) ?_
  refine ce_op (okIret (by decide +kernel) rfl) ?_
  exact ce_nil
set_option maxRecDepth 100000 in
def cdX7_isMissing : List CE := (0, 1, some (oAl 0)) :: (1, 1, some (oIl 1)) :: (2, 1, some (oIl 2)) :: (3, 3, some (oCI 7 mX7_owes 3)) :: (6, 2, some (oIc 100)) :: (8, 1, some (oAl 0)) ::
  (9, 3, some (oGetR [(1175, 99640)])) :: (12, 1, some (oIl 1)) :: (13, 1, some oIald) :: (14, 1, some oImul) :: (15, 3, some (oCmLe 22)) :: (18, 1, some (oIc 1)) ::
  (19, 3, some (oGoto 23)) :: (22, 1, some (oIc 0)) :: (23, 1, some oZret) :: []
set_option maxRecDepth 100000 in
set_option maxHeartbeats 4000000 in
theorem okX7_isMissing : CodeOk mX7_isMissing cdX7_isMissing := by
  refine ⟨by rfl, ?_⟩
  show CodeAll mX7_isMissing cdX7_isMissing
  refine ce_op (okAl1 (k := 0) (by decide +kernel) rfl) ?_
  refine ce_op (okIl1 (k := 1) (by decide +kernel) rfl) ?_
  refine ce_op (okIl1 (k := 2) (by decide +kernel) rfl) ?_
  refine ce_op (okCI miX7_owes (rV clX7 (x := 244) miX7_owes rfl (by decide +kernel) wd1334 wd1336 wd67)) ?_
  refine ce_op (okIc2 (n := 100) (by decide +kernel) (by decide)) ?_
  refine ce_op (okAl1 (k := 0) (by decide +kernel) rfl) ?_
  refine ce_op (okGetR clX7 (k := 16) (x := 39) (by decide +kernel) (by decide) rfl wd1016 rfl (by decide +kernel)) ?_
  refine ce_op (okIl1 (k := 1) (by decide +kernel) rfl) ?_
  refine ce_op (okIald (by decide +kernel)) ?_
  refine ce_op (okImul (by decide +kernel)) ?_
  refine ce_op (okCmLe (off := 7) (by decide +kernel) (by decide)) ?_
  refine ce_op (okIc1 (n := 1) (by decide +kernel) (by decide)) ?_
  refine ce_op (okGoto (off := 4) (by decide +kernel) (by decide)) ?_
  refine ce_op (okIc1 (n := 0) (by decide +kernel) (by decide)) ?_
  refine ce_op (okZret (by decide +kernel) rfl) ?_
  exact ce_nil
set_option maxRecDepth 100000 in
def cdX7_parties : List CE := (0, 1, some (oIc 0)) :: (1, 1, some (oIs 1)) :: (2, 0, none) :: (2, 1, some (oIl 1)) :: (3, 1, some (oAl 0)) :: (4, 3, some (oGetI 7 5)) ::
  (7, 3, some (oCmGe 23)) :: (10, 1, some (oAl 0)) :: (11, 3, some (oGetR [(1175, 50632)])) :: (14, 1, some (oIl 1)) :: (15, 1, some (oIl 1)) :: (16, 1, some oIast) ::
  (17, 3, some (oInc 1 1)) :: (20, 3, some (oGoto 2)) :: (23, 1, some (oIc 0)) :: (24, 1, some (oIs 1)) :: (25, 0, none) :: (25, 1, some (oIl 1)) ::
  (26, 1, some (oAl 0)) :: (27, 3, some (oGetI 7 5)) :: (30, 3, some (oCmGe 140)) :: (33, 1, some (oIc 0)) :: (34, 1, some (oIs 2)) :: (35, 0, none) ::
  (35, 1, some (oIl 2)) :: (36, 1, some (oAl 0)) :: (37, 3, some (oGetI 7 5)) :: (40, 3, some (oCmGe 134)) :: (43, 1, some (oIc 0)) :: (44, 1, some (oIs 3)) ::
  (45, 0, none) :: (45, 1, some (oIl 3)) :: (46, 1, some (oAl 0)) :: (47, 3, some (oGetI 7 5)) :: (50, 3, some (oCmGe 128)) :: (53, 1, some (oAl 0)) ::
  (54, 3, some (oGetR [(1175, 99608)])) :: (57, 1, some (oIl 2)) :: (58, 1, some oIald) :: (59, 3, some (oIfEq 77)) :: (62, 1, some (oAl 0)) :: (63, 3, some (oGetR [(1175, 99608)])) ::
  (66, 1, some (oIl 2)) :: (67, 1, some oIald) :: (68, 1, some (oAl 0)) :: (69, 3, some (oGetR [(1175, 99608)])) :: (72, 1, some (oIl 3)) :: (73, 1, some oIald) ::
  (74, 3, some (oCmEq 101)) :: (77, 1, some (oAl 0)) :: (78, 3, some (oGetR [(1175, 99624)])) :: (81, 1, some (oIl 2)) :: (82, 1, some oIald) :: (83, 3, some (oIfEq 122)) ::
  (86, 1, some (oAl 0)) :: (87, 3, some (oGetR [(1175, 99624)])) :: (90, 1, some (oIl 2)) :: (91, 1, some oIald) :: (92, 1, some (oAl 0)) :: (93, 3, some (oGetR [(1175, 99624)])) ::
  (96, 1, some (oIl 3)) :: (97, 1, some oIald) :: (98, 3, some (oCmNe 122)) :: (101, 1, some (oAl 0)) :: (102, 3, some (oGetR [(1175, 50632)])) :: (105, 1, some (oIl 2)) ::
  (106, 1, some (oAl 0)) :: (107, 3, some (oGetR [(1175, 50632)])) :: (110, 1, some (oIl 2)) :: (111, 1, some oIald) :: (112, 1, some (oAl 0)) :: (113, 3, some (oGetR [(1175, 50632)])) ::
  (116, 1, some (oIl 3)) :: (117, 1, some oIald) :: (118, 3, some oMin) :: (121, 1, some oIast) :: (122, 3, some (oInc 3 1)) :: (125, 3, some (oGoto 45)) ::
  (128, 3, some (oInc 2 1)) :: (131, 3, some (oGoto 35)) :: (134, 3, some (oInc 1 1)) :: (137, 3, some (oGoto 25)) :: (140, 1, some oVret) :: []
set_option maxRecDepth 100000 in
set_option maxHeartbeats 4000000 in
theorem okX7_parties : CodeOk mX7_parties cdX7_parties := by
  refine ⟨by rfl, ?_⟩
  show CodeAll mX7_parties cdX7_parties
  refine ce_op (okIc1 (n := 0) (by decide +kernel) (by decide)) ?_
  refine ce_op (okIs1 (k := 1) (by decide +kernel) rfl (by decide)) ?_
  refine ce_st ?_
  refine ce_op (okIl1 (k := 1) (by decide +kernel) rfl) ?_
  refine ce_op (okAl1 (k := 0) (by decide +kernel) rfl) ?_
  refine ce_op (okGetI clX7 (k := 5) (x := 223) (by decide +kernel) (by decide) rfl wd1005 (Or.inl rfl)) ?_
  refine ce_op (okCmGe (off := 16) (by decide +kernel) (by decide)) ?_
  refine ce_op (okAl1 (k := 0) (by decide +kernel) rfl) ?_
  refine ce_op (okGetR clX7 (k := 41) (x := 71) (by decide +kernel) (by decide) rfl wd1041 rfl (by decide +kernel)) ?_
  refine ce_op (okIl1 (k := 1) (by decide +kernel) rfl) ?_
  refine ce_op (okIl1 (k := 1) (by decide +kernel) rfl) ?_
  refine ce_op (okIast (by decide +kernel)) ?_
  refine ce_op (okInc (n := 1) (by decide +kernel) (by decide)) ?_
  refine ce_op (okGoto (off := (-18)) (by decide +kernel) (by decide)) ?_
  refine ce_op (okIc1 (n := 0) (by decide +kernel) (by decide)) ?_
  refine ce_op (okIs1 (k := 1) (by decide +kernel) rfl (by decide)) ?_
  refine ce_st ?_
  refine ce_op (okIl1 (k := 1) (by decide +kernel) rfl) ?_
  refine ce_op (okAl1 (k := 0) (by decide +kernel) rfl) ?_
  refine ce_op (okGetI clX7 (k := 5) (x := 223) (by decide +kernel) (by decide) rfl wd1005 (Or.inl rfl)) ?_
  refine ce_op (okCmGe (off := 110) (by decide +kernel) (by decide)) ?_
  refine ce_op (okIc1 (n := 0) (by decide +kernel) (by decide)) ?_
  refine ce_op (okIs1 (k := 2) (by decide +kernel) rfl (by decide)) ?_
  refine ce_st ?_
  refine ce_op (okIl1 (k := 2) (by decide +kernel) rfl) ?_
  refine ce_op (okAl1 (k := 0) (by decide +kernel) rfl) ?_
  refine ce_op (okGetI clX7 (k := 5) (x := 223) (by decide +kernel) (by decide) rfl wd1005 (Or.inl rfl)) ?_
  refine ce_op (okCmGe (off := 94) (by decide +kernel) (by decide)) ?_
  refine ce_op (okIc1 (n := 0) (by decide +kernel) (by decide)) ?_
  refine ce_op (okIs1 (k := 3) (by decide +kernel) rfl (by decide)) ?_
  refine ce_st ?_
  refine ce_op (okIl1 (k := 3) (by decide +kernel) rfl) ?_
  refine ce_op (okAl1 (k := 0) (by decide +kernel) rfl) ?_
  refine ce_op (okGetI clX7 (k := 5) (x := 223) (by decide +kernel) (by decide) rfl wd1005 (Or.inl rfl)) ?_
  refine ce_op (okCmGe (off := 78) (by decide +kernel) (by decide)) ?_
  refine ce_op (okAl1 (k := 0) (by decide +kernel) rfl) ?_
  refine ce_op (okGetR clX7 (k := 14) (x := 33) (by decide +kernel) (by decide) rfl wd1014 rfl (by decide +kernel)) ?_
  refine ce_op (okIl1 (k := 2) (by decide +kernel) rfl) ?_
  refine ce_op (okIald (by decide +kernel)) ?_
  refine ce_op (okIfEq (off := 18) (by decide +kernel) (by decide)) ?_
  refine ce_op (okAl1 (k := 0) (by decide +kernel) rfl) ?_
  refine ce_op (okGetR clX7 (k := 14) (x := 33) (by decide +kernel) (by decide) rfl wd1014 rfl (by decide +kernel)) ?_
  refine ce_op (okIl1 (k := 2) (by decide +kernel) rfl) ?_
  refine ce_op (okIald (by decide +kernel)) ?_
  refine ce_op (okAl1 (k := 0) (by decide +kernel) rfl) ?_
  refine ce_op (okGetR clX7 (k := 14) (x := 33) (by decide +kernel) (by decide) rfl wd1014 rfl (by decide +kernel)) ?_
  refine ce_op (okIl1 (k := 3) (by decide +kernel) rfl) ?_
  refine ce_op (okIald (by decide +kernel)) ?_
  refine ce_op (okCmEq (off := 27) (by decide +kernel) (by decide)) ?_
  refine ce_op (okAl1 (k := 0) (by decide +kernel) rfl) ?_
  refine ce_op (okGetR clX7 (k := 15) (x := 36) (by decide +kernel) (by decide) rfl wd1015 rfl (by decide +kernel)) ?_
  refine ce_op (okIl1 (k := 2) (by decide +kernel) rfl) ?_
  refine ce_op (okIald (by decide +kernel)) ?_
  refine ce_op (okIfEq (off := 39) (by decide +kernel) (by decide)) ?_
  refine ce_op (okAl1 (k := 0) (by decide +kernel) rfl) ?_
  refine ce_op (okGetR clX7 (k := 15) (x := 36) (by decide +kernel) (by decide) rfl wd1015 rfl (by decide +kernel)) ?_
  refine ce_op (okIl1 (k := 2) (by decide +kernel) rfl) ?_
  refine ce_op (okIald (by decide +kernel)) ?_
  refine ce_op (okAl1 (k := 0) (by decide +kernel) rfl) ?_
  refine ce_op (okGetR clX7 (k := 15) (x := 36) (by decide +kernel) (by decide) rfl wd1015 rfl (by decide +kernel)) ?_
  refine ce_op (okIl1 (k := 3) (by decide +kernel) rfl) ?_
  refine ce_op (okIald (by decide +kernel)) ?_
  refine ce_op (okCmNe (off := 24) (by decide +kernel) (by decide)) ?_
  refine ce_op (okAl1 (k := 0) (by decide +kernel) rfl) ?_
  refine ce_op (okGetR clX7 (k := 41) (x := 71) (by decide +kernel) (by decide) rfl wd1041 rfl (by decide +kernel)) ?_
  refine ce_op (okIl1 (k := 2) (by decide +kernel) rfl) ?_
  refine ce_op (okAl1 (k := 0) (by decide +kernel) rfl) ?_
  refine ce_op (okGetR clX7 (k := 41) (x := 71) (by decide +kernel) (by decide) rfl wd1041 rfl (by decide +kernel)) ?_
  refine ce_op (okIl1 (k := 2) (by decide +kernel) rfl) ?_
  refine ce_op (okIald (by decide +kernel)) ?_
  refine ce_op (okAl1 (k := 0) (by decide +kernel) rfl) ?_
  refine ce_op (okGetR clX7 (k := 41) (x := 71) (by decide +kernel) (by decide) rfl wd1041 rfl (by decide +kernel)) ?_
  refine ce_op (okIl1 (k := 3) (by decide +kernel) rfl) ?_
  refine ce_op (okIald (by decide +kernel)) ?_
  refine ce_op (okMin (x := 247) (by decide +kernel) wd1333 wd461 wd98 wd462) ?_
  refine ce_op (okIast (by decide +kernel)) ?_
  refine ce_op (okInc (n := 1) (by decide +kernel) (by decide)) ?_
  refine ce_op (okGoto (off := (-80)) (by decide +kernel) (by decide)) ?_
  refine ce_op (okInc (n := 1) (by decide +kernel) (by decide)) ?_
  refine ce_op (okGoto (off := (-96)) (by decide +kernel) (by decide)) ?_
  refine ce_op (okInc (n := 1) (by decide +kernel) (by decide)) ?_
  refine ce_op (okGoto (off := (-112)) (by decide +kernel) (by decide)) ?_
  refine ce_op (okVret (by decide +kernel) rfl) ?_
  exact ce_nil
set_option maxRecDepth 100000 in
def cdX7_look : List CE := (0, 1, some (oAl 0)) :: (1, 1, some (oAl 0)) :: (2, 1, some (oIl 1)) :: (3, 3, some (oCI 7 mX7_isSale 2)) :: (6, 3, some (oIfNe 13)) :: (9, 1, some (oIc 1)) ::
  (10, 3, some (oGoto 28)) :: (13, 1, some (oIl 2)) :: (14, 3, some (oIfLt 23)) :: (17, 1, some (oIl 2)) :: (18, 2, some (oIc 7)) :: (20, 3, some (oCmLe 27)) ::
  (23, 1, some (oIc 2)) :: (24, 3, some (oGoto 28)) :: (27, 1, some (oIc 0)) :: (28, 3, some (oPutI 7 0)) :: (31, 1, some (oAl 0)) :: (32, 3, some (oGetI 7 0)) ::
  (35, 3, some (oIfEq 40)) :: (38, 1, some (oIc 0)) :: (39, 1, some oIret) :: (40, 1, some (oIl 2)) :: (41, 43, some (oSw [(0, 84), (1, 91), (2, 98), (3, 105), (4, 112), (5, 119), (6, 126)] 133)) :: (84, 1, some (oAl 0)) ::
  (85, 3, some (oGetR [(1175, 329048)])) :: (88, 1, some (oIl 1)) :: (89, 1, some oIald) :: (90, 1, some oIret) :: (91, 1, some (oAl 0)) :: (92, 3, some (oGetR [(1175, 329064)])) ::
  (95, 1, some (oIl 1)) :: (96, 1, some oIald) :: (97, 1, some oIret) :: (98, 1, some (oAl 0)) :: (99, 3, some (oGetR [(1175, 329080)])) :: (102, 1, some (oIl 1)) ::
  (103, 1, some oIald) :: (104, 1, some oIret) :: (105, 1, some (oAl 0)) :: (106, 3, some (oGetR [(1175, 329096)])) :: (109, 1, some (oIl 1)) :: (110, 1, some oIald) ::
  (111, 1, some oIret) :: (112, 1, some (oAl 0)) :: (113, 3, some (oGetR [(1175, 329112)])) :: (116, 1, some (oIl 1)) :: (117, 1, some oIald) :: (118, 1, some oIret) ::
  (119, 1, some (oAl 0)) :: (120, 3, some (oGetR [(1175, 329128)])) :: (123, 1, some (oIl 1)) :: (124, 1, some oIald) :: (125, 1, some oIret) :: (126, 1, some (oAl 0)) ::
  (127, 3, some (oGetR [(1175, 329144)])) :: (130, 1, some (oIl 1)) :: (131, 1, some oIald) :: (132, 1, some oIret) :: (133, 1, some (oAl 0)) :: (134, 1, some (oIl 1)) ::
  (135, 1, some (oAl 0)) :: (136, 3, some (oGetI 7 40)) :: (139, 3, some (oCI 7 mX7_taxOf 3)) :: (142, 1, some oIret) :: []
set_option maxRecDepth 100000 in
set_option maxHeartbeats 4000000 in
theorem okX7_look : CodeOk mX7_look cdX7_look := by
  refine ⟨by rfl, ?_⟩
  show CodeAll mX7_look cdX7_look
  refine ce_op (okAl1 (k := 0) (by decide +kernel) rfl) ?_
  refine ce_op (okAl1 (k := 0) (by decide +kernel) rfl) ?_
  refine ce_op (okIl1 (k := 1) (by decide +kernel) rfl) ?_
  refine ce_op (okCI miX7_isSale (rV clX7 (x := 252) miX7_isSale rfl (by decide +kernel) wd1308 wd1310 wd62)) ?_
  refine ce_op (okIfNe (off := 7) (by decide +kernel) (by decide)) ?_
  refine ce_op (okIc1 (n := 1) (by decide +kernel) (by decide)) ?_
  refine ce_op (okGoto (off := 18) (by decide +kernel) (by decide)) ?_
  refine ce_op (okIl1 (k := 2) (by decide +kernel) rfl) ?_
  refine ce_op (okIfLt (off := 9) (by decide +kernel) (by decide)) ?_
  refine ce_op (okIl1 (k := 2) (by decide +kernel) rfl) ?_
  refine ce_op (okIc2 (n := 7) (by decide +kernel) (by decide)) ?_
  refine ce_op (okCmLe (off := 7) (by decide +kernel) (by decide)) ?_
  refine ce_op (okIc1 (n := 2) (by decide +kernel) (by decide)) ?_
  refine ce_op (okGoto (off := 4) (by decide +kernel) (by decide)) ?_
  refine ce_op (okIc1 (n := 0) (by decide +kernel) (by decide)) ?_
  refine ce_op (okPutI clX7 (k := 0) (x := 102) (by decide +kernel) (by decide) rfl wd1000 rfl rfl (by decide +kernel)) ?_
  refine ce_op (okAl1 (k := 0) (by decide +kernel) rfl) ?_
  refine ce_op (okGetI clX7 (k := 0) (x := 102) (by decide +kernel) (by decide) rfl wd1000 (Or.inl rfl)) ?_
  refine ce_op (okIfEq (off := 5) (by decide +kernel) (by decide)) ?_
  refine ce_op (okIc1 (n := 0) (by decide +kernel) (by decide)) ?_
  refine ce_op (okIret (by decide +kernel) rfl) ?_
  refine ce_op (okIl1 (k := 2) (by decide +kernel) rfl) ?_
  refine ce_op (okTsw (dO := 92) (lo := 0) (hi := 6) (offs := #[43, 50, 57, 64, 71, 78, 85]) (by decide +kernel) (by decide) (by decide +kernel) (by decide +kernel) (sw_all (by decide +kernel))) ?_
  refine ce_op (okAl1 (k := 0) (by decide +kernel) rfl) ?_
  refine ce_op (okGetR clX7 (k := 18) (x := 46) (by decide +kernel) (by decide) rfl wd1018 rfl (by decide +kernel)) ?_
  refine ce_op (okIl1 (k := 1) (by decide +kernel) rfl) ?_
  refine ce_op (okIald (by decide +kernel)) ?_
  refine ce_op (okIret (by decide +kernel) rfl) ?_
  refine ce_op (okAl1 (k := 0) (by decide +kernel) rfl) ?_
  refine ce_op (okGetR clX7 (k := 19) (x := 49) (by decide +kernel) (by decide) rfl wd1019 rfl (by decide +kernel)) ?_
  refine ce_op (okIl1 (k := 1) (by decide +kernel) rfl) ?_
  refine ce_op (okIald (by decide +kernel)) ?_
  refine ce_op (okIret (by decide +kernel) rfl) ?_
  refine ce_op (okAl1 (k := 0) (by decide +kernel) rfl) ?_
  refine ce_op (okGetR clX7 (k := 20) (x := 52) (by decide +kernel) (by decide) rfl wd1020 rfl (by decide +kernel)) ?_
  refine ce_op (okIl1 (k := 1) (by decide +kernel) rfl) ?_
  refine ce_op (okIald (by decide +kernel)) ?_
  refine ce_op (okIret (by decide +kernel) rfl) ?_
  refine ce_op (okAl1 (k := 0) (by decide +kernel) rfl) ?_
  refine ce_op (okGetR clX7 (k := 21) (x := 55) (by decide +kernel) (by decide) rfl wd1021 rfl (by decide +kernel)) ?_
  refine ce_op (okIl1 (k := 1) (by decide +kernel) rfl) ?_
  refine ce_op (okIald (by decide +kernel)) ?_
  refine ce_op (okIret (by decide +kernel) rfl) ?_
  refine ce_op (okAl1 (k := 0) (by decide +kernel) rfl) ?_
  refine ce_op (okGetR clX7 (k := 22) (x := 58) (by decide +kernel) (by decide) rfl wd1022 rfl (by decide +kernel)) ?_
  refine ce_op (okIl1 (k := 1) (by decide +kernel) rfl) ?_
  refine ce_op (okIald (by decide +kernel)) ?_
  refine ce_op (okIret (by decide +kernel) rfl) ?_
  refine ce_op (okAl1 (k := 0) (by decide +kernel) rfl) ?_
  refine ce_op (okGetR clX7 (k := 23) (x := 61) (by decide +kernel) (by decide) rfl wd1023 rfl (by decide +kernel)) ?_
  refine ce_op (okIl1 (k := 1) (by decide +kernel) rfl) ?_
  refine ce_op (okIald (by decide +kernel)) ?_
  refine ce_op (okIret (by decide +kernel) rfl) ?_
  refine ce_op (okAl1 (k := 0) (by decide +kernel) rfl) ?_
  refine ce_op (okGetR clX7 (k := 24) (x := 64) (by decide +kernel) (by decide) rfl wd1024 rfl (by decide +kernel)) ?_
  refine ce_op (okIl1 (k := 1) (by decide +kernel) rfl) ?_
  refine ce_op (okIald (by decide +kernel)) ?_
  refine ce_op (okIret (by decide +kernel) rfl) ?_
  refine ce_op (okAl1 (k := 0) (by decide +kernel) rfl) ?_
  refine ce_op (okIl1 (k := 1) (by decide +kernel) rfl) ?_
  refine ce_op (okAl1 (k := 0) (by decide +kernel) rfl) ?_
  refine ce_op (okGetI clX7 (k := 40) (x := 235) (by decide +kernel) (by decide) rfl wd1040 (Or.inl rfl)) ?_
  refine ce_op (okCI miX7_taxOf (rV clX7 (x := 241) miX7_taxOf rfl (by decide +kernel) wd1312 wd1314 wd63)) ?_
  refine ce_op (okIret (by decide +kernel) rfl) ?_
  exact ce_nil
set_option maxRecDepth 100000 in
def cdX7_firm : List CE := (0, 1, some (oAl 0)) :: (1, 1, some (oIc 0)) :: (2, 3, some (oPutI 7 0)) :: (5, 1, some (oAl 0)) :: (6, 1, some (oIl 1)) :: (7, 3, some (oCI 7 mX7_isFirm 2)) ::
  (10, 3, some (oIfEq 23)) :: (13, 1, some (oIl 2)) :: (14, 3, some (oIfLt 23)) :: (17, 1, some (oIl 2)) :: (18, 2, some (oIc 7)) :: (20, 3, some (oCmLe 27)) ::
  (23, 3, some (oIc (-2147483648))) :: (26, 1, some oIret) :: (27, 1, some (oAl 0)) :: (28, 3, some (oCV 7 mX7_parties 1)) :: (31, 1, some (oIl 2)) :: (32, 44, some (oSw [(0, 76), (1, 83), (2, 90), (3, 97), (4, 104), (5, 114), (6, 124)] 142)) ::
  (76, 1, some (oAl 0)) :: (77, 3, some (oGetR [(1175, 99576)])) :: (80, 1, some (oIl 1)) :: (81, 1, some oIald) :: (82, 1, some oIret) :: (83, 1, some (oAl 0)) ::
  (84, 3, some (oGetR [(1175, 99592)])) :: (87, 1, some (oIl 1)) :: (88, 1, some oIald) :: (89, 1, some oIret) :: (90, 1, some (oAl 0)) :: (91, 3, some (oGetR [(1175, 99608)])) ::
  (94, 1, some (oIl 1)) :: (95, 1, some oIald) :: (96, 1, some oIret) :: (97, 1, some (oAl 0)) :: (98, 3, some (oGetR [(1175, 99624)])) :: (101, 1, some (oIl 1)) ::
  (102, 1, some oIald) :: (103, 1, some oIret) :: (104, 1, some (oAl 0)) :: (105, 1, some (oIl 1)) :: (106, 1, some (oAl 0)) :: (107, 3, some (oGetI 7 40)) ::
  (110, 3, some (oCI 7 mX7_owes 3)) :: (113, 1, some oIret) :: (114, 2, some (oIc 100)) :: (116, 1, some (oAl 0)) :: (117, 3, some (oGetR [(1175, 99640)])) :: (120, 1, some (oIl 1)) ::
  (121, 1, some oIald) :: (122, 1, some oImul) :: (123, 1, some oIret) :: (124, 1, some (oAl 0)) :: (125, 1, some (oIl 1)) :: (126, 1, some (oAl 0)) ::
  (127, 3, some (oGetI 7 40)) :: (130, 3, some (oCI 7 mX7_isMissing 3)) :: (133, 3, some (oIfEq 140)) :: (136, 1, some (oIc 1)) :: (137, 3, some (oGoto 141)) :: (140, 1, some (oIc 0)) ::
  (141, 1, some oIret) :: (142, 1, some (oAl 0)) :: (143, 3, some (oGetR [(1175, 50632)])) :: (146, 1, some (oIl 1)) :: (147, 1, some oIald) :: (148, 1, some oIret) :: []
set_option maxRecDepth 100000 in
set_option maxHeartbeats 4000000 in
theorem okX7_firm : CodeOk mX7_firm cdX7_firm := by
  refine ⟨by rfl, ?_⟩
  show CodeAll mX7_firm cdX7_firm
  refine ce_op (okAl1 (k := 0) (by decide +kernel) rfl) ?_
  refine ce_op (okIc1 (n := 0) (by decide +kernel) (by decide)) ?_
  refine ce_op (okPutI clX7 (k := 0) (x := 102) (by decide +kernel) (by decide) rfl wd1000 rfl rfl (by decide +kernel)) ?_
  refine ce_op (okAl1 (k := 0) (by decide +kernel) rfl) ?_
  refine ce_op (okIl1 (k := 1) (by decide +kernel) rfl) ?_
  refine ce_op (okCI miX7_isFirm (rV clX7 (x := 255) miX7_isFirm rfl (by decide +kernel) wd1324 wd1326 wd65)) ?_
  refine ce_op (okIfEq (off := 13) (by decide +kernel) (by decide)) ?_
  refine ce_op (okIl1 (k := 2) (by decide +kernel) rfl) ?_
  refine ce_op (okIfLt (off := 9) (by decide +kernel) (by decide)) ?_
  refine ce_op (okIl1 (k := 2) (by decide +kernel) rfl) ?_
  refine ce_op (okIc2 (n := 7) (by decide +kernel) (by decide)) ?_
  refine ce_op (okCmLe (off := 7) (by decide +kernel) (by decide)) ?_
  refine ce_op (okIcW (k := 258) (by decide +kernel) wd1328) ?_
  refine ce_op (okIret (by decide +kernel) rfl) ?_
  refine ce_op (okAl1 (k := 0) (by decide +kernel) rfl) ?_
  refine ce_op (okCV miX7_parties (rV clX7 (x := 259) miX7_parties rfl (by decide +kernel) wd1329 wd1331 wd66)) ?_
  refine ce_op (okIl1 (k := 2) (by decide +kernel) rfl) ?_
  refine ce_op (okTsw (dO := 110) (lo := 0) (hi := 6) (offs := #[44, 51, 58, 65, 72, 82, 92]) (by decide +kernel) (by decide) (by decide +kernel) (by decide +kernel) (sw_all (by decide +kernel))) ?_
  refine ce_op (okAl1 (k := 0) (by decide +kernel) rfl) ?_
  refine ce_op (okGetR clX7 (k := 12) (x := 27) (by decide +kernel) (by decide) rfl wd1012 rfl (by decide +kernel)) ?_
  refine ce_op (okIl1 (k := 1) (by decide +kernel) rfl) ?_
  refine ce_op (okIald (by decide +kernel)) ?_
  refine ce_op (okIret (by decide +kernel) rfl) ?_
  refine ce_op (okAl1 (k := 0) (by decide +kernel) rfl) ?_
  refine ce_op (okGetR clX7 (k := 13) (x := 30) (by decide +kernel) (by decide) rfl wd1013 rfl (by decide +kernel)) ?_
  refine ce_op (okIl1 (k := 1) (by decide +kernel) rfl) ?_
  refine ce_op (okIald (by decide +kernel)) ?_
  refine ce_op (okIret (by decide +kernel) rfl) ?_
  refine ce_op (okAl1 (k := 0) (by decide +kernel) rfl) ?_
  refine ce_op (okGetR clX7 (k := 14) (x := 33) (by decide +kernel) (by decide) rfl wd1014 rfl (by decide +kernel)) ?_
  refine ce_op (okIl1 (k := 1) (by decide +kernel) rfl) ?_
  refine ce_op (okIald (by decide +kernel)) ?_
  refine ce_op (okIret (by decide +kernel) rfl) ?_
  refine ce_op (okAl1 (k := 0) (by decide +kernel) rfl) ?_
  refine ce_op (okGetR clX7 (k := 15) (x := 36) (by decide +kernel) (by decide) rfl wd1015 rfl (by decide +kernel)) ?_
  refine ce_op (okIl1 (k := 1) (by decide +kernel) rfl) ?_
  refine ce_op (okIald (by decide +kernel)) ?_
  refine ce_op (okIret (by decide +kernel) rfl) ?_
  refine ce_op (okAl1 (k := 0) (by decide +kernel) rfl) ?_
  refine ce_op (okIl1 (k := 1) (by decide +kernel) rfl) ?_
  refine ce_op (okAl1 (k := 0) (by decide +kernel) rfl) ?_
  refine ce_op (okGetI clX7 (k := 40) (x := 235) (by decide +kernel) (by decide) rfl wd1040 (Or.inl rfl)) ?_
  refine ce_op (okCI miX7_owes (rV clX7 (x := 244) miX7_owes rfl (by decide +kernel) wd1334 wd1336 wd67)) ?_
  refine ce_op (okIret (by decide +kernel) rfl) ?_
  refine ce_op (okIc2 (n := 100) (by decide +kernel) (by decide)) ?_
  refine ce_op (okAl1 (k := 0) (by decide +kernel) rfl) ?_
  refine ce_op (okGetR clX7 (k := 16) (x := 39) (by decide +kernel) (by decide) rfl wd1016 rfl (by decide +kernel)) ?_
  refine ce_op (okIl1 (k := 1) (by decide +kernel) rfl) ?_
  refine ce_op (okIald (by decide +kernel)) ?_
  refine ce_op (okImul (by decide +kernel)) ?_
  refine ce_op (okIret (by decide +kernel) rfl) ?_
  refine ce_op (okAl1 (k := 0) (by decide +kernel) rfl) ?_
  refine ce_op (okIl1 (k := 1) (by decide +kernel) rfl) ?_
  refine ce_op (okAl1 (k := 0) (by decide +kernel) rfl) ?_
  refine ce_op (okGetI clX7 (k := 40) (x := 235) (by decide +kernel) (by decide) rfl wd1040 (Or.inl rfl)) ?_
  refine ce_op (okCI miX7_isMissing (rV clX7 (x := 262) miX7_isMissing rfl (by decide +kernel) wd1338 wd1340 wd68)) ?_
  refine ce_op (okIfEq (off := 7) (by decide +kernel) (by decide)) ?_
  refine ce_op (okIc1 (n := 1) (by decide +kernel) (by decide)) ?_
  refine ce_op (okGoto (off := 4) (by decide +kernel) (by decide)) ?_
  refine ce_op (okIc1 (n := 0) (by decide +kernel) (by decide)) ?_
  refine ce_op (okIret (by decide +kernel) rfl) ?_
  refine ce_op (okAl1 (k := 0) (by decide +kernel) rfl) ?_
  refine ce_op (okGetR clX7 (k := 41) (x := 71) (by decide +kernel) (by decide) rfl wd1041 rfl (by decide +kernel)) ?_
  refine ce_op (okIl1 (k := 1) (by decide +kernel) rfl) ?_
  refine ce_op (okIald (by decide +kernel)) ?_
  refine ce_op (okIret (by decide +kernel) rfl) ?_
  exact ce_nil
set_option maxRecDepth 100000 in
def cdX7_sell : List CE := (0, 1, some (oAl 0)) :: (1, 1, some (oIc 0)) :: (2, 3, some (oPutI 7 0)) :: (5, 1, some (oAl 0)) :: (6, 1, some (oIl 1)) :: (7, 3, some (oCI 7 mX7_isFirm 2)) ::
  (10, 3, some (oIfEq 75)) :: (13, 1, some (oAl 0)) :: (14, 1, some (oIl 2)) :: (15, 3, some (oCI 7 mX7_isFirm 2)) :: (18, 3, some (oIfEq 75)) :: (21, 1, some (oIl 1)) ::
  (22, 1, some (oIl 2)) :: (23, 3, some (oCmEq 75)) :: (26, 1, some (oIl 3)) :: (27, 1, some (oIc 1)) :: (28, 3, some (oCmLt 75)) :: (31, 1, some (oIl 3)) ::
  (32, 3, some (oIc 999)) :: (35, 3, some (oCmGt 75)) :: (38, 2, some (oIl 4)) :: (40, 3, some (oIfLt 75)) :: (43, 2, some (oIl 4)) :: (45, 1, some (oAl 0)) ::
  (46, 3, some (oGetI 7 4)) :: (49, 3, some (oCmGe 75)) :: (52, 2, some (oIl 5)) :: (54, 1, some (oIc 1)) :: (55, 3, some (oCmLt 75)) :: (58, 2, some (oIl 5)) ::
  (60, 3, some (oIc 999)) :: (63, 3, some (oCmGt 75)) :: (66, 1, some (oAl 0)) :: (67, 3, some (oGetI 7 6)) :: (70, 2, some (oIc 40)) :: (72, 3, some (oCmNe 77)) ::
  (75, 1, some (oIc (-1))) :: (76, 1, some oIret) :: (77, 2, some (oIl 6)) :: (79, 1, some (oAl 0)) :: (80, 3, some (oGetR [(1175, 99592)])) :: (83, 1, some (oIl 1)) ::
  (84, 1, some oIald) :: (85, 3, some (oCmLt 119)) :: (88, 2, some (oIl 6)) :: (90, 1, some (oAl 0)) :: (91, 3, some (oGetR [(1175, 99592)])) :: (94, 1, some (oIl 2)) ::
  (95, 1, some oIald) :: (96, 3, some (oCmLt 119)) :: (99, 2, some (oIl 6)) :: (101, 3, some (oIc 400)) :: (104, 3, some (oCmGt 119)) :: (107, 2, some (oIl 7)) ::
  (109, 3, some (oIfLt 119)) :: (112, 2, some (oIl 7)) :: (114, 2, some (oIc 99)) :: (116, 3, some (oCmLe 121)) :: (119, 1, some (oIc (-1))) :: (120, 1, some oIret) ::
  (121, 1, some (oAl 0)) :: (122, 3, some (oGetR [(1175, 329048)])) :: (125, 1, some (oAl 0)) :: (126, 3, some (oGetI 7 6)) :: (129, 1, some (oIl 1)) :: (130, 1, some oIast) ::
  (131, 1, some (oAl 0)) :: (132, 3, some (oGetR [(1175, 329064)])) :: (135, 1, some (oAl 0)) :: (136, 3, some (oGetI 7 6)) :: (139, 1, some (oIl 2)) :: (140, 1, some oIast) ::
  (141, 1, some (oAl 0)) :: (142, 3, some (oGetR [(1175, 329080)])) :: (145, 1, some (oAl 0)) :: (146, 3, some (oGetI 7 6)) :: (149, 1, some (oIl 3)) :: (150, 1, some oIast) ::
  (151, 1, some (oAl 0)) :: (152, 3, some (oGetR [(1175, 329096)])) :: (155, 1, some (oAl 0)) :: (156, 3, some (oGetI 7 6)) :: (159, 2, some (oIl 4)) :: (161, 1, some oIast) ::
  (162, 1, some (oAl 0)) :: (163, 3, some (oGetR [(1175, 329112)])) :: (166, 1, some (oAl 0)) :: (167, 3, some (oGetI 7 6)) :: (170, 2, some (oIl 5)) :: (172, 1, some oIast) ::
  (173, 1, some (oAl 0)) :: (174, 3, some (oGetR [(1175, 329128)])) :: (177, 1, some (oAl 0)) :: (178, 3, some (oGetI 7 6)) :: (181, 2, some (oIl 6)) :: (183, 1, some oIast) ::
  (184, 1, some (oAl 0)) :: (185, 3, some (oGetR [(1175, 329144)])) :: (188, 1, some (oAl 0)) :: (189, 3, some (oGetI 7 6)) :: (192, 2, some (oIl 7)) :: (194, 1, some oIast) ::
  (195, 1, some (oAl 0)) :: (196, 1, some oDup) :: (197, 3, some (oGetI 7 6)) :: (200, 1, some (oIc 1)) :: (201, 1, some oIadd) :: (202, 3, some (oPutI 7 6)) ::
  (205, 1, some (oAl 0)) :: (206, 3, some (oGetI 7 6)) :: (209, 1, some (oIc 1)) :: (210, 1, some oIsub) :: (211, 1, some oIret) :: []
set_option maxRecDepth 100000 in
set_option maxHeartbeats 4000000 in
theorem okX7_sell : CodeOk mX7_sell cdX7_sell := by
  refine ⟨by rfl, ?_⟩
  show CodeAll mX7_sell cdX7_sell
  refine ce_op (okAl1 (k := 0) (by decide +kernel) rfl) ?_
  refine ce_op (okIc1 (n := 0) (by decide +kernel) (by decide)) ?_
  refine ce_op (okPutI clX7 (k := 0) (x := 102) (by decide +kernel) (by decide) rfl wd1000 rfl rfl (by decide +kernel)) ?_
  refine ce_op (okAl1 (k := 0) (by decide +kernel) rfl) ?_
  refine ce_op (okIl1 (k := 1) (by decide +kernel) rfl) ?_
  refine ce_op (okCI miX7_isFirm (rV clX7 (x := 255) miX7_isFirm rfl (by decide +kernel) wd1324 wd1326 wd65)) ?_
  refine ce_op (okIfEq (off := 65) (by decide +kernel) (by decide)) ?_
  refine ce_op (okAl1 (k := 0) (by decide +kernel) rfl) ?_
  refine ce_op (okIl1 (k := 2) (by decide +kernel) rfl) ?_
  refine ce_op (okCI miX7_isFirm (rV clX7 (x := 255) miX7_isFirm rfl (by decide +kernel) wd1324 wd1326 wd65)) ?_
  refine ce_op (okIfEq (off := 57) (by decide +kernel) (by decide)) ?_
  refine ce_op (okIl1 (k := 1) (by decide +kernel) rfl) ?_
  refine ce_op (okIl1 (k := 2) (by decide +kernel) rfl) ?_
  refine ce_op (okCmEq (off := 52) (by decide +kernel) (by decide)) ?_
  refine ce_op (okIl1 (k := 3) (by decide +kernel) rfl) ?_
  refine ce_op (okIc1 (n := 1) (by decide +kernel) (by decide)) ?_
  refine ce_op (okCmLt (off := 47) (by decide +kernel) (by decide)) ?_
  refine ce_op (okIl1 (k := 3) (by decide +kernel) rfl) ?_
  refine ce_op (okIc3 (n := 999) (by decide +kernel) (by decide)) ?_
  refine ce_op (okCmGt (off := 40) (by decide +kernel) (by decide)) ?_
  refine ce_op (okIl2 (by decide +kernel)) ?_
  refine ce_op (okIfLt (off := 35) (by decide +kernel) (by decide)) ?_
  refine ce_op (okIl2 (by decide +kernel)) ?_
  refine ce_op (okAl1 (k := 0) (by decide +kernel) rfl) ?_
  refine ce_op (okGetI clX7 (k := 4) (x := 220) (by decide +kernel) (by decide) rfl wd1004 (Or.inl rfl)) ?_
  refine ce_op (okCmGe (off := 26) (by decide +kernel) (by decide)) ?_
  refine ce_op (okIl2 (by decide +kernel)) ?_
  refine ce_op (okIc1 (n := 1) (by decide +kernel) (by decide)) ?_
  refine ce_op (okCmLt (off := 20) (by decide +kernel) (by decide)) ?_
  refine ce_op (okIl2 (by decide +kernel)) ?_
  refine ce_op (okIc3 (n := 999) (by decide +kernel) (by decide)) ?_
  refine ce_op (okCmGt (off := 12) (by decide +kernel) (by decide)) ?_
  refine ce_op (okAl1 (k := 0) (by decide +kernel) rfl) ?_
  refine ce_op (okGetI clX7 (k := 6) (x := 226) (by decide +kernel) (by decide) rfl wd1006 (Or.inl rfl)) ?_
  refine ce_op (okIc2 (n := 40) (by decide +kernel) (by decide)) ?_
  refine ce_op (okCmNe (off := 5) (by decide +kernel) (by decide)) ?_
  refine ce_op (okIc1 (n := (-1)) (by decide +kernel) (by decide)) ?_
  refine ce_op (okIret (by decide +kernel) rfl) ?_
  refine ce_op (okIl2 (by decide +kernel)) ?_
  refine ce_op (okAl1 (k := 0) (by decide +kernel) rfl) ?_
  refine ce_op (okGetR clX7 (k := 13) (x := 30) (by decide +kernel) (by decide) rfl wd1013 rfl (by decide +kernel)) ?_
  refine ce_op (okIl1 (k := 1) (by decide +kernel) rfl) ?_
  refine ce_op (okIald (by decide +kernel)) ?_
  refine ce_op (okCmLt (off := 34) (by decide +kernel) (by decide)) ?_
  refine ce_op (okIl2 (by decide +kernel)) ?_
  refine ce_op (okAl1 (k := 0) (by decide +kernel) rfl) ?_
  refine ce_op (okGetR clX7 (k := 13) (x := 30) (by decide +kernel) (by decide) rfl wd1013 rfl (by decide +kernel)) ?_
  refine ce_op (okIl1 (k := 2) (by decide +kernel) rfl) ?_
  refine ce_op (okIald (by decide +kernel)) ?_
  refine ce_op (okCmLt (off := 23) (by decide +kernel) (by decide)) ?_
  refine ce_op (okIl2 (by decide +kernel)) ?_
  refine ce_op (okIc3 (n := 400) (by decide +kernel) (by decide)) ?_
  refine ce_op (okCmGt (off := 15) (by decide +kernel) (by decide)) ?_
  refine ce_op (okIl2 (by decide +kernel)) ?_
  refine ce_op (okIfLt (off := 10) (by decide +kernel) (by decide)) ?_
  refine ce_op (okIl2 (by decide +kernel)) ?_
  refine ce_op (okIc2 (n := 99) (by decide +kernel) (by decide)) ?_
  refine ce_op (okCmLe (off := 5) (by decide +kernel) (by decide)) ?_
  refine ce_op (okIc1 (n := (-1)) (by decide +kernel) (by decide)) ?_
  refine ce_op (okIret (by decide +kernel) rfl) ?_
  refine ce_op (okAl1 (k := 0) (by decide +kernel) rfl) ?_
  refine ce_op (okGetR clX7 (k := 18) (x := 46) (by decide +kernel) (by decide) rfl wd1018 rfl (by decide +kernel)) ?_
  refine ce_op (okAl1 (k := 0) (by decide +kernel) rfl) ?_
  refine ce_op (okGetI clX7 (k := 6) (x := 226) (by decide +kernel) (by decide) rfl wd1006 (Or.inl rfl)) ?_
  refine ce_op (okIl1 (k := 1) (by decide +kernel) rfl) ?_
  refine ce_op (okIast (by decide +kernel)) ?_
  refine ce_op (okAl1 (k := 0) (by decide +kernel) rfl) ?_
  refine ce_op (okGetR clX7 (k := 19) (x := 49) (by decide +kernel) (by decide) rfl wd1019 rfl (by decide +kernel)) ?_
  refine ce_op (okAl1 (k := 0) (by decide +kernel) rfl) ?_
  refine ce_op (okGetI clX7 (k := 6) (x := 226) (by decide +kernel) (by decide) rfl wd1006 (Or.inl rfl)) ?_
  refine ce_op (okIl1 (k := 2) (by decide +kernel) rfl) ?_
  refine ce_op (okIast (by decide +kernel)) ?_
  refine ce_op (okAl1 (k := 0) (by decide +kernel) rfl) ?_
  refine ce_op (okGetR clX7 (k := 20) (x := 52) (by decide +kernel) (by decide) rfl wd1020 rfl (by decide +kernel)) ?_
  refine ce_op (okAl1 (k := 0) (by decide +kernel) rfl) ?_
  refine ce_op (okGetI clX7 (k := 6) (x := 226) (by decide +kernel) (by decide) rfl wd1006 (Or.inl rfl)) ?_
  refine ce_op (okIl1 (k := 3) (by decide +kernel) rfl) ?_
  refine ce_op (okIast (by decide +kernel)) ?_
  refine ce_op (okAl1 (k := 0) (by decide +kernel) rfl) ?_
  refine ce_op (okGetR clX7 (k := 21) (x := 55) (by decide +kernel) (by decide) rfl wd1021 rfl (by decide +kernel)) ?_
  refine ce_op (okAl1 (k := 0) (by decide +kernel) rfl) ?_
  refine ce_op (okGetI clX7 (k := 6) (x := 226) (by decide +kernel) (by decide) rfl wd1006 (Or.inl rfl)) ?_
  refine ce_op (okIl2 (by decide +kernel)) ?_
  refine ce_op (okIast (by decide +kernel)) ?_
  refine ce_op (okAl1 (k := 0) (by decide +kernel) rfl) ?_
  refine ce_op (okGetR clX7 (k := 22) (x := 58) (by decide +kernel) (by decide) rfl wd1022 rfl (by decide +kernel)) ?_
  refine ce_op (okAl1 (k := 0) (by decide +kernel) rfl) ?_
  refine ce_op (okGetI clX7 (k := 6) (x := 226) (by decide +kernel) (by decide) rfl wd1006 (Or.inl rfl)) ?_
  refine ce_op (okIl2 (by decide +kernel)) ?_
  refine ce_op (okIast (by decide +kernel)) ?_
  refine ce_op (okAl1 (k := 0) (by decide +kernel) rfl) ?_
  refine ce_op (okGetR clX7 (k := 23) (x := 61) (by decide +kernel) (by decide) rfl wd1023 rfl (by decide +kernel)) ?_
  refine ce_op (okAl1 (k := 0) (by decide +kernel) rfl) ?_
  refine ce_op (okGetI clX7 (k := 6) (x := 226) (by decide +kernel) (by decide) rfl wd1006 (Or.inl rfl)) ?_
  refine ce_op (okIl2 (by decide +kernel)) ?_
  refine ce_op (okIast (by decide +kernel)) ?_
  refine ce_op (okAl1 (k := 0) (by decide +kernel) rfl) ?_
  refine ce_op (okGetR clX7 (k := 24) (x := 64) (by decide +kernel) (by decide) rfl wd1024 rfl (by decide +kernel)) ?_
  refine ce_op (okAl1 (k := 0) (by decide +kernel) rfl) ?_
  refine ce_op (okGetI clX7 (k := 6) (x := 226) (by decide +kernel) (by decide) rfl wd1006 (Or.inl rfl)) ?_
  refine ce_op (okIl2 (by decide +kernel)) ?_
  refine ce_op (okIast (by decide +kernel)) ?_
  refine ce_op (okAl1 (k := 0) (by decide +kernel) rfl) ?_
  refine ce_op (okDup (by decide +kernel)) ?_
  refine ce_op (okGetI clX7 (k := 6) (x := 226) (by decide +kernel) (by decide) rfl wd1006 (Or.inl rfl)) ?_
  refine ce_op (okIc1 (n := 1) (by decide +kernel) (by decide)) ?_
  refine ce_op (okIadd (by decide +kernel)) ?_
  refine ce_op (okPutI clX7 (k := 6) (x := 226) (by decide +kernel) (by decide) rfl wd1006 rfl rfl (by decide +kernel)) ?_
  refine ce_op (okAl1 (k := 0) (by decide +kernel) rfl) ?_
  refine ce_op (okGetI clX7 (k := 6) (x := 226) (by decide +kernel) (by decide) rfl wd1006 (Or.inl rfl)) ?_
  refine ce_op (okIc1 (n := 1) (by decide +kernel) (by decide)) ?_
  refine ce_op (okIsub (by decide +kernel)) ?_
  refine ce_op (okIret (by decide +kernel) rfl) ?_
  exact ce_nil
set_option maxRecDepth 100000 in
def cdX7_undo : List CE := (0, 1, some (oAl 0)) :: (1, 1, some (oIc 0)) :: (2, 3, some (oPutI 7 0)) :: (5, 1, some (oAl 0)) :: (6, 3, some (oGetI 7 6)) :: (9, 1, some (oAl 0)) ::
  (10, 3, some (oGetI 7 7)) :: (13, 3, some (oCmNe 18)) :: (16, 1, some (oIc (-1))) :: (17, 1, some oIret) :: (18, 1, some (oAl 0)) :: (19, 1, some oDup) ::
  (20, 3, some (oGetI 7 6)) :: (23, 1, some (oIc 1)) :: (24, 1, some oIsub) :: (25, 3, some (oPutI 7 6)) :: (28, 1, some (oAl 0)) :: (29, 3, some (oGetI 7 6)) ::
  (32, 1, some (oAl 0)) :: (33, 3, some (oGetI 7 7)) :: (36, 1, some oIsub) :: (37, 1, some oIret) :: []
set_option maxRecDepth 100000 in
set_option maxHeartbeats 4000000 in
theorem okX7_undo : CodeOk mX7_undo cdX7_undo := by
  refine ⟨by rfl, ?_⟩
  show CodeAll mX7_undo cdX7_undo
  refine ce_op (okAl1 (k := 0) (by decide +kernel) rfl) ?_
  refine ce_op (okIc1 (n := 0) (by decide +kernel) (by decide)) ?_
  refine ce_op (okPutI clX7 (k := 0) (x := 102) (by decide +kernel) (by decide) rfl wd1000 rfl rfl (by decide +kernel)) ?_
  refine ce_op (okAl1 (k := 0) (by decide +kernel) rfl) ?_
  refine ce_op (okGetI clX7 (k := 6) (x := 226) (by decide +kernel) (by decide) rfl wd1006 (Or.inl rfl)) ?_
  refine ce_op (okAl1 (k := 0) (by decide +kernel) rfl) ?_
  refine ce_op (okGetI clX7 (k := 7) (x := 229) (by decide +kernel) (by decide) rfl wd1007 (Or.inl rfl)) ?_
  refine ce_op (okCmNe (off := 5) (by decide +kernel) (by decide)) ?_
  refine ce_op (okIc1 (n := (-1)) (by decide +kernel) (by decide)) ?_
  refine ce_op (okIret (by decide +kernel) rfl) ?_
  refine ce_op (okAl1 (k := 0) (by decide +kernel) rfl) ?_
  refine ce_op (okDup (by decide +kernel)) ?_
  refine ce_op (okGetI clX7 (k := 6) (x := 226) (by decide +kernel) (by decide) rfl wd1006 (Or.inl rfl)) ?_
  refine ce_op (okIc1 (n := 1) (by decide +kernel) (by decide)) ?_
  refine ce_op (okIsub (by decide +kernel)) ?_
  refine ce_op (okPutI clX7 (k := 6) (x := 226) (by decide +kernel) (by decide) rfl wd1006 rfl rfl (by decide +kernel)) ?_
  refine ce_op (okAl1 (k := 0) (by decide +kernel) rfl) ?_
  refine ce_op (okGetI clX7 (k := 6) (x := 226) (by decide +kernel) (by decide) rfl wd1006 (Or.inl rfl)) ?_
  refine ce_op (okAl1 (k := 0) (by decide +kernel) rfl) ?_
  refine ce_op (okGetI clX7 (k := 7) (x := 229) (by decide +kernel) (by decide) rfl wd1007 (Or.inl rfl)) ?_
  refine ce_op (okIsub (by decide +kernel)) ?_
  refine ce_op (okIret (by decide +kernel) rfl) ?_
  exact ce_nil
set_option maxRecDepth 100000 in
def cdX7_pay : List CE := (0, 1, some (oAl 0)) :: (1, 1, some (oIc 0)) :: (2, 3, some (oPutI 7 0)) :: (5, 1, some (oAl 0)) :: (6, 1, some (oIl 1)) :: (7, 3, some (oCI 7 mX7_isFirm 2)) ::
  (10, 3, some (oIfEq 36)) :: (13, 1, some (oIl 2)) :: (14, 3, some (oIfLt 36)) :: (17, 1, some (oIl 2)) :: (18, 2, some (oIc 999999)) :: (20, 3, some (oCmGt 36)) ::
  (23, 1, some (oAl 0)) :: (24, 3, some (oGetR [(1175, 99640)])) :: (27, 1, some (oIl 1)) :: (28, 1, some oIald) :: (29, 1, some (oIl 2)) :: (30, 1, some oIadd) ::
  (31, 2, some (oIc 999999)) :: (33, 3, some (oCmLe 38)) :: (36, 1, some (oIc (-1))) :: (37, 1, some oIret) :: (38, 1, some (oAl 0)) :: (39, 3, some (oGetR [(1175, 99640)])) ::
  (42, 1, some (oIl 1)) :: (43, 1, some oDup2) :: (44, 1, some oIald) :: (45, 1, some (oIl 2)) :: (46, 1, some oIadd) :: (47, 1, some oIast) ::
  (48, 1, some (oAl 0)) :: (49, 3, some (oGetR [(1175, 99640)])) :: (52, 1, some (oIl 1)) :: (53, 1, some oIald) :: (54, 1, some oIret) :: []
set_option maxRecDepth 100000 in
set_option maxHeartbeats 4000000 in
theorem okX7_pay : CodeOk mX7_pay cdX7_pay := by
  refine ⟨by rfl, ?_⟩
  show CodeAll mX7_pay cdX7_pay
  refine ce_op (okAl1 (k := 0) (by decide +kernel) rfl) ?_
  refine ce_op (okIc1 (n := 0) (by decide +kernel) (by decide)) ?_
  refine ce_op (okPutI clX7 (k := 0) (x := 102) (by decide +kernel) (by decide) rfl wd1000 rfl rfl (by decide +kernel)) ?_
  refine ce_op (okAl1 (k := 0) (by decide +kernel) rfl) ?_
  refine ce_op (okIl1 (k := 1) (by decide +kernel) rfl) ?_
  refine ce_op (okCI miX7_isFirm (rV clX7 (x := 255) miX7_isFirm rfl (by decide +kernel) wd1324 wd1326 wd65)) ?_
  refine ce_op (okIfEq (off := 26) (by decide +kernel) (by decide)) ?_
  refine ce_op (okIl1 (k := 2) (by decide +kernel) rfl) ?_
  refine ce_op (okIfLt (off := 22) (by decide +kernel) (by decide)) ?_
  refine ce_op (okIl1 (k := 2) (by decide +kernel) rfl) ?_
  refine ce_op (okIcL (k := 140) (by decide +kernel) wd1248) ?_
  refine ce_op (okCmGt (off := 16) (by decide +kernel) (by decide)) ?_
  refine ce_op (okAl1 (k := 0) (by decide +kernel) rfl) ?_
  refine ce_op (okGetR clX7 (k := 16) (x := 39) (by decide +kernel) (by decide) rfl wd1016 rfl (by decide +kernel)) ?_
  refine ce_op (okIl1 (k := 1) (by decide +kernel) rfl) ?_
  refine ce_op (okIald (by decide +kernel)) ?_
  refine ce_op (okIl1 (k := 2) (by decide +kernel) rfl) ?_
  refine ce_op (okIadd (by decide +kernel)) ?_
  refine ce_op (okIcL (k := 140) (by decide +kernel) wd1248) ?_
  refine ce_op (okCmLe (off := 5) (by decide +kernel) (by decide)) ?_
  refine ce_op (okIc1 (n := (-1)) (by decide +kernel) (by decide)) ?_
  refine ce_op (okIret (by decide +kernel) rfl) ?_
  refine ce_op (okAl1 (k := 0) (by decide +kernel) rfl) ?_
  refine ce_op (okGetR clX7 (k := 16) (x := 39) (by decide +kernel) (by decide) rfl wd1016 rfl (by decide +kernel)) ?_
  refine ce_op (okIl1 (k := 1) (by decide +kernel) rfl) ?_
  refine ce_op (okDup2 (by decide +kernel)) ?_
  refine ce_op (okIald (by decide +kernel)) ?_
  refine ce_op (okIl1 (k := 2) (by decide +kernel) rfl) ?_
  refine ce_op (okIadd (by decide +kernel)) ?_
  refine ce_op (okIast (by decide +kernel)) ?_
  refine ce_op (okAl1 (k := 0) (by decide +kernel) rfl) ?_
  refine ce_op (okGetR clX7 (k := 16) (x := 39) (by decide +kernel) (by decide) rfl wd1016 rfl (by decide +kernel)) ?_
  refine ce_op (okIl1 (k := 1) (by decide +kernel) rfl) ?_
  refine ce_op (okIald (by decide +kernel)) ?_
  refine ce_op (okIret (by decide +kernel) rfl) ?_
  exact ce_nil
set_option maxRecDepth 100000 in
def cdX7_isAsked : List CE := (0, 1, some (oIl 0)) :: (1, 3, some (oIfLt 35)) :: (4, 1, some (oIl 0)) :: (5, 1, some (oIc 1)) :: (6, 3, some (oCmGt 35)) :: (9, 1, some (oIl 1)) ::
  (10, 1, some (oIc 2)) :: (11, 3, some (oCmLt 35)) :: (14, 1, some (oIl 1)) :: (15, 2, some (oIc 6)) :: (17, 3, some (oCmGt 35)) :: (20, 1, some (oIl 2)) ::
  (21, 3, some (oIfLt 35)) :: (24, 1, some (oIl 2)) :: (25, 3, some (oIc 400)) :: (28, 3, some (oCmGt 35)) :: (31, 1, some (oIc 1)) :: (32, 3, some (oGoto 36)) ::
  (35, 1, some (oIc 0)) :: (36, 1, some oZret) :: []
set_option maxRecDepth 100000 in
set_option maxHeartbeats 4000000 in
theorem okX7_isAsked : CodeOk mX7_isAsked cdX7_isAsked := by
  refine ⟨by rfl, ?_⟩
  show CodeAll mX7_isAsked cdX7_isAsked
  refine ce_op (okIl1 (k := 0) (by decide +kernel) rfl) ?_
  refine ce_op (okIfLt (off := 34) (by decide +kernel) (by decide)) ?_
  refine ce_op (okIl1 (k := 0) (by decide +kernel) rfl) ?_
  refine ce_op (okIc1 (n := 1) (by decide +kernel) (by decide)) ?_
  refine ce_op (okCmGt (off := 29) (by decide +kernel) (by decide)) ?_
  refine ce_op (okIl1 (k := 1) (by decide +kernel) rfl) ?_
  refine ce_op (okIc1 (n := 2) (by decide +kernel) (by decide)) ?_
  refine ce_op (okCmLt (off := 24) (by decide +kernel) (by decide)) ?_
  refine ce_op (okIl1 (k := 1) (by decide +kernel) rfl) ?_
  refine ce_op (okIc2 (n := 6) (by decide +kernel) (by decide)) ?_
  refine ce_op (okCmGt (off := 18) (by decide +kernel) (by decide)) ?_
  refine ce_op (okIl1 (k := 2) (by decide +kernel) rfl) ?_
  refine ce_op (okIfLt (off := 14) (by decide +kernel) (by decide)) ?_
  refine ce_op (okIl1 (k := 2) (by decide +kernel) rfl) ?_
  refine ce_op (okIc3 (n := 400) (by decide +kernel) (by decide)) ?_
  refine ce_op (okCmGt (off := 7) (by decide +kernel) (by decide)) ?_
  refine ce_op (okIc1 (n := 1) (by decide +kernel) (by decide)) ?_
  refine ce_op (okGoto (off := 4) (by decide +kernel) (by decide)) ?_
  refine ce_op (okIc1 (n := 0) (by decide +kernel) (by decide)) ?_
  refine ce_op (okZret (by decide +kernel) rfl) ?_
  exact ce_nil
set_option maxRecDepth 100000 in
def cdX7_isStopped : List CE := (0, 1, some (oAl 0)) :: (1, 3, some (oGetI 7 39)) :: (4, 1, some (oAl 0)) :: (5, 3, some (oGetR [(1175, 329048)])) :: (8, 1, some (oIl 1)) :: (9, 1, some oIald) ::
  (10, 1, some oIshr) :: (11, 1, some (oIc 1)) :: (12, 1, some oIand) :: (13, 1, some (oIc 1)) :: (14, 3, some (oCmEq 34)) :: (17, 1, some (oAl 0)) ::
  (18, 3, some (oGetI 7 39)) :: (21, 1, some (oAl 0)) :: (22, 3, some (oGetR [(1175, 165384)])) :: (25, 1, some (oIl 1)) :: (26, 1, some oIald) :: (27, 1, some oIshr) ::
  (28, 1, some (oIc 1)) :: (29, 1, some oIand) :: (30, 1, some (oIc 1)) :: (31, 3, some (oCmNe 38)) :: (34, 1, some (oIc 1)) :: (35, 3, some (oGoto 39)) ::
  (38, 1, some (oIc 0)) :: (39, 1, some oZret) :: []
set_option maxRecDepth 100000 in
set_option maxHeartbeats 4000000 in
theorem okX7_isStopped : CodeOk mX7_isStopped cdX7_isStopped := by
  refine ⟨by rfl, ?_⟩
  show CodeAll mX7_isStopped cdX7_isStopped
  refine ce_op (okAl1 (k := 0) (by decide +kernel) rfl) ?_
  refine ce_op (okGetI clX7 (k := 39) (x := 232) (by decide +kernel) (by decide) rfl wd1039 (Or.inl rfl)) ?_
  refine ce_op (okAl1 (k := 0) (by decide +kernel) rfl) ?_
  refine ce_op (okGetR clX7 (k := 18) (x := 46) (by decide +kernel) (by decide) rfl wd1018 rfl (by decide +kernel)) ?_
  refine ce_op (okIl1 (k := 1) (by decide +kernel) rfl) ?_
  refine ce_op (okIald (by decide +kernel)) ?_
  refine ce_op (okIshr (by decide +kernel)) ?_
  refine ce_op (okIc1 (n := 1) (by decide +kernel) (by decide)) ?_
  refine ce_op (okIand (by decide +kernel)) ?_
  refine ce_op (okIc1 (n := 1) (by decide +kernel) (by decide)) ?_
  refine ce_op (okCmEq (off := 20) (by decide +kernel) (by decide)) ?_
  refine ce_op (okAl1 (k := 0) (by decide +kernel) rfl) ?_
  refine ce_op (okGetI clX7 (k := 39) (x := 232) (by decide +kernel) (by decide) rfl wd1039 (Or.inl rfl)) ?_
  refine ce_op (okAl1 (k := 0) (by decide +kernel) rfl) ?_
  refine ce_op (okGetR clX7 (k := 46) (x := 83) (by decide +kernel) (by decide) rfl wd1046 rfl (by decide +kernel)) ?_
  refine ce_op (okIl1 (k := 1) (by decide +kernel) rfl) ?_
  refine ce_op (okIald (by decide +kernel)) ?_
  refine ce_op (okIshr (by decide +kernel)) ?_
  refine ce_op (okIc1 (n := 1) (by decide +kernel) (by decide)) ?_
  refine ce_op (okIand (by decide +kernel)) ?_
  refine ce_op (okIc1 (n := 1) (by decide +kernel) (by decide)) ?_
  refine ce_op (okCmNe (off := 7) (by decide +kernel) (by decide)) ?_
  refine ce_op (okIc1 (n := 1) (by decide +kernel) (by decide)) ?_
  refine ce_op (okGoto (off := 4) (by decide +kernel) (by decide)) ?_
  refine ce_op (okIc1 (n := 0) (by decide +kernel) (by decide)) ?_
  refine ce_op (okZret (by decide +kernel) rfl) ?_
  exact ce_nil
set_option maxRecDepth 100000 in
def cdX7_fits : List CE := (0, 1, some (oAl 0)) :: (1, 3, some (oGetR [(1175, 329048)])) :: (4, 1, some (oIl 2)) :: (5, 1, some oIald) :: (6, 1, some (oAl 0)) :: (7, 3, some (oGetR [(1175, 165384)])) ::
  (10, 1, some (oIl 2)) :: (11, 1, some oIald) :: (12, 3, some (oCmEq 23)) :: (15, 1, some (oAl 0)) :: (16, 1, some (oIl 2)) :: (17, 3, some (oCI 7 mX7_isStopped 2)) ::
  (20, 3, some (oIfEq 25)) :: (23, 1, some (oIc 0)) :: (24, 1, some oZret) :: (25, 1, some (oAl 0)) :: (26, 3, some (oGetR [(1175, 26104)])) :: (29, 1, some (oIc 0)) ::
  (30, 1, some oIald) :: (31, 1, some (oIs 3)) :: (32, 1, some (oAl 0)) :: (33, 3, some (oGetR [(1175, 26104)])) :: (36, 1, some (oIl 1)) :: (37, 1, some (oIc 1)) ::
  (38, 1, some oIsub) :: (39, 1, some oIald) :: (40, 2, some (oIs 4)) :: (42, 1, some (oAl 0)) :: (43, 3, some (oGetR [(1175, 329048)])) :: (46, 1, some (oIl 2)) ::
  (47, 1, some oIald) :: (48, 1, some (oAl 0)) :: (49, 3, some (oGetR [(1175, 165384)])) :: (52, 2, some (oIl 4)) :: (54, 1, some oIald) :: (55, 3, some (oCmNe 111)) ::
  (58, 1, some (oAl 0)) :: (59, 3, some (oGetR [(1175, 329096)])) :: (62, 1, some (oIl 2)) :: (63, 1, some oIald) :: (64, 1, some (oAl 0)) :: (65, 3, some (oGetR [(1175, 329096)])) ::
  (68, 1, some (oIl 3)) :: (69, 1, some oIald) :: (70, 3, some (oCmNe 111)) :: (73, 1, some (oAl 0)) :: (74, 3, some (oGetI 7 48)) :: (77, 3, some (oIfNe 95)) ::
  (80, 1, some (oAl 0)) :: (81, 3, some (oGetR [(1175, 329144)])) :: (84, 1, some (oIl 2)) :: (85, 1, some oIald) :: (86, 1, some (oAl 0)) :: (87, 3, some (oGetR [(1175, 329144)])) ::
  (90, 1, some (oIl 3)) :: (91, 1, some oIald) :: (92, 3, some (oCmNe 111)) :: (95, 1, some (oAl 0)) :: (96, 3, some (oGetR [(1175, 329128)])) :: (99, 1, some (oIl 2)) ::
  (100, 1, some oIald) :: (101, 1, some (oAl 0)) :: (102, 3, some (oGetR [(1175, 329128)])) :: (105, 2, some (oIl 4)) :: (107, 1, some oIald) :: (108, 3, some (oCmGe 113)) ::
  (111, 1, some (oIc 0)) :: (112, 1, some oZret) :: (113, 1, some (oIc 0)) :: (114, 2, some (oIs 5)) :: (116, 0, none) :: (116, 2, some (oIl 5)) ::
  (118, 1, some (oIl 1)) :: (119, 3, some (oCmGe 151)) :: (122, 1, some (oAl 0)) :: (123, 3, some (oGetR [(1175, 329048)])) :: (126, 1, some (oAl 0)) :: (127, 3, some (oGetR [(1175, 26104)])) ::
  (130, 2, some (oIl 5)) :: (132, 1, some oIald) :: (133, 1, some oIald) :: (134, 1, some (oAl 0)) :: (135, 3, some (oGetR [(1175, 329048)])) :: (138, 1, some (oIl 2)) ::
  (139, 1, some oIald) :: (140, 3, some (oCmNe 145)) :: (143, 1, some (oIc 0)) :: (144, 1, some oZret) :: (145, 3, some (oInc 5 1)) :: (148, 3, some (oGoto 116)) ::
  (151, 1, some (oIc 1)) :: (152, 1, some oZret) :: []
set_option maxRecDepth 100000 in
set_option maxHeartbeats 4000000 in
theorem okX7_fits : CodeOk mX7_fits cdX7_fits := by
  refine ⟨by rfl, ?_⟩
  show CodeAll mX7_fits cdX7_fits
  refine ce_op (okAl1 (k := 0) (by decide +kernel) rfl) ?_
  refine ce_op (okGetR clX7 (k := 18) (x := 46) (by decide +kernel) (by decide) rfl wd1018 rfl (by decide +kernel)) ?_
  refine ce_op (okIl1 (k := 2) (by decide +kernel) rfl) ?_
  refine ce_op (okIald (by decide +kernel)) ?_
  refine ce_op (okAl1 (k := 0) (by decide +kernel) rfl) ?_
  refine ce_op (okGetR clX7 (k := 46) (x := 83) (by decide +kernel) (by decide) rfl wd1046 rfl (by decide +kernel)) ?_
  refine ce_op (okIl1 (k := 2) (by decide +kernel) rfl) ?_
  refine ce_op (okIald (by decide +kernel)) ?_
  refine ce_op (okCmEq (off := 11) (by decide +kernel) (by decide)) ?_
  refine ce_op (okAl1 (k := 0) (by decide +kernel) rfl) ?_
  refine ce_op (okIl1 (k := 2) (by decide +kernel) rfl) ?_
  refine ce_op (okCI miX7_isStopped (rV clX7 (x := 266) miX7_isStopped rfl (by decide +kernel) wd1369 wd1371 wd71)) ?_
  refine ce_op (okIfEq (off := 5) (by decide +kernel) (by decide)) ?_
  refine ce_op (okIc1 (n := 0) (by decide +kernel) (by decide)) ?_
  refine ce_op (okZret (by decide +kernel) rfl) ?_
  refine ce_op (okAl1 (k := 0) (by decide +kernel) rfl) ?_
  refine ce_op (okGetR clX7 (k := 45) (x := 80) (by decide +kernel) (by decide) rfl wd1045 rfl (by decide +kernel)) ?_
  refine ce_op (okIc1 (n := 0) (by decide +kernel) (by decide)) ?_
  refine ce_op (okIald (by decide +kernel)) ?_
  refine ce_op (okIs1 (k := 3) (by decide +kernel) rfl (by decide)) ?_
  refine ce_op (okAl1 (k := 0) (by decide +kernel) rfl) ?_
  refine ce_op (okGetR clX7 (k := 45) (x := 80) (by decide +kernel) (by decide) rfl wd1045 rfl (by decide +kernel)) ?_
  refine ce_op (okIl1 (k := 1) (by decide +kernel) rfl) ?_
  refine ce_op (okIc1 (n := 1) (by decide +kernel) (by decide)) ?_
  refine ce_op (okIsub (by decide +kernel)) ?_
  refine ce_op (okIald (by decide +kernel)) ?_
  refine ce_op (okIs2 (by decide +kernel) (by decide)) ?_
  refine ce_op (okAl1 (k := 0) (by decide +kernel) rfl) ?_
  refine ce_op (okGetR clX7 (k := 18) (x := 46) (by decide +kernel) (by decide) rfl wd1018 rfl (by decide +kernel)) ?_
  refine ce_op (okIl1 (k := 2) (by decide +kernel) rfl) ?_
  refine ce_op (okIald (by decide +kernel)) ?_
  refine ce_op (okAl1 (k := 0) (by decide +kernel) rfl) ?_
  refine ce_op (okGetR clX7 (k := 46) (x := 83) (by decide +kernel) (by decide) rfl wd1046 rfl (by decide +kernel)) ?_
  refine ce_op (okIl2 (by decide +kernel)) ?_
  refine ce_op (okIald (by decide +kernel)) ?_
  refine ce_op (okCmNe (off := 56) (by decide +kernel) (by decide)) ?_
  refine ce_op (okAl1 (k := 0) (by decide +kernel) rfl) ?_
  refine ce_op (okGetR clX7 (k := 21) (x := 55) (by decide +kernel) (by decide) rfl wd1021 rfl (by decide +kernel)) ?_
  refine ce_op (okIl1 (k := 2) (by decide +kernel) rfl) ?_
  refine ce_op (okIald (by decide +kernel)) ?_
  refine ce_op (okAl1 (k := 0) (by decide +kernel) rfl) ?_
  refine ce_op (okGetR clX7 (k := 21) (x := 55) (by decide +kernel) (by decide) rfl wd1021 rfl (by decide +kernel)) ?_
  refine ce_op (okIl1 (k := 3) (by decide +kernel) rfl) ?_
  refine ce_op (okIald (by decide +kernel)) ?_
  refine ce_op (okCmNe (off := 41) (by decide +kernel) (by decide)) ?_
  refine ce_op (okAl1 (k := 0) (by decide +kernel) rfl) ?_
  refine ce_op (okGetI clX7 (k := 48) (x := 269) (by decide +kernel) (by decide) rfl wd1048 (Or.inl rfl)) ?_
  refine ce_op (okIfNe (off := 18) (by decide +kernel) (by decide)) ?_
  refine ce_op (okAl1 (k := 0) (by decide +kernel) rfl) ?_
  refine ce_op (okGetR clX7 (k := 24) (x := 64) (by decide +kernel) (by decide) rfl wd1024 rfl (by decide +kernel)) ?_
  refine ce_op (okIl1 (k := 2) (by decide +kernel) rfl) ?_
  refine ce_op (okIald (by decide +kernel)) ?_
  refine ce_op (okAl1 (k := 0) (by decide +kernel) rfl) ?_
  refine ce_op (okGetR clX7 (k := 24) (x := 64) (by decide +kernel) (by decide) rfl wd1024 rfl (by decide +kernel)) ?_
  refine ce_op (okIl1 (k := 3) (by decide +kernel) rfl) ?_
  refine ce_op (okIald (by decide +kernel)) ?_
  refine ce_op (okCmNe (off := 19) (by decide +kernel) (by decide)) ?_
  refine ce_op (okAl1 (k := 0) (by decide +kernel) rfl) ?_
  refine ce_op (okGetR clX7 (k := 23) (x := 61) (by decide +kernel) (by decide) rfl wd1023 rfl (by decide +kernel)) ?_
  refine ce_op (okIl1 (k := 2) (by decide +kernel) rfl) ?_
  refine ce_op (okIald (by decide +kernel)) ?_
  refine ce_op (okAl1 (k := 0) (by decide +kernel) rfl) ?_
  refine ce_op (okGetR clX7 (k := 23) (x := 61) (by decide +kernel) (by decide) rfl wd1023 rfl (by decide +kernel)) ?_
  refine ce_op (okIl2 (by decide +kernel)) ?_
  refine ce_op (okIald (by decide +kernel)) ?_
  refine ce_op (okCmGe (off := 5) (by decide +kernel) (by decide)) ?_
  refine ce_op (okIc1 (n := 0) (by decide +kernel) (by decide)) ?_
  refine ce_op (okZret (by decide +kernel) rfl) ?_
  refine ce_op (okIc1 (n := 0) (by decide +kernel) (by decide)) ?_
  refine ce_op (okIs2 (by decide +kernel) (by decide)) ?_
  refine ce_st ?_
  refine ce_op (okIl2 (by decide +kernel)) ?_
  refine ce_op (okIl1 (k := 1) (by decide +kernel) rfl) ?_
  refine ce_op (okCmGe (off := 32) (by decide +kernel) (by decide)) ?_
  refine ce_op (okAl1 (k := 0) (by decide +kernel) rfl) ?_
  refine ce_op (okGetR clX7 (k := 18) (x := 46) (by decide +kernel) (by decide) rfl wd1018 rfl (by decide +kernel)) ?_
  refine ce_op (okAl1 (k := 0) (by decide +kernel) rfl) ?_
  refine ce_op (okGetR clX7 (k := 45) (x := 80) (by decide +kernel) (by decide) rfl wd1045 rfl (by decide +kernel)) ?_
  refine ce_op (okIl2 (by decide +kernel)) ?_
  refine ce_op (okIald (by decide +kernel)) ?_
  refine ce_op (okIald (by decide +kernel)) ?_
  refine ce_op (okAl1 (k := 0) (by decide +kernel) rfl) ?_
  refine ce_op (okGetR clX7 (k := 18) (x := 46) (by decide +kernel) (by decide) rfl wd1018 rfl (by decide +kernel)) ?_
  refine ce_op (okIl1 (k := 2) (by decide +kernel) rfl) ?_
  refine ce_op (okIald (by decide +kernel)) ?_
  refine ce_op (okCmNe (off := 5) (by decide +kernel) (by decide)) ?_
  refine ce_op (okIc1 (n := 0) (by decide +kernel) (by decide)) ?_
  refine ce_op (okZret (by decide +kernel) rfl) ?_
  refine ce_op (okInc (n := 1) (by decide +kernel) (by decide)) ?_
  refine ce_op (okGoto (off := (-32)) (by decide +kernel) (by decide)) ?_
  refine ce_op (okIc1 (n := 1) (by decide +kernel) (by decide)) ?_
  refine ce_op (okZret (by decide +kernel) rfl) ?_
  exact ce_nil
set_option maxRecDepth 100000 in
def cdX7_grows : List CE := (0, 1, some (oAl 0)) :: (1, 3, some (oGetI 7 47)) :: (4, 3, some (oIfEq 8)) :: (7, 1, some oVret) :: (8, 1, some (oIl 1)) :: (9, 1, some (oIc 1)) ::
  (10, 3, some (oCmLe 110)) :: (13, 1, some (oAl 0)) :: (14, 3, some (oGetR [(1175, 165384)])) :: (17, 1, some (oAl 0)) :: (18, 3, some (oGetR [(1175, 26104)])) :: (21, 1, some (oIl 1)) ::
  (22, 1, some (oIc 1)) :: (23, 1, some oIsub) :: (24, 1, some oIald) :: (25, 1, some oIald) :: (26, 1, some (oAl 0)) :: (27, 3, some (oGetR [(1175, 329048)])) ::
  (30, 1, some (oAl 0)) :: (31, 3, some (oGetR [(1175, 26104)])) :: (34, 1, some (oIc 0)) :: (35, 1, some oIald) :: (36, 1, some oIald) :: (37, 3, some (oCmNe 110)) ::
  (40, 1, some (oAl 0)) :: (41, 3, some (oGetI 7 42)) :: (44, 3, some (oIc 200)) :: (47, 3, some (oCmNe 56)) :: (50, 1, some (oAl 0)) :: (51, 1, some (oIc 1)) ::
  (52, 3, some (oPutZ 7 47)) :: (55, 1, some oVret) :: (56, 1, some (oIc 0)) :: (57, 1, some (oIs 2)) :: (58, 0, none) :: (58, 1, some (oIl 2)) ::
  (59, 1, some (oIl 1)) :: (60, 3, some (oCmGe 89)) :: (63, 1, some (oAl 0)) :: (64, 3, some (oGetR [(1175, 4916696)])) :: (67, 2, some (oIc 6)) :: (69, 1, some (oAl 0)) ::
  (70, 3, some (oGetI 7 42)) :: (73, 1, some oImul) :: (74, 1, some (oIl 2)) :: (75, 1, some oIadd) :: (76, 1, some (oAl 0)) :: (77, 3, some (oGetR [(1175, 26104)])) ::
  (80, 1, some (oIl 2)) :: (81, 1, some oIald) :: (82, 1, some oIast) :: (83, 3, some (oInc 2 1)) :: (86, 3, some (oGoto 58)) :: (89, 1, some (oAl 0)) ::
  (90, 3, some (oGetR [(1175, 820712)])) :: (93, 1, some (oAl 0)) :: (94, 3, some (oGetI 7 42)) :: (97, 1, some (oIl 1)) :: (98, 1, some oIast) :: (99, 1, some (oAl 0)) ::
  (100, 1, some oDup) :: (101, 3, some (oGetI 7 42)) :: (104, 1, some (oIc 1)) :: (105, 1, some oIadd) :: (106, 3, some (oPutI 7 42)) :: (109, 1, some oVret) ::
  (110, 1, some (oIl 1)) :: (111, 1, some (oAl 0)) :: (112, 3, some (oGetI 7 49)) :: (115, 3, some (oCmNe 119)) :: (118, 1, some oVret) :: (119, 1, some (oIc 0)) ::
  (120, 1, some (oIs 2)) :: (121, 0, none) :: (121, 1, some (oIl 2)) :: (122, 1, some (oAl 0)) :: (123, 3, some (oGetI 7 6)) :: (126, 3, some (oCmGe 186)) ::
  (129, 1, some (oAl 0)) :: (130, 1, some (oIl 1)) :: (131, 1, some (oIl 2)) :: (132, 3, some (oCI 7 mX7_fits 3)) :: (135, 3, some (oIfEq 180)) :: (138, 1, some (oAl 0)) ::
  (139, 3, some (oGetR [(1175, 329128)])) :: (142, 1, some (oIl 2)) :: (143, 1, some oIald) :: (144, 1, some (oAl 0)) :: (145, 3, some (oGetR [(1175, 329128)])) :: (148, 1, some (oAl 0)) ::
  (149, 3, some (oGetR [(1175, 26104)])) :: (152, 1, some (oIc 0)) :: (153, 1, some oIald) :: (154, 1, some oIald) :: (155, 1, some oIsub) :: (156, 1, some (oAl 0)) ::
  (157, 3, some (oGetI 7 50)) :: (160, 3, some (oCmLe 166)) :: (163, 3, some (oGoto 180)) :: (166, 1, some (oAl 0)) :: (167, 3, some (oGetR [(1175, 26104)])) :: (170, 1, some (oIl 1)) ::
  (171, 1, some (oIl 2)) :: (172, 1, some oIast) :: (173, 1, some (oAl 0)) :: (174, 1, some (oIl 1)) :: (175, 1, some (oIc 1)) :: (176, 1, some oIadd) ::
  (177, 3, some (oCV 7 mX7_grows 2)) :: (180, 3, some (oInc 2 1)) :: (183, 3, some (oGoto 121)) :: (186, 1, some oVret) :: []
set_option maxRecDepth 100000 in
set_option maxHeartbeats 4000000 in
theorem okX7_grows : CodeOk mX7_grows cdX7_grows := by
  refine ⟨by rfl, ?_⟩
  show CodeAll mX7_grows cdX7_grows
  refine ce_op (okAl1 (k := 0) (by decide +kernel) rfl) ?_
  refine ce_op (okGetI clX7 (k := 47) (x := 272) (by decide +kernel) (by decide) rfl wd1047 (Or.inr rfl)) ?_
  refine ce_op (okIfEq (off := 4) (by decide +kernel) (by decide)) ?_
  refine ce_op (okVret (by decide +kernel) rfl) ?_
  refine ce_op (okIl1 (k := 1) (by decide +kernel) rfl) ?_
  refine ce_op (okIc1 (n := 1) (by decide +kernel) (by decide)) ?_
  refine ce_op (okCmLe (off := 100) (by decide +kernel) (by decide)) ?_
  refine ce_op (okAl1 (k := 0) (by decide +kernel) rfl) ?_
  refine ce_op (okGetR clX7 (k := 46) (x := 83) (by decide +kernel) (by decide) rfl wd1046 rfl (by decide +kernel)) ?_
  refine ce_op (okAl1 (k := 0) (by decide +kernel) rfl) ?_
  refine ce_op (okGetR clX7 (k := 45) (x := 80) (by decide +kernel) (by decide) rfl wd1045 rfl (by decide +kernel)) ?_
  refine ce_op (okIl1 (k := 1) (by decide +kernel) rfl) ?_
  refine ce_op (okIc1 (n := 1) (by decide +kernel) (by decide)) ?_
  refine ce_op (okIsub (by decide +kernel)) ?_
  refine ce_op (okIald (by decide +kernel)) ?_
  refine ce_op (okIald (by decide +kernel)) ?_
  refine ce_op (okAl1 (k := 0) (by decide +kernel) rfl) ?_
  refine ce_op (okGetR clX7 (k := 18) (x := 46) (by decide +kernel) (by decide) rfl wd1018 rfl (by decide +kernel)) ?_
  refine ce_op (okAl1 (k := 0) (by decide +kernel) rfl) ?_
  refine ce_op (okGetR clX7 (k := 45) (x := 80) (by decide +kernel) (by decide) rfl wd1045 rfl (by decide +kernel)) ?_
  refine ce_op (okIc1 (n := 0) (by decide +kernel) (by decide)) ?_
  refine ce_op (okIald (by decide +kernel)) ?_
  refine ce_op (okIald (by decide +kernel)) ?_
  refine ce_op (okCmNe (off := 73) (by decide +kernel) (by decide)) ?_
  refine ce_op (okAl1 (k := 0) (by decide +kernel) rfl) ?_
  refine ce_op (okGetI clX7 (k := 42) (x := 276) (by decide +kernel) (by decide) rfl wd1042 (Or.inl rfl)) ?_
  refine ce_op (okIc3 (n := 200) (by decide +kernel) (by decide)) ?_
  refine ce_op (okCmNe (off := 9) (by decide +kernel) (by decide)) ?_
  refine ce_op (okAl1 (k := 0) (by decide +kernel) rfl) ?_
  refine ce_op (okIc1 (n := 1) (by decide +kernel) (by decide)) ?_
  refine ce_op (okPutZ clX7 (k := 47) (x := 272) (by decide +kernel) (by decide) rfl wd1047 rfl rfl (by decide +kernel)) ?_
  refine ce_op (okVret (by decide +kernel) rfl) ?_
  refine ce_op (okIc1 (n := 0) (by decide +kernel) (by decide)) ?_
  refine ce_op (okIs1 (k := 2) (by decide +kernel) rfl (by decide)) ?_
  refine ce_st ?_
  refine ce_op (okIl1 (k := 2) (by decide +kernel) rfl) ?_
  refine ce_op (okIl1 (k := 1) (by decide +kernel) rfl) ?_
  refine ce_op (okCmGe (off := 29) (by decide +kernel) (by decide)) ?_
  refine ce_op (okAl1 (k := 0) (by decide +kernel) rfl) ?_
  refine ce_op (okGetR clX7 (k := 43) (x := 74) (by decide +kernel) (by decide) rfl wd1043 rfl (by decide +kernel)) ?_
  refine ce_op (okIc2 (n := 6) (by decide +kernel) (by decide)) ?_
  refine ce_op (okAl1 (k := 0) (by decide +kernel) rfl) ?_
  refine ce_op (okGetI clX7 (k := 42) (x := 276) (by decide +kernel) (by decide) rfl wd1042 (Or.inl rfl)) ?_
  refine ce_op (okImul (by decide +kernel)) ?_
  refine ce_op (okIl1 (k := 2) (by decide +kernel) rfl) ?_
  refine ce_op (okIadd (by decide +kernel)) ?_
  refine ce_op (okAl1 (k := 0) (by decide +kernel) rfl) ?_
  refine ce_op (okGetR clX7 (k := 45) (x := 80) (by decide +kernel) (by decide) rfl wd1045 rfl (by decide +kernel)) ?_
  refine ce_op (okIl1 (k := 2) (by decide +kernel) rfl) ?_
  refine ce_op (okIald (by decide +kernel)) ?_
  refine ce_op (okIast (by decide +kernel)) ?_
  refine ce_op (okInc (n := 1) (by decide +kernel) (by decide)) ?_
  refine ce_op (okGoto (off := (-28)) (by decide +kernel) (by decide)) ?_
  refine ce_op (okAl1 (k := 0) (by decide +kernel) rfl) ?_
  refine ce_op (okGetR clX7 (k := 44) (x := 77) (by decide +kernel) (by decide) rfl wd1044 rfl (by decide +kernel)) ?_
  refine ce_op (okAl1 (k := 0) (by decide +kernel) rfl) ?_
  refine ce_op (okGetI clX7 (k := 42) (x := 276) (by decide +kernel) (by decide) rfl wd1042 (Or.inl rfl)) ?_
  refine ce_op (okIl1 (k := 1) (by decide +kernel) rfl) ?_
  refine ce_op (okIast (by decide +kernel)) ?_
  refine ce_op (okAl1 (k := 0) (by decide +kernel) rfl) ?_
  refine ce_op (okDup (by decide +kernel)) ?_
  refine ce_op (okGetI clX7 (k := 42) (x := 276) (by decide +kernel) (by decide) rfl wd1042 (Or.inl rfl)) ?_
  refine ce_op (okIc1 (n := 1) (by decide +kernel) (by decide)) ?_
  refine ce_op (okIadd (by decide +kernel)) ?_
  refine ce_op (okPutI clX7 (k := 42) (x := 276) (by decide +kernel) (by decide) rfl wd1042 rfl rfl (by decide +kernel)) ?_
  refine ce_op (okVret (by decide +kernel) rfl) ?_
  refine ce_op (okIl1 (k := 1) (by decide +kernel) rfl) ?_
  refine ce_op (okAl1 (k := 0) (by decide +kernel) rfl) ?_
  refine ce_op (okGetI clX7 (k := 49) (x := 279) (by decide +kernel) (by decide) rfl wd1049 (Or.inl rfl)) ?_
  refine ce_op (okCmNe (off := 4) (by decide +kernel) (by decide)) ?_
  refine ce_op (okVret (by decide +kernel) rfl) ?_
  refine ce_op (okIc1 (n := 0) (by decide +kernel) (by decide)) ?_
  refine ce_op (okIs1 (k := 2) (by decide +kernel) rfl (by decide)) ?_
  refine ce_st ?_
  refine ce_op (okIl1 (k := 2) (by decide +kernel) rfl) ?_
  refine ce_op (okAl1 (k := 0) (by decide +kernel) rfl) ?_
  refine ce_op (okGetI clX7 (k := 6) (x := 226) (by decide +kernel) (by decide) rfl wd1006 (Or.inl rfl)) ?_
  refine ce_op (okCmGe (off := 60) (by decide +kernel) (by decide)) ?_
  refine ce_op (okAl1 (k := 0) (by decide +kernel) rfl) ?_
  refine ce_op (okIl1 (k := 1) (by decide +kernel) rfl) ?_
  refine ce_op (okIl1 (k := 2) (by decide +kernel) rfl) ?_
  refine ce_op (okCI miX7_fits (rV clX7 (x := 282) miX7_fits rfl (by decide +kernel) wd1377 wd1379 wd73)) ?_
  refine ce_op (okIfEq (off := 45) (by decide +kernel) (by decide)) ?_
  refine ce_op (okAl1 (k := 0) (by decide +kernel) rfl) ?_
  refine ce_op (okGetR clX7 (k := 23) (x := 61) (by decide +kernel) (by decide) rfl wd1023 rfl (by decide +kernel)) ?_
  refine ce_op (okIl1 (k := 2) (by decide +kernel) rfl) ?_
  refine ce_op (okIald (by decide +kernel)) ?_
  refine ce_op (okAl1 (k := 0) (by decide +kernel) rfl) ?_
  refine ce_op (okGetR clX7 (k := 23) (x := 61) (by decide +kernel) (by decide) rfl wd1023 rfl (by decide +kernel)) ?_
  refine ce_op (okAl1 (k := 0) (by decide +kernel) rfl) ?_
  refine ce_op (okGetR clX7 (k := 45) (x := 80) (by decide +kernel) (by decide) rfl wd1045 rfl (by decide +kernel)) ?_
  refine ce_op (okIc1 (n := 0) (by decide +kernel) (by decide)) ?_
  refine ce_op (okIald (by decide +kernel)) ?_
  refine ce_op (okIald (by decide +kernel)) ?_
  refine ce_op (okIsub (by decide +kernel)) ?_
  refine ce_op (okAl1 (k := 0) (by decide +kernel) rfl) ?_
  refine ce_op (okGetI clX7 (k := 50) (x := 285) (by decide +kernel) (by decide) rfl wd1050 (Or.inl rfl)) ?_
  refine ce_op (okCmLe (off := 6) (by decide +kernel) (by decide)) ?_
  refine ce_op (okGoto (off := 17) (by decide +kernel) (by decide)) ?_
  refine ce_op (okAl1 (k := 0) (by decide +kernel) rfl) ?_
  refine ce_op (okGetR clX7 (k := 45) (x := 80) (by decide +kernel) (by decide) rfl wd1045 rfl (by decide +kernel)) ?_
  refine ce_op (okIl1 (k := 1) (by decide +kernel) rfl) ?_
  refine ce_op (okIl1 (k := 2) (by decide +kernel) rfl) ?_
  refine ce_op (okIast (by decide +kernel)) ?_
  refine ce_op (okAl1 (k := 0) (by decide +kernel) rfl) ?_
  refine ce_op (okIl1 (k := 1) (by decide +kernel) rfl) ?_
  refine ce_op (okIc1 (n := 1) (by decide +kernel) (by decide)) ?_
  refine ce_op (okIadd (by decide +kernel)) ?_
  refine ce_op (okCV miX7_grows (rV clX7 (x := 288) miX7_grows rfl (by decide +kernel) wd1373 wd1375 wd72)) ?_
  refine ce_op (okInc (n := 1) (by decide +kernel) (by decide)) ?_
  refine ce_op (okGoto (off := (-62)) (by decide +kernel) (by decide)) ?_
  refine ce_op (okVret (by decide +kernel) rfl) ?_
  exact ce_nil
set_option maxRecDepth 100000 in
def cdX7_seeks : List CE := (0, 1, some (oAl 0)) :: (1, 1, some (oIl 1)) :: (2, 3, some (oPutI 7 48)) :: (5, 1, some (oAl 0)) :: (6, 1, some (oIl 2)) :: (7, 3, some (oPutI 7 49)) ::
  (10, 1, some (oAl 0)) :: (11, 1, some (oIl 3)) :: (12, 3, some (oPutI 7 50)) :: (15, 1, some (oAl 0)) :: (16, 1, some (oIc 0)) :: (17, 3, some (oPutI 7 42)) ::
  (20, 1, some (oAl 0)) :: (21, 1, some (oIc 0)) :: (22, 3, some (oPutZ 7 47)) :: (25, 1, some (oIc 0)) :: (26, 2, some (oIs 4)) :: (28, 0, none) ::
  (28, 2, some (oIl 4)) :: (30, 1, some (oAl 0)) :: (31, 3, some (oGetI 7 6)) :: (34, 3, some (oCmGe 99)) :: (37, 1, some (oAl 0)) :: (38, 3, some (oGetR [(1175, 329048)])) ::
  (41, 2, some (oIl 4)) :: (43, 1, some oIald) :: (44, 1, some (oAl 0)) :: (45, 3, some (oGetR [(1175, 165384)])) :: (48, 2, some (oIl 4)) :: (50, 1, some oIald) ::
  (51, 3, some (oCmEq 93)) :: (54, 1, some (oAl 0)) :: (55, 2, some (oIl 4)) :: (57, 3, some (oCI 7 mX7_isStopped 2)) :: (60, 3, some (oIfNe 93)) :: (63, 1, some (oIl 1)) ::
  (64, 3, some (oIfNe 80)) :: (67, 1, some (oAl 0)) :: (68, 3, some (oGetR [(1175, 329144)])) :: (71, 2, some (oIl 4)) :: (73, 1, some oIald) :: (74, 3, some (oIfNe 80)) ::
  (77, 3, some (oGoto 93)) :: (80, 1, some (oAl 0)) :: (81, 3, some (oGetR [(1175, 26104)])) :: (84, 1, some (oIc 0)) :: (85, 2, some (oIl 4)) :: (87, 1, some oIast) ::
  (88, 1, some (oAl 0)) :: (89, 1, some (oIc 1)) :: (90, 3, some (oCV 7 mX7_grows 2)) :: (93, 3, some (oInc 4 1)) :: (96, 3, some (oGoto 28)) :: (99, 1, some oVret) :: []
set_option maxRecDepth 100000 in
set_option maxHeartbeats 4000000 in
theorem okX7_seeks : CodeOk mX7_seeks cdX7_seeks := by
  refine ⟨by rfl, ?_⟩
  show CodeAll mX7_seeks cdX7_seeks
  refine ce_op (okAl1 (k := 0) (by decide +kernel) rfl) ?_
  refine ce_op (okIl1 (k := 1) (by decide +kernel) rfl) ?_
  refine ce_op (okPutI clX7 (k := 48) (x := 269) (by decide +kernel) (by decide) rfl wd1048 rfl rfl (by decide +kernel)) ?_
  refine ce_op (okAl1 (k := 0) (by decide +kernel) rfl) ?_
  refine ce_op (okIl1 (k := 2) (by decide +kernel) rfl) ?_
  refine ce_op (okPutI clX7 (k := 49) (x := 279) (by decide +kernel) (by decide) rfl wd1049 rfl rfl (by decide +kernel)) ?_
  refine ce_op (okAl1 (k := 0) (by decide +kernel) rfl) ?_
  refine ce_op (okIl1 (k := 3) (by decide +kernel) rfl) ?_
  refine ce_op (okPutI clX7 (k := 50) (x := 285) (by decide +kernel) (by decide) rfl wd1050 rfl rfl (by decide +kernel)) ?_
  refine ce_op (okAl1 (k := 0) (by decide +kernel) rfl) ?_
  refine ce_op (okIc1 (n := 0) (by decide +kernel) (by decide)) ?_
  refine ce_op (okPutI clX7 (k := 42) (x := 276) (by decide +kernel) (by decide) rfl wd1042 rfl rfl (by decide +kernel)) ?_
  refine ce_op (okAl1 (k := 0) (by decide +kernel) rfl) ?_
  refine ce_op (okIc1 (n := 0) (by decide +kernel) (by decide)) ?_
  refine ce_op (okPutZ clX7 (k := 47) (x := 272) (by decide +kernel) (by decide) rfl wd1047 rfl rfl (by decide +kernel)) ?_
  refine ce_op (okIc1 (n := 0) (by decide +kernel) (by decide)) ?_
  refine ce_op (okIs2 (by decide +kernel) (by decide)) ?_
  refine ce_st ?_
  refine ce_op (okIl2 (by decide +kernel)) ?_
  refine ce_op (okAl1 (k := 0) (by decide +kernel) rfl) ?_
  refine ce_op (okGetI clX7 (k := 6) (x := 226) (by decide +kernel) (by decide) rfl wd1006 (Or.inl rfl)) ?_
  refine ce_op (okCmGe (off := 65) (by decide +kernel) (by decide)) ?_
  refine ce_op (okAl1 (k := 0) (by decide +kernel) rfl) ?_
  refine ce_op (okGetR clX7 (k := 18) (x := 46) (by decide +kernel) (by decide) rfl wd1018 rfl (by decide +kernel)) ?_
  refine ce_op (okIl2 (by decide +kernel)) ?_
  refine ce_op (okIald (by decide +kernel)) ?_
  refine ce_op (okAl1 (k := 0) (by decide +kernel) rfl) ?_
  refine ce_op (okGetR clX7 (k := 46) (x := 83) (by decide +kernel) (by decide) rfl wd1046 rfl (by decide +kernel)) ?_
  refine ce_op (okIl2 (by decide +kernel)) ?_
  refine ce_op (okIald (by decide +kernel)) ?_
  refine ce_op (okCmEq (off := 42) (by decide +kernel) (by decide)) ?_
  refine ce_op (okAl1 (k := 0) (by decide +kernel) rfl) ?_
  refine ce_op (okIl2 (by decide +kernel)) ?_
  refine ce_op (okCI miX7_isStopped (rV clX7 (x := 266) miX7_isStopped rfl (by decide +kernel) wd1369 wd1371 wd71)) ?_
  refine ce_op (okIfNe (off := 33) (by decide +kernel) (by decide)) ?_
  refine ce_op (okIl1 (k := 1) (by decide +kernel) rfl) ?_
  refine ce_op (okIfNe (off := 16) (by decide +kernel) (by decide)) ?_
  refine ce_op (okAl1 (k := 0) (by decide +kernel) rfl) ?_
  refine ce_op (okGetR clX7 (k := 24) (x := 64) (by decide +kernel) (by decide) rfl wd1024 rfl (by decide +kernel)) ?_
  refine ce_op (okIl2 (by decide +kernel)) ?_
  refine ce_op (okIald (by decide +kernel)) ?_
  refine ce_op (okIfNe (off := 6) (by decide +kernel) (by decide)) ?_
  refine ce_op (okGoto (off := 16) (by decide +kernel) (by decide)) ?_
  refine ce_op (okAl1 (k := 0) (by decide +kernel) rfl) ?_
  refine ce_op (okGetR clX7 (k := 45) (x := 80) (by decide +kernel) (by decide) rfl wd1045 rfl (by decide +kernel)) ?_
  refine ce_op (okIc1 (n := 0) (by decide +kernel) (by decide)) ?_
  refine ce_op (okIl2 (by decide +kernel)) ?_
  refine ce_op (okIast (by decide +kernel)) ?_
  refine ce_op (okAl1 (k := 0) (by decide +kernel) rfl) ?_
  refine ce_op (okIc1 (n := 1) (by decide +kernel) (by decide)) ?_
  refine ce_op (okCV miX7_grows (rV clX7 (x := 288) miX7_grows rfl (by decide +kernel) wd1373 wd1375 wd72)) ?_
  refine ce_op (okInc (n := 1) (by decide +kernel) (by decide)) ?_
  refine ce_op (okGoto (off := (-68)) (by decide +kernel) (by decide)) ?_
  refine ce_op (okVret (by decide +kernel) rfl) ?_
  exact ce_nil
set_option maxRecDepth 100000 in
def cdX7_seeksNow : List CE := (0, 1, some (oIc 0)) :: (1, 2, some (oIs 4)) :: (3, 0, none) :: (3, 2, some (oIl 4)) :: (5, 1, some (oAl 0)) :: (6, 3, some (oGetI 7 6)) ::
  (9, 3, some (oCmGe 32)) :: (12, 1, some (oAl 0)) :: (13, 3, some (oGetR [(1175, 165384)])) :: (16, 2, some (oIl 4)) :: (18, 1, some (oAl 0)) :: (19, 3, some (oGetR [(1175, 329064)])) ::
  (22, 2, some (oIl 4)) :: (24, 1, some oIald) :: (25, 1, some oIast) :: (26, 3, some (oInc 4 1)) :: (29, 3, some (oGoto 3)) :: (32, 1, some (oAl 0)) ::
  (33, 1, some (oIl 1)) :: (34, 1, some (oIl 2)) :: (35, 1, some (oIl 3)) :: (36, 3, some (oCV 7 mX7_seeks 4)) :: (39, 1, some oVret) :: []
set_option maxRecDepth 100000 in
set_option maxHeartbeats 4000000 in
theorem okX7_seeksNow : CodeOk mX7_seeksNow cdX7_seeksNow := by
  refine ⟨by rfl, ?_⟩
  show CodeAll mX7_seeksNow cdX7_seeksNow
  refine ce_op (okIc1 (n := 0) (by decide +kernel) (by decide)) ?_
  refine ce_op (okIs2 (by decide +kernel) (by decide)) ?_
  refine ce_st ?_
  refine ce_op (okIl2 (by decide +kernel)) ?_
  refine ce_op (okAl1 (k := 0) (by decide +kernel) rfl) ?_
  refine ce_op (okGetI clX7 (k := 6) (x := 226) (by decide +kernel) (by decide) rfl wd1006 (Or.inl rfl)) ?_
  refine ce_op (okCmGe (off := 23) (by decide +kernel) (by decide)) ?_
  refine ce_op (okAl1 (k := 0) (by decide +kernel) rfl) ?_
  refine ce_op (okGetR clX7 (k := 46) (x := 83) (by decide +kernel) (by decide) rfl wd1046 rfl (by decide +kernel)) ?_
  refine ce_op (okIl2 (by decide +kernel)) ?_
  refine ce_op (okAl1 (k := 0) (by decide +kernel) rfl) ?_
  refine ce_op (okGetR clX7 (k := 19) (x := 49) (by decide +kernel) (by decide) rfl wd1019 rfl (by decide +kernel)) ?_
  refine ce_op (okIl2 (by decide +kernel)) ?_
  refine ce_op (okIald (by decide +kernel)) ?_
  refine ce_op (okIast (by decide +kernel)) ?_
  refine ce_op (okInc (n := 1) (by decide +kernel) (by decide)) ?_
  refine ce_op (okGoto (off := (-26)) (by decide +kernel) (by decide)) ?_
  refine ce_op (okAl1 (k := 0) (by decide +kernel) rfl) ?_
  refine ce_op (okIl1 (k := 1) (by decide +kernel) rfl) ?_
  refine ce_op (okIl1 (k := 2) (by decide +kernel) rfl) ?_
  refine ce_op (okIl1 (k := 3) (by decide +kernel) rfl) ?_
  refine ce_op (okCV miX7_seeks (rV clX7 (x := 291) miX7_seeks rfl (by decide +kernel) wd1365 wd1367 wd70)) ?_
  refine ce_op (okVret (by decide +kernel) rfl) ?_
  exact ce_nil
set_option maxRecDepth 100000 in
def cdX7_rounds : List CE := (0, 1, some (oAl 0)) :: (1, 1, some (oIc 0)) :: (2, 3, some (oPutI 7 0)) :: (5, 1, some (oIl 1)) :: (6, 1, some (oIl 2)) :: (7, 1, some (oIl 3)) ::
  (8, 3, some (oCI 16 mX7_isAsked 3)) :: (11, 3, some (oIfNe 16)) :: (14, 1, some (oIc (-1))) :: (15, 1, some oIret) :: (16, 1, some (oAl 0)) :: (17, 1, some (oIl 1)) ::
  (18, 1, some (oIl 2)) :: (19, 1, some (oIl 3)) :: (20, 3, some (oCV 7 mX7_seeksNow 4)) :: (23, 1, some (oAl 0)) :: (24, 3, some (oGetI 7 47)) :: (27, 3, some (oIfEq 35)) ::
  (30, 2, some (oIc (-2))) :: (32, 3, some (oGoto 39)) :: (35, 1, some (oAl 0)) :: (36, 3, some (oGetI 7 42)) :: (39, 1, some oIret) :: []
set_option maxRecDepth 100000 in
set_option maxHeartbeats 4000000 in
theorem okX7_rounds : CodeOk mX7_rounds cdX7_rounds := by
  refine ⟨by rfl, ?_⟩
  show CodeAll mX7_rounds cdX7_rounds
  refine ce_op (okAl1 (k := 0) (by decide +kernel) rfl) ?_
  refine ce_op (okIc1 (n := 0) (by decide +kernel) (by decide)) ?_
  refine ce_op (okPutI clX7 (k := 0) (x := 102) (by decide +kernel) (by decide) rfl wd1000 rfl rfl (by decide +kernel)) ?_
  refine ce_op (okIl1 (k := 1) (by decide +kernel) rfl) ?_
  refine ce_op (okIl1 (k := 2) (by decide +kernel) rfl) ?_
  refine ce_op (okIl1 (k := 3) (by decide +kernel) rfl) ?_
  refine ce_op (okCI miX7_isAsked (rS (x := 295) miX7_isAsked (by decide +kernel) wd1358 wd1359)) ?_
  refine ce_op (okIfNe (off := 5) (by decide +kernel) (by decide)) ?_
  refine ce_op (okIc1 (n := (-1)) (by decide +kernel) (by decide)) ?_
  refine ce_op (okIret (by decide +kernel) rfl) ?_
  refine ce_op (okAl1 (k := 0) (by decide +kernel) rfl) ?_
  refine ce_op (okIl1 (k := 1) (by decide +kernel) rfl) ?_
  refine ce_op (okIl1 (k := 2) (by decide +kernel) rfl) ?_
  refine ce_op (okIl1 (k := 3) (by decide +kernel) rfl) ?_
  refine ce_op (okCV miX7_seeksNow (rV clX7 (x := 299) miX7_seeksNow rfl (by decide +kernel) wd1361 wd1363 wd69)) ?_
  refine ce_op (okAl1 (k := 0) (by decide +kernel) rfl) ?_
  refine ce_op (okGetI clX7 (k := 47) (x := 272) (by decide +kernel) (by decide) rfl wd1047 (Or.inr rfl)) ?_
  refine ce_op (okIfEq (off := 8) (by decide +kernel) (by decide)) ?_
  refine ce_op (okIc2 (n := (-2)) (by decide +kernel) (by decide)) ?_
  refine ce_op (okGoto (off := 7) (by decide +kernel) (by decide)) ?_
  refine ce_op (okAl1 (k := 0) (by decide +kernel) rfl) ?_
  refine ce_op (okGetI clX7 (k := 42) (x := 276) (by decide +kernel) (by decide) rfl wd1042 (Or.inl rfl)) ?_
  refine ce_op (okIret (by decide +kernel) rfl) ?_
  exact ce_nil
set_option maxRecDepth 100000 in
def cdX7_carries : List CE := (0, 3, some (oIc 999)) :: (3, 1, some (oIs 2)) :: (4, 1, some (oIc 0)) :: (5, 1, some (oIs 3)) :: (6, 0, none) :: (6, 1, some (oIl 3)) ::
  (7, 1, some (oAl 0)) :: (8, 3, some (oGetR [(1175, 820712)])) :: (11, 1, some (oIl 1)) :: (12, 1, some oIald) :: (13, 3, some (oCmGe 43)) :: (16, 1, some (oIl 2)) ::
  (17, 1, some (oAl 0)) :: (18, 3, some (oGetR [(1175, 329080)])) :: (21, 1, some (oAl 0)) :: (22, 3, some (oGetR [(1175, 4916696)])) :: (25, 2, some (oIc 6)) :: (27, 1, some (oIl 1)) ::
  (28, 1, some oImul) :: (29, 1, some (oIl 3)) :: (30, 1, some oIadd) :: (31, 1, some oIald) :: (32, 1, some oIald) :: (33, 3, some oMin) ::
  (36, 1, some (oIs 2)) :: (37, 3, some (oInc 3 1)) :: (40, 3, some (oGoto 6)) :: (43, 1, some (oIl 2)) :: (44, 1, some oIret) :: []
set_option maxRecDepth 100000 in
set_option maxHeartbeats 4000000 in
theorem okX7_carries : CodeOk mX7_carries cdX7_carries := by
  refine ⟨by rfl, ?_⟩
  show CodeAll mX7_carries cdX7_carries
  refine ce_op (okIc3 (n := 999) (by decide +kernel) (by decide)) ?_
  refine ce_op (okIs1 (k := 2) (by decide +kernel) rfl (by decide)) ?_
  refine ce_op (okIc1 (n := 0) (by decide +kernel) (by decide)) ?_
  refine ce_op (okIs1 (k := 3) (by decide +kernel) rfl (by decide)) ?_
  refine ce_st ?_
  refine ce_op (okIl1 (k := 3) (by decide +kernel) rfl) ?_
  refine ce_op (okAl1 (k := 0) (by decide +kernel) rfl) ?_
  refine ce_op (okGetR clX7 (k := 44) (x := 77) (by decide +kernel) (by decide) rfl wd1044 rfl (by decide +kernel)) ?_
  refine ce_op (okIl1 (k := 1) (by decide +kernel) rfl) ?_
  refine ce_op (okIald (by decide +kernel)) ?_
  refine ce_op (okCmGe (off := 30) (by decide +kernel) (by decide)) ?_
  refine ce_op (okIl1 (k := 2) (by decide +kernel) rfl) ?_
  refine ce_op (okAl1 (k := 0) (by decide +kernel) rfl) ?_
  refine ce_op (okGetR clX7 (k := 20) (x := 52) (by decide +kernel) (by decide) rfl wd1020 rfl (by decide +kernel)) ?_
  refine ce_op (okAl1 (k := 0) (by decide +kernel) rfl) ?_
  refine ce_op (okGetR clX7 (k := 43) (x := 74) (by decide +kernel) (by decide) rfl wd1043 rfl (by decide +kernel)) ?_
  refine ce_op (okIc2 (n := 6) (by decide +kernel) (by decide)) ?_
  refine ce_op (okIl1 (k := 1) (by decide +kernel) rfl) ?_
  refine ce_op (okImul (by decide +kernel)) ?_
  refine ce_op (okIl1 (k := 3) (by decide +kernel) rfl) ?_
  refine ce_op (okIadd (by decide +kernel)) ?_
  refine ce_op (okIald (by decide +kernel)) ?_
  refine ce_op (okIald (by decide +kernel)) ?_
  refine ce_op (okMin (x := 247) (by decide +kernel) wd1333 wd461 wd98 wd462) ?_
  refine ce_op (okIs1 (k := 2) (by decide +kernel) rfl (by decide)) ?_
  refine ce_op (okInc (n := 1) (by decide +kernel) (by decide)) ?_
  refine ce_op (okGoto (off := (-34)) (by decide +kernel) (by decide)) ?_
  refine ce_op (okIl1 (k := 2) (by decide +kernel) rfl) ?_
  refine ce_op (okIret (by decide +kernel) rfl) ?_
  exact ce_nil
set_option maxRecDepth 100000 in
def cdX7_firmsOf : List CE := (0, 1, some (oIc 0)) :: (1, 1, some (oIs 2)) :: (2, 1, some (oIc 0)) :: (3, 1, some (oIs 3)) :: (4, 0, none) :: (4, 1, some (oIl 3)) ::
  (5, 1, some (oAl 0)) :: (6, 3, some (oGetR [(1175, 820712)])) :: (9, 1, some (oIl 1)) :: (10, 1, some oIald) :: (11, 3, some (oCmGe 41)) :: (14, 1, some (oIl 2)) ::
  (15, 1, some (oIc 1)) :: (16, 1, some (oAl 0)) :: (17, 3, some (oGetR [(1175, 329048)])) :: (20, 1, some (oAl 0)) :: (21, 3, some (oGetR [(1175, 4916696)])) :: (24, 2, some (oIc 6)) ::
  (26, 1, some (oIl 1)) :: (27, 1, some oImul) :: (28, 1, some (oIl 3)) :: (29, 1, some oIadd) :: (30, 1, some oIald) :: (31, 1, some oIald) ::
  (32, 1, some oIshl) :: (33, 1, some oIor) :: (34, 1, some (oIs 2)) :: (35, 3, some (oInc 3 1)) :: (38, 3, some (oGoto 4)) :: (41, 1, some (oIl 2)) ::
  (42, 1, some oIret) :: []
set_option maxRecDepth 100000 in
set_option maxHeartbeats 4000000 in
theorem okX7_firmsOf : CodeOk mX7_firmsOf cdX7_firmsOf := by
  refine ⟨by rfl, ?_⟩
  show CodeAll mX7_firmsOf cdX7_firmsOf
  refine ce_op (okIc1 (n := 0) (by decide +kernel) (by decide)) ?_
  refine ce_op (okIs1 (k := 2) (by decide +kernel) rfl (by decide)) ?_
  refine ce_op (okIc1 (n := 0) (by decide +kernel) (by decide)) ?_
  refine ce_op (okIs1 (k := 3) (by decide +kernel) rfl (by decide)) ?_
  refine ce_st ?_
  refine ce_op (okIl1 (k := 3) (by decide +kernel) rfl) ?_
  refine ce_op (okAl1 (k := 0) (by decide +kernel) rfl) ?_
  refine ce_op (okGetR clX7 (k := 44) (x := 77) (by decide +kernel) (by decide) rfl wd1044 rfl (by decide +kernel)) ?_
  refine ce_op (okIl1 (k := 1) (by decide +kernel) rfl) ?_
  refine ce_op (okIald (by decide +kernel)) ?_
  refine ce_op (okCmGe (off := 30) (by decide +kernel) (by decide)) ?_
  refine ce_op (okIl1 (k := 2) (by decide +kernel) rfl) ?_
  refine ce_op (okIc1 (n := 1) (by decide +kernel) (by decide)) ?_
  refine ce_op (okAl1 (k := 0) (by decide +kernel) rfl) ?_
  refine ce_op (okGetR clX7 (k := 18) (x := 46) (by decide +kernel) (by decide) rfl wd1018 rfl (by decide +kernel)) ?_
  refine ce_op (okAl1 (k := 0) (by decide +kernel) rfl) ?_
  refine ce_op (okGetR clX7 (k := 43) (x := 74) (by decide +kernel) (by decide) rfl wd1043 rfl (by decide +kernel)) ?_
  refine ce_op (okIc2 (n := 6) (by decide +kernel) (by decide)) ?_
  refine ce_op (okIl1 (k := 1) (by decide +kernel) rfl) ?_
  refine ce_op (okImul (by decide +kernel)) ?_
  refine ce_op (okIl1 (k := 3) (by decide +kernel) rfl) ?_
  refine ce_op (okIadd (by decide +kernel)) ?_
  refine ce_op (okIald (by decide +kernel)) ?_
  refine ce_op (okIald (by decide +kernel)) ?_
  refine ce_op (okIshl (by decide +kernel)) ?_
  refine ce_op (okIor (by decide +kernel)) ?_
  refine ce_op (okIs1 (k := 2) (by decide +kernel) rfl (by decide)) ?_
  refine ce_op (okInc (n := 1) (by decide +kernel) (by decide)) ?_
  refine ce_op (okGoto (off := (-34)) (by decide +kernel) (by decide)) ?_
  refine ce_op (okIl1 (k := 2) (by decide +kernel) rfl) ?_
  refine ce_op (okIret (by decide +kernel) rfl) ?_
  exact ce_nil
set_option maxRecDepth 100000 in
def cdX7_takesOf : List CE := (0, 1, some (oIc 0)) :: (1, 2, some (oIs 4)) :: (3, 1, some (oIc 0)) :: (4, 2, some (oIs 5)) :: (6, 0, none) :: (6, 2, some (oIl 5)) ::
  (8, 1, some (oAl 0)) :: (9, 3, some (oGetR [(1175, 820712)])) :: (12, 1, some (oIl 1)) :: (13, 1, some oIald) :: (14, 3, some (oCmGe 125)) :: (17, 1, some (oAl 0)) ::
  (18, 3, some (oGetR [(1175, 4916696)])) :: (21, 2, some (oIc 6)) :: (23, 1, some (oIl 1)) :: (24, 1, some oImul) :: (25, 2, some (oIl 5)) :: (27, 1, some oIadd) ::
  (28, 1, some oIald) :: (29, 2, some (oIs 6)) :: (31, 1, some (oAl 0)) :: (32, 3, some (oGetR [(1175, 4916696)])) :: (35, 2, some (oIc 6)) :: (37, 1, some (oIl 1)) ::
  (38, 1, some oImul) :: (39, 2, some (oIl 5)) :: (41, 1, some (oAl 0)) :: (42, 3, some (oGetR [(1175, 820712)])) :: (45, 1, some (oIl 1)) :: (46, 1, some oIald) ::
  (47, 1, some oIadd) :: (48, 1, some (oIc 1)) :: (49, 1, some oIsub) :: (50, 1, some (oAl 0)) :: (51, 3, some (oGetR [(1175, 820712)])) :: (54, 1, some (oIl 1)) ::
  (55, 1, some oIald) :: (56, 1, some oIrem) :: (57, 1, some oIadd) :: (58, 1, some oIald) :: (59, 2, some (oIs 7)) :: (61, 1, some (oAl 0)) ::
  (62, 1, some (oAl 0)) :: (63, 3, some (oGetR [(1175, 329048)])) :: (66, 2, some (oIl 6)) :: (68, 1, some oIald) :: (69, 1, some (oIl 2)) :: (70, 3, some (oCI 7 mX7_isMissing 3)) ::
  (73, 3, some (oIfNe 79)) :: (76, 3, some (oGoto 119)) :: (79, 2, some (oIl 4)) :: (81, 1, some (oIc 0)) :: (82, 1, some (oAl 0)) :: (83, 3, some (oGetR [(1175, 329112)])) ::
  (86, 2, some (oIl 6)) :: (88, 1, some oIald) :: (89, 1, some (oAl 0)) :: (90, 2, some (oIl 6)) :: (92, 1, some (oIl 3)) :: (93, 3, some (oCI 7 mX7_rate 3)) ::
  (96, 1, some oImul) :: (97, 1, some (oAl 0)) :: (98, 3, some (oGetR [(1175, 329112)])) :: (101, 2, some (oIl 7)) :: (103, 1, some oIald) :: (104, 1, some (oAl 0)) ::
  (105, 2, some (oIl 7)) :: (107, 1, some (oIl 3)) :: (108, 3, some (oCI 7 mX7_rate 3)) :: (111, 1, some oImul) :: (112, 1, some oIsub) :: (113, 3, some oMax) ::
  (116, 1, some oIadd) :: (117, 2, some (oIs 4)) :: (119, 3, some (oInc 5 1)) :: (122, 3, some (oGoto 6)) :: (125, 2, some (oIl 4)) :: (127, 1, some (oAl 0)) ::
  (128, 1, some (oIl 1)) :: (129, 3, some (oCI 7 mX7_carries 2)) :: (132, 1, some oImul) :: (133, 1, some oIret) :: []
set_option maxRecDepth 100000 in
set_option maxHeartbeats 4000000 in
theorem okX7_takesOf : CodeOk mX7_takesOf cdX7_takesOf := by
  refine ⟨by rfl, ?_⟩
  show CodeAll mX7_takesOf cdX7_takesOf
  refine ce_op (okIc1 (n := 0) (by decide +kernel) (by decide)) ?_
  refine ce_op (okIs2 (by decide +kernel) (by decide)) ?_
  refine ce_op (okIc1 (n := 0) (by decide +kernel) (by decide)) ?_
  refine ce_op (okIs2 (by decide +kernel) (by decide)) ?_
  refine ce_st ?_
  refine ce_op (okIl2 (by decide +kernel)) ?_
  refine ce_op (okAl1 (k := 0) (by decide +kernel) rfl) ?_
  refine ce_op (okGetR clX7 (k := 44) (x := 77) (by decide +kernel) (by decide) rfl wd1044 rfl (by decide +kernel)) ?_
  refine ce_op (okIl1 (k := 1) (by decide +kernel) rfl) ?_
  refine ce_op (okIald (by decide +kernel)) ?_
  refine ce_op (okCmGe (off := 111) (by decide +kernel) (by decide)) ?_
  refine ce_op (okAl1 (k := 0) (by decide +kernel) rfl) ?_
  refine ce_op (okGetR clX7 (k := 43) (x := 74) (by decide +kernel) (by decide) rfl wd1043 rfl (by decide +kernel)) ?_
  refine ce_op (okIc2 (n := 6) (by decide +kernel) (by decide)) ?_
  refine ce_op (okIl1 (k := 1) (by decide +kernel) rfl) ?_
  refine ce_op (okImul (by decide +kernel)) ?_
  refine ce_op (okIl2 (by decide +kernel)) ?_
  refine ce_op (okIadd (by decide +kernel)) ?_
  refine ce_op (okIald (by decide +kernel)) ?_
  refine ce_op (okIs2 (by decide +kernel) (by decide)) ?_
  refine ce_op (okAl1 (k := 0) (by decide +kernel) rfl) ?_
  refine ce_op (okGetR clX7 (k := 43) (x := 74) (by decide +kernel) (by decide) rfl wd1043 rfl (by decide +kernel)) ?_
  refine ce_op (okIc2 (n := 6) (by decide +kernel) (by decide)) ?_
  refine ce_op (okIl1 (k := 1) (by decide +kernel) rfl) ?_
  refine ce_op (okImul (by decide +kernel)) ?_
  refine ce_op (okIl2 (by decide +kernel)) ?_
  refine ce_op (okAl1 (k := 0) (by decide +kernel) rfl) ?_
  refine ce_op (okGetR clX7 (k := 44) (x := 77) (by decide +kernel) (by decide) rfl wd1044 rfl (by decide +kernel)) ?_
  refine ce_op (okIl1 (k := 1) (by decide +kernel) rfl) ?_
  refine ce_op (okIald (by decide +kernel)) ?_
  refine ce_op (okIadd (by decide +kernel)) ?_
  refine ce_op (okIc1 (n := 1) (by decide +kernel) (by decide)) ?_
  refine ce_op (okIsub (by decide +kernel)) ?_
  refine ce_op (okAl1 (k := 0) (by decide +kernel) rfl) ?_
  refine ce_op (okGetR clX7 (k := 44) (x := 77) (by decide +kernel) (by decide) rfl wd1044 rfl (by decide +kernel)) ?_
  refine ce_op (okIl1 (k := 1) (by decide +kernel) rfl) ?_
  refine ce_op (okIald (by decide +kernel)) ?_
  refine ce_op (okIrem (by decide +kernel)) ?_
  refine ce_op (okIadd (by decide +kernel)) ?_
  refine ce_op (okIald (by decide +kernel)) ?_
  refine ce_op (okIs2 (by decide +kernel) (by decide)) ?_
  refine ce_op (okAl1 (k := 0) (by decide +kernel) rfl) ?_
  refine ce_op (okAl1 (k := 0) (by decide +kernel) rfl) ?_
  refine ce_op (okGetR clX7 (k := 18) (x := 46) (by decide +kernel) (by decide) rfl wd1018 rfl (by decide +kernel)) ?_
  refine ce_op (okIl2 (by decide +kernel)) ?_
  refine ce_op (okIald (by decide +kernel)) ?_
  refine ce_op (okIl1 (k := 2) (by decide +kernel) rfl) ?_
  refine ce_op (okCI miX7_isMissing (rV clX7 (x := 262) miX7_isMissing rfl (by decide +kernel) wd1338 wd1340 wd68)) ?_
  refine ce_op (okIfNe (off := 6) (by decide +kernel) (by decide)) ?_
  refine ce_op (okGoto (off := 43) (by decide +kernel) (by decide)) ?_
  refine ce_op (okIl2 (by decide +kernel)) ?_
  refine ce_op (okIc1 (n := 0) (by decide +kernel) (by decide)) ?_
  refine ce_op (okAl1 (k := 0) (by decide +kernel) rfl) ?_
  refine ce_op (okGetR clX7 (k := 22) (x := 58) (by decide +kernel) (by decide) rfl wd1022 rfl (by decide +kernel)) ?_
  refine ce_op (okIl2 (by decide +kernel)) ?_
  refine ce_op (okIald (by decide +kernel)) ?_
  refine ce_op (okAl1 (k := 0) (by decide +kernel) rfl) ?_
  refine ce_op (okIl2 (by decide +kernel)) ?_
  refine ce_op (okIl1 (k := 3) (by decide +kernel) rfl) ?_
  refine ce_op (okCI miX7_rate (rV clX7 (x := 238) miX7_rate rfl (by decide +kernel) wd1316 wd1318 wd64)) ?_
  refine ce_op (okImul (by decide +kernel)) ?_
  refine ce_op (okAl1 (k := 0) (by decide +kernel) rfl) ?_
  refine ce_op (okGetR clX7 (k := 22) (x := 58) (by decide +kernel) (by decide) rfl wd1022 rfl (by decide +kernel)) ?_
  refine ce_op (okIl2 (by decide +kernel)) ?_
  refine ce_op (okIald (by decide +kernel)) ?_
  refine ce_op (okAl1 (k := 0) (by decide +kernel) rfl) ?_
  refine ce_op (okIl2 (by decide +kernel)) ?_
  refine ce_op (okIl1 (k := 3) (by decide +kernel) rfl) ?_
  refine ce_op (okCI miX7_rate (rV clX7 (x := 238) miX7_rate rfl (by decide +kernel) wd1316 wd1318 wd64)) ?_
  refine ce_op (okImul (by decide +kernel)) ?_
  refine ce_op (okIsub (by decide +kernel)) ?_
  refine ce_op (okMax (x := 302) (by decide +kernel) wd1393 wd548 wd98 wd549) ?_
  refine ce_op (okIadd (by decide +kernel)) ?_
  refine ce_op (okIs2 (by decide +kernel) (by decide)) ?_
  refine ce_op (okInc (n := 1) (by decide +kernel) (by decide)) ?_
  refine ce_op (okGoto (off := (-116)) (by decide +kernel) (by decide)) ?_
  refine ce_op (okIl2 (by decide +kernel)) ?_
  refine ce_op (okAl1 (k := 0) (by decide +kernel) rfl) ?_
  refine ce_op (okIl1 (k := 1) (by decide +kernel) rfl) ?_
  refine ce_op (okCI miX7_carries (rV clX7 (x := 305) miX7_carries rfl (by decide +kernel) wd1385 wd1387 wd74)) ?_
  refine ce_op (okImul (by decide +kernel)) ?_
  refine ce_op (okIret (by decide +kernel) rfl) ?_
  exact ce_nil
set_option maxRecDepth 100000 in
def cdX7_round : List CE := (0, 1, some (oAl 0)) :: (1, 1, some (oIc 0)) :: (2, 3, some (oPutI 7 0)) :: (5, 1, some (oIl 1)) :: (6, 1, some (oIl 2)) :: (7, 1, some (oIl 3)) ::
  (8, 3, some (oCI 16 mX7_isAsked 3)) :: (11, 3, some (oIfEq 19)) :: (14, 2, some (oIl 5)) :: (16, 3, some (oIfGe 21)) :: (19, 1, some (oIc (-1))) :: (20, 1, some oIret) ::
  (21, 1, some (oAl 0)) :: (22, 1, some (oIl 1)) :: (23, 1, some (oIl 2)) :: (24, 1, some (oIl 3)) :: (25, 3, some (oCV 7 mX7_seeksNow 4)) :: (28, 1, some (oAl 0)) ::
  (29, 3, some (oGetI 7 47)) :: (32, 3, some (oIfEq 38)) :: (35, 2, some (oIc (-2))) :: (37, 1, some oIret) :: (38, 2, some (oIl 4)) :: (40, 3, some (oIfLt 66)) ::
  (43, 2, some (oIl 4)) :: (45, 1, some (oAl 0)) :: (46, 3, some (oGetI 7 42)) :: (49, 3, some (oCmGe 66)) :: (52, 2, some (oIl 5)) :: (54, 1, some (oIc 4)) ::
  (55, 1, some oIsub) :: (56, 1, some (oAl 0)) :: (57, 3, some (oGetR [(1175, 820712)])) :: (60, 2, some (oIl 4)) :: (62, 1, some oIald) :: (63, 3, some (oCmLt 68)) ::
  (66, 1, some (oIc (-1))) :: (67, 1, some oIret) :: (68, 2, some (oIl 5)) :: (70, 30, some (oSw [(0, 100), (1, 108), (2, 115), (3, 130)] 137)) :: (100, 1, some (oAl 0)) :: (101, 3, some (oGetR [(1175, 820712)])) ::
  (104, 2, some (oIl 4)) :: (106, 1, some oIald) :: (107, 1, some oIret) :: (108, 1, some (oAl 0)) :: (109, 2, some (oIl 4)) :: (111, 3, some (oCI 7 mX7_carries 2)) ::
  (114, 1, some oIret) :: (115, 1, some (oAl 0)) :: (116, 2, some (oIl 4)) :: (118, 1, some (oAl 0)) :: (119, 3, some (oGetI 7 40)) :: (122, 1, some (oAl 0)) ::
  (123, 3, some (oGetI 7 40)) :: (126, 3, some (oCI 7 mX7_takesOf 4)) :: (129, 1, some oIret) :: (130, 1, some (oAl 0)) :: (131, 2, some (oIl 4)) :: (133, 3, some (oCI 7 mX7_firmsOf 2)) ::
  (136, 1, some oIret) :: (137, 1, some (oAl 0)) :: (138, 3, some (oGetR [(1175, 4916696)])) :: (141, 2, some (oIc 6)) :: (143, 2, some (oIl 4)) :: (145, 1, some oImul) ::
  (146, 2, some (oIl 5)) :: (148, 1, some oIadd) :: (149, 1, some (oIc 4)) :: (150, 1, some oIsub) :: (151, 1, some oIald) :: (152, 1, some oIret) :: []
set_option maxRecDepth 100000 in
set_option maxHeartbeats 4000000 in
theorem okX7_round : CodeOk mX7_round cdX7_round := by
  refine ⟨by rfl, ?_⟩
  show CodeAll mX7_round cdX7_round
  refine ce_op (okAl1 (k := 0) (by decide +kernel) rfl) ?_
  refine ce_op (okIc1 (n := 0) (by decide +kernel) (by decide)) ?_
  refine ce_op (okPutI clX7 (k := 0) (x := 102) (by decide +kernel) (by decide) rfl wd1000 rfl rfl (by decide +kernel)) ?_
  refine ce_op (okIl1 (k := 1) (by decide +kernel) rfl) ?_
  refine ce_op (okIl1 (k := 2) (by decide +kernel) rfl) ?_
  refine ce_op (okIl1 (k := 3) (by decide +kernel) rfl) ?_
  refine ce_op (okCI miX7_isAsked (rS (x := 295) miX7_isAsked (by decide +kernel) wd1358 wd1359)) ?_
  refine ce_op (okIfEq (off := 8) (by decide +kernel) (by decide)) ?_
  refine ce_op (okIl2 (by decide +kernel)) ?_
  refine ce_op (okIfGe (off := 5) (by decide +kernel) (by decide)) ?_
  refine ce_op (okIc1 (n := (-1)) (by decide +kernel) (by decide)) ?_
  refine ce_op (okIret (by decide +kernel) rfl) ?_
  refine ce_op (okAl1 (k := 0) (by decide +kernel) rfl) ?_
  refine ce_op (okIl1 (k := 1) (by decide +kernel) rfl) ?_
  refine ce_op (okIl1 (k := 2) (by decide +kernel) rfl) ?_
  refine ce_op (okIl1 (k := 3) (by decide +kernel) rfl) ?_
  refine ce_op (okCV miX7_seeksNow (rV clX7 (x := 299) miX7_seeksNow rfl (by decide +kernel) wd1361 wd1363 wd69)) ?_
  refine ce_op (okAl1 (k := 0) (by decide +kernel) rfl) ?_
  refine ce_op (okGetI clX7 (k := 47) (x := 272) (by decide +kernel) (by decide) rfl wd1047 (Or.inr rfl)) ?_
  refine ce_op (okIfEq (off := 6) (by decide +kernel) (by decide)) ?_
  refine ce_op (okIc2 (n := (-2)) (by decide +kernel) (by decide)) ?_
  refine ce_op (okIret (by decide +kernel) rfl) ?_
  refine ce_op (okIl2 (by decide +kernel)) ?_
  refine ce_op (okIfLt (off := 26) (by decide +kernel) (by decide)) ?_
  refine ce_op (okIl2 (by decide +kernel)) ?_
  refine ce_op (okAl1 (k := 0) (by decide +kernel) rfl) ?_
  refine ce_op (okGetI clX7 (k := 42) (x := 276) (by decide +kernel) (by decide) rfl wd1042 (Or.inl rfl)) ?_
  refine ce_op (okCmGe (off := 17) (by decide +kernel) (by decide)) ?_
  refine ce_op (okIl2 (by decide +kernel)) ?_
  refine ce_op (okIc1 (n := 4) (by decide +kernel) (by decide)) ?_
  refine ce_op (okIsub (by decide +kernel)) ?_
  refine ce_op (okAl1 (k := 0) (by decide +kernel) rfl) ?_
  refine ce_op (okGetR clX7 (k := 44) (x := 77) (by decide +kernel) (by decide) rfl wd1044 rfl (by decide +kernel)) ?_
  refine ce_op (okIl2 (by decide +kernel)) ?_
  refine ce_op (okIald (by decide +kernel)) ?_
  refine ce_op (okCmLt (off := 5) (by decide +kernel) (by decide)) ?_
  refine ce_op (okIc1 (n := (-1)) (by decide +kernel) (by decide)) ?_
  refine ce_op (okIret (by decide +kernel) rfl) ?_
  refine ce_op (okIl2 (by decide +kernel)) ?_
  refine ce_op (okTsw (dO := 67) (lo := 0) (hi := 3) (offs := #[30, 38, 45, 60]) (by decide +kernel) (by decide) (by decide +kernel) (by decide +kernel) (sw_all (by decide +kernel))) ?_
  refine ce_op (okAl1 (k := 0) (by decide +kernel) rfl) ?_
  refine ce_op (okGetR clX7 (k := 44) (x := 77) (by decide +kernel) (by decide) rfl wd1044 rfl (by decide +kernel)) ?_
  refine ce_op (okIl2 (by decide +kernel)) ?_
  refine ce_op (okIald (by decide +kernel)) ?_
  refine ce_op (okIret (by decide +kernel) rfl) ?_
  refine ce_op (okAl1 (k := 0) (by decide +kernel) rfl) ?_
  refine ce_op (okIl2 (by decide +kernel)) ?_
  refine ce_op (okCI miX7_carries (rV clX7 (x := 305) miX7_carries rfl (by decide +kernel) wd1385 wd1387 wd74)) ?_
  refine ce_op (okIret (by decide +kernel) rfl) ?_
  refine ce_op (okAl1 (k := 0) (by decide +kernel) rfl) ?_
  refine ce_op (okIl2 (by decide +kernel)) ?_
  refine ce_op (okAl1 (k := 0) (by decide +kernel) rfl) ?_
  refine ce_op (okGetI clX7 (k := 40) (x := 235) (by decide +kernel) (by decide) rfl wd1040 (Or.inl rfl)) ?_
  refine ce_op (okAl1 (k := 0) (by decide +kernel) rfl) ?_
  refine ce_op (okGetI clX7 (k := 40) (x := 235) (by decide +kernel) (by decide) rfl wd1040 (Or.inl rfl)) ?_
  refine ce_op (okCI miX7_takesOf (rV clX7 (x := 309) miX7_takesOf rfl (by decide +kernel) wd1389 wd1391 wd75)) ?_
  refine ce_op (okIret (by decide +kernel) rfl) ?_
  refine ce_op (okAl1 (k := 0) (by decide +kernel) rfl) ?_
  refine ce_op (okIl2 (by decide +kernel)) ?_
  refine ce_op (okCI miX7_firmsOf (rV clX7 (x := 313) miX7_firmsOf rfl (by decide +kernel) wd1394 wd1396 wd76)) ?_
  refine ce_op (okIret (by decide +kernel) rfl) ?_
  refine ce_op (okAl1 (k := 0) (by decide +kernel) rfl) ?_
  refine ce_op (okGetR clX7 (k := 43) (x := 74) (by decide +kernel) (by decide) rfl wd1043 rfl (by decide +kernel)) ?_
  refine ce_op (okIc2 (n := 6) (by decide +kernel) (by decide)) ?_
  refine ce_op (okIl2 (by decide +kernel)) ?_
  refine ce_op (okImul (by decide +kernel)) ?_
  refine ce_op (okIl2 (by decide +kernel)) ?_
  refine ce_op (okIadd (by decide +kernel)) ?_
  refine ce_op (okIc1 (n := 4) (by decide +kernel) (by decide)) ?_
  refine ce_op (okIsub (by decide +kernel)) ?_
  refine ce_op (okIald (by decide +kernel)) ?_
  refine ce_op (okIret (by decide +kernel) rfl) ?_
  exact ce_nil
set_option maxRecDepth 100000 in
def cdX7_judge : List CE := (0, 1, some (oAl 0)) :: (1, 1, some (oIc 0)) :: (2, 3, some (oPutI 7 0)) :: (5, 1, some (oIl 1)) :: (6, 3, some (oIfLt 25)) :: (9, 1, some (oIl 1)) ::
  (10, 1, some (oIc 1)) :: (11, 3, some (oCmGt 25)) :: (14, 1, some (oIl 2)) :: (15, 1, some (oIc 2)) :: (16, 3, some (oCmLt 25)) :: (19, 1, some (oIl 2)) ::
  (20, 2, some (oIc 6)) :: (22, 3, some (oCmLe 27)) :: (25, 1, some (oIc (-1))) :: (26, 1, some oIret) :: (27, 1, some (oIc 0)) :: (28, 2, some (oIs 5)) ::
  (30, 0, none) :: (30, 2, some (oIl 5)) :: (32, 1, some (oIl 2)) :: (33, 3, some (oCmGe 63)) :: (36, 1, some (oAl 0)) :: (37, 1, some (oJl 3)) ::
  (38, 2, some (oIc 6)) :: (40, 2, some (oIl 5)) :: (42, 1, some oImul) :: (43, 1, some oLshr) :: (44, 3, some (oJc 63)) :: (47, 1, some oLand) ::
  (48, 1, some oL2i) :: (49, 3, some (oCI 7 mX7_isSale 2)) :: (52, 3, some (oIfNe 57)) :: (55, 1, some (oIc (-1))) :: (56, 1, some oIret) :: (57, 3, some (oInc 5 1)) ::
  (60, 3, some (oGoto 30)) :: (63, 1, some (oIc 0)) :: (64, 2, some (oIs 5)) :: (66, 0, none) :: (66, 2, some (oIl 5)) :: (68, 1, some (oAl 0)) ::
  (69, 3, some (oGetI 7 6)) :: (72, 3, some (oCmGe 95)) :: (75, 1, some (oAl 0)) :: (76, 3, some (oGetR [(1175, 165384)])) :: (79, 2, some (oIl 5)) :: (81, 1, some (oAl 0)) ::
  (82, 3, some (oGetR [(1175, 329064)])) :: (85, 2, some (oIl 5)) :: (87, 1, some oIald) :: (88, 1, some oIast) :: (89, 3, some (oInc 5 1)) :: (92, 3, some (oGoto 66)) ::
  (95, 1, some (oAl 0)) :: (96, 1, some (oIl 1)) :: (97, 3, some (oPutI 7 48)) :: (100, 1, some (oAl 0)) :: (101, 3, some (oGetR [(1175, 26104)])) :: (104, 1, some (oIc 0)) ::
  (105, 1, some (oJl 3)) :: (106, 3, some (oJc 63)) :: (109, 1, some oLand) :: (110, 1, some oL2i) :: (111, 1, some oIast) :: (112, 1, some (oAl 0)) ::
  (113, 1, some (oAl 0)) :: (114, 3, some (oGetR [(1175, 26104)])) :: (117, 1, some (oIc 0)) :: (118, 1, some oIald) :: (119, 3, some (oCI 7 mX7_isStopped 2)) :: (122, 3, some (oIfNe 143)) ::
  (125, 1, some (oIl 1)) :: (126, 3, some (oIfNe 145)) :: (129, 1, some (oAl 0)) :: (130, 3, some (oGetR [(1175, 329144)])) :: (133, 1, some (oAl 0)) :: (134, 3, some (oGetR [(1175, 26104)])) ::
  (137, 1, some (oIc 0)) :: (138, 1, some oIald) :: (139, 1, some oIald) :: (140, 3, some (oIfNe 145)) :: (143, 1, some (oIc 0)) :: (144, 1, some oIret) ::
  (145, 1, some (oIc 1)) :: (146, 2, some (oIs 5)) :: (148, 0, none) :: (148, 2, some (oIl 5)) :: (150, 1, some (oIl 2)) :: (151, 3, some (oCmGe 197)) ::
  (154, 1, some (oAl 0)) :: (155, 3, some (oGetR [(1175, 26104)])) :: (158, 2, some (oIl 5)) :: (160, 1, some (oJl 3)) :: (161, 2, some (oIc 6)) :: (163, 2, some (oIl 5)) ::
  (165, 1, some oImul) :: (166, 1, some oLshr) :: (167, 3, some (oJc 63)) :: (170, 1, some oLand) :: (171, 1, some oL2i) :: (172, 1, some oIast) ::
  (173, 1, some (oAl 0)) :: (174, 2, some (oIl 5)) :: (176, 1, some (oAl 0)) :: (177, 3, some (oGetR [(1175, 26104)])) :: (180, 2, some (oIl 5)) :: (182, 1, some oIald) ::
  (183, 3, some (oCI 7 mX7_fits 3)) :: (186, 3, some (oIfNe 191)) :: (189, 1, some (oIc 0)) :: (190, 1, some oIret) :: (191, 3, some (oInc 5 1)) :: (194, 3, some (oGoto 148)) ::
  (197, 1, some (oAl 0)) :: (198, 3, some (oGetR [(1175, 165384)])) :: (201, 1, some (oAl 0)) :: (202, 3, some (oGetR [(1175, 26104)])) :: (205, 1, some (oIl 2)) :: (206, 1, some (oIc 1)) ::
  (207, 1, some oIsub) :: (208, 1, some oIald) :: (209, 1, some oIald) :: (210, 1, some (oAl 0)) :: (211, 3, some (oGetR [(1175, 329048)])) :: (214, 1, some (oAl 0)) ::
  (215, 3, some (oGetR [(1175, 26104)])) :: (218, 1, some (oIc 0)) :: (219, 1, some oIald) :: (220, 1, some oIald) :: (221, 3, some (oCmNe 228)) :: (224, 1, some (oIc 1)) ::
  (225, 3, some (oGoto 229)) :: (228, 1, some (oIc 0)) :: (229, 1, some oIret) :: []
set_option maxRecDepth 100000 in
set_option maxHeartbeats 4000000 in
theorem okX7_judge : CodeOk mX7_judge cdX7_judge := by
  refine ⟨by rfl, ?_⟩
  show CodeAll mX7_judge cdX7_judge
  refine ce_op (okAl1 (k := 0) (by decide +kernel) rfl) ?_
  refine ce_op (okIc1 (n := 0) (by decide +kernel) (by decide)) ?_
  refine ce_op (okPutI clX7 (k := 0) (x := 102) (by decide +kernel) (by decide) rfl wd1000 rfl rfl (by decide +kernel)) ?_
  refine ce_op (okIl1 (k := 1) (by decide +kernel) rfl) ?_
  refine ce_op (okIfLt (off := 19) (by decide +kernel) (by decide)) ?_
  refine ce_op (okIl1 (k := 1) (by decide +kernel) rfl) ?_
  refine ce_op (okIc1 (n := 1) (by decide +kernel) (by decide)) ?_
  refine ce_op (okCmGt (off := 14) (by decide +kernel) (by decide)) ?_
  refine ce_op (okIl1 (k := 2) (by decide +kernel) rfl) ?_
  refine ce_op (okIc1 (n := 2) (by decide +kernel) (by decide)) ?_
  refine ce_op (okCmLt (off := 9) (by decide +kernel) (by decide)) ?_
  refine ce_op (okIl1 (k := 2) (by decide +kernel) rfl) ?_
  refine ce_op (okIc2 (n := 6) (by decide +kernel) (by decide)) ?_
  refine ce_op (okCmLe (off := 5) (by decide +kernel) (by decide)) ?_
  refine ce_op (okIc1 (n := (-1)) (by decide +kernel) (by decide)) ?_
  refine ce_op (okIret (by decide +kernel) rfl) ?_
  refine ce_op (okIc1 (n := 0) (by decide +kernel) (by decide)) ?_
  refine ce_op (okIs2 (by decide +kernel) (by decide)) ?_
  refine ce_st ?_
  refine ce_op (okIl2 (by decide +kernel)) ?_
  refine ce_op (okIl1 (k := 2) (by decide +kernel) rfl) ?_
  refine ce_op (okCmGe (off := 30) (by decide +kernel) (by decide)) ?_
  refine ce_op (okAl1 (k := 0) (by decide +kernel) rfl) ?_
  refine ce_op (okJl1 (k := 3) (by decide +kernel) rfl) ?_
  refine ce_op (okIc2 (n := 6) (by decide +kernel) (by decide)) ?_
  refine ce_op (okIl2 (by decide +kernel)) ?_
  refine ce_op (okImul (by decide +kernel)) ?_
  refine ce_op (okLshr (by decide +kernel)) ?_
  refine ce_op (okJcL (k := 316) (by decide +kernel) wd1402) ?_
  refine ce_op (okLand (by decide +kernel)) ?_
  refine ce_op (okL2i (by decide +kernel)) ?_
  refine ce_op (okCI miX7_isSale (rV clX7 (x := 252) miX7_isSale rfl (by decide +kernel) wd1308 wd1310 wd62)) ?_
  refine ce_op (okIfNe (off := 5) (by decide +kernel) (by decide)) ?_
  refine ce_op (okIc1 (n := (-1)) (by decide +kernel) (by decide)) ?_
  refine ce_op (okIret (by decide +kernel) rfl) ?_
  refine ce_op (okInc (n := 1) (by decide +kernel) (by decide)) ?_
  refine ce_op (okGoto (off := (-30)) (by decide +kernel) (by decide)) ?_
  refine ce_op (okIc1 (n := 0) (by decide +kernel) (by decide)) ?_
  refine ce_op (okIs2 (by decide +kernel) (by decide)) ?_
  refine ce_st ?_
  refine ce_op (okIl2 (by decide +kernel)) ?_
  refine ce_op (okAl1 (k := 0) (by decide +kernel) rfl) ?_
  refine ce_op (okGetI clX7 (k := 6) (x := 226) (by decide +kernel) (by decide) rfl wd1006 (Or.inl rfl)) ?_
  refine ce_op (okCmGe (off := 23) (by decide +kernel) (by decide)) ?_
  refine ce_op (okAl1 (k := 0) (by decide +kernel) rfl) ?_
  refine ce_op (okGetR clX7 (k := 46) (x := 83) (by decide +kernel) (by decide) rfl wd1046 rfl (by decide +kernel)) ?_
  refine ce_op (okIl2 (by decide +kernel)) ?_
  refine ce_op (okAl1 (k := 0) (by decide +kernel) rfl) ?_
  refine ce_op (okGetR clX7 (k := 19) (x := 49) (by decide +kernel) (by decide) rfl wd1019 rfl (by decide +kernel)) ?_
  refine ce_op (okIl2 (by decide +kernel)) ?_
  refine ce_op (okIald (by decide +kernel)) ?_
  refine ce_op (okIast (by decide +kernel)) ?_
  refine ce_op (okInc (n := 1) (by decide +kernel) (by decide)) ?_
  refine ce_op (okGoto (off := (-26)) (by decide +kernel) (by decide)) ?_
  refine ce_op (okAl1 (k := 0) (by decide +kernel) rfl) ?_
  refine ce_op (okIl1 (k := 1) (by decide +kernel) rfl) ?_
  refine ce_op (okPutI clX7 (k := 48) (x := 269) (by decide +kernel) (by decide) rfl wd1048 rfl rfl (by decide +kernel)) ?_
  refine ce_op (okAl1 (k := 0) (by decide +kernel) rfl) ?_
  refine ce_op (okGetR clX7 (k := 45) (x := 80) (by decide +kernel) (by decide) rfl wd1045 rfl (by decide +kernel)) ?_
  refine ce_op (okIc1 (n := 0) (by decide +kernel) (by decide)) ?_
  refine ce_op (okJl1 (k := 3) (by decide +kernel) rfl) ?_
  refine ce_op (okJcL (k := 316) (by decide +kernel) wd1402) ?_
  refine ce_op (okLand (by decide +kernel)) ?_
  refine ce_op (okL2i (by decide +kernel)) ?_
  refine ce_op (okIast (by decide +kernel)) ?_
  refine ce_op (okAl1 (k := 0) (by decide +kernel) rfl) ?_
  refine ce_op (okAl1 (k := 0) (by decide +kernel) rfl) ?_
  refine ce_op (okGetR clX7 (k := 45) (x := 80) (by decide +kernel) (by decide) rfl wd1045 rfl (by decide +kernel)) ?_
  refine ce_op (okIc1 (n := 0) (by decide +kernel) (by decide)) ?_
  refine ce_op (okIald (by decide +kernel)) ?_
  refine ce_op (okCI miX7_isStopped (rV clX7 (x := 266) miX7_isStopped rfl (by decide +kernel) wd1369 wd1371 wd71)) ?_
  refine ce_op (okIfNe (off := 21) (by decide +kernel) (by decide)) ?_
  refine ce_op (okIl1 (k := 1) (by decide +kernel) rfl) ?_
  refine ce_op (okIfNe (off := 19) (by decide +kernel) (by decide)) ?_
  refine ce_op (okAl1 (k := 0) (by decide +kernel) rfl) ?_
  refine ce_op (okGetR clX7 (k := 24) (x := 64) (by decide +kernel) (by decide) rfl wd1024 rfl (by decide +kernel)) ?_
  refine ce_op (okAl1 (k := 0) (by decide +kernel) rfl) ?_
  refine ce_op (okGetR clX7 (k := 45) (x := 80) (by decide +kernel) (by decide) rfl wd1045 rfl (by decide +kernel)) ?_
  refine ce_op (okIc1 (n := 0) (by decide +kernel) (by decide)) ?_
  refine ce_op (okIald (by decide +kernel)) ?_
  refine ce_op (okIald (by decide +kernel)) ?_
  refine ce_op (okIfNe (off := 5) (by decide +kernel) (by decide)) ?_
  refine ce_op (okIc1 (n := 0) (by decide +kernel) (by decide)) ?_
  refine ce_op (okIret (by decide +kernel) rfl) ?_
  refine ce_op (okIc1 (n := 1) (by decide +kernel) (by decide)) ?_
  refine ce_op (okIs2 (by decide +kernel) (by decide)) ?_
  refine ce_st ?_
  refine ce_op (okIl2 (by decide +kernel)) ?_
  refine ce_op (okIl1 (k := 2) (by decide +kernel) rfl) ?_
  refine ce_op (okCmGe (off := 46) (by decide +kernel) (by decide)) ?_
  refine ce_op (okAl1 (k := 0) (by decide +kernel) rfl) ?_
  refine ce_op (okGetR clX7 (k := 45) (x := 80) (by decide +kernel) (by decide) rfl wd1045 rfl (by decide +kernel)) ?_
  refine ce_op (okIl2 (by decide +kernel)) ?_
  refine ce_op (okJl1 (k := 3) (by decide +kernel) rfl) ?_
  refine ce_op (okIc2 (n := 6) (by decide +kernel) (by decide)) ?_
  refine ce_op (okIl2 (by decide +kernel)) ?_
  refine ce_op (okImul (by decide +kernel)) ?_
  refine ce_op (okLshr (by decide +kernel)) ?_
  refine ce_op (okJcL (k := 316) (by decide +kernel) wd1402) ?_
  refine ce_op (okLand (by decide +kernel)) ?_
  refine ce_op (okL2i (by decide +kernel)) ?_
  refine ce_op (okIast (by decide +kernel)) ?_
  refine ce_op (okAl1 (k := 0) (by decide +kernel) rfl) ?_
  refine ce_op (okIl2 (by decide +kernel)) ?_
  refine ce_op (okAl1 (k := 0) (by decide +kernel) rfl) ?_
  refine ce_op (okGetR clX7 (k := 45) (x := 80) (by decide +kernel) (by decide) rfl wd1045 rfl (by decide +kernel)) ?_
  refine ce_op (okIl2 (by decide +kernel)) ?_
  refine ce_op (okIald (by decide +kernel)) ?_
  refine ce_op (okCI miX7_fits (rV clX7 (x := 282) miX7_fits rfl (by decide +kernel) wd1377 wd1379 wd73)) ?_
  refine ce_op (okIfNe (off := 5) (by decide +kernel) (by decide)) ?_
  refine ce_op (okIc1 (n := 0) (by decide +kernel) (by decide)) ?_
  refine ce_op (okIret (by decide +kernel) rfl) ?_
  refine ce_op (okInc (n := 1) (by decide +kernel) (by decide)) ?_
  refine ce_op (okGoto (off := (-46)) (by decide +kernel) (by decide)) ?_
  refine ce_op (okAl1 (k := 0) (by decide +kernel) rfl) ?_
  refine ce_op (okGetR clX7 (k := 46) (x := 83) (by decide +kernel) (by decide) rfl wd1046 rfl (by decide +kernel)) ?_
  refine ce_op (okAl1 (k := 0) (by decide +kernel) rfl) ?_
  refine ce_op (okGetR clX7 (k := 45) (x := 80) (by decide +kernel) (by decide) rfl wd1045 rfl (by decide +kernel)) ?_
  refine ce_op (okIl1 (k := 2) (by decide +kernel) rfl) ?_
  refine ce_op (okIc1 (n := 1) (by decide +kernel) (by decide)) ?_
  refine ce_op (okIsub (by decide +kernel)) ?_
  refine ce_op (okIald (by decide +kernel)) ?_
  refine ce_op (okIald (by decide +kernel)) ?_
  refine ce_op (okAl1 (k := 0) (by decide +kernel) rfl) ?_
  refine ce_op (okGetR clX7 (k := 18) (x := 46) (by decide +kernel) (by decide) rfl wd1018 rfl (by decide +kernel)) ?_
  refine ce_op (okAl1 (k := 0) (by decide +kernel) rfl) ?_
  refine ce_op (okGetR clX7 (k := 45) (x := 80) (by decide +kernel) (by decide) rfl wd1045 rfl (by decide +kernel)) ?_
  refine ce_op (okIc1 (n := 0) (by decide +kernel) (by decide)) ?_
  refine ce_op (okIald (by decide +kernel)) ?_
  refine ce_op (okIald (by decide +kernel)) ?_
  refine ce_op (okCmNe (off := 7) (by decide +kernel) (by decide)) ?_
  refine ce_op (okIc1 (n := 1) (by decide +kernel) (by decide)) ?_
  refine ce_op (okGoto (off := 4) (by decide +kernel) (by decide)) ?_
  refine ce_op (okIc1 (n := 0) (by decide +kernel) (by decide)) ?_
  refine ce_op (okIret (by decide +kernel) rfl) ?_
  exact ce_nil
set_option maxRecDepth 100000 in
def cdX7_takes : List CE := (0, 1, some (oAl 0)) :: (1, 1, some (oIc 0)) :: (2, 3, some (oPutI 7 0)) :: (5, 1, some (oIl 1)) :: (6, 1, some (oIl 2)) :: (7, 1, some (oIl 3)) ::
  (8, 3, some (oCI 16 mX7_isAsked 3)) :: (11, 3, some (oIfNe 18)) :: (14, 3, some (oJc (-1))) :: (17, 1, some oJret) :: (18, 1, some (oAl 0)) :: (19, 1, some (oIl 1)) ::
  (20, 1, some (oIl 2)) :: (21, 1, some (oIl 3)) :: (22, 3, some (oCV 7 mX7_seeksNow 4)) :: (25, 1, some (oAl 0)) :: (26, 3, some (oGetI 7 47)) :: (29, 3, some (oIfEq 38)) ::
  (32, 3, some (oJc (-2))) :: (35, 3, some (oGoto 51)) :: (38, 1, some (oAl 0)) :: (39, 1, some (oIc 0)) :: (40, 1, some (oAl 0)) :: (41, 3, some (oGetI 7 40)) ::
  (44, 1, some (oAl 0)) :: (45, 3, some (oGetI 7 40)) :: (48, 3, some (oCJ 7 mX7_allTakes 4)) :: (51, 1, some oJret) :: []
set_option maxRecDepth 100000 in
set_option maxHeartbeats 4000000 in
theorem okX7_takes : CodeOk mX7_takes cdX7_takes := by
  refine ⟨by rfl, ?_⟩
  show CodeAll mX7_takes cdX7_takes
  refine ce_op (okAl1 (k := 0) (by decide +kernel) rfl) ?_
  refine ce_op (okIc1 (n := 0) (by decide +kernel) (by decide)) ?_
  refine ce_op (okPutI clX7 (k := 0) (x := 102) (by decide +kernel) (by decide) rfl wd1000 rfl rfl (by decide +kernel)) ?_
  refine ce_op (okIl1 (k := 1) (by decide +kernel) rfl) ?_
  refine ce_op (okIl1 (k := 2) (by decide +kernel) rfl) ?_
  refine ce_op (okIl1 (k := 3) (by decide +kernel) rfl) ?_
  refine ce_op (okCI miX7_isAsked (rS (x := 295) miX7_isAsked (by decide +kernel) wd1358 wd1359)) ?_
  refine ce_op (okIfNe (off := 7) (by decide +kernel) (by decide)) ?_
  refine ce_op (okJcL (k := 318) (by decide +kernel) wd1407) ?_
  refine ce_op (okJret (by decide +kernel) rfl) ?_
  refine ce_op (okAl1 (k := 0) (by decide +kernel) rfl) ?_
  refine ce_op (okIl1 (k := 1) (by decide +kernel) rfl) ?_
  refine ce_op (okIl1 (k := 2) (by decide +kernel) rfl) ?_
  refine ce_op (okIl1 (k := 3) (by decide +kernel) rfl) ?_
  refine ce_op (okCV miX7_seeksNow (rV clX7 (x := 299) miX7_seeksNow rfl (by decide +kernel) wd1361 wd1363 wd69)) ?_
  refine ce_op (okAl1 (k := 0) (by decide +kernel) rfl) ?_
  refine ce_op (okGetI clX7 (k := 47) (x := 272) (by decide +kernel) (by decide) rfl wd1047 (Or.inr rfl)) ?_
  refine ce_op (okIfEq (off := 9) (by decide +kernel) (by decide)) ?_
  refine ce_op (okJcL (k := 320) (by decide +kernel) wd1408) ?_
  refine ce_op (okGoto (off := 16) (by decide +kernel) (by decide)) ?_
  refine ce_op (okAl1 (k := 0) (by decide +kernel) rfl) ?_
  refine ce_op (okIc1 (n := 0) (by decide +kernel) (by decide)) ?_
  refine ce_op (okAl1 (k := 0) (by decide +kernel) rfl) ?_
  refine ce_op (okGetI clX7 (k := 40) (x := 235) (by decide +kernel) (by decide) rfl wd1040 (Or.inl rfl)) ?_
  refine ce_op (okAl1 (k := 0) (by decide +kernel) rfl) ?_
  refine ce_op (okGetI clX7 (k := 40) (x := 235) (by decide +kernel) (by decide) rfl wd1040 (Or.inl rfl)) ?_
  refine ce_op (okCJ miX7_allTakes (rV clX7 (x := 322) miX7_allTakes rfl (by decide +kernel) wd1409 wd1411 wd77)) ?_
  refine ce_op (okJret (by decide +kernel) rfl) ?_
  exact ce_nil
set_option maxRecDepth 100000 in
def cdX7_allTakes : List CE := (0, 1, some (oJc 0)) :: (1, 2, some (oJs 4)) :: (3, 1, some (oIc 0)) :: (4, 2, some (oIs 6)) :: (6, 0, none) :: (6, 2, some (oIl 6)) ::
  (8, 1, some (oAl 0)) :: (9, 3, some (oGetI 7 42)) :: (12, 3, some (oCmGe 50)) :: (15, 2, some (oJl 4)) :: (17, 1, some (oAl 0)) :: (18, 2, some (oIl 6)) ::
  (20, 3, some (oCI 7 mX7_firmsOf 2)) :: (23, 1, some (oIl 1)) :: (24, 1, some oIand) :: (25, 3, some (oIfEq 32)) :: (28, 1, some (oJc 0)) :: (29, 3, some (oGoto 41)) ::
  (32, 1, some (oAl 0)) :: (33, 2, some (oIl 6)) :: (35, 1, some (oIl 2)) :: (36, 1, some (oIl 3)) :: (37, 3, some (oCI 7 mX7_takesOf 4)) :: (40, 1, some oI2l) ::
  (41, 1, some oLadd) :: (42, 2, some (oJs 4)) :: (44, 3, some (oInc 6 1)) :: (47, 3, some (oGoto 6)) :: (50, 2, some (oJl 4)) :: (52, 1, some oJret) :: []
set_option maxRecDepth 100000 in
set_option maxHeartbeats 4000000 in
theorem okX7_allTakes : CodeOk mX7_allTakes cdX7_allTakes := by
  refine ⟨by rfl, ?_⟩
  show CodeAll mX7_allTakes cdX7_allTakes
  refine ce_op (okJc1 (n := 0) (by decide +kernel) (by decide)) ?_
  refine ce_op (okJs2 (by decide +kernel) (by decide)) ?_
  refine ce_op (okIc1 (n := 0) (by decide +kernel) (by decide)) ?_
  refine ce_op (okIs2 (by decide +kernel) (by decide)) ?_
  refine ce_st ?_
  refine ce_op (okIl2 (by decide +kernel)) ?_
  refine ce_op (okAl1 (k := 0) (by decide +kernel) rfl) ?_
  refine ce_op (okGetI clX7 (k := 42) (x := 276) (by decide +kernel) (by decide) rfl wd1042 (Or.inl rfl)) ?_
  refine ce_op (okCmGe (off := 38) (by decide +kernel) (by decide)) ?_
  refine ce_op (okJl2 (by decide +kernel)) ?_
  refine ce_op (okAl1 (k := 0) (by decide +kernel) rfl) ?_
  refine ce_op (okIl2 (by decide +kernel)) ?_
  refine ce_op (okCI miX7_firmsOf (rV clX7 (x := 313) miX7_firmsOf rfl (by decide +kernel) wd1394 wd1396 wd76)) ?_
  refine ce_op (okIl1 (k := 1) (by decide +kernel) rfl) ?_
  refine ce_op (okIand (by decide +kernel)) ?_
  refine ce_op (okIfEq (off := 7) (by decide +kernel) (by decide)) ?_
  refine ce_op (okJc1 (n := 0) (by decide +kernel) (by decide)) ?_
  refine ce_op (okGoto (off := 12) (by decide +kernel) (by decide)) ?_
  refine ce_op (okAl1 (k := 0) (by decide +kernel) rfl) ?_
  refine ce_op (okIl2 (by decide +kernel)) ?_
  refine ce_op (okIl1 (k := 2) (by decide +kernel) rfl) ?_
  refine ce_op (okIl1 (k := 3) (by decide +kernel) rfl) ?_
  refine ce_op (okCI miX7_takesOf (rV clX7 (x := 309) miX7_takesOf rfl (by decide +kernel) wd1389 wd1391 wd75)) ?_
  refine ce_op (okI2l (by decide +kernel)) ?_
  refine ce_op (okLadd (by decide +kernel)) ?_
  refine ce_op (okJs2 (by decide +kernel) (by decide)) ?_
  refine ce_op (okInc (n := 1) (by decide +kernel) (by decide)) ?_
  refine ce_op (okGoto (off := (-41)) (by decide +kernel) (by decide)) ?_
  refine ce_op (okJl2 (by decide +kernel)) ?_
  refine ce_op (okJret (by decide +kernel) rfl) ?_
  exact ce_nil
set_option maxRecDepth 100000 in
def cdX7_counts : List CE := (0, 1, some (oAl 0)) :: (1, 3, some (oGetR [(1175, 329096)])) :: (4, 1, some (oIl 1)) :: (5, 1, some oIald) :: (6, 1, some (oIl 2)) :: (7, 3, some (oCmNe 46)) ::
  (10, 1, some (oAl 0)) :: (11, 3, some (oGetI 7 39)) :: (14, 1, some (oAl 0)) :: (15, 3, some (oGetR [(1175, 329048)])) :: (18, 1, some (oIl 1)) :: (19, 1, some oIald) ::
  (20, 1, some oIshr) :: (21, 1, some (oIc 1)) :: (22, 1, some oIand) :: (23, 3, some (oIfNe 46)) :: (26, 1, some (oAl 0)) :: (27, 3, some (oGetI 7 39)) ::
  (30, 1, some (oAl 0)) :: (31, 3, some (oGetR [(1175, 329064)])) :: (34, 1, some (oIl 1)) :: (35, 1, some oIald) :: (36, 1, some oIshr) :: (37, 1, some (oIc 1)) ::
  (38, 1, some oIand) :: (39, 3, some (oIfNe 46)) :: (42, 1, some (oIc 1)) :: (43, 3, some (oGoto 47)) :: (46, 1, some (oIc 0)) :: (47, 1, some oZret) :: []
set_option maxRecDepth 100000 in
set_option maxHeartbeats 4000000 in
theorem okX7_counts : CodeOk mX7_counts cdX7_counts := by
  refine ⟨by rfl, ?_⟩
  show CodeAll mX7_counts cdX7_counts
  refine ce_op (okAl1 (k := 0) (by decide +kernel) rfl) ?_
  refine ce_op (okGetR clX7 (k := 21) (x := 55) (by decide +kernel) (by decide) rfl wd1021 rfl (by decide +kernel)) ?_
  refine ce_op (okIl1 (k := 1) (by decide +kernel) rfl) ?_
  refine ce_op (okIald (by decide +kernel)) ?_
  refine ce_op (okIl1 (k := 2) (by decide +kernel) rfl) ?_
  refine ce_op (okCmNe (off := 39) (by decide +kernel) (by decide)) ?_
  refine ce_op (okAl1 (k := 0) (by decide +kernel) rfl) ?_
  refine ce_op (okGetI clX7 (k := 39) (x := 232) (by decide +kernel) (by decide) rfl wd1039 (Or.inl rfl)) ?_
  refine ce_op (okAl1 (k := 0) (by decide +kernel) rfl) ?_
  refine ce_op (okGetR clX7 (k := 18) (x := 46) (by decide +kernel) (by decide) rfl wd1018 rfl (by decide +kernel)) ?_
  refine ce_op (okIl1 (k := 1) (by decide +kernel) rfl) ?_
  refine ce_op (okIald (by decide +kernel)) ?_
  refine ce_op (okIshr (by decide +kernel)) ?_
  refine ce_op (okIc1 (n := 1) (by decide +kernel) (by decide)) ?_
  refine ce_op (okIand (by decide +kernel)) ?_
  refine ce_op (okIfNe (off := 23) (by decide +kernel) (by decide)) ?_
  refine ce_op (okAl1 (k := 0) (by decide +kernel) rfl) ?_
  refine ce_op (okGetI clX7 (k := 39) (x := 232) (by decide +kernel) (by decide) rfl wd1039 (Or.inl rfl)) ?_
  refine ce_op (okAl1 (k := 0) (by decide +kernel) rfl) ?_
  refine ce_op (okGetR clX7 (k := 19) (x := 49) (by decide +kernel) (by decide) rfl wd1019 rfl (by decide +kernel)) ?_
  refine ce_op (okIl1 (k := 1) (by decide +kernel) rfl) ?_
  refine ce_op (okIald (by decide +kernel)) ?_
  refine ce_op (okIshr (by decide +kernel)) ?_
  refine ce_op (okIc1 (n := 1) (by decide +kernel) (by decide)) ?_
  refine ce_op (okIand (by decide +kernel)) ?_
  refine ce_op (okIfNe (off := 7) (by decide +kernel) (by decide)) ?_
  refine ce_op (okIc1 (n := 1) (by decide +kernel) (by decide)) ?_
  refine ce_op (okGoto (off := 4) (by decide +kernel) (by decide)) ?_
  refine ce_op (okIc1 (n := 0) (by decide +kernel) (by decide)) ?_
  refine ce_op (okZret (by decide +kernel) rfl) ?_
  exact ce_nil
set_option maxRecDepth 100000 in
def cdX7_mayHand : List CE := (0, 1, some (oAl 0)) :: (1, 3, some (oGetR [(1175, 329064)])) :: (4, 1, some (oIl 1)) :: (5, 1, some oIald) :: (6, 1, some (oAl 0)) :: (7, 3, some (oGetR [(1175, 329048)])) ::
  (10, 1, some (oIl 2)) :: (11, 1, some oIald) :: (12, 3, some (oCmNe 44)) :: (15, 1, some (oAl 0)) :: (16, 3, some (oGetR [(1175, 329064)])) :: (19, 1, some (oIl 1)) ::
  (20, 1, some oIald) :: (21, 1, some (oIl 3)) :: (22, 3, some (oCmEq 44)) :: (25, 1, some (oAl 0)) :: (26, 3, some (oGetR [(1175, 329128)])) :: (29, 1, some (oIl 1)) ::
  (30, 1, some oIald) :: (31, 1, some (oAl 0)) :: (32, 3, some (oGetR [(1175, 329128)])) :: (35, 1, some (oIl 2)) :: (36, 1, some oIald) :: (37, 3, some (oCmGt 44)) ::
  (40, 1, some (oIc 1)) :: (41, 3, some (oGoto 45)) :: (44, 1, some (oIc 0)) :: (45, 1, some oZret) :: []
set_option maxRecDepth 100000 in
set_option maxHeartbeats 4000000 in
theorem okX7_mayHand : CodeOk mX7_mayHand cdX7_mayHand := by
  refine ⟨by rfl, ?_⟩
  show CodeAll mX7_mayHand cdX7_mayHand
  refine ce_op (okAl1 (k := 0) (by decide +kernel) rfl) ?_
  refine ce_op (okGetR clX7 (k := 19) (x := 49) (by decide +kernel) (by decide) rfl wd1019 rfl (by decide +kernel)) ?_
  refine ce_op (okIl1 (k := 1) (by decide +kernel) rfl) ?_
  refine ce_op (okIald (by decide +kernel)) ?_
  refine ce_op (okAl1 (k := 0) (by decide +kernel) rfl) ?_
  refine ce_op (okGetR clX7 (k := 18) (x := 46) (by decide +kernel) (by decide) rfl wd1018 rfl (by decide +kernel)) ?_
  refine ce_op (okIl1 (k := 2) (by decide +kernel) rfl) ?_
  refine ce_op (okIald (by decide +kernel)) ?_
  refine ce_op (okCmNe (off := 32) (by decide +kernel) (by decide)) ?_
  refine ce_op (okAl1 (k := 0) (by decide +kernel) rfl) ?_
  refine ce_op (okGetR clX7 (k := 19) (x := 49) (by decide +kernel) (by decide) rfl wd1019 rfl (by decide +kernel)) ?_
  refine ce_op (okIl1 (k := 1) (by decide +kernel) rfl) ?_
  refine ce_op (okIald (by decide +kernel)) ?_
  refine ce_op (okIl1 (k := 3) (by decide +kernel) rfl) ?_
  refine ce_op (okCmEq (off := 22) (by decide +kernel) (by decide)) ?_
  refine ce_op (okAl1 (k := 0) (by decide +kernel) rfl) ?_
  refine ce_op (okGetR clX7 (k := 23) (x := 61) (by decide +kernel) (by decide) rfl wd1023 rfl (by decide +kernel)) ?_
  refine ce_op (okIl1 (k := 1) (by decide +kernel) rfl) ?_
  refine ce_op (okIald (by decide +kernel)) ?_
  refine ce_op (okAl1 (k := 0) (by decide +kernel) rfl) ?_
  refine ce_op (okGetR clX7 (k := 23) (x := 61) (by decide +kernel) (by decide) rfl wd1023 rfl (by decide +kernel)) ?_
  refine ce_op (okIl1 (k := 2) (by decide +kernel) rfl) ?_
  refine ce_op (okIald (by decide +kernel)) ?_
  refine ce_op (okCmGt (off := 7) (by decide +kernel) (by decide)) ?_
  refine ce_op (okIc1 (n := 1) (by decide +kernel) (by decide)) ?_
  refine ce_op (okGoto (off := 4) (by decide +kernel) (by decide)) ?_
  refine ce_op (okIc1 (n := 0) (by decide +kernel) (by decide)) ?_
  refine ce_op (okZret (by decide +kernel) rfl) ?_
  exact ce_nil
set_option maxRecDepth 100000 in
def cdX7_flow : List CE := (0, 1, some (oAl 0)) :: (1, 1, some (oIc 0)) :: (2, 3, some (oPutI 7 0)) :: (5, 1, some (oAl 0)) :: (6, 1, some (oIl 1)) :: (7, 3, some (oCI 7 mX7_isFirm 2)) ::
  (10, 3, some (oIfEq 25)) :: (13, 1, some (oIl 2)) :: (14, 3, some (oIfLt 25)) :: (17, 1, some (oIl 2)) :: (18, 1, some (oAl 0)) :: (19, 3, some (oGetI 7 4)) ::
  (22, 3, some (oCmLt 27)) :: (25, 1, some (oIc (-1))) :: (26, 1, some oIret) :: (27, 1, some (oAl 0)) :: (28, 1, some (oIl 1)) :: (29, 1, some (oIl 2)) ::
  (30, 3, some (oCI 7 mX7_flowBy 3)) :: (33, 1, some oIret) :: []
set_option maxRecDepth 100000 in
set_option maxHeartbeats 4000000 in
theorem okX7_flow : CodeOk mX7_flow cdX7_flow := by
  refine ⟨by rfl, ?_⟩
  show CodeAll mX7_flow cdX7_flow
  refine ce_op (okAl1 (k := 0) (by decide +kernel) rfl) ?_
  refine ce_op (okIc1 (n := 0) (by decide +kernel) (by decide)) ?_
  refine ce_op (okPutI clX7 (k := 0) (x := 102) (by decide +kernel) (by decide) rfl wd1000 rfl rfl (by decide +kernel)) ?_
  refine ce_op (okAl1 (k := 0) (by decide +kernel) rfl) ?_
  refine ce_op (okIl1 (k := 1) (by decide +kernel) rfl) ?_
  refine ce_op (okCI miX7_isFirm (rV clX7 (x := 255) miX7_isFirm rfl (by decide +kernel) wd1324 wd1326 wd65)) ?_
  refine ce_op (okIfEq (off := 15) (by decide +kernel) (by decide)) ?_
  refine ce_op (okIl1 (k := 2) (by decide +kernel) rfl) ?_
  refine ce_op (okIfLt (off := 11) (by decide +kernel) (by decide)) ?_
  refine ce_op (okIl1 (k := 2) (by decide +kernel) rfl) ?_
  refine ce_op (okAl1 (k := 0) (by decide +kernel) rfl) ?_
  refine ce_op (okGetI clX7 (k := 4) (x := 220) (by decide +kernel) (by decide) rfl wd1004 (Or.inl rfl)) ?_
  refine ce_op (okCmLt (off := 5) (by decide +kernel) (by decide)) ?_
  refine ce_op (okIc1 (n := (-1)) (by decide +kernel) (by decide)) ?_
  refine ce_op (okIret (by decide +kernel) rfl) ?_
  refine ce_op (okAl1 (k := 0) (by decide +kernel) rfl) ?_
  refine ce_op (okIl1 (k := 1) (by decide +kernel) rfl) ?_
  refine ce_op (okIl1 (k := 2) (by decide +kernel) rfl) ?_
  refine ce_op (okCI miX7_flowBy (rV clX7 (x := 326) miX7_flowBy rfl (by decide +kernel) wd1417 wd1419 wd78)) ?_
  refine ce_op (okIret (by decide +kernel) rfl) ?_
  exact ce_nil
set_option maxRecDepth 100000 in
def cdX7_flowBy : List CE := (0, 1, some (oIc 0)) :: (1, 1, some (oIs 3)) :: (2, 0, none) :: (2, 1, some (oIl 3)) :: (3, 1, some (oAl 0)) :: (4, 3, some (oGetR [(1175, 27543064)])) ::
  (7, 1, some oLen) :: (8, 3, some (oCmGe 24)) :: (11, 1, some (oAl 0)) :: (12, 3, some (oGetR [(1175, 27543064)])) :: (15, 1, some (oIl 3)) :: (16, 1, some (oIc 0)) ::
  (17, 1, some oIast) :: (18, 3, some (oInc 3 1)) :: (21, 3, some (oGoto 2)) :: (24, 1, some (oIc 0)) :: (25, 1, some (oIs 3)) :: (26, 0, none) ::
  (26, 1, some (oIl 3)) :: (27, 1, some (oAl 0)) :: (28, 3, some (oGetI 7 6)) :: (31, 3, some (oCmGe 185)) :: (34, 1, some (oAl 0)) :: (35, 1, some (oIl 3)) ::
  (36, 1, some (oIl 2)) :: (37, 3, some (oCI 7 mX7_counts 3)) :: (40, 3, some (oIfNe 46)) :: (43, 3, some (oGoto 179)) :: (46, 1, some (oAl 0)) :: (47, 3, some (oGetR [(1175, 27543064)])) ::
  (50, 2, some (oIc 82)) :: (52, 1, some (oIl 3)) :: (53, 1, some oImul) :: (54, 2, some (oIc 40)) :: (56, 1, some oIadd) :: (57, 1, some (oIl 3)) ::
  (58, 1, some oIadd) :: (59, 1, some (oAl 0)) :: (60, 3, some (oGetR [(1175, 329080)])) :: (63, 1, some (oIl 3)) :: (64, 1, some oIald) :: (65, 1, some oIast) ::
  (66, 1, some (oAl 0)) :: (67, 3, some (oGetR [(1175, 329048)])) :: (70, 1, some (oIl 3)) :: (71, 1, some oIald) :: (72, 1, some (oIl 1)) :: (73, 3, some (oCmNe 92)) ::
  (76, 1, some (oAl 0)) :: (77, 3, some (oGetR [(1175, 27543064)])) :: (80, 3, some (oIc 6560)) :: (83, 1, some (oIl 3)) :: (84, 1, some oIadd) :: (85, 1, some (oAl 0)) ::
  (86, 3, some (oGetR [(1175, 329080)])) :: (89, 1, some (oIl 3)) :: (90, 1, some oIald) :: (91, 1, some oIast) :: (92, 1, some (oAl 0)) :: (93, 3, some (oGetR [(1175, 329064)])) ::
  (96, 1, some (oIl 3)) :: (97, 1, some oIald) :: (98, 1, some (oIl 1)) :: (99, 3, some (oCmNe 123)) :: (102, 1, some (oAl 0)) :: (103, 3, some (oGetR [(1175, 27543064)])) ::
  (106, 2, some (oIc 82)) :: (108, 2, some (oIc 40)) :: (110, 1, some (oIl 3)) :: (111, 1, some oIadd) :: (112, 1, some oImul) :: (113, 2, some (oIc 81)) ::
  (115, 1, some oIadd) :: (116, 1, some (oAl 0)) :: (117, 3, some (oGetR [(1175, 329080)])) :: (120, 1, some (oIl 3)) :: (121, 1, some oIald) :: (122, 1, some oIast) ::
  (123, 1, some (oIc 0)) :: (124, 2, some (oIs 4)) :: (126, 0, none) :: (126, 2, some (oIl 4)) :: (128, 1, some (oAl 0)) :: (129, 3, some (oGetI 7 6)) ::
  (132, 3, some (oCmGe 179)) :: (135, 1, some (oAl 0)) :: (136, 2, some (oIl 4)) :: (138, 1, some (oIl 2)) :: (139, 3, some (oCI 7 mX7_counts 3)) :: (142, 3, some (oIfEq 173)) ::
  (145, 1, some (oAl 0)) :: (146, 1, some (oIl 3)) :: (147, 2, some (oIl 4)) :: (149, 1, some (oIl 1)) :: (150, 3, some (oCI 7 mX7_mayHand 4)) :: (153, 3, some (oIfEq 173)) ::
  (156, 1, some (oAl 0)) :: (157, 3, some (oGetR [(1175, 27543064)])) :: (160, 2, some (oIc 82)) :: (162, 2, some (oIc 40)) :: (164, 1, some (oIl 3)) :: (165, 1, some oIadd) ::
  (166, 1, some oImul) :: (167, 2, some (oIl 4)) :: (169, 1, some oIadd) :: (170, 2, some (oIc 999999)) :: (172, 1, some oIast) :: (173, 3, some (oInc 4 1)) ::
  (176, 3, some (oGoto 126)) :: (179, 3, some (oInc 3 1)) :: (182, 3, some (oGoto 26)) :: (185, 1, some (oIc 0)) :: (186, 1, some (oIs 3)) :: (187, 0, none) ::
  (187, 1, some (oAl 0)) :: (188, 3, some (oCI 7 mX7_reaches 1)) :: (191, 3, some (oIfEq 323)) :: (194, 2, some (oIc 999999)) :: (196, 2, some (oIs 4)) :: (198, 2, some (oIc 81)) ::
  (200, 2, some (oIs 5)) :: (202, 0, none) :: (202, 2, some (oIl 5)) :: (204, 2, some (oIc 80)) :: (206, 3, some (oCmEq 246)) :: (209, 2, some (oIl 4)) ::
  (211, 1, some (oAl 0)) :: (212, 3, some (oGetR [(1175, 27543064)])) :: (215, 2, some (oIc 82)) :: (217, 1, some (oAl 0)) :: (218, 3, some (oGetR [(1175, 337448)])) :: (221, 2, some (oIl 5)) ::
  (223, 1, some oIald) :: (224, 1, some oImul) :: (225, 2, some (oIl 5)) :: (227, 1, some oIadd) :: (228, 1, some oIald) :: (229, 3, some oMin) ::
  (232, 2, some (oIs 4)) :: (234, 1, some (oAl 0)) :: (235, 3, some (oGetR [(1175, 337448)])) :: (238, 2, some (oIl 5)) :: (240, 1, some oIald) :: (241, 2, some (oIs 5)) ::
  (243, 3, some (oGoto 202)) :: (246, 2, some (oIc 81)) :: (248, 2, some (oIs 5)) :: (250, 0, none) :: (250, 2, some (oIl 5)) :: (252, 2, some (oIc 80)) ::
  (254, 3, some (oCmEq 315)) :: (257, 1, some (oAl 0)) :: (258, 3, some (oGetR [(1175, 27543064)])) :: (261, 2, some (oIc 82)) :: (263, 1, some (oAl 0)) :: (264, 3, some (oGetR [(1175, 337448)])) ::
  (267, 2, some (oIl 5)) :: (269, 1, some oIald) :: (270, 1, some oImul) :: (271, 2, some (oIl 5)) :: (273, 1, some oIadd) :: (274, 1, some oDup2) ::
  (275, 1, some oIald) :: (276, 2, some (oIl 4)) :: (278, 1, some oIsub) :: (279, 1, some oIast) :: (280, 1, some (oAl 0)) :: (281, 3, some (oGetR [(1175, 27543064)])) ::
  (284, 2, some (oIc 82)) :: (286, 2, some (oIl 5)) :: (288, 1, some oImul) :: (289, 1, some (oAl 0)) :: (290, 3, some (oGetR [(1175, 337448)])) :: (293, 2, some (oIl 5)) ::
  (295, 1, some oIald) :: (296, 1, some oIadd) :: (297, 1, some oDup2) :: (298, 1, some oIald) :: (299, 2, some (oIl 4)) :: (301, 1, some oIadd) ::
  (302, 1, some oIast) :: (303, 1, some (oAl 0)) :: (304, 3, some (oGetR [(1175, 337448)])) :: (307, 2, some (oIl 5)) :: (309, 1, some oIald) :: (310, 2, some (oIs 5)) ::
  (312, 3, some (oGoto 250)) :: (315, 1, some (oIl 3)) :: (316, 2, some (oIl 4)) :: (318, 1, some oIadd) :: (319, 1, some (oIs 3)) :: (320, 3, some (oGoto 187)) ::
  (323, 1, some (oIl 3)) :: (324, 1, some oIret) :: []
set_option maxRecDepth 100000 in
set_option maxHeartbeats 4000000 in
theorem okX7_flowBy : CodeOk mX7_flowBy cdX7_flowBy := by
  refine ⟨by rfl, ?_⟩
  show CodeAll mX7_flowBy cdX7_flowBy
  refine ce_op (okIc1 (n := 0) (by decide +kernel) (by decide)) ?_
  refine ce_op (okIs1 (k := 3) (by decide +kernel) rfl (by decide)) ?_
  refine ce_st ?_
  refine ce_op (okIl1 (k := 3) (by decide +kernel) rfl) ?_
  refine ce_op (okAl1 (k := 0) (by decide +kernel) rfl) ?_
  refine ce_op (okGetR clX7 (k := 51) (x := 86) (by decide +kernel) (by decide) rfl wd1051 rfl (by decide +kernel)) ?_
  refine ce_op (okLen (by decide +kernel)) ?_
  refine ce_op (okCmGe (off := 16) (by decide +kernel) (by decide)) ?_
  refine ce_op (okAl1 (k := 0) (by decide +kernel) rfl) ?_
  refine ce_op (okGetR clX7 (k := 51) (x := 86) (by decide +kernel) (by decide) rfl wd1051 rfl (by decide +kernel)) ?_
  refine ce_op (okIl1 (k := 3) (by decide +kernel) rfl) ?_
  refine ce_op (okIc1 (n := 0) (by decide +kernel) (by decide)) ?_
  refine ce_op (okIast (by decide +kernel)) ?_
  refine ce_op (okInc (n := 1) (by decide +kernel) (by decide)) ?_
  refine ce_op (okGoto (off := (-19)) (by decide +kernel) (by decide)) ?_
  refine ce_op (okIc1 (n := 0) (by decide +kernel) (by decide)) ?_
  refine ce_op (okIs1 (k := 3) (by decide +kernel) rfl (by decide)) ?_
  refine ce_st ?_
  refine ce_op (okIl1 (k := 3) (by decide +kernel) rfl) ?_
  refine ce_op (okAl1 (k := 0) (by decide +kernel) rfl) ?_
  refine ce_op (okGetI clX7 (k := 6) (x := 226) (by decide +kernel) (by decide) rfl wd1006 (Or.inl rfl)) ?_
  refine ce_op (okCmGe (off := 154) (by decide +kernel) (by decide)) ?_
  refine ce_op (okAl1 (k := 0) (by decide +kernel) rfl) ?_
  refine ce_op (okIl1 (k := 3) (by decide +kernel) rfl) ?_
  refine ce_op (okIl1 (k := 2) (by decide +kernel) rfl) ?_
  refine ce_op (okCI miX7_counts (rV clX7 (x := 329) miX7_counts rfl (by decide +kernel) wd1421 wd1423 wd79)) ?_
  refine ce_op (okIfNe (off := 6) (by decide +kernel) (by decide)) ?_
  refine ce_op (okGoto (off := 136) (by decide +kernel) (by decide)) ?_
  refine ce_op (okAl1 (k := 0) (by decide +kernel) rfl) ?_
  refine ce_op (okGetR clX7 (k := 51) (x := 86) (by decide +kernel) (by decide) rfl wd1051 rfl (by decide +kernel)) ?_
  refine ce_op (okIc2 (n := 82) (by decide +kernel) (by decide)) ?_
  refine ce_op (okIl1 (k := 3) (by decide +kernel) rfl) ?_
  refine ce_op (okImul (by decide +kernel)) ?_
  refine ce_op (okIc2 (n := 40) (by decide +kernel) (by decide)) ?_
  refine ce_op (okIadd (by decide +kernel)) ?_
  refine ce_op (okIl1 (k := 3) (by decide +kernel) rfl) ?_
  refine ce_op (okIadd (by decide +kernel)) ?_
  refine ce_op (okAl1 (k := 0) (by decide +kernel) rfl) ?_
  refine ce_op (okGetR clX7 (k := 20) (x := 52) (by decide +kernel) (by decide) rfl wd1020 rfl (by decide +kernel)) ?_
  refine ce_op (okIl1 (k := 3) (by decide +kernel) rfl) ?_
  refine ce_op (okIald (by decide +kernel)) ?_
  refine ce_op (okIast (by decide +kernel)) ?_
  refine ce_op (okAl1 (k := 0) (by decide +kernel) rfl) ?_
  refine ce_op (okGetR clX7 (k := 18) (x := 46) (by decide +kernel) (by decide) rfl wd1018 rfl (by decide +kernel)) ?_
  refine ce_op (okIl1 (k := 3) (by decide +kernel) rfl) ?_
  refine ce_op (okIald (by decide +kernel)) ?_
  refine ce_op (okIl1 (k := 1) (by decide +kernel) rfl) ?_
  refine ce_op (okCmNe (off := 19) (by decide +kernel) (by decide)) ?_
  refine ce_op (okAl1 (k := 0) (by decide +kernel) rfl) ?_
  refine ce_op (okGetR clX7 (k := 51) (x := 86) (by decide +kernel) (by decide) rfl wd1051 rfl (by decide +kernel)) ?_
  refine ce_op (okIc3 (n := 6560) (by decide +kernel) (by decide)) ?_
  refine ce_op (okIl1 (k := 3) (by decide +kernel) rfl) ?_
  refine ce_op (okIadd (by decide +kernel)) ?_
  refine ce_op (okAl1 (k := 0) (by decide +kernel) rfl) ?_
  refine ce_op (okGetR clX7 (k := 20) (x := 52) (by decide +kernel) (by decide) rfl wd1020 rfl (by decide +kernel)) ?_
  refine ce_op (okIl1 (k := 3) (by decide +kernel) rfl) ?_
  refine ce_op (okIald (by decide +kernel)) ?_
  refine ce_op (okIast (by decide +kernel)) ?_
  refine ce_op (okAl1 (k := 0) (by decide +kernel) rfl) ?_
  refine ce_op (okGetR clX7 (k := 19) (x := 49) (by decide +kernel) (by decide) rfl wd1019 rfl (by decide +kernel)) ?_
  refine ce_op (okIl1 (k := 3) (by decide +kernel) rfl) ?_
  refine ce_op (okIald (by decide +kernel)) ?_
  refine ce_op (okIl1 (k := 1) (by decide +kernel) rfl) ?_
  refine ce_op (okCmNe (off := 24) (by decide +kernel) (by decide)) ?_
  refine ce_op (okAl1 (k := 0) (by decide +kernel) rfl) ?_
  refine ce_op (okGetR clX7 (k := 51) (x := 86) (by decide +kernel) (by decide) rfl wd1051 rfl (by decide +kernel)) ?_
  refine ce_op (okIc2 (n := 82) (by decide +kernel) (by decide)) ?_
  refine ce_op (okIc2 (n := 40) (by decide +kernel) (by decide)) ?_
  refine ce_op (okIl1 (k := 3) (by decide +kernel) rfl) ?_
  refine ce_op (okIadd (by decide +kernel)) ?_
  refine ce_op (okImul (by decide +kernel)) ?_
  refine ce_op (okIc2 (n := 81) (by decide +kernel) (by decide)) ?_
  refine ce_op (okIadd (by decide +kernel)) ?_
  refine ce_op (okAl1 (k := 0) (by decide +kernel) rfl) ?_
  refine ce_op (okGetR clX7 (k := 20) (x := 52) (by decide +kernel) (by decide) rfl wd1020 rfl (by decide +kernel)) ?_
  refine ce_op (okIl1 (k := 3) (by decide +kernel) rfl) ?_
  refine ce_op (okIald (by decide +kernel)) ?_
  refine ce_op (okIast (by decide +kernel)) ?_
  refine ce_op (okIc1 (n := 0) (by decide +kernel) (by decide)) ?_
  refine ce_op (okIs2 (by decide +kernel) (by decide)) ?_
  refine ce_st ?_
  refine ce_op (okIl2 (by decide +kernel)) ?_
  refine ce_op (okAl1 (k := 0) (by decide +kernel) rfl) ?_
  refine ce_op (okGetI clX7 (k := 6) (x := 226) (by decide +kernel) (by decide) rfl wd1006 (Or.inl rfl)) ?_
  refine ce_op (okCmGe (off := 47) (by decide +kernel) (by decide)) ?_
  refine ce_op (okAl1 (k := 0) (by decide +kernel) rfl) ?_
  refine ce_op (okIl2 (by decide +kernel)) ?_
  refine ce_op (okIl1 (k := 2) (by decide +kernel) rfl) ?_
  refine ce_op (okCI miX7_counts (rV clX7 (x := 329) miX7_counts rfl (by decide +kernel) wd1421 wd1423 wd79)) ?_
  refine ce_op (okIfEq (off := 31) (by decide +kernel) (by decide)) ?_
  refine ce_op (okAl1 (k := 0) (by decide +kernel) rfl) ?_
  refine ce_op (okIl1 (k := 3) (by decide +kernel) rfl) ?_
  refine ce_op (okIl2 (by decide +kernel)) ?_
  refine ce_op (okIl1 (k := 1) (by decide +kernel) rfl) ?_
  refine ce_op (okCI miX7_mayHand (rV clX7 (x := 332) miX7_mayHand rfl (by decide +kernel) wd1425 wd1427 wd80)) ?_
  refine ce_op (okIfEq (off := 20) (by decide +kernel) (by decide)) ?_
  refine ce_op (okAl1 (k := 0) (by decide +kernel) rfl) ?_
  refine ce_op (okGetR clX7 (k := 51) (x := 86) (by decide +kernel) (by decide) rfl wd1051 rfl (by decide +kernel)) ?_
  refine ce_op (okIc2 (n := 82) (by decide +kernel) (by decide)) ?_
  refine ce_op (okIc2 (n := 40) (by decide +kernel) (by decide)) ?_
  refine ce_op (okIl1 (k := 3) (by decide +kernel) rfl) ?_
  refine ce_op (okIadd (by decide +kernel)) ?_
  refine ce_op (okImul (by decide +kernel)) ?_
  refine ce_op (okIl2 (by decide +kernel)) ?_
  refine ce_op (okIadd (by decide +kernel)) ?_
  refine ce_op (okIcL (k := 140) (by decide +kernel) wd1248) ?_
  refine ce_op (okIast (by decide +kernel)) ?_
  refine ce_op (okInc (n := 1) (by decide +kernel) (by decide)) ?_
  refine ce_op (okGoto (off := (-50)) (by decide +kernel) (by decide)) ?_
  refine ce_op (okInc (n := 1) (by decide +kernel) (by decide)) ?_
  refine ce_op (okGoto (off := (-156)) (by decide +kernel) (by decide)) ?_
  refine ce_op (okIc1 (n := 0) (by decide +kernel) (by decide)) ?_
  refine ce_op (okIs1 (k := 3) (by decide +kernel) rfl (by decide)) ?_
  refine ce_st ?_
  refine ce_op (okAl1 (k := 0) (by decide +kernel) rfl) ?_
  refine ce_op (okCI miX7_reaches (rV clX7 (x := 335) miX7_reaches rfl (by decide +kernel) wd1429 wd1431 wd81)) ?_
  refine ce_op (okIfEq (off := 132) (by decide +kernel) (by decide)) ?_
  refine ce_op (okIcL (k := 140) (by decide +kernel) wd1248) ?_
  refine ce_op (okIs2 (by decide +kernel) (by decide)) ?_
  refine ce_op (okIc2 (n := 81) (by decide +kernel) (by decide)) ?_
  refine ce_op (okIs2 (by decide +kernel) (by decide)) ?_
  refine ce_st ?_
  refine ce_op (okIl2 (by decide +kernel)) ?_
  refine ce_op (okIc2 (n := 80) (by decide +kernel) (by decide)) ?_
  refine ce_op (okCmEq (off := 40) (by decide +kernel) (by decide)) ?_
  refine ce_op (okIl2 (by decide +kernel)) ?_
  refine ce_op (okAl1 (k := 0) (by decide +kernel) rfl) ?_
  refine ce_op (okGetR clX7 (k := 51) (x := 86) (by decide +kernel) (by decide) rfl wd1051 rfl (by decide +kernel)) ?_
  refine ce_op (okIc2 (n := 82) (by decide +kernel) (by decide)) ?_
  refine ce_op (okAl1 (k := 0) (by decide +kernel) rfl) ?_
  refine ce_op (okGetR clX7 (k := 52) (x := 89) (by decide +kernel) (by decide) rfl wd1052 rfl (by decide +kernel)) ?_
  refine ce_op (okIl2 (by decide +kernel)) ?_
  refine ce_op (okIald (by decide +kernel)) ?_
  refine ce_op (okImul (by decide +kernel)) ?_
  refine ce_op (okIl2 (by decide +kernel)) ?_
  refine ce_op (okIadd (by decide +kernel)) ?_
  refine ce_op (okIald (by decide +kernel)) ?_
  refine ce_op (okMin (x := 247) (by decide +kernel) wd1333 wd461 wd98 wd462) ?_
  refine ce_op (okIs2 (by decide +kernel) (by decide)) ?_
  refine ce_op (okAl1 (k := 0) (by decide +kernel) rfl) ?_
  refine ce_op (okGetR clX7 (k := 52) (x := 89) (by decide +kernel) (by decide) rfl wd1052 rfl (by decide +kernel)) ?_
  refine ce_op (okIl2 (by decide +kernel)) ?_
  refine ce_op (okIald (by decide +kernel)) ?_
  refine ce_op (okIs2 (by decide +kernel) (by decide)) ?_
  refine ce_op (okGoto (off := (-41)) (by decide +kernel) (by decide)) ?_
  refine ce_op (okIc2 (n := 81) (by decide +kernel) (by decide)) ?_
  refine ce_op (okIs2 (by decide +kernel) (by decide)) ?_
  refine ce_st ?_
  refine ce_op (okIl2 (by decide +kernel)) ?_
  refine ce_op (okIc2 (n := 80) (by decide +kernel) (by decide)) ?_
  refine ce_op (okCmEq (off := 61) (by decide +kernel) (by decide)) ?_
  refine ce_op (okAl1 (k := 0) (by decide +kernel) rfl) ?_
  refine ce_op (okGetR clX7 (k := 51) (x := 86) (by decide +kernel) (by decide) rfl wd1051 rfl (by decide +kernel)) ?_
  refine ce_op (okIc2 (n := 82) (by decide +kernel) (by decide)) ?_
  refine ce_op (okAl1 (k := 0) (by decide +kernel) rfl) ?_
  refine ce_op (okGetR clX7 (k := 52) (x := 89) (by decide +kernel) (by decide) rfl wd1052 rfl (by decide +kernel)) ?_
  refine ce_op (okIl2 (by decide +kernel)) ?_
  refine ce_op (okIald (by decide +kernel)) ?_
  refine ce_op (okImul (by decide +kernel)) ?_
  refine ce_op (okIl2 (by decide +kernel)) ?_
  refine ce_op (okIadd (by decide +kernel)) ?_
  refine ce_op (okDup2 (by decide +kernel)) ?_
  refine ce_op (okIald (by decide +kernel)) ?_
  refine ce_op (okIl2 (by decide +kernel)) ?_
  refine ce_op (okIsub (by decide +kernel)) ?_
  refine ce_op (okIast (by decide +kernel)) ?_
  refine ce_op (okAl1 (k := 0) (by decide +kernel) rfl) ?_
  refine ce_op (okGetR clX7 (k := 51) (x := 86) (by decide +kernel) (by decide) rfl wd1051 rfl (by decide +kernel)) ?_
  refine ce_op (okIc2 (n := 82) (by decide +kernel) (by decide)) ?_
  refine ce_op (okIl2 (by decide +kernel)) ?_
  refine ce_op (okImul (by decide +kernel)) ?_
  refine ce_op (okAl1 (k := 0) (by decide +kernel) rfl) ?_
  refine ce_op (okGetR clX7 (k := 52) (x := 89) (by decide +kernel) (by decide) rfl wd1052 rfl (by decide +kernel)) ?_
  refine ce_op (okIl2 (by decide +kernel)) ?_
  refine ce_op (okIald (by decide +kernel)) ?_
  refine ce_op (okIadd (by decide +kernel)) ?_
  refine ce_op (okDup2 (by decide +kernel)) ?_
  refine ce_op (okIald (by decide +kernel)) ?_
  refine ce_op (okIl2 (by decide +kernel)) ?_
  refine ce_op (okIadd (by decide +kernel)) ?_
  refine ce_op (okIast (by decide +kernel)) ?_
  refine ce_op (okAl1 (k := 0) (by decide +kernel) rfl) ?_
  refine ce_op (okGetR clX7 (k := 52) (x := 89) (by decide +kernel) (by decide) rfl wd1052 rfl (by decide +kernel)) ?_
  refine ce_op (okIl2 (by decide +kernel)) ?_
  refine ce_op (okIald (by decide +kernel)) ?_
  refine ce_op (okIs2 (by decide +kernel) (by decide)) ?_
  refine ce_op (okGoto (off := (-62)) (by decide +kernel) (by decide)) ?_
  refine ce_op (okIl1 (k := 3) (by decide +kernel) rfl) ?_
  refine ce_op (okIl2 (by decide +kernel)) ?_
  refine ce_op (okIadd (by decide +kernel)) ?_
  refine ce_op (okIs1 (k := 3) (by decide +kernel) rfl (by decide)) ?_
  refine ce_op (okGoto (off := (-133)) (by decide +kernel) (by decide)) ?_
  refine ce_op (okIl1 (k := 3) (by decide +kernel) rfl) ?_
  refine ce_op (okIret (by decide +kernel) rfl) ?_
  exact ce_nil
set_option maxRecDepth 100000 in
def cdX7_reaches : List CE := (0, 1, some (oIc 0)) :: (1, 1, some (oIs 1)) :: (2, 0, none) :: (2, 1, some (oIl 1)) :: (3, 2, some (oIc 82)) :: (5, 3, some (oCmGe 21)) ::
  (8, 1, some (oAl 0)) :: (9, 3, some (oGetR [(1175, 337448)])) :: (12, 1, some (oIl 1)) :: (13, 1, some (oIc (-1))) :: (14, 1, some oIast) :: (15, 3, some (oInc 1 1)) ::
  (18, 3, some (oGoto 2)) :: (21, 1, some (oAl 0)) :: (22, 3, some (oGetR [(1175, 337448)])) :: (25, 2, some (oIc 80)) :: (27, 2, some (oIc 80)) :: (29, 1, some oIast) ::
  (30, 1, some (oAl 0)) :: (31, 3, some (oGetR [(1175, 337464)])) :: (34, 1, some (oIc 0)) :: (35, 2, some (oIc 80)) :: (37, 1, some oIast) :: (38, 1, some (oIc 1)) ::
  (39, 1, some (oIs 1)) :: (40, 1, some (oIc 0)) :: (41, 1, some (oIs 2)) :: (42, 0, none) :: (42, 1, some (oIl 2)) :: (43, 1, some (oIl 1)) ::
  (44, 3, some (oCmGe 132)) :: (47, 1, some (oAl 0)) :: (48, 3, some (oGetR [(1175, 337448)])) :: (51, 2, some (oIc 81)) :: (53, 1, some oIald) :: (54, 1, some (oIc (-1))) ::
  (55, 3, some (oCmNe 132)) :: (58, 1, some (oIc 0)) :: (59, 1, some (oIs 3)) :: (60, 0, none) :: (60, 1, some (oIl 3)) :: (61, 2, some (oIc 82)) ::
  (63, 3, some (oCmGe 126)) :: (66, 1, some (oAl 0)) :: (67, 3, some (oGetR [(1175, 337448)])) :: (70, 1, some (oIl 3)) :: (71, 1, some oIald) :: (72, 1, some (oIc (-1))) ::
  (73, 3, some (oCmNe 120)) :: (76, 1, some (oAl 0)) :: (77, 3, some (oGetR [(1175, 27543064)])) :: (80, 2, some (oIc 82)) :: (82, 1, some (oAl 0)) :: (83, 3, some (oGetR [(1175, 337464)])) ::
  (86, 1, some (oIl 2)) :: (87, 1, some oIald) :: (88, 1, some oImul) :: (89, 1, some (oIl 3)) :: (90, 1, some oIadd) :: (91, 1, some oIald) ::
  (92, 3, some (oIfNe 98)) :: (95, 3, some (oGoto 120)) :: (98, 1, some (oAl 0)) :: (99, 3, some (oGetR [(1175, 337448)])) :: (102, 1, some (oIl 3)) :: (103, 1, some (oAl 0)) ::
  (104, 3, some (oGetR [(1175, 337464)])) :: (107, 1, some (oIl 2)) :: (108, 1, some oIald) :: (109, 1, some oIast) :: (110, 1, some (oAl 0)) :: (111, 3, some (oGetR [(1175, 337464)])) ::
  (114, 1, some (oIl 1)) :: (115, 1, some (oIl 3)) :: (116, 1, some oIast) :: (117, 3, some (oInc 1 1)) :: (120, 3, some (oInc 3 1)) :: (123, 3, some (oGoto 60)) ::
  (126, 3, some (oInc 2 1)) :: (129, 3, some (oGoto 42)) :: (132, 1, some (oAl 0)) :: (133, 3, some (oGetR [(1175, 337448)])) :: (136, 2, some (oIc 81)) :: (138, 1, some oIald) ::
  (139, 1, some (oIc (-1))) :: (140, 3, some (oCmEq 147)) :: (143, 1, some (oIc 1)) :: (144, 3, some (oGoto 148)) :: (147, 1, some (oIc 0)) :: (148, 1, some oZret) :: []
set_option maxRecDepth 100000 in
set_option maxHeartbeats 4000000 in
theorem okX7_reaches : CodeOk mX7_reaches cdX7_reaches := by
  refine ⟨by rfl, ?_⟩
  show CodeAll mX7_reaches cdX7_reaches
  refine ce_op (okIc1 (n := 0) (by decide +kernel) (by decide)) ?_
  refine ce_op (okIs1 (k := 1) (by decide +kernel) rfl (by decide)) ?_
  refine ce_st ?_
  refine ce_op (okIl1 (k := 1) (by decide +kernel) rfl) ?_
  refine ce_op (okIc2 (n := 82) (by decide +kernel) (by decide)) ?_
  refine ce_op (okCmGe (off := 16) (by decide +kernel) (by decide)) ?_
  refine ce_op (okAl1 (k := 0) (by decide +kernel) rfl) ?_
  refine ce_op (okGetR clX7 (k := 52) (x := 89) (by decide +kernel) (by decide) rfl wd1052 rfl (by decide +kernel)) ?_
  refine ce_op (okIl1 (k := 1) (by decide +kernel) rfl) ?_
  refine ce_op (okIc1 (n := (-1)) (by decide +kernel) (by decide)) ?_
  refine ce_op (okIast (by decide +kernel)) ?_
  refine ce_op (okInc (n := 1) (by decide +kernel) (by decide)) ?_
  refine ce_op (okGoto (off := (-16)) (by decide +kernel) (by decide)) ?_
  refine ce_op (okAl1 (k := 0) (by decide +kernel) rfl) ?_
  refine ce_op (okGetR clX7 (k := 52) (x := 89) (by decide +kernel) (by decide) rfl wd1052 rfl (by decide +kernel)) ?_
  refine ce_op (okIc2 (n := 80) (by decide +kernel) (by decide)) ?_
  refine ce_op (okIc2 (n := 80) (by decide +kernel) (by decide)) ?_
  refine ce_op (okIast (by decide +kernel)) ?_
  refine ce_op (okAl1 (k := 0) (by decide +kernel) rfl) ?_
  refine ce_op (okGetR clX7 (k := 53) (x := 92) (by decide +kernel) (by decide) rfl wd1053 rfl (by decide +kernel)) ?_
  refine ce_op (okIc1 (n := 0) (by decide +kernel) (by decide)) ?_
  refine ce_op (okIc2 (n := 80) (by decide +kernel) (by decide)) ?_
  refine ce_op (okIast (by decide +kernel)) ?_
  refine ce_op (okIc1 (n := 1) (by decide +kernel) (by decide)) ?_
  refine ce_op (okIs1 (k := 1) (by decide +kernel) rfl (by decide)) ?_
  refine ce_op (okIc1 (n := 0) (by decide +kernel) (by decide)) ?_
  refine ce_op (okIs1 (k := 2) (by decide +kernel) rfl (by decide)) ?_
  refine ce_st ?_
  refine ce_op (okIl1 (k := 2) (by decide +kernel) rfl) ?_
  refine ce_op (okIl1 (k := 1) (by decide +kernel) rfl) ?_
  refine ce_op (okCmGe (off := 88) (by decide +kernel) (by decide)) ?_
  refine ce_op (okAl1 (k := 0) (by decide +kernel) rfl) ?_
  refine ce_op (okGetR clX7 (k := 52) (x := 89) (by decide +kernel) (by decide) rfl wd1052 rfl (by decide +kernel)) ?_
  refine ce_op (okIc2 (n := 81) (by decide +kernel) (by decide)) ?_
  refine ce_op (okIald (by decide +kernel)) ?_
  refine ce_op (okIc1 (n := (-1)) (by decide +kernel) (by decide)) ?_
  refine ce_op (okCmNe (off := 77) (by decide +kernel) (by decide)) ?_
  refine ce_op (okIc1 (n := 0) (by decide +kernel) (by decide)) ?_
  refine ce_op (okIs1 (k := 3) (by decide +kernel) rfl (by decide)) ?_
  refine ce_st ?_
  refine ce_op (okIl1 (k := 3) (by decide +kernel) rfl) ?_
  refine ce_op (okIc2 (n := 82) (by decide +kernel) (by decide)) ?_
  refine ce_op (okCmGe (off := 63) (by decide +kernel) (by decide)) ?_
  refine ce_op (okAl1 (k := 0) (by decide +kernel) rfl) ?_
  refine ce_op (okGetR clX7 (k := 52) (x := 89) (by decide +kernel) (by decide) rfl wd1052 rfl (by decide +kernel)) ?_
  refine ce_op (okIl1 (k := 3) (by decide +kernel) rfl) ?_
  refine ce_op (okIald (by decide +kernel)) ?_
  refine ce_op (okIc1 (n := (-1)) (by decide +kernel) (by decide)) ?_
  refine ce_op (okCmNe (off := 47) (by decide +kernel) (by decide)) ?_
  refine ce_op (okAl1 (k := 0) (by decide +kernel) rfl) ?_
  refine ce_op (okGetR clX7 (k := 51) (x := 86) (by decide +kernel) (by decide) rfl wd1051 rfl (by decide +kernel)) ?_
  refine ce_op (okIc2 (n := 82) (by decide +kernel) (by decide)) ?_
  refine ce_op (okAl1 (k := 0) (by decide +kernel) rfl) ?_
  refine ce_op (okGetR clX7 (k := 53) (x := 92) (by decide +kernel) (by decide) rfl wd1053 rfl (by decide +kernel)) ?_
  refine ce_op (okIl1 (k := 2) (by decide +kernel) rfl) ?_
  refine ce_op (okIald (by decide +kernel)) ?_
  refine ce_op (okImul (by decide +kernel)) ?_
  refine ce_op (okIl1 (k := 3) (by decide +kernel) rfl) ?_
  refine ce_op (okIadd (by decide +kernel)) ?_
  refine ce_op (okIald (by decide +kernel)) ?_
  refine ce_op (okIfNe (off := 6) (by decide +kernel) (by decide)) ?_
  refine ce_op (okGoto (off := 25) (by decide +kernel) (by decide)) ?_
  refine ce_op (okAl1 (k := 0) (by decide +kernel) rfl) ?_
  refine ce_op (okGetR clX7 (k := 52) (x := 89) (by decide +kernel) (by decide) rfl wd1052 rfl (by decide +kernel)) ?_
  refine ce_op (okIl1 (k := 3) (by decide +kernel) rfl) ?_
  refine ce_op (okAl1 (k := 0) (by decide +kernel) rfl) ?_
  refine ce_op (okGetR clX7 (k := 53) (x := 92) (by decide +kernel) (by decide) rfl wd1053 rfl (by decide +kernel)) ?_
  refine ce_op (okIl1 (k := 2) (by decide +kernel) rfl) ?_
  refine ce_op (okIald (by decide +kernel)) ?_
  refine ce_op (okIast (by decide +kernel)) ?_
  refine ce_op (okAl1 (k := 0) (by decide +kernel) rfl) ?_
  refine ce_op (okGetR clX7 (k := 53) (x := 92) (by decide +kernel) (by decide) rfl wd1053 rfl (by decide +kernel)) ?_
  refine ce_op (okIl1 (k := 1) (by decide +kernel) rfl) ?_
  refine ce_op (okIl1 (k := 3) (by decide +kernel) rfl) ?_
  refine ce_op (okIast (by decide +kernel)) ?_
  refine ce_op (okInc (n := 1) (by decide +kernel) (by decide)) ?_
  refine ce_op (okInc (n := 1) (by decide +kernel) (by decide)) ?_
  refine ce_op (okGoto (off := (-63)) (by decide +kernel) (by decide)) ?_
  refine ce_op (okInc (n := 1) (by decide +kernel) (by decide)) ?_
  refine ce_op (okGoto (off := (-87)) (by decide +kernel) (by decide)) ?_
  refine ce_op (okAl1 (k := 0) (by decide +kernel) rfl) ?_
  refine ce_op (okGetR clX7 (k := 52) (x := 89) (by decide +kernel) (by decide) rfl wd1052 rfl (by decide +kernel)) ?_
  refine ce_op (okIc2 (n := 81) (by decide +kernel) (by decide)) ?_
  refine ce_op (okIald (by decide +kernel)) ?_
  refine ce_op (okIc1 (n := (-1)) (by decide +kernel) (by decide)) ?_
  refine ce_op (okCmEq (off := 7) (by decide +kernel) (by decide)) ?_
  refine ce_op (okIc1 (n := 1) (by decide +kernel) (by decide)) ?_
  refine ce_op (okGoto (off := 4) (by decide +kernel) (by decide)) ?_
  refine ce_op (okIc1 (n := 0) (by decide +kernel) (by decide)) ?_
  refine ce_op (okZret (by decide +kernel) rfl) ?_
  exact ce_nil
set_option maxRecDepth 100000 in
def cdX7_luck : List CE := (0, 1, some (oAl 0)) :: (1, 1, some (oIc 0)) :: (2, 3, some (oPutI 7 0)) :: (5, 1, some (oIl 1)) :: (6, 1, some (oIl 2)) :: (7, 1, some (oIl 3)) ::
  (8, 3, some (oCI 16 mX7_isAsked 3)) :: (11, 3, some (oIfEq 32)) :: (14, 2, some (oIl 4)) :: (16, 3, some (oIfLt 32)) :: (19, 2, some (oIl 5)) :: (21, 1, some (oIc 1)) ::
  (22, 3, some (oCmLt 32)) :: (25, 2, some (oIl 5)) :: (27, 2, some (oIc 10)) :: (29, 3, some (oCmLe 34)) :: (32, 1, some (oIc (-1))) :: (33, 1, some oIret) ::
  (34, 1, some (oAl 0)) :: (35, 1, some (oIl 1)) :: (36, 1, some (oIl 2)) :: (37, 1, some (oIl 3)) :: (38, 3, some (oCV 7 mX7_seeksNow 4)) :: (41, 1, some (oAl 0)) ::
  (42, 3, some (oGetI 7 47)) :: (45, 3, some (oIfEq 51)) :: (48, 2, some (oIc (-2))) :: (50, 1, some oIret) :: (51, 1, some (oAl 0)) :: (52, 3, some (oGetI 7 42)) ::
  (55, 2, some (oIs 6)) :: (57, 2, some (oIl 4)) :: (59, 2, some (oIs 7)) :: (61, 1, some (oIc 0)) :: (62, 2, some (oIs 8)) :: (64, 1, some (oIc 0)) ::
  (65, 2, some (oIs 9)) :: (67, 0, none) :: (67, 2, some (oIl 9)) :: (69, 2, some (oIl 5)) :: (71, 3, some (oCmGe 227)) :: (74, 1, some (oIc 0)) ::
  (75, 2, some (oIs 10)) :: (77, 0, none) :: (77, 2, some (oIl 10)) :: (79, 1, some (oAl 0)) :: (80, 3, some (oGetI 7 6)) :: (83, 3, some (oCmGe 106)) ::
  (86, 1, some (oAl 0)) :: (87, 3, some (oGetR [(1175, 165384)])) :: (90, 2, some (oIl 10)) :: (92, 1, some (oAl 0)) :: (93, 3, some (oGetR [(1175, 329064)])) :: (96, 2, some (oIl 10)) ::
  (98, 1, some oIald) :: (99, 1, some oIast) :: (100, 3, some (oInc 10 1)) :: (103, 3, some (oGoto 77)) :: (106, 1, some (oAl 0)) :: (107, 3, some (oGetI 7 6)) ::
  (110, 1, some (oIc 1)) :: (111, 1, some oIsub) :: (112, 2, some (oIs 10)) :: (114, 0, none) :: (114, 2, some (oIl 10)) :: (116, 3, some (oIfLe 185)) ::
  (119, 2, some (oIl 7)) :: (121, 3, some (oIc 1103515245)) :: (124, 1, some oImul) :: (125, 3, some (oIc 12345)) :: (128, 1, some oIadd) :: (129, 3, some (oIc 2147483647)) ::
  (132, 1, some oIand) :: (133, 2, some (oIs 7)) :: (135, 2, some (oIl 7)) :: (137, 2, some (oIc 16)) :: (139, 1, some oIshr) :: (140, 2, some (oIl 10)) ::
  (142, 1, some (oIc 1)) :: (143, 1, some oIadd) :: (144, 1, some oIrem) :: (145, 2, some (oIs 11)) :: (147, 1, some (oAl 0)) :: (148, 3, some (oGetR [(1175, 165384)])) ::
  (151, 2, some (oIl 10)) :: (153, 1, some oIald) :: (154, 2, some (oIs 12)) :: (156, 1, some (oAl 0)) :: (157, 3, some (oGetR [(1175, 165384)])) :: (160, 2, some (oIl 10)) ::
  (162, 1, some (oAl 0)) :: (163, 3, some (oGetR [(1175, 165384)])) :: (166, 2, some (oIl 11)) :: (168, 1, some oIald) :: (169, 1, some oIast) :: (170, 1, some (oAl 0)) ::
  (171, 3, some (oGetR [(1175, 165384)])) :: (174, 2, some (oIl 11)) :: (176, 2, some (oIl 12)) :: (178, 1, some oIast) :: (179, 3, some (oInc 10 (-1))) :: (182, 3, some (oGoto 114)) ::
  (185, 1, some (oAl 0)) :: (186, 1, some (oIl 1)) :: (187, 1, some (oIl 2)) :: (188, 1, some (oIl 3)) :: (189, 3, some (oCV 7 mX7_seeks 4)) :: (192, 1, some (oAl 0)) ::
  (193, 3, some (oGetI 7 47)) :: (196, 3, some (oIfEq 202)) :: (199, 2, some (oIc (-2))) :: (201, 1, some oIret) :: (202, 2, some (oIl 8)) :: (204, 1, some (oAl 0)) ::
  (205, 3, some (oGetI 7 42)) :: (208, 2, some (oIl 6)) :: (210, 3, some (oCmLt 217)) :: (213, 1, some (oIc 1)) :: (214, 3, some (oGoto 218)) :: (217, 1, some (oIc 0)) ::
  (218, 1, some oIadd) :: (219, 2, some (oIs 8)) :: (221, 3, some (oInc 9 1)) :: (224, 3, some (oGoto 67)) :: (227, 2, some (oIl 8)) :: (229, 1, some oIret) :: []
set_option maxRecDepth 100000 in
set_option maxHeartbeats 4000000 in
theorem okX7_luck : CodeOk mX7_luck cdX7_luck := by
  refine ⟨by rfl, ?_⟩
  show CodeAll mX7_luck cdX7_luck
  refine ce_op (okAl1 (k := 0) (by decide +kernel) rfl) ?_
  refine ce_op (okIc1 (n := 0) (by decide +kernel) (by decide)) ?_
  refine ce_op (okPutI clX7 (k := 0) (x := 102) (by decide +kernel) (by decide) rfl wd1000 rfl rfl (by decide +kernel)) ?_
  refine ce_op (okIl1 (k := 1) (by decide +kernel) rfl) ?_
  refine ce_op (okIl1 (k := 2) (by decide +kernel) rfl) ?_
  refine ce_op (okIl1 (k := 3) (by decide +kernel) rfl) ?_
  refine ce_op (okCI miX7_isAsked (rS (x := 295) miX7_isAsked (by decide +kernel) wd1358 wd1359)) ?_
  refine ce_op (okIfEq (off := 21) (by decide +kernel) (by decide)) ?_
  refine ce_op (okIl2 (by decide +kernel)) ?_
  refine ce_op (okIfLt (off := 16) (by decide +kernel) (by decide)) ?_
  refine ce_op (okIl2 (by decide +kernel)) ?_
  refine ce_op (okIc1 (n := 1) (by decide +kernel) (by decide)) ?_
  refine ce_op (okCmLt (off := 10) (by decide +kernel) (by decide)) ?_
  refine ce_op (okIl2 (by decide +kernel)) ?_
  refine ce_op (okIc2 (n := 10) (by decide +kernel) (by decide)) ?_
  refine ce_op (okCmLe (off := 5) (by decide +kernel) (by decide)) ?_
  refine ce_op (okIc1 (n := (-1)) (by decide +kernel) (by decide)) ?_
  refine ce_op (okIret (by decide +kernel) rfl) ?_
  refine ce_op (okAl1 (k := 0) (by decide +kernel) rfl) ?_
  refine ce_op (okIl1 (k := 1) (by decide +kernel) rfl) ?_
  refine ce_op (okIl1 (k := 2) (by decide +kernel) rfl) ?_
  refine ce_op (okIl1 (k := 3) (by decide +kernel) rfl) ?_
  refine ce_op (okCV miX7_seeksNow (rV clX7 (x := 299) miX7_seeksNow rfl (by decide +kernel) wd1361 wd1363 wd69)) ?_
  refine ce_op (okAl1 (k := 0) (by decide +kernel) rfl) ?_
  refine ce_op (okGetI clX7 (k := 47) (x := 272) (by decide +kernel) (by decide) rfl wd1047 (Or.inr rfl)) ?_
  refine ce_op (okIfEq (off := 6) (by decide +kernel) (by decide)) ?_
  refine ce_op (okIc2 (n := (-2)) (by decide +kernel) (by decide)) ?_
  refine ce_op (okIret (by decide +kernel) rfl) ?_
  refine ce_op (okAl1 (k := 0) (by decide +kernel) rfl) ?_
  refine ce_op (okGetI clX7 (k := 42) (x := 276) (by decide +kernel) (by decide) rfl wd1042 (Or.inl rfl)) ?_
  refine ce_op (okIs2 (by decide +kernel) (by decide)) ?_
  refine ce_op (okIl2 (by decide +kernel)) ?_
  refine ce_op (okIs2 (by decide +kernel) (by decide)) ?_
  refine ce_op (okIc1 (n := 0) (by decide +kernel) (by decide)) ?_
  refine ce_op (okIs2 (by decide +kernel) (by decide)) ?_
  refine ce_op (okIc1 (n := 0) (by decide +kernel) (by decide)) ?_
  refine ce_op (okIs2 (by decide +kernel) (by decide)) ?_
  refine ce_st ?_
  refine ce_op (okIl2 (by decide +kernel)) ?_
  refine ce_op (okIl2 (by decide +kernel)) ?_
  refine ce_op (okCmGe (off := 156) (by decide +kernel) (by decide)) ?_
  refine ce_op (okIc1 (n := 0) (by decide +kernel) (by decide)) ?_
  refine ce_op (okIs2 (by decide +kernel) (by decide)) ?_
  refine ce_st ?_
  refine ce_op (okIl2 (by decide +kernel)) ?_
  refine ce_op (okAl1 (k := 0) (by decide +kernel) rfl) ?_
  refine ce_op (okGetI clX7 (k := 6) (x := 226) (by decide +kernel) (by decide) rfl wd1006 (Or.inl rfl)) ?_
  refine ce_op (okCmGe (off := 23) (by decide +kernel) (by decide)) ?_
  refine ce_op (okAl1 (k := 0) (by decide +kernel) rfl) ?_
  refine ce_op (okGetR clX7 (k := 46) (x := 83) (by decide +kernel) (by decide) rfl wd1046 rfl (by decide +kernel)) ?_
  refine ce_op (okIl2 (by decide +kernel)) ?_
  refine ce_op (okAl1 (k := 0) (by decide +kernel) rfl) ?_
  refine ce_op (okGetR clX7 (k := 19) (x := 49) (by decide +kernel) (by decide) rfl wd1019 rfl (by decide +kernel)) ?_
  refine ce_op (okIl2 (by decide +kernel)) ?_
  refine ce_op (okIald (by decide +kernel)) ?_
  refine ce_op (okIast (by decide +kernel)) ?_
  refine ce_op (okInc (n := 1) (by decide +kernel) (by decide)) ?_
  refine ce_op (okGoto (off := (-26)) (by decide +kernel) (by decide)) ?_
  refine ce_op (okAl1 (k := 0) (by decide +kernel) rfl) ?_
  refine ce_op (okGetI clX7 (k := 6) (x := 226) (by decide +kernel) (by decide) rfl wd1006 (Or.inl rfl)) ?_
  refine ce_op (okIc1 (n := 1) (by decide +kernel) (by decide)) ?_
  refine ce_op (okIsub (by decide +kernel)) ?_
  refine ce_op (okIs2 (by decide +kernel) (by decide)) ?_
  refine ce_st ?_
  refine ce_op (okIl2 (by decide +kernel)) ?_
  refine ce_op (okIfLe (off := 69) (by decide +kernel) (by decide)) ?_
  refine ce_op (okIl2 (by decide +kernel)) ?_
  refine ce_op (okIcW (k := 339) (by decide +kernel) wd1437) ?_
  refine ce_op (okImul (by decide +kernel)) ?_
  refine ce_op (okIc3 (n := 12345) (by decide +kernel) (by decide)) ?_
  refine ce_op (okIadd (by decide +kernel)) ?_
  refine ce_op (okIcW (k := 340) (by decide +kernel) wd1438) ?_
  refine ce_op (okIand (by decide +kernel)) ?_
  refine ce_op (okIs2 (by decide +kernel) (by decide)) ?_
  refine ce_op (okIl2 (by decide +kernel)) ?_
  refine ce_op (okIc2 (n := 16) (by decide +kernel) (by decide)) ?_
  refine ce_op (okIshr (by decide +kernel)) ?_
  refine ce_op (okIl2 (by decide +kernel)) ?_
  refine ce_op (okIc1 (n := 1) (by decide +kernel) (by decide)) ?_
  refine ce_op (okIadd (by decide +kernel)) ?_
  refine ce_op (okIrem (by decide +kernel)) ?_
  refine ce_op (okIs2 (by decide +kernel) (by decide)) ?_
  refine ce_op (okAl1 (k := 0) (by decide +kernel) rfl) ?_
  refine ce_op (okGetR clX7 (k := 46) (x := 83) (by decide +kernel) (by decide) rfl wd1046 rfl (by decide +kernel)) ?_
  refine ce_op (okIl2 (by decide +kernel)) ?_
  refine ce_op (okIald (by decide +kernel)) ?_
  refine ce_op (okIs2 (by decide +kernel) (by decide)) ?_
  refine ce_op (okAl1 (k := 0) (by decide +kernel) rfl) ?_
  refine ce_op (okGetR clX7 (k := 46) (x := 83) (by decide +kernel) (by decide) rfl wd1046 rfl (by decide +kernel)) ?_
  refine ce_op (okIl2 (by decide +kernel)) ?_
  refine ce_op (okAl1 (k := 0) (by decide +kernel) rfl) ?_
  refine ce_op (okGetR clX7 (k := 46) (x := 83) (by decide +kernel) (by decide) rfl wd1046 rfl (by decide +kernel)) ?_
  refine ce_op (okIl2 (by decide +kernel)) ?_
  refine ce_op (okIald (by decide +kernel)) ?_
  refine ce_op (okIast (by decide +kernel)) ?_
  refine ce_op (okAl1 (k := 0) (by decide +kernel) rfl) ?_
  refine ce_op (okGetR clX7 (k := 46) (x := 83) (by decide +kernel) (by decide) rfl wd1046 rfl (by decide +kernel)) ?_
  refine ce_op (okIl2 (by decide +kernel)) ?_
  refine ce_op (okIl2 (by decide +kernel)) ?_
  refine ce_op (okIast (by decide +kernel)) ?_
  refine ce_op (okInc (n := (-1)) (by decide +kernel) (by decide)) ?_
  refine ce_op (okGoto (off := (-68)) (by decide +kernel) (by decide)) ?_
  refine ce_op (okAl1 (k := 0) (by decide +kernel) rfl) ?_
  refine ce_op (okIl1 (k := 1) (by decide +kernel) rfl) ?_
  refine ce_op (okIl1 (k := 2) (by decide +kernel) rfl) ?_
  refine ce_op (okIl1 (k := 3) (by decide +kernel) rfl) ?_
  refine ce_op (okCV miX7_seeks (rV clX7 (x := 291) miX7_seeks rfl (by decide +kernel) wd1365 wd1367 wd70)) ?_
  refine ce_op (okAl1 (k := 0) (by decide +kernel) rfl) ?_
  refine ce_op (okGetI clX7 (k := 47) (x := 272) (by decide +kernel) (by decide) rfl wd1047 (Or.inr rfl)) ?_
  refine ce_op (okIfEq (off := 6) (by decide +kernel) (by decide)) ?_
  refine ce_op (okIc2 (n := (-2)) (by decide +kernel) (by decide)) ?_
  refine ce_op (okIret (by decide +kernel) rfl) ?_
  refine ce_op (okIl2 (by decide +kernel)) ?_
  refine ce_op (okAl1 (k := 0) (by decide +kernel) rfl) ?_
  refine ce_op (okGetI clX7 (k := 42) (x := 276) (by decide +kernel) (by decide) rfl wd1042 (Or.inl rfl)) ?_
  refine ce_op (okIl2 (by decide +kernel)) ?_
  refine ce_op (okCmLt (off := 7) (by decide +kernel) (by decide)) ?_
  refine ce_op (okIc1 (n := 1) (by decide +kernel) (by decide)) ?_
  refine ce_op (okGoto (off := 4) (by decide +kernel) (by decide)) ?_
  refine ce_op (okIc1 (n := 0) (by decide +kernel) (by decide)) ?_
  refine ce_op (okIadd (by decide +kernel)) ?_
  refine ce_op (okIs2 (by decide +kernel) (by decide)) ?_
  refine ce_op (okInc (n := 1) (by decide +kernel) (by decide)) ?_
  refine ce_op (okGoto (off := (-157)) (by decide +kernel) (by decide)) ?_
  refine ce_op (okIl2 (by decide +kernel)) ?_
  refine ce_op (okIret (by decide +kernel) rfl) ?_
  exact ce_nil
set_option maxRecDepth 100000 in
def cdX7_soldUnder : List CE := (0, 1, some (oIc 0)) :: (1, 1, some (oIs 2)) :: (2, 0, none) :: (2, 1, some (oIl 2)) :: (3, 1, some (oAl 0)) :: (4, 3, some (oGetI 7 6)) ::
  (7, 3, some (oCmGe 99)) :: (10, 1, some (oIc 0)) :: (11, 1, some (oIs 3)) :: (12, 0, none) :: (12, 1, some (oIl 3)) :: (13, 1, some (oAl 0)) ::
  (14, 3, some (oGetI 7 6)) :: (17, 3, some (oCmGe 93)) :: (20, 1, some (oAl 0)) :: (21, 3, some (oGetR [(1175, 329048)])) :: (24, 1, some (oIl 2)) :: (25, 1, some oIald) ::
  (26, 1, some (oIl 1)) :: (27, 3, some (oCmNe 93)) :: (30, 1, some (oAl 0)) :: (31, 3, some (oGetR [(1175, 329064)])) :: (34, 1, some (oIl 3)) :: (35, 1, some oIald) ::
  (36, 1, some (oIl 1)) :: (37, 3, some (oCmNe 87)) :: (40, 1, some (oAl 0)) :: (41, 3, some (oGetR [(1175, 329096)])) :: (44, 1, some (oIl 3)) :: (45, 1, some oIald) ::
  (46, 1, some (oAl 0)) :: (47, 3, some (oGetR [(1175, 329096)])) :: (50, 1, some (oIl 2)) :: (51, 1, some oIald) :: (52, 3, some (oCmNe 87)) :: (55, 1, some (oAl 0)) ::
  (56, 3, some (oGetR [(1175, 329128)])) :: (59, 1, some (oIl 3)) :: (60, 1, some oIald) :: (61, 1, some (oAl 0)) :: (62, 3, some (oGetR [(1175, 329128)])) :: (65, 1, some (oIl 2)) ::
  (66, 1, some oIald) :: (67, 3, some (oCmGt 87)) :: (70, 1, some (oAl 0)) :: (71, 3, some (oGetR [(1175, 329112)])) :: (74, 1, some (oIl 2)) :: (75, 1, some oIald) ::
  (76, 1, some (oAl 0)) :: (77, 3, some (oGetR [(1175, 329112)])) :: (80, 1, some (oIl 3)) :: (81, 1, some oIald) :: (82, 3, some (oCmGe 87)) :: (85, 1, some (oIc 1)) ::
  (86, 1, some oZret) :: (87, 3, some (oInc 3 1)) :: (90, 3, some (oGoto 12)) :: (93, 3, some (oInc 2 1)) :: (96, 3, some (oGoto 2)) :: (99, 1, some (oIc 0)) ::
  (100, 1, some oZret) :: []
set_option maxRecDepth 100000 in
set_option maxHeartbeats 4000000 in
theorem okX7_soldUnder : CodeOk mX7_soldUnder cdX7_soldUnder := by
  refine ⟨by rfl, ?_⟩
  show CodeAll mX7_soldUnder cdX7_soldUnder
  refine ce_op (okIc1 (n := 0) (by decide +kernel) (by decide)) ?_
  refine ce_op (okIs1 (k := 2) (by decide +kernel) rfl (by decide)) ?_
  refine ce_st ?_
  refine ce_op (okIl1 (k := 2) (by decide +kernel) rfl) ?_
  refine ce_op (okAl1 (k := 0) (by decide +kernel) rfl) ?_
  refine ce_op (okGetI clX7 (k := 6) (x := 226) (by decide +kernel) (by decide) rfl wd1006 (Or.inl rfl)) ?_
  refine ce_op (okCmGe (off := 92) (by decide +kernel) (by decide)) ?_
  refine ce_op (okIc1 (n := 0) (by decide +kernel) (by decide)) ?_
  refine ce_op (okIs1 (k := 3) (by decide +kernel) rfl (by decide)) ?_
  refine ce_st ?_
  refine ce_op (okIl1 (k := 3) (by decide +kernel) rfl) ?_
  refine ce_op (okAl1 (k := 0) (by decide +kernel) rfl) ?_
  refine ce_op (okGetI clX7 (k := 6) (x := 226) (by decide +kernel) (by decide) rfl wd1006 (Or.inl rfl)) ?_
  refine ce_op (okCmGe (off := 76) (by decide +kernel) (by decide)) ?_
  refine ce_op (okAl1 (k := 0) (by decide +kernel) rfl) ?_
  refine ce_op (okGetR clX7 (k := 18) (x := 46) (by decide +kernel) (by decide) rfl wd1018 rfl (by decide +kernel)) ?_
  refine ce_op (okIl1 (k := 2) (by decide +kernel) rfl) ?_
  refine ce_op (okIald (by decide +kernel)) ?_
  refine ce_op (okIl1 (k := 1) (by decide +kernel) rfl) ?_
  refine ce_op (okCmNe (off := 66) (by decide +kernel) (by decide)) ?_
  refine ce_op (okAl1 (k := 0) (by decide +kernel) rfl) ?_
  refine ce_op (okGetR clX7 (k := 19) (x := 49) (by decide +kernel) (by decide) rfl wd1019 rfl (by decide +kernel)) ?_
  refine ce_op (okIl1 (k := 3) (by decide +kernel) rfl) ?_
  refine ce_op (okIald (by decide +kernel)) ?_
  refine ce_op (okIl1 (k := 1) (by decide +kernel) rfl) ?_
  refine ce_op (okCmNe (off := 50) (by decide +kernel) (by decide)) ?_
  refine ce_op (okAl1 (k := 0) (by decide +kernel) rfl) ?_
  refine ce_op (okGetR clX7 (k := 21) (x := 55) (by decide +kernel) (by decide) rfl wd1021 rfl (by decide +kernel)) ?_
  refine ce_op (okIl1 (k := 3) (by decide +kernel) rfl) ?_
  refine ce_op (okIald (by decide +kernel)) ?_
  refine ce_op (okAl1 (k := 0) (by decide +kernel) rfl) ?_
  refine ce_op (okGetR clX7 (k := 21) (x := 55) (by decide +kernel) (by decide) rfl wd1021 rfl (by decide +kernel)) ?_
  refine ce_op (okIl1 (k := 2) (by decide +kernel) rfl) ?_
  refine ce_op (okIald (by decide +kernel)) ?_
  refine ce_op (okCmNe (off := 35) (by decide +kernel) (by decide)) ?_
  refine ce_op (okAl1 (k := 0) (by decide +kernel) rfl) ?_
  refine ce_op (okGetR clX7 (k := 23) (x := 61) (by decide +kernel) (by decide) rfl wd1023 rfl (by decide +kernel)) ?_
  refine ce_op (okIl1 (k := 3) (by decide +kernel) rfl) ?_
  refine ce_op (okIald (by decide +kernel)) ?_
  refine ce_op (okAl1 (k := 0) (by decide +kernel) rfl) ?_
  refine ce_op (okGetR clX7 (k := 23) (x := 61) (by decide +kernel) (by decide) rfl wd1023 rfl (by decide +kernel)) ?_
  refine ce_op (okIl1 (k := 2) (by decide +kernel) rfl) ?_
  refine ce_op (okIald (by decide +kernel)) ?_
  refine ce_op (okCmGt (off := 20) (by decide +kernel) (by decide)) ?_
  refine ce_op (okAl1 (k := 0) (by decide +kernel) rfl) ?_
  refine ce_op (okGetR clX7 (k := 22) (x := 58) (by decide +kernel) (by decide) rfl wd1022 rfl (by decide +kernel)) ?_
  refine ce_op (okIl1 (k := 2) (by decide +kernel) rfl) ?_
  refine ce_op (okIald (by decide +kernel)) ?_
  refine ce_op (okAl1 (k := 0) (by decide +kernel) rfl) ?_
  refine ce_op (okGetR clX7 (k := 22) (x := 58) (by decide +kernel) (by decide) rfl wd1022 rfl (by decide +kernel)) ?_
  refine ce_op (okIl1 (k := 3) (by decide +kernel) rfl) ?_
  refine ce_op (okIald (by decide +kernel)) ?_
  refine ce_op (okCmGe (off := 5) (by decide +kernel) (by decide)) ?_
  refine ce_op (okIc1 (n := 1) (by decide +kernel) (by decide)) ?_
  refine ce_op (okZret (by decide +kernel) rfl) ?_
  refine ce_op (okInc (n := 1) (by decide +kernel) (by decide)) ?_
  refine ce_op (okGoto (off := (-78)) (by decide +kernel) (by decide)) ?_
  refine ce_op (okInc (n := 1) (by decide +kernel) (by decide)) ?_
  refine ce_op (okGoto (off := (-94)) (by decide +kernel) (by decide)) ?_
  refine ce_op (okIc1 (n := 0) (by decide +kernel) (by decide)) ?_
  refine ce_op (okZret (by decide +kernel) rfl) ?_
  exact ce_nil
set_option maxRecDepth 100000 in
def cdX7_boughtFromMissing : List CE := (0, 1, some (oIc 0)) :: (1, 1, some (oIs 2)) :: (2, 0, none) :: (2, 1, some (oIl 2)) :: (3, 1, some (oAl 0)) :: (4, 3, some (oGetI 7 6)) ::
  (7, 3, some (oCmGe 45)) :: (10, 1, some (oAl 0)) :: (11, 3, some (oGetR [(1175, 329064)])) :: (14, 1, some (oIl 2)) :: (15, 1, some oIald) :: (16, 1, some (oIl 1)) ::
  (17, 3, some (oCmNe 39)) :: (20, 1, some (oAl 0)) :: (21, 1, some (oAl 0)) :: (22, 3, some (oGetR [(1175, 329048)])) :: (25, 1, some (oIl 2)) :: (26, 1, some oIald) ::
  (27, 1, some (oAl 0)) :: (28, 3, some (oGetI 7 40)) :: (31, 3, some (oCI 7 mX7_isMissing 3)) :: (34, 3, some (oIfEq 39)) :: (37, 1, some (oIc 1)) :: (38, 1, some oZret) ::
  (39, 3, some (oInc 2 1)) :: (42, 3, some (oGoto 2)) :: (45, 1, some (oIc 0)) :: (46, 1, some oZret) :: []
set_option maxRecDepth 100000 in
set_option maxHeartbeats 4000000 in
theorem okX7_boughtFromMissing : CodeOk mX7_boughtFromMissing cdX7_boughtFromMissing := by
  refine ⟨by rfl, ?_⟩
  show CodeAll mX7_boughtFromMissing cdX7_boughtFromMissing
  refine ce_op (okIc1 (n := 0) (by decide +kernel) (by decide)) ?_
  refine ce_op (okIs1 (k := 2) (by decide +kernel) rfl (by decide)) ?_
  refine ce_st ?_
  refine ce_op (okIl1 (k := 2) (by decide +kernel) rfl) ?_
  refine ce_op (okAl1 (k := 0) (by decide +kernel) rfl) ?_
  refine ce_op (okGetI clX7 (k := 6) (x := 226) (by decide +kernel) (by decide) rfl wd1006 (Or.inl rfl)) ?_
  refine ce_op (okCmGe (off := 38) (by decide +kernel) (by decide)) ?_
  refine ce_op (okAl1 (k := 0) (by decide +kernel) rfl) ?_
  refine ce_op (okGetR clX7 (k := 19) (x := 49) (by decide +kernel) (by decide) rfl wd1019 rfl (by decide +kernel)) ?_
  refine ce_op (okIl1 (k := 2) (by decide +kernel) rfl) ?_
  refine ce_op (okIald (by decide +kernel)) ?_
  refine ce_op (okIl1 (k := 1) (by decide +kernel) rfl) ?_
  refine ce_op (okCmNe (off := 22) (by decide +kernel) (by decide)) ?_
  refine ce_op (okAl1 (k := 0) (by decide +kernel) rfl) ?_
  refine ce_op (okAl1 (k := 0) (by decide +kernel) rfl) ?_
  refine ce_op (okGetR clX7 (k := 18) (x := 46) (by decide +kernel) (by decide) rfl wd1018 rfl (by decide +kernel)) ?_
  refine ce_op (okIl1 (k := 2) (by decide +kernel) rfl) ?_
  refine ce_op (okIald (by decide +kernel)) ?_
  refine ce_op (okAl1 (k := 0) (by decide +kernel) rfl) ?_
  refine ce_op (okGetI clX7 (k := 40) (x := 235) (by decide +kernel) (by decide) rfl wd1040 (Or.inl rfl)) ?_
  refine ce_op (okCI miX7_isMissing (rV clX7 (x := 262) miX7_isMissing rfl (by decide +kernel) wd1338 wd1340 wd68)) ?_
  refine ce_op (okIfEq (off := 5) (by decide +kernel) (by decide)) ?_
  refine ce_op (okIc1 (n := 1) (by decide +kernel) (by decide)) ?_
  refine ce_op (okZret (by decide +kernel) rfl) ?_
  refine ce_op (okInc (n := 1) (by decide +kernel) (by decide)) ?_
  refine ce_op (okGoto (off := (-40)) (by decide +kernel) (by decide)) ?_
  refine ce_op (okIc1 (n := 0) (by decide +kernel) (by decide)) ?_
  refine ce_op (okZret (by decide +kernel) rfl) ?_
  exact ce_nil
set_option maxRecDepth 100000 in
def cdX7_boughtOfSuch : List CE := (0, 1, some (oIc 0)) :: (1, 1, some (oIs 2)) :: (2, 1, some (oIc 0)) :: (3, 1, some (oIs 3)) :: (4, 0, none) :: (4, 1, some (oIl 3)) ::
  (5, 1, some (oAl 0)) :: (6, 3, some (oGetI 7 6)) :: (9, 3, some (oCmGe 65)) :: (12, 1, some (oAl 0)) :: (13, 3, some (oGetR [(1175, 329064)])) :: (16, 1, some (oIl 3)) ::
  (17, 1, some oIald) :: (18, 1, some (oIl 1)) :: (19, 3, some (oCmEq 25)) :: (22, 3, some (oGoto 59)) :: (25, 1, some (oIc 1)) :: (26, 1, some (oIs 2)) ::
  (27, 1, some (oAl 0)) :: (28, 1, some (oAl 0)) :: (29, 3, some (oGetR [(1175, 329048)])) :: (32, 1, some (oIl 3)) :: (33, 1, some oIald) :: (34, 1, some (oAl 0)) ::
  (35, 3, some (oGetI 7 40)) :: (38, 3, some (oCI 7 mX7_isMissing 3)) :: (41, 3, some (oIfNe 59)) :: (44, 1, some (oAl 0)) :: (45, 1, some (oAl 0)) :: (46, 3, some (oGetR [(1175, 329048)])) ::
  (49, 1, some (oIl 3)) :: (50, 1, some oIald) :: (51, 3, some (oCI 7 mX7_boughtFromMissing 2)) :: (54, 3, some (oIfNe 59)) :: (57, 1, some (oIc 0)) :: (58, 1, some oZret) ::
  (59, 3, some (oInc 3 1)) :: (62, 3, some (oGoto 4)) :: (65, 1, some (oIl 2)) :: (66, 1, some oZret) :: []
set_option maxRecDepth 100000 in
set_option maxHeartbeats 4000000 in
theorem okX7_boughtOfSuch : CodeOk mX7_boughtOfSuch cdX7_boughtOfSuch := by
  refine ⟨by rfl, ?_⟩
  show CodeAll mX7_boughtOfSuch cdX7_boughtOfSuch
  refine ce_op (okIc1 (n := 0) (by decide +kernel) (by decide)) ?_
  refine ce_op (okIs1 (k := 2) (by decide +kernel) rfl (by decide)) ?_
  refine ce_op (okIc1 (n := 0) (by decide +kernel) (by decide)) ?_
  refine ce_op (okIs1 (k := 3) (by decide +kernel) rfl (by decide)) ?_
  refine ce_st ?_
  refine ce_op (okIl1 (k := 3) (by decide +kernel) rfl) ?_
  refine ce_op (okAl1 (k := 0) (by decide +kernel) rfl) ?_
  refine ce_op (okGetI clX7 (k := 6) (x := 226) (by decide +kernel) (by decide) rfl wd1006 (Or.inl rfl)) ?_
  refine ce_op (okCmGe (off := 56) (by decide +kernel) (by decide)) ?_
  refine ce_op (okAl1 (k := 0) (by decide +kernel) rfl) ?_
  refine ce_op (okGetR clX7 (k := 19) (x := 49) (by decide +kernel) (by decide) rfl wd1019 rfl (by decide +kernel)) ?_
  refine ce_op (okIl1 (k := 3) (by decide +kernel) rfl) ?_
  refine ce_op (okIald (by decide +kernel)) ?_
  refine ce_op (okIl1 (k := 1) (by decide +kernel) rfl) ?_
  refine ce_op (okCmEq (off := 6) (by decide +kernel) (by decide)) ?_
  refine ce_op (okGoto (off := 37) (by decide +kernel) (by decide)) ?_
  refine ce_op (okIc1 (n := 1) (by decide +kernel) (by decide)) ?_
  refine ce_op (okIs1 (k := 2) (by decide +kernel) rfl (by decide)) ?_
  refine ce_op (okAl1 (k := 0) (by decide +kernel) rfl) ?_
  refine ce_op (okAl1 (k := 0) (by decide +kernel) rfl) ?_
  refine ce_op (okGetR clX7 (k := 18) (x := 46) (by decide +kernel) (by decide) rfl wd1018 rfl (by decide +kernel)) ?_
  refine ce_op (okIl1 (k := 3) (by decide +kernel) rfl) ?_
  refine ce_op (okIald (by decide +kernel)) ?_
  refine ce_op (okAl1 (k := 0) (by decide +kernel) rfl) ?_
  refine ce_op (okGetI clX7 (k := 40) (x := 235) (by decide +kernel) (by decide) rfl wd1040 (Or.inl rfl)) ?_
  refine ce_op (okCI miX7_isMissing (rV clX7 (x := 262) miX7_isMissing rfl (by decide +kernel) wd1338 wd1340 wd68)) ?_
  refine ce_op (okIfNe (off := 18) (by decide +kernel) (by decide)) ?_
  refine ce_op (okAl1 (k := 0) (by decide +kernel) rfl) ?_
  refine ce_op (okAl1 (k := 0) (by decide +kernel) rfl) ?_
  refine ce_op (okGetR clX7 (k := 18) (x := 46) (by decide +kernel) (by decide) rfl wd1018 rfl (by decide +kernel)) ?_
  refine ce_op (okIl1 (k := 3) (by decide +kernel) rfl) ?_
  refine ce_op (okIald (by decide +kernel)) ?_
  refine ce_op (okCI miX7_boughtFromMissing (rV clX7 (x := 341) miX7_boughtFromMissing rfl (by decide +kernel) wd1455 wd1457 wd85)) ?_
  refine ce_op (okIfNe (off := 5) (by decide +kernel) (by decide)) ?_
  refine ce_op (okIc1 (n := 0) (by decide +kernel) (by decide)) ?_
  refine ce_op (okZret (by decide +kernel) rfl) ?_
  refine ce_op (okInc (n := 1) (by decide +kernel) (by decide)) ?_
  refine ce_op (okGoto (off := (-58)) (by decide +kernel) (by decide)) ?_
  refine ce_op (okIl1 (k := 2) (by decide +kernel) rfl) ?_
  refine ce_op (okZret (by decide +kernel) rfl) ?_
  exact ce_nil
set_option maxRecDepth 100000 in
def cdX7_roundsWith : List CE := (0, 1, some (oIc 0)) :: (1, 1, some (oIs 2)) :: (2, 1, some (oIc 0)) :: (3, 1, some (oIs 3)) :: (4, 0, none) :: (4, 1, some (oIl 3)) ::
  (5, 1, some (oAl 0)) :: (6, 3, some (oGetI 7 42)) :: (9, 3, some (oCmGe 30)) :: (12, 1, some (oIl 2)) :: (13, 1, some (oAl 0)) :: (14, 1, some (oIl 3)) ::
  (15, 3, some (oCI 7 mX7_firmsOf 2)) :: (18, 1, some (oIl 1)) :: (19, 1, some oIshr) :: (20, 1, some (oIc 1)) :: (21, 1, some oIand) :: (22, 1, some oIadd) ::
  (23, 1, some (oIs 2)) :: (24, 3, some (oInc 3 1)) :: (27, 3, some (oGoto 4)) :: (30, 1, some (oIl 2)) :: (31, 1, some oIret) :: []
set_option maxRecDepth 100000 in
set_option maxHeartbeats 4000000 in
theorem okX7_roundsWith : CodeOk mX7_roundsWith cdX7_roundsWith := by
  refine ⟨by rfl, ?_⟩
  show CodeAll mX7_roundsWith cdX7_roundsWith
  refine ce_op (okIc1 (n := 0) (by decide +kernel) (by decide)) ?_
  refine ce_op (okIs1 (k := 2) (by decide +kernel) rfl (by decide)) ?_
  refine ce_op (okIc1 (n := 0) (by decide +kernel) (by decide)) ?_
  refine ce_op (okIs1 (k := 3) (by decide +kernel) rfl (by decide)) ?_
  refine ce_st ?_
  refine ce_op (okIl1 (k := 3) (by decide +kernel) rfl) ?_
  refine ce_op (okAl1 (k := 0) (by decide +kernel) rfl) ?_
  refine ce_op (okGetI clX7 (k := 42) (x := 276) (by decide +kernel) (by decide) rfl wd1042 (Or.inl rfl)) ?_
  refine ce_op (okCmGe (off := 21) (by decide +kernel) (by decide)) ?_
  refine ce_op (okIl1 (k := 2) (by decide +kernel) rfl) ?_
  refine ce_op (okAl1 (k := 0) (by decide +kernel) rfl) ?_
  refine ce_op (okIl1 (k := 3) (by decide +kernel) rfl) ?_
  refine ce_op (okCI miX7_firmsOf (rV clX7 (x := 313) miX7_firmsOf rfl (by decide +kernel) wd1394 wd1396 wd76)) ?_
  refine ce_op (okIl1 (k := 1) (by decide +kernel) rfl) ?_
  refine ce_op (okIshr (by decide +kernel)) ?_
  refine ce_op (okIc1 (n := 1) (by decide +kernel) (by decide)) ?_
  refine ce_op (okIand (by decide +kernel)) ?_
  refine ce_op (okIadd (by decide +kernel)) ?_
  refine ce_op (okIs1 (k := 2) (by decide +kernel) rfl (by decide)) ?_
  refine ce_op (okInc (n := 1) (by decide +kernel) (by decide)) ?_
  refine ce_op (okGoto (off := (-23)) (by decide +kernel) (by decide)) ?_
  refine ce_op (okIl1 (k := 2) (by decide +kernel) rfl) ?_
  refine ce_op (okIret (by decide +kernel) rfl) ?_
  exact ce_nil
set_option maxRecDepth 100000 in
def cdX7_hasMissing : List CE := (0, 1, some (oIc 0)) :: (1, 1, some (oIs 2)) :: (2, 0, none) :: (2, 1, some (oIl 2)) :: (3, 1, some (oAl 0)) :: (4, 3, some (oGetI 7 5)) ::
  (7, 3, some (oCmGe 50)) :: (10, 1, some (oIl 2)) :: (11, 1, some (oIl 1)) :: (12, 3, some (oCmEq 44)) :: (15, 1, some (oAl 0)) :: (16, 3, some (oGetR [(1175, 50632)])) ::
  (19, 1, some (oIl 2)) :: (20, 1, some oIald) :: (21, 1, some (oAl 0)) :: (22, 3, some (oGetR [(1175, 50632)])) :: (25, 1, some (oIl 1)) :: (26, 1, some oIald) ::
  (27, 3, some (oCmNe 44)) :: (30, 1, some (oAl 0)) :: (31, 1, some (oIl 2)) :: (32, 1, some (oAl 0)) :: (33, 3, some (oGetI 7 40)) :: (36, 3, some (oCI 7 mX7_isMissing 3)) ::
  (39, 3, some (oIfEq 44)) :: (42, 1, some (oIc 1)) :: (43, 1, some oZret) :: (44, 3, some (oInc 2 1)) :: (47, 3, some (oGoto 2)) :: (50, 1, some (oIc 0)) ::
  (51, 1, some oZret) :: []
set_option maxRecDepth 100000 in
set_option maxHeartbeats 4000000 in
theorem okX7_hasMissing : CodeOk mX7_hasMissing cdX7_hasMissing := by
  refine ⟨by rfl, ?_⟩
  show CodeAll mX7_hasMissing cdX7_hasMissing
  refine ce_op (okIc1 (n := 0) (by decide +kernel) (by decide)) ?_
  refine ce_op (okIs1 (k := 2) (by decide +kernel) rfl (by decide)) ?_
  refine ce_st ?_
  refine ce_op (okIl1 (k := 2) (by decide +kernel) rfl) ?_
  refine ce_op (okAl1 (k := 0) (by decide +kernel) rfl) ?_
  refine ce_op (okGetI clX7 (k := 5) (x := 223) (by decide +kernel) (by decide) rfl wd1005 (Or.inl rfl)) ?_
  refine ce_op (okCmGe (off := 43) (by decide +kernel) (by decide)) ?_
  refine ce_op (okIl1 (k := 2) (by decide +kernel) rfl) ?_
  refine ce_op (okIl1 (k := 1) (by decide +kernel) rfl) ?_
  refine ce_op (okCmEq (off := 32) (by decide +kernel) (by decide)) ?_
  refine ce_op (okAl1 (k := 0) (by decide +kernel) rfl) ?_
  refine ce_op (okGetR clX7 (k := 41) (x := 71) (by decide +kernel) (by decide) rfl wd1041 rfl (by decide +kernel)) ?_
  refine ce_op (okIl1 (k := 2) (by decide +kernel) rfl) ?_
  refine ce_op (okIald (by decide +kernel)) ?_
  refine ce_op (okAl1 (k := 0) (by decide +kernel) rfl) ?_
  refine ce_op (okGetR clX7 (k := 41) (x := 71) (by decide +kernel) (by decide) rfl wd1041 rfl (by decide +kernel)) ?_
  refine ce_op (okIl1 (k := 1) (by decide +kernel) rfl) ?_
  refine ce_op (okIald (by decide +kernel)) ?_
  refine ce_op (okCmNe (off := 17) (by decide +kernel) (by decide)) ?_
  refine ce_op (okAl1 (k := 0) (by decide +kernel) rfl) ?_
  refine ce_op (okIl1 (k := 2) (by decide +kernel) rfl) ?_
  refine ce_op (okAl1 (k := 0) (by decide +kernel) rfl) ?_
  refine ce_op (okGetI clX7 (k := 40) (x := 235) (by decide +kernel) (by decide) rfl wd1040 (Or.inl rfl)) ?_
  refine ce_op (okCI miX7_isMissing (rV clX7 (x := 262) miX7_isMissing rfl (by decide +kernel) wd1338 wd1340 wd68)) ?_
  refine ce_op (okIfEq (off := 5) (by decide +kernel) (by decide)) ?_
  refine ce_op (okIc1 (n := 1) (by decide +kernel) (by decide)) ?_
  refine ce_op (okZret (by decide +kernel) rfl) ?_
  refine ce_op (okInc (n := 1) (by decide +kernel) (by decide)) ?_
  refine ce_op (okGoto (off := (-45)) (by decide +kernel) (by decide)) ?_
  refine ce_op (okIc1 (n := 0) (by decide +kernel) (by decide)) ?_
  refine ce_op (okZret (by decide +kernel) rfl) ?_
  exact ce_nil
set_option maxRecDepth 100000 in
def cdX7_signsOf : List CE := (0, 1, some (oAl 0)) :: (1, 1, some (oIl 1)) :: (2, 3, some (oCI 7 mX7_soldUnder 2)) :: (5, 3, some (oIfEq 12)) :: (8, 1, some (oIc 1)) :: (9, 3, some (oGoto 13)) ::
  (12, 1, some (oIc 0)) :: (13, 1, some (oAl 0)) :: (14, 1, some (oIl 1)) :: (15, 3, some (oCI 7 mX7_boughtOfSuch 2)) :: (18, 3, some (oIfEq 25)) :: (21, 1, some (oIc 2)) ::
  (22, 3, some (oGoto 26)) :: (25, 1, some (oIc 0)) :: (26, 1, some oIadd) :: (27, 1, some (oAl 0)) :: (28, 1, some (oIl 1)) :: (29, 3, some (oCI 7 mX7_roundsWith 2)) ::
  (32, 1, some (oIc 1)) :: (33, 3, some (oCmLe 40)) :: (36, 1, some (oIc 4)) :: (37, 3, some (oGoto 41)) :: (40, 1, some (oIc 0)) :: (41, 1, some oIadd) ::
  (42, 1, some (oAl 0)) :: (43, 1, some (oIl 1)) :: (44, 3, some (oCI 7 mX7_hasMissing 2)) :: (47, 3, some (oIfEq 55)) :: (50, 2, some (oIc 8)) :: (52, 3, some (oGoto 56)) ::
  (55, 1, some (oIc 0)) :: (56, 1, some oIadd) :: (57, 1, some oIret) :: []
set_option maxRecDepth 100000 in
set_option maxHeartbeats 4000000 in
theorem okX7_signsOf : CodeOk mX7_signsOf cdX7_signsOf := by
  refine ⟨by rfl, ?_⟩
  show CodeAll mX7_signsOf cdX7_signsOf
  refine ce_op (okAl1 (k := 0) (by decide +kernel) rfl) ?_
  refine ce_op (okIl1 (k := 1) (by decide +kernel) rfl) ?_
  refine ce_op (okCI miX7_soldUnder (rV clX7 (x := 344) miX7_soldUnder rfl (by decide +kernel) wd1447 wd1449 wd83)) ?_
  refine ce_op (okIfEq (off := 7) (by decide +kernel) (by decide)) ?_
  refine ce_op (okIc1 (n := 1) (by decide +kernel) (by decide)) ?_
  refine ce_op (okGoto (off := 4) (by decide +kernel) (by decide)) ?_
  refine ce_op (okIc1 (n := 0) (by decide +kernel) (by decide)) ?_
  refine ce_op (okAl1 (k := 0) (by decide +kernel) rfl) ?_
  refine ce_op (okIl1 (k := 1) (by decide +kernel) rfl) ?_
  refine ce_op (okCI miX7_boughtOfSuch (rV clX7 (x := 347) miX7_boughtOfSuch rfl (by decide +kernel) wd1451 wd1453 wd84)) ?_
  refine ce_op (okIfEq (off := 7) (by decide +kernel) (by decide)) ?_
  refine ce_op (okIc1 (n := 2) (by decide +kernel) (by decide)) ?_
  refine ce_op (okGoto (off := 4) (by decide +kernel) (by decide)) ?_
  refine ce_op (okIc1 (n := 0) (by decide +kernel) (by decide)) ?_
  refine ce_op (okIadd (by decide +kernel)) ?_
  refine ce_op (okAl1 (k := 0) (by decide +kernel) rfl) ?_
  refine ce_op (okIl1 (k := 1) (by decide +kernel) rfl) ?_
  refine ce_op (okCI miX7_roundsWith (rV clX7 (x := 350) miX7_roundsWith rfl (by decide +kernel) wd1459 wd1461 wd86)) ?_
  refine ce_op (okIc1 (n := 1) (by decide +kernel) (by decide)) ?_
  refine ce_op (okCmLe (off := 7) (by decide +kernel) (by decide)) ?_
  refine ce_op (okIc1 (n := 4) (by decide +kernel) (by decide)) ?_
  refine ce_op (okGoto (off := 4) (by decide +kernel) (by decide)) ?_
  refine ce_op (okIc1 (n := 0) (by decide +kernel) (by decide)) ?_
  refine ce_op (okIadd (by decide +kernel)) ?_
  refine ce_op (okAl1 (k := 0) (by decide +kernel) rfl) ?_
  refine ce_op (okIl1 (k := 1) (by decide +kernel) rfl) ?_
  refine ce_op (okCI miX7_hasMissing (rV clX7 (x := 353) miX7_hasMissing rfl (by decide +kernel) wd1463 wd1465 wd87)) ?_
  refine ce_op (okIfEq (off := 8) (by decide +kernel) (by decide)) ?_
  refine ce_op (okIc2 (n := 8) (by decide +kernel) (by decide)) ?_
  refine ce_op (okGoto (off := 4) (by decide +kernel) (by decide)) ?_
  refine ce_op (okIc1 (n := 0) (by decide +kernel) (by decide)) ?_
  refine ce_op (okIadd (by decide +kernel)) ?_
  refine ce_op (okIret (by decide +kernel) rfl) ?_
  exact ce_nil
set_option maxRecDepth 100000 in
def cdX7_signs : List CE := (0, 1, some (oAl 0)) :: (1, 1, some (oIc 0)) :: (2, 3, some (oPutI 7 0)) :: (5, 1, some (oAl 0)) :: (6, 1, some (oIl 1)) :: (7, 3, some (oCI 7 mX7_isFirm 2)) ::
  (10, 3, some (oIfEq 23)) :: (13, 1, some (oIl 2)) :: (14, 1, some (oIl 3)) :: (15, 2, some (oIl 4)) :: (17, 3, some (oCI 16 mX7_isAsked 3)) :: (20, 3, some (oIfNe 25)) ::
  (23, 1, some (oIc (-1))) :: (24, 1, some oIret) :: (25, 1, some (oAl 0)) :: (26, 1, some (oIl 2)) :: (27, 1, some (oIl 3)) :: (28, 2, some (oIl 4)) ::
  (30, 3, some (oCV 7 mX7_seeksNow 4)) :: (33, 1, some (oAl 0)) :: (34, 3, some (oCV 7 mX7_parties 1)) :: (37, 1, some (oAl 0)) :: (38, 3, some (oGetI 7 47)) :: (41, 3, some (oIfEq 49)) ::
  (44, 2, some (oIc (-2))) :: (46, 3, some (oGoto 54)) :: (49, 1, some (oAl 0)) :: (50, 1, some (oIl 1)) :: (51, 3, some (oCI 7 mX7_signsOf 2)) :: (54, 1, some oIret) :: []
set_option maxRecDepth 100000 in
set_option maxHeartbeats 4000000 in
theorem okX7_signs : CodeOk mX7_signs cdX7_signs := by
  refine ⟨by rfl, ?_⟩
  show CodeAll mX7_signs cdX7_signs
  refine ce_op (okAl1 (k := 0) (by decide +kernel) rfl) ?_
  refine ce_op (okIc1 (n := 0) (by decide +kernel) (by decide)) ?_
  refine ce_op (okPutI clX7 (k := 0) (x := 102) (by decide +kernel) (by decide) rfl wd1000 rfl rfl (by decide +kernel)) ?_
  refine ce_op (okAl1 (k := 0) (by decide +kernel) rfl) ?_
  refine ce_op (okIl1 (k := 1) (by decide +kernel) rfl) ?_
  refine ce_op (okCI miX7_isFirm (rV clX7 (x := 255) miX7_isFirm rfl (by decide +kernel) wd1324 wd1326 wd65)) ?_
  refine ce_op (okIfEq (off := 13) (by decide +kernel) (by decide)) ?_
  refine ce_op (okIl1 (k := 2) (by decide +kernel) rfl) ?_
  refine ce_op (okIl1 (k := 3) (by decide +kernel) rfl) ?_
  refine ce_op (okIl2 (by decide +kernel)) ?_
  refine ce_op (okCI miX7_isAsked (rS (x := 295) miX7_isAsked (by decide +kernel) wd1358 wd1359)) ?_
  refine ce_op (okIfNe (off := 5) (by decide +kernel) (by decide)) ?_
  refine ce_op (okIc1 (n := (-1)) (by decide +kernel) (by decide)) ?_
  refine ce_op (okIret (by decide +kernel) rfl) ?_
  refine ce_op (okAl1 (k := 0) (by decide +kernel) rfl) ?_
  refine ce_op (okIl1 (k := 2) (by decide +kernel) rfl) ?_
  refine ce_op (okIl1 (k := 3) (by decide +kernel) rfl) ?_
  refine ce_op (okIl2 (by decide +kernel)) ?_
  refine ce_op (okCV miX7_seeksNow (rV clX7 (x := 299) miX7_seeksNow rfl (by decide +kernel) wd1361 wd1363 wd69)) ?_
  refine ce_op (okAl1 (k := 0) (by decide +kernel) rfl) ?_
  refine ce_op (okCV miX7_parties (rV clX7 (x := 259) miX7_parties rfl (by decide +kernel) wd1329 wd1331 wd66)) ?_
  refine ce_op (okAl1 (k := 0) (by decide +kernel) rfl) ?_
  refine ce_op (okGetI clX7 (k := 47) (x := 272) (by decide +kernel) (by decide) rfl wd1047 (Or.inr rfl)) ?_
  refine ce_op (okIfEq (off := 8) (by decide +kernel) (by decide)) ?_
  refine ce_op (okIc2 (n := (-2)) (by decide +kernel) (by decide)) ?_
  refine ce_op (okGoto (off := 8) (by decide +kernel) (by decide)) ?_
  refine ce_op (okAl1 (k := 0) (by decide +kernel) rfl) ?_
  refine ce_op (okIl1 (k := 1) (by decide +kernel) rfl) ?_
  refine ce_op (okCI miX7_signsOf (rV clX7 (x := 356) miX7_signsOf rfl (by decide +kernel) wd1443 wd1445 wd82)) ?_
  refine ce_op (okIret (by decide +kernel) rfl) ?_
  exact ce_nil
set_option maxRecDepth 100000 in
def cdX7_knew : List CE := (0, 1, some (oAl 0)) :: (1, 1, some (oIc 0)) :: (2, 3, some (oPutI 7 0)) :: (5, 1, some (oIl 1)) :: (6, 1, some (oIc 1)) :: (7, 3, some (oCmLt 37)) ::
  (10, 1, some (oIl 1)) :: (11, 2, some (oIc 15)) :: (13, 3, some (oCmGt 37)) :: (16, 1, some (oIl 2)) :: (17, 1, some (oIl 3)) :: (18, 2, some (oIl 4)) ::
  (20, 3, some (oCI 16 mX7_isAsked 3)) :: (23, 3, some (oIfEq 37)) :: (26, 2, some (oIl 5)) :: (28, 3, some (oIfLt 37)) :: (31, 2, some (oIl 5)) :: (33, 1, some (oIc 1)) ::
  (34, 3, some (oCmLe 39)) :: (37, 1, some (oIc (-1))) :: (38, 1, some oIret) :: (39, 1, some (oAl 0)) :: (40, 1, some (oIl 2)) :: (41, 1, some (oIl 3)) ::
  (42, 2, some (oIl 4)) :: (44, 3, some (oCV 7 mX7_seeksNow 4)) :: (47, 1, some (oAl 0)) :: (48, 3, some (oGetI 7 47)) :: (51, 3, some (oIfEq 57)) :: (54, 2, some (oIc (-2))) ::
  (56, 1, some oIret) :: (57, 1, some (oAl 0)) :: (58, 3, some (oCV 7 mX7_parties 1)) :: (61, 1, some (oIc 0)) :: (62, 2, some (oIs 6)) :: (64, 1, some (oIc 0)) ::
  (65, 2, some (oIs 7)) :: (67, 0, none) :: (67, 2, some (oIl 7)) :: (69, 1, some (oAl 0)) :: (70, 3, some (oGetI 7 5)) :: (73, 3, some (oCmGe 133)) ::
  (76, 1, some (oAl 0)) :: (77, 2, some (oIl 7)) :: (79, 3, some (oCI 7 mX7_signsOf 2)) :: (82, 1, some (oIl 1)) :: (83, 1, some oIand) :: (84, 2, some (oIs 8)) ::
  (86, 1, some (oAl 0)) :: (87, 2, some (oIl 7)) :: (89, 1, some (oAl 0)) :: (90, 3, some (oGetI 7 40)) :: (93, 3, some (oCI 7 mX7_isMissing 3)) :: (96, 3, some (oIfNe 127)) ::
  (99, 2, some (oIl 5)) :: (101, 3, some (oIfNe 113)) :: (104, 2, some (oIl 8)) :: (106, 1, some (oIl 1)) :: (107, 3, some (oCmNe 127)) :: (110, 3, some (oGoto 118)) ::
  (113, 2, some (oIl 8)) :: (115, 3, some (oIfEq 127)) :: (118, 2, some (oIl 6)) :: (120, 1, some (oIc 1)) :: (121, 2, some (oIl 7)) :: (123, 1, some oIshl) ::
  (124, 1, some oIor) :: (125, 2, some (oIs 6)) :: (127, 3, some (oInc 7 1)) :: (130, 3, some (oGoto 67)) :: (133, 2, some (oIl 6)) :: (135, 1, some oIret) :: []
set_option maxRecDepth 100000 in
set_option maxHeartbeats 4000000 in
theorem okX7_knew : CodeOk mX7_knew cdX7_knew := by
  refine ⟨by rfl, ?_⟩
  show CodeAll mX7_knew cdX7_knew
  refine ce_op (okAl1 (k := 0) (by decide +kernel) rfl) ?_
  refine ce_op (okIc1 (n := 0) (by decide +kernel) (by decide)) ?_
  refine ce_op (okPutI clX7 (k := 0) (x := 102) (by decide +kernel) (by decide) rfl wd1000 rfl rfl (by decide +kernel)) ?_
  refine ce_op (okIl1 (k := 1) (by decide +kernel) rfl) ?_
  refine ce_op (okIc1 (n := 1) (by decide +kernel) (by decide)) ?_
  refine ce_op (okCmLt (off := 30) (by decide +kernel) (by decide)) ?_
  refine ce_op (okIl1 (k := 1) (by decide +kernel) rfl) ?_
  refine ce_op (okIc2 (n := 15) (by decide +kernel) (by decide)) ?_
  refine ce_op (okCmGt (off := 24) (by decide +kernel) (by decide)) ?_
  refine ce_op (okIl1 (k := 2) (by decide +kernel) rfl) ?_
  refine ce_op (okIl1 (k := 3) (by decide +kernel) rfl) ?_
  refine ce_op (okIl2 (by decide +kernel)) ?_
  refine ce_op (okCI miX7_isAsked (rS (x := 295) miX7_isAsked (by decide +kernel) wd1358 wd1359)) ?_
  refine ce_op (okIfEq (off := 14) (by decide +kernel) (by decide)) ?_
  refine ce_op (okIl2 (by decide +kernel)) ?_
  refine ce_op (okIfLt (off := 9) (by decide +kernel) (by decide)) ?_
  refine ce_op (okIl2 (by decide +kernel)) ?_
  refine ce_op (okIc1 (n := 1) (by decide +kernel) (by decide)) ?_
  refine ce_op (okCmLe (off := 5) (by decide +kernel) (by decide)) ?_
  refine ce_op (okIc1 (n := (-1)) (by decide +kernel) (by decide)) ?_
  refine ce_op (okIret (by decide +kernel) rfl) ?_
  refine ce_op (okAl1 (k := 0) (by decide +kernel) rfl) ?_
  refine ce_op (okIl1 (k := 2) (by decide +kernel) rfl) ?_
  refine ce_op (okIl1 (k := 3) (by decide +kernel) rfl) ?_
  refine ce_op (okIl2 (by decide +kernel)) ?_
  refine ce_op (okCV miX7_seeksNow (rV clX7 (x := 299) miX7_seeksNow rfl (by decide +kernel) wd1361 wd1363 wd69)) ?_
  refine ce_op (okAl1 (k := 0) (by decide +kernel) rfl) ?_
  refine ce_op (okGetI clX7 (k := 47) (x := 272) (by decide +kernel) (by decide) rfl wd1047 (Or.inr rfl)) ?_
  refine ce_op (okIfEq (off := 6) (by decide +kernel) (by decide)) ?_
  refine ce_op (okIc2 (n := (-2)) (by decide +kernel) (by decide)) ?_
  refine ce_op (okIret (by decide +kernel) rfl) ?_
  refine ce_op (okAl1 (k := 0) (by decide +kernel) rfl) ?_
  refine ce_op (okCV miX7_parties (rV clX7 (x := 259) miX7_parties rfl (by decide +kernel) wd1329 wd1331 wd66)) ?_
  refine ce_op (okIc1 (n := 0) (by decide +kernel) (by decide)) ?_
  refine ce_op (okIs2 (by decide +kernel) (by decide)) ?_
  refine ce_op (okIc1 (n := 0) (by decide +kernel) (by decide)) ?_
  refine ce_op (okIs2 (by decide +kernel) (by decide)) ?_
  refine ce_st ?_
  refine ce_op (okIl2 (by decide +kernel)) ?_
  refine ce_op (okAl1 (k := 0) (by decide +kernel) rfl) ?_
  refine ce_op (okGetI clX7 (k := 5) (x := 223) (by decide +kernel) (by decide) rfl wd1005 (Or.inl rfl)) ?_
  refine ce_op (okCmGe (off := 60) (by decide +kernel) (by decide)) ?_
  refine ce_op (okAl1 (k := 0) (by decide +kernel) rfl) ?_
  refine ce_op (okIl2 (by decide +kernel)) ?_
  refine ce_op (okCI miX7_signsOf (rV clX7 (x := 356) miX7_signsOf rfl (by decide +kernel) wd1443 wd1445 wd82)) ?_
  refine ce_op (okIl1 (k := 1) (by decide +kernel) rfl) ?_
  refine ce_op (okIand (by decide +kernel)) ?_
  refine ce_op (okIs2 (by decide +kernel) (by decide)) ?_
  refine ce_op (okAl1 (k := 0) (by decide +kernel) rfl) ?_
  refine ce_op (okIl2 (by decide +kernel)) ?_
  refine ce_op (okAl1 (k := 0) (by decide +kernel) rfl) ?_
  refine ce_op (okGetI clX7 (k := 40) (x := 235) (by decide +kernel) (by decide) rfl wd1040 (Or.inl rfl)) ?_
  refine ce_op (okCI miX7_isMissing (rV clX7 (x := 262) miX7_isMissing rfl (by decide +kernel) wd1338 wd1340 wd68)) ?_
  refine ce_op (okIfNe (off := 31) (by decide +kernel) (by decide)) ?_
  refine ce_op (okIl2 (by decide +kernel)) ?_
  refine ce_op (okIfNe (off := 12) (by decide +kernel) (by decide)) ?_
  refine ce_op (okIl2 (by decide +kernel)) ?_
  refine ce_op (okIl1 (k := 1) (by decide +kernel) rfl) ?_
  refine ce_op (okCmNe (off := 20) (by decide +kernel) (by decide)) ?_
  refine ce_op (okGoto (off := 8) (by decide +kernel) (by decide)) ?_
  refine ce_op (okIl2 (by decide +kernel)) ?_
  refine ce_op (okIfEq (off := 12) (by decide +kernel) (by decide)) ?_
  refine ce_op (okIl2 (by decide +kernel)) ?_
  refine ce_op (okIc1 (n := 1) (by decide +kernel) (by decide)) ?_
  refine ce_op (okIl2 (by decide +kernel)) ?_
  refine ce_op (okIshl (by decide +kernel)) ?_
  refine ce_op (okIor (by decide +kernel)) ?_
  refine ce_op (okIs2 (by decide +kernel) (by decide)) ?_
  refine ce_op (okInc (n := 1) (by decide +kernel) (by decide)) ?_
  refine ce_op (okGoto (off := (-63)) (by decide +kernel) (by decide)) ?_
  refine ce_op (okIl2 (by decide +kernel)) ?_
  refine ce_op (okIret (by decide +kernel) rfl) ?_
  exact ce_nil
set_option maxRecDepth 100000 in
def cdX7_hands : List CE := (0, 1, some (oAl 0)) :: (1, 1, some (oIc 0)) :: (2, 3, some (oPutI 7 0)) :: (5, 1, some (oAl 0)) :: (6, 3, some (oCV 7 mX7_parties 1)) :: (9, 1, some (oIc 0)) ::
  (10, 1, some (oIs 1)) :: (11, 1, some (oIc 0)) :: (12, 1, some (oIs 2)) :: (13, 0, none) :: (13, 1, some (oIl 2)) :: (14, 1, some (oAl 0)) ::
  (15, 3, some (oGetI 7 5)) :: (18, 3, some (oCmGe 45)) :: (21, 1, some (oIl 1)) :: (22, 1, some (oAl 0)) :: (23, 3, some (oGetR [(1175, 50632)])) :: (26, 1, some (oIl 2)) ::
  (27, 1, some oIald) :: (28, 1, some (oIl 2)) :: (29, 3, some (oCmNe 36)) :: (32, 1, some (oIc 1)) :: (33, 3, some (oGoto 37)) :: (36, 1, some (oIc 0)) ::
  (37, 1, some oIadd) :: (38, 1, some (oIs 1)) :: (39, 3, some (oInc 2 1)) :: (42, 3, some (oGoto 13)) :: (45, 1, some (oIl 1)) :: (46, 1, some oIret) :: []
set_option maxRecDepth 100000 in
set_option maxHeartbeats 4000000 in
theorem okX7_hands : CodeOk mX7_hands cdX7_hands := by
  refine ⟨by rfl, ?_⟩
  show CodeAll mX7_hands cdX7_hands
  refine ce_op (okAl1 (k := 0) (by decide +kernel) rfl) ?_
  refine ce_op (okIc1 (n := 0) (by decide +kernel) (by decide)) ?_
  refine ce_op (okPutI clX7 (k := 0) (x := 102) (by decide +kernel) (by decide) rfl wd1000 rfl rfl (by decide +kernel)) ?_
  refine ce_op (okAl1 (k := 0) (by decide +kernel) rfl) ?_
  refine ce_op (okCV miX7_parties (rV clX7 (x := 259) miX7_parties rfl (by decide +kernel) wd1329 wd1331 wd66)) ?_
  refine ce_op (okIc1 (n := 0) (by decide +kernel) (by decide)) ?_
  refine ce_op (okIs1 (k := 1) (by decide +kernel) rfl (by decide)) ?_
  refine ce_op (okIc1 (n := 0) (by decide +kernel) (by decide)) ?_
  refine ce_op (okIs1 (k := 2) (by decide +kernel) rfl (by decide)) ?_
  refine ce_st ?_
  refine ce_op (okIl1 (k := 2) (by decide +kernel) rfl) ?_
  refine ce_op (okAl1 (k := 0) (by decide +kernel) rfl) ?_
  refine ce_op (okGetI clX7 (k := 5) (x := 223) (by decide +kernel) (by decide) rfl wd1005 (Or.inl rfl)) ?_
  refine ce_op (okCmGe (off := 27) (by decide +kernel) (by decide)) ?_
  refine ce_op (okIl1 (k := 1) (by decide +kernel) rfl) ?_
  refine ce_op (okAl1 (k := 0) (by decide +kernel) rfl) ?_
  refine ce_op (okGetR clX7 (k := 41) (x := 71) (by decide +kernel) (by decide) rfl wd1041 rfl (by decide +kernel)) ?_
  refine ce_op (okIl1 (k := 2) (by decide +kernel) rfl) ?_
  refine ce_op (okIald (by decide +kernel)) ?_
  refine ce_op (okIl1 (k := 2) (by decide +kernel) rfl) ?_
  refine ce_op (okCmNe (off := 7) (by decide +kernel) (by decide)) ?_
  refine ce_op (okIc1 (n := 1) (by decide +kernel) (by decide)) ?_
  refine ce_op (okGoto (off := 4) (by decide +kernel) (by decide)) ?_
  refine ce_op (okIc1 (n := 0) (by decide +kernel) (by decide)) ?_
  refine ce_op (okIadd (by decide +kernel)) ?_
  refine ce_op (okIs1 (k := 1) (by decide +kernel) rfl (by decide)) ?_
  refine ce_op (okInc (n := 1) (by decide +kernel) (by decide)) ?_
  refine ce_op (okGoto (off := (-29)) (by decide +kernel) (by decide)) ?_
  refine ce_op (okIl1 (k := 1) (by decide +kernel) rfl) ?_
  refine ce_op (okIret (by decide +kernel) rfl) ?_
  exact ce_nil
set_option maxRecDepth 100000 in
def cdX7_lacking : List CE := (0, 1, some (oAl 0)) :: (1, 1, some (oIc 0)) :: (2, 3, some (oPutI 7 0)) :: (5, 1, some (oIl 1)) :: (6, 1, some (oIc 1)) :: (7, 3, some (oCmLt 16)) ::
  (10, 1, some (oIl 1)) :: (11, 2, some (oIc 99)) :: (13, 3, some (oCmLe 18)) :: (16, 1, some (oIc (-1))) :: (17, 1, some oIret) :: (18, 1, some (oIc 0)) ::
  (19, 1, some (oIs 2)) :: (20, 1, some (oIc (-1))) :: (21, 1, some (oIs 3)) :: (22, 1, some (oIc 0)) :: (23, 2, some (oIs 4)) :: (25, 0, none) ::
  (25, 2, some (oIl 4)) :: (27, 3, some (oIc 400)) :: (30, 3, some (oCmGt 115)) :: (33, 1, some (oIc 0)) :: (34, 2, some (oIs 5)) :: (36, 0, none) ::
  (36, 2, some (oIl 5)) :: (38, 1, some (oAl 0)) :: (39, 3, some (oGetI 7 6)) :: (42, 3, some (oCmGe 109)) :: (45, 1, some (oAl 0)) :: (46, 3, some (oGetR [(1175, 329128)])) ::
  (49, 2, some (oIl 5)) :: (51, 1, some oIald) :: (52, 2, some (oIl 4)) :: (54, 3, some (oCmNe 103)) :: (57, 1, some (oAl 0)) :: (58, 3, some (oGetR [(1175, 329144)])) ::
  (61, 2, some (oIl 5)) :: (63, 1, some oIald) :: (64, 1, some (oIl 1)) :: (65, 3, some (oCmEq 71)) :: (68, 3, some (oGoto 103)) :: (71, 1, some (oIl 2)) ::
  (72, 1, some (oIl 3)) :: (73, 1, some (oIc (-1))) :: (74, 3, some (oCmEq 97)) :: (77, 1, some (oAl 0)) :: (78, 3, some (oGetR [(1175, 329064)])) :: (81, 1, some (oIl 3)) ::
  (82, 1, some oIald) :: (83, 1, some (oAl 0)) :: (84, 3, some (oGetR [(1175, 329048)])) :: (87, 2, some (oIl 5)) :: (89, 1, some oIald) :: (90, 3, some (oCmEq 97)) ::
  (93, 1, some (oIc 1)) :: (94, 3, some (oGoto 98)) :: (97, 1, some (oIc 0)) :: (98, 1, some oIadd) :: (99, 1, some (oIs 2)) :: (100, 2, some (oIl 5)) ::
  (102, 1, some (oIs 3)) :: (103, 3, some (oInc 5 1)) :: (106, 3, some (oGoto 36)) :: (109, 3, some (oInc 4 1)) :: (112, 3, some (oGoto 25)) :: (115, 1, some (oIl 2)) ::
  (116, 1, some oIret) :: []
set_option maxRecDepth 100000 in
set_option maxHeartbeats 4000000 in
theorem okX7_lacking : CodeOk mX7_lacking cdX7_lacking := by
  refine ⟨by rfl, ?_⟩
  show CodeAll mX7_lacking cdX7_lacking
  refine ce_op (okAl1 (k := 0) (by decide +kernel) rfl) ?_
  refine ce_op (okIc1 (n := 0) (by decide +kernel) (by decide)) ?_
  refine ce_op (okPutI clX7 (k := 0) (x := 102) (by decide +kernel) (by decide) rfl wd1000 rfl rfl (by decide +kernel)) ?_
  refine ce_op (okIl1 (k := 1) (by decide +kernel) rfl) ?_
  refine ce_op (okIc1 (n := 1) (by decide +kernel) (by decide)) ?_
  refine ce_op (okCmLt (off := 9) (by decide +kernel) (by decide)) ?_
  refine ce_op (okIl1 (k := 1) (by decide +kernel) rfl) ?_
  refine ce_op (okIc2 (n := 99) (by decide +kernel) (by decide)) ?_
  refine ce_op (okCmLe (off := 5) (by decide +kernel) (by decide)) ?_
  refine ce_op (okIc1 (n := (-1)) (by decide +kernel) (by decide)) ?_
  refine ce_op (okIret (by decide +kernel) rfl) ?_
  refine ce_op (okIc1 (n := 0) (by decide +kernel) (by decide)) ?_
  refine ce_op (okIs1 (k := 2) (by decide +kernel) rfl (by decide)) ?_
  refine ce_op (okIc1 (n := (-1)) (by decide +kernel) (by decide)) ?_
  refine ce_op (okIs1 (k := 3) (by decide +kernel) rfl (by decide)) ?_
  refine ce_op (okIc1 (n := 0) (by decide +kernel) (by decide)) ?_
  refine ce_op (okIs2 (by decide +kernel) (by decide)) ?_
  refine ce_st ?_
  refine ce_op (okIl2 (by decide +kernel)) ?_
  refine ce_op (okIc3 (n := 400) (by decide +kernel) (by decide)) ?_
  refine ce_op (okCmGt (off := 85) (by decide +kernel) (by decide)) ?_
  refine ce_op (okIc1 (n := 0) (by decide +kernel) (by decide)) ?_
  refine ce_op (okIs2 (by decide +kernel) (by decide)) ?_
  refine ce_st ?_
  refine ce_op (okIl2 (by decide +kernel)) ?_
  refine ce_op (okAl1 (k := 0) (by decide +kernel) rfl) ?_
  refine ce_op (okGetI clX7 (k := 6) (x := 226) (by decide +kernel) (by decide) rfl wd1006 (Or.inl rfl)) ?_
  refine ce_op (okCmGe (off := 67) (by decide +kernel) (by decide)) ?_
  refine ce_op (okAl1 (k := 0) (by decide +kernel) rfl) ?_
  refine ce_op (okGetR clX7 (k := 23) (x := 61) (by decide +kernel) (by decide) rfl wd1023 rfl (by decide +kernel)) ?_
  refine ce_op (okIl2 (by decide +kernel)) ?_
  refine ce_op (okIald (by decide +kernel)) ?_
  refine ce_op (okIl2 (by decide +kernel)) ?_
  refine ce_op (okCmNe (off := 49) (by decide +kernel) (by decide)) ?_
  refine ce_op (okAl1 (k := 0) (by decide +kernel) rfl) ?_
  refine ce_op (okGetR clX7 (k := 24) (x := 64) (by decide +kernel) (by decide) rfl wd1024 rfl (by decide +kernel)) ?_
  refine ce_op (okIl2 (by decide +kernel)) ?_
  refine ce_op (okIald (by decide +kernel)) ?_
  refine ce_op (okIl1 (k := 1) (by decide +kernel) rfl) ?_
  refine ce_op (okCmEq (off := 6) (by decide +kernel) (by decide)) ?_
  refine ce_op (okGoto (off := 35) (by decide +kernel) (by decide)) ?_
  refine ce_op (okIl1 (k := 2) (by decide +kernel) rfl) ?_
  refine ce_op (okIl1 (k := 3) (by decide +kernel) rfl) ?_
  refine ce_op (okIc1 (n := (-1)) (by decide +kernel) (by decide)) ?_
  refine ce_op (okCmEq (off := 23) (by decide +kernel) (by decide)) ?_
  refine ce_op (okAl1 (k := 0) (by decide +kernel) rfl) ?_
  refine ce_op (okGetR clX7 (k := 19) (x := 49) (by decide +kernel) (by decide) rfl wd1019 rfl (by decide +kernel)) ?_
  refine ce_op (okIl1 (k := 3) (by decide +kernel) rfl) ?_
  refine ce_op (okIald (by decide +kernel)) ?_
  refine ce_op (okAl1 (k := 0) (by decide +kernel) rfl) ?_
  refine ce_op (okGetR clX7 (k := 18) (x := 46) (by decide +kernel) (by decide) rfl wd1018 rfl (by decide +kernel)) ?_
  refine ce_op (okIl2 (by decide +kernel)) ?_
  refine ce_op (okIald (by decide +kernel)) ?_
  refine ce_op (okCmEq (off := 7) (by decide +kernel) (by decide)) ?_
  refine ce_op (okIc1 (n := 1) (by decide +kernel) (by decide)) ?_
  refine ce_op (okGoto (off := 4) (by decide +kernel) (by decide)) ?_
  refine ce_op (okIc1 (n := 0) (by decide +kernel) (by decide)) ?_
  refine ce_op (okIadd (by decide +kernel)) ?_
  refine ce_op (okIs1 (k := 2) (by decide +kernel) rfl (by decide)) ?_
  refine ce_op (okIl2 (by decide +kernel)) ?_
  refine ce_op (okIs1 (k := 3) (by decide +kernel) rfl (by decide)) ?_
  refine ce_op (okInc (n := 1) (by decide +kernel) (by decide)) ?_
  refine ce_op (okGoto (off := (-70)) (by decide +kernel) (by decide)) ?_
  refine ce_op (okInc (n := 1) (by decide +kernel) (by decide)) ?_
  refine ce_op (okGoto (off := (-87)) (by decide +kernel) (by decide)) ?_
  refine ce_op (okIl1 (k := 2) (by decide +kernel) rfl) ?_
  refine ce_op (okIret (by decide +kernel) rfl) ?_
  exact ce_nil
set_option maxRecDepth 100000 in
def cdX7_bits : List CE := (0, 1, some (oIc 0)) :: (1, 1, some (oIs 1)) :: (2, 1, some (oIc 0)) :: (3, 1, some (oIs 2)) :: (4, 0, none) :: (4, 1, some (oIl 2)) ::
  (5, 2, some (oIc 31)) :: (7, 3, some (oCmGe 24)) :: (10, 1, some (oIl 1)) :: (11, 1, some (oIl 0)) :: (12, 1, some (oIl 2)) :: (13, 1, some oIshr) ::
  (14, 1, some (oIc 1)) :: (15, 1, some oIand) :: (16, 1, some oIadd) :: (17, 1, some (oIs 1)) :: (18, 3, some (oInc 2 1)) :: (21, 3, some (oGoto 4)) ::
  (24, 1, some (oIl 1)) :: (25, 1, some oIret) :: []
set_option maxRecDepth 100000 in
set_option maxHeartbeats 4000000 in
theorem okX7_bits : CodeOk mX7_bits cdX7_bits := by
  refine ⟨by rfl, ?_⟩
  show CodeAll mX7_bits cdX7_bits
  refine ce_op (okIc1 (n := 0) (by decide +kernel) (by decide)) ?_
  refine ce_op (okIs1 (k := 1) (by decide +kernel) rfl (by decide)) ?_
  refine ce_op (okIc1 (n := 0) (by decide +kernel) (by decide)) ?_
  refine ce_op (okIs1 (k := 2) (by decide +kernel) rfl (by decide)) ?_
  refine ce_st ?_
  refine ce_op (okIl1 (k := 2) (by decide +kernel) rfl) ?_
  refine ce_op (okIc2 (n := 31) (by decide +kernel) (by decide)) ?_
  refine ce_op (okCmGe (off := 17) (by decide +kernel) (by decide)) ?_
  refine ce_op (okIl1 (k := 1) (by decide +kernel) rfl) ?_
  refine ce_op (okIl1 (k := 0) (by decide +kernel) rfl) ?_
  refine ce_op (okIl1 (k := 2) (by decide +kernel) rfl) ?_
  refine ce_op (okIshr (by decide +kernel)) ?_
  refine ce_op (okIc1 (n := 1) (by decide +kernel) (by decide)) ?_
  refine ce_op (okIand (by decide +kernel)) ?_
  refine ce_op (okIadd (by decide +kernel)) ?_
  refine ce_op (okIs1 (k := 1) (by decide +kernel) rfl (by decide)) ?_
  refine ce_op (okInc (n := 1) (by decide +kernel) (by decide)) ?_
  refine ce_op (okGoto (off := (-17)) (by decide +kernel) (by decide)) ?_
  refine ce_op (okIl1 (k := 1) (by decide +kernel) rfl) ?_
  refine ce_op (okIret (by decide +kernel) rfl) ?_
  exact ce_nil
set_option maxRecDepth 100000 in
def cdX7_stop : List CE := (0, 1, some (oAl 0)) :: (1, 1, some (oIc 0)) :: (2, 3, some (oPutI 7 0)) :: (5, 1, some (oIl 1)) :: (6, 3, some (oIfLt 19)) :: (9, 1, some (oIl 1)) ::
  (10, 1, some (oIc 1)) :: (11, 1, some (oAl 0)) :: (12, 3, some (oGetI 7 5)) :: (15, 1, some oIshl) :: (16, 3, some (oCmLt 21)) :: (19, 1, some (oIc (-1))) ::
  (20, 1, some oIret) :: (21, 1, some (oAl 0)) :: (22, 1, some (oIl 1)) :: (23, 3, some (oPutI 7 39)) :: (26, 1, some (oIl 1)) :: (27, 3, some (oCI 16 mX7_bits 1)) ::
  (30, 1, some oIret) :: []
set_option maxRecDepth 100000 in
set_option maxHeartbeats 4000000 in
theorem okX7_stop : CodeOk mX7_stop cdX7_stop := by
  refine ⟨by rfl, ?_⟩
  show CodeAll mX7_stop cdX7_stop
  refine ce_op (okAl1 (k := 0) (by decide +kernel) rfl) ?_
  refine ce_op (okIc1 (n := 0) (by decide +kernel) (by decide)) ?_
  refine ce_op (okPutI clX7 (k := 0) (x := 102) (by decide +kernel) (by decide) rfl wd1000 rfl rfl (by decide +kernel)) ?_
  refine ce_op (okIl1 (k := 1) (by decide +kernel) rfl) ?_
  refine ce_op (okIfLt (off := 13) (by decide +kernel) (by decide)) ?_
  refine ce_op (okIl1 (k := 1) (by decide +kernel) rfl) ?_
  refine ce_op (okIc1 (n := 1) (by decide +kernel) (by decide)) ?_
  refine ce_op (okAl1 (k := 0) (by decide +kernel) rfl) ?_
  refine ce_op (okGetI clX7 (k := 5) (x := 223) (by decide +kernel) (by decide) rfl wd1005 (Or.inl rfl)) ?_
  refine ce_op (okIshl (by decide +kernel)) ?_
  refine ce_op (okCmLt (off := 5) (by decide +kernel) (by decide)) ?_
  refine ce_op (okIc1 (n := (-1)) (by decide +kernel) (by decide)) ?_
  refine ce_op (okIret (by decide +kernel) rfl) ?_
  refine ce_op (okAl1 (k := 0) (by decide +kernel) rfl) ?_
  refine ce_op (okIl1 (k := 1) (by decide +kernel) rfl) ?_
  refine ce_op (okPutI clX7 (k := 39) (x := 232) (by decide +kernel) (by decide) rfl wd1039 rfl rfl (by decide +kernel)) ?_
  refine ce_op (okIl1 (k := 1) (by decide +kernel) rfl) ?_
  refine ce_op (okCI miX7_bits (rS (x := 359) miX7_bits (by decide +kernel) wd1483 wd1484)) ?_
  refine ce_op (okIret (by decide +kernel) rfl) ?_
  exact ce_nil
set_option maxRecDepth 100000 in
def cdX7_fewest : List CE := (0, 1, some (oAl 0)) :: (1, 1, some (oIc 0)) :: (2, 3, some (oPutI 7 0)) :: (5, 1, some (oIl 1)) :: (6, 1, some (oIl 2)) :: (7, 1, some (oIl 3)) ::
  (8, 3, some (oCI 16 mX7_isAsked 3)) :: (11, 3, some (oIfEq 21)) :: (14, 2, some (oJl 4)) :: (16, 1, some (oJc 0)) :: (17, 1, some oLcmp) :: (18, 3, some (oIfGe 23)) ::
  (21, 1, some (oIc (-1))) :: (22, 1, some oIret) :: (23, 1, some (oAl 0)) :: (24, 1, some (oIl 1)) :: (25, 1, some (oIl 2)) :: (26, 1, some (oIl 3)) ::
  (27, 3, some (oCV 7 mX7_seeksNow 4)) :: (30, 1, some (oAl 0)) :: (31, 3, some (oGetI 7 47)) :: (34, 3, some (oIfEq 40)) :: (37, 2, some (oIc (-2))) :: (39, 1, some oIret) ::
  (40, 1, some (oIc 0)) :: (41, 2, some (oIs 6)) :: (43, 0, none) :: (43, 2, some (oIl 6)) :: (45, 1, some (oAl 0)) :: (46, 3, some (oGetI 7 42)) ::
  (49, 3, some (oCmGe 93)) :: (52, 1, some (oAl 0)) :: (53, 3, some (oGetR [(1175, 820809)])) :: (56, 2, some (oIl 6)) :: (58, 1, some (oAl 0)) :: (59, 2, some (oIl 6)) ::
  (61, 1, some (oAl 0)) :: (62, 3, some (oGetI 7 40)) :: (65, 1, some (oAl 0)) :: (66, 3, some (oGetI 7 40)) :: (69, 3, some (oCI 7 mX7_takesOf 4)) :: (72, 1, some oI2l) ::
  (73, 1, some oJast) :: (74, 1, some (oAl 0)) :: (75, 3, some (oGetR [(1175, 820824)])) :: (78, 2, some (oIl 6)) :: (80, 1, some (oAl 0)) :: (81, 2, some (oIl 6)) ::
  (83, 3, some (oCI 7 mX7_firmsOf 2)) :: (86, 1, some oIast) :: (87, 3, some (oInc 6 1)) :: (90, 3, some (oGoto 43)) :: (93, 1, some (oIc (-1))) :: (94, 2, some (oIs 6)) ::
  (96, 1, some (oIc 0)) :: (97, 2, some (oIs 7)) :: (99, 0, none) :: (99, 2, some (oIl 7)) :: (101, 1, some (oIc 1)) :: (102, 1, some (oAl 0)) ::
  (103, 3, some (oGetI 7 5)) :: (106, 1, some oIshl) :: (107, 3, some (oCmGe 200)) :: (110, 2, some (oIl 6)) :: (112, 1, some (oIc (-1))) :: (113, 3, some (oCmEq 132)) ::
  (116, 2, some (oIl 7)) :: (118, 3, some (oCI 16 mX7_bits 1)) :: (121, 2, some (oIl 6)) :: (123, 3, some (oCI 16 mX7_bits 1)) :: (126, 3, some (oCmLt 132)) :: (129, 3, some (oGoto 194)) ::
  (132, 1, some (oJc 0)) :: (133, 2, some (oJs 8)) :: (135, 1, some (oIc 0)) :: (136, 2, some (oIs 10)) :: (138, 0, none) :: (138, 2, some (oIl 10)) ::
  (140, 1, some (oAl 0)) :: (141, 3, some (oGetI 7 42)) :: (144, 3, some (oCmGe 182)) :: (147, 2, some (oJl 8)) :: (149, 1, some (oAl 0)) :: (150, 3, some (oGetR [(1175, 820824)])) ::
  (153, 2, some (oIl 10)) :: (155, 1, some oIald) :: (156, 2, some (oIl 7)) :: (158, 1, some oIand) :: (159, 3, some (oIfEq 166)) :: (162, 1, some (oJc 0)) ::
  (163, 3, some (oGoto 173)) :: (166, 1, some (oAl 0)) :: (167, 3, some (oGetR [(1175, 820809)])) :: (170, 2, some (oIl 10)) :: (172, 1, some oJald) :: (173, 1, some oLadd) ::
  (174, 2, some (oJs 8)) :: (176, 3, some (oInc 10 1)) :: (179, 3, some (oGoto 138)) :: (182, 2, some (oJl 8)) :: (184, 2, some (oJl 4)) :: (186, 1, some oLcmp) ::
  (187, 3, some (oIfGt 194)) :: (190, 2, some (oIl 7)) :: (192, 2, some (oIs 6)) :: (194, 3, some (oInc 7 1)) :: (197, 3, some (oGoto 99)) :: (200, 2, some (oIl 6)) ::
  (202, 1, some oIret) :: []
set_option maxRecDepth 100000 in
set_option maxHeartbeats 4000000 in
theorem okX7_fewest : CodeOk mX7_fewest cdX7_fewest := by
  refine ⟨by rfl, ?_⟩
  show CodeAll mX7_fewest cdX7_fewest
  refine ce_op (okAl1 (k := 0) (by decide +kernel) rfl) ?_
  refine ce_op (okIc1 (n := 0) (by decide +kernel) (by decide)) ?_
  refine ce_op (okPutI clX7 (k := 0) (x := 102) (by decide +kernel) (by decide) rfl wd1000 rfl rfl (by decide +kernel)) ?_
  refine ce_op (okIl1 (k := 1) (by decide +kernel) rfl) ?_
  refine ce_op (okIl1 (k := 2) (by decide +kernel) rfl) ?_
  refine ce_op (okIl1 (k := 3) (by decide +kernel) rfl) ?_
  refine ce_op (okCI miX7_isAsked (rS (x := 295) miX7_isAsked (by decide +kernel) wd1358 wd1359)) ?_
  refine ce_op (okIfEq (off := 10) (by decide +kernel) (by decide)) ?_
  refine ce_op (okJl2 (by decide +kernel)) ?_
  refine ce_op (okJc1 (n := 0) (by decide +kernel) (by decide)) ?_
  refine ce_op (okLcmp (by decide +kernel)) ?_
  refine ce_op (okIfGe (off := 5) (by decide +kernel) (by decide)) ?_
  refine ce_op (okIc1 (n := (-1)) (by decide +kernel) (by decide)) ?_
  refine ce_op (okIret (by decide +kernel) rfl) ?_
  refine ce_op (okAl1 (k := 0) (by decide +kernel) rfl) ?_
  refine ce_op (okIl1 (k := 1) (by decide +kernel) rfl) ?_
  refine ce_op (okIl1 (k := 2) (by decide +kernel) rfl) ?_
  refine ce_op (okIl1 (k := 3) (by decide +kernel) rfl) ?_
  refine ce_op (okCV miX7_seeksNow (rV clX7 (x := 299) miX7_seeksNow rfl (by decide +kernel) wd1361 wd1363 wd69)) ?_
  refine ce_op (okAl1 (k := 0) (by decide +kernel) rfl) ?_
  refine ce_op (okGetI clX7 (k := 47) (x := 272) (by decide +kernel) (by decide) rfl wd1047 (Or.inr rfl)) ?_
  refine ce_op (okIfEq (off := 6) (by decide +kernel) (by decide)) ?_
  refine ce_op (okIc2 (n := (-2)) (by decide +kernel) (by decide)) ?_
  refine ce_op (okIret (by decide +kernel) rfl) ?_
  refine ce_op (okIc1 (n := 0) (by decide +kernel) (by decide)) ?_
  refine ce_op (okIs2 (by decide +kernel) (by decide)) ?_
  refine ce_st ?_
  refine ce_op (okIl2 (by decide +kernel)) ?_
  refine ce_op (okAl1 (k := 0) (by decide +kernel) rfl) ?_
  refine ce_op (okGetI clX7 (k := 42) (x := 276) (by decide +kernel) (by decide) rfl wd1042 (Or.inl rfl)) ?_
  refine ce_op (okCmGe (off := 44) (by decide +kernel) (by decide)) ?_
  refine ce_op (okAl1 (k := 0) (by decide +kernel) rfl) ?_
  refine ce_op (okGetR clX7 (k := 54) (x := 95) (by decide +kernel) (by decide) rfl wd1054 rfl (by decide +kernel)) ?_
  refine ce_op (okIl2 (by decide +kernel)) ?_
  refine ce_op (okAl1 (k := 0) (by decide +kernel) rfl) ?_
  refine ce_op (okIl2 (by decide +kernel)) ?_
  refine ce_op (okAl1 (k := 0) (by decide +kernel) rfl) ?_
  refine ce_op (okGetI clX7 (k := 40) (x := 235) (by decide +kernel) (by decide) rfl wd1040 (Or.inl rfl)) ?_
  refine ce_op (okAl1 (k := 0) (by decide +kernel) rfl) ?_
  refine ce_op (okGetI clX7 (k := 40) (x := 235) (by decide +kernel) (by decide) rfl wd1040 (Or.inl rfl)) ?_
  refine ce_op (okCI miX7_takesOf (rV clX7 (x := 309) miX7_takesOf rfl (by decide +kernel) wd1389 wd1391 wd75)) ?_
  refine ce_op (okI2l (by decide +kernel)) ?_
  refine ce_op (okJast (by decide +kernel)) ?_
  refine ce_op (okAl1 (k := 0) (by decide +kernel) rfl) ?_
  refine ce_op (okGetR clX7 (k := 55) (x := 99) (by decide +kernel) (by decide) rfl wd1055 rfl (by decide +kernel)) ?_
  refine ce_op (okIl2 (by decide +kernel)) ?_
  refine ce_op (okAl1 (k := 0) (by decide +kernel) rfl) ?_
  refine ce_op (okIl2 (by decide +kernel)) ?_
  refine ce_op (okCI miX7_firmsOf (rV clX7 (x := 313) miX7_firmsOf rfl (by decide +kernel) wd1394 wd1396 wd76)) ?_
  refine ce_op (okIast (by decide +kernel)) ?_
  refine ce_op (okInc (n := 1) (by decide +kernel) (by decide)) ?_
  refine ce_op (okGoto (off := (-47)) (by decide +kernel) (by decide)) ?_
  refine ce_op (okIc1 (n := (-1)) (by decide +kernel) (by decide)) ?_
  refine ce_op (okIs2 (by decide +kernel) (by decide)) ?_
  refine ce_op (okIc1 (n := 0) (by decide +kernel) (by decide)) ?_
  refine ce_op (okIs2 (by decide +kernel) (by decide)) ?_
  refine ce_st ?_
  refine ce_op (okIl2 (by decide +kernel)) ?_
  refine ce_op (okIc1 (n := 1) (by decide +kernel) (by decide)) ?_
  refine ce_op (okAl1 (k := 0) (by decide +kernel) rfl) ?_
  refine ce_op (okGetI clX7 (k := 5) (x := 223) (by decide +kernel) (by decide) rfl wd1005 (Or.inl rfl)) ?_
  refine ce_op (okIshl (by decide +kernel)) ?_
  refine ce_op (okCmGe (off := 93) (by decide +kernel) (by decide)) ?_
  refine ce_op (okIl2 (by decide +kernel)) ?_
  refine ce_op (okIc1 (n := (-1)) (by decide +kernel) (by decide)) ?_
  refine ce_op (okCmEq (off := 19) (by decide +kernel) (by decide)) ?_
  refine ce_op (okIl2 (by decide +kernel)) ?_
  refine ce_op (okCI miX7_bits (rS (x := 359) miX7_bits (by decide +kernel) wd1483 wd1484)) ?_
  refine ce_op (okIl2 (by decide +kernel)) ?_
  refine ce_op (okCI miX7_bits (rS (x := 359) miX7_bits (by decide +kernel) wd1483 wd1484)) ?_
  refine ce_op (okCmLt (off := 6) (by decide +kernel) (by decide)) ?_
  refine ce_op (okGoto (off := 65) (by decide +kernel) (by decide)) ?_
  refine ce_op (okJc1 (n := 0) (by decide +kernel) (by decide)) ?_
  refine ce_op (okJs2 (by decide +kernel) (by decide)) ?_
  refine ce_op (okIc1 (n := 0) (by decide +kernel) (by decide)) ?_
  refine ce_op (okIs2 (by decide +kernel) (by decide)) ?_
  refine ce_st ?_
  refine ce_op (okIl2 (by decide +kernel)) ?_
  refine ce_op (okAl1 (k := 0) (by decide +kernel) rfl) ?_
  refine ce_op (okGetI clX7 (k := 42) (x := 276) (by decide +kernel) (by decide) rfl wd1042 (Or.inl rfl)) ?_
  refine ce_op (okCmGe (off := 38) (by decide +kernel) (by decide)) ?_
  refine ce_op (okJl2 (by decide +kernel)) ?_
  refine ce_op (okAl1 (k := 0) (by decide +kernel) rfl) ?_
  refine ce_op (okGetR clX7 (k := 55) (x := 99) (by decide +kernel) (by decide) rfl wd1055 rfl (by decide +kernel)) ?_
  refine ce_op (okIl2 (by decide +kernel)) ?_
  refine ce_op (okIald (by decide +kernel)) ?_
  refine ce_op (okIl2 (by decide +kernel)) ?_
  refine ce_op (okIand (by decide +kernel)) ?_
  refine ce_op (okIfEq (off := 7) (by decide +kernel) (by decide)) ?_
  refine ce_op (okJc1 (n := 0) (by decide +kernel) (by decide)) ?_
  refine ce_op (okGoto (off := 10) (by decide +kernel) (by decide)) ?_
  refine ce_op (okAl1 (k := 0) (by decide +kernel) rfl) ?_
  refine ce_op (okGetR clX7 (k := 54) (x := 95) (by decide +kernel) (by decide) rfl wd1054 rfl (by decide +kernel)) ?_
  refine ce_op (okIl2 (by decide +kernel)) ?_
  refine ce_op (okJald (by decide +kernel)) ?_
  refine ce_op (okLadd (by decide +kernel)) ?_
  refine ce_op (okJs2 (by decide +kernel) (by decide)) ?_
  refine ce_op (okInc (n := 1) (by decide +kernel) (by decide)) ?_
  refine ce_op (okGoto (off := (-41)) (by decide +kernel) (by decide)) ?_
  refine ce_op (okJl2 (by decide +kernel)) ?_
  refine ce_op (okJl2 (by decide +kernel)) ?_
  refine ce_op (okLcmp (by decide +kernel)) ?_
  refine ce_op (okIfGt (off := 7) (by decide +kernel) (by decide)) ?_
  refine ce_op (okIl2 (by decide +kernel)) ?_
  refine ce_op (okIs2 (by decide +kernel) (by decide)) ?_
  refine ce_op (okInc (n := 1) (by decide +kernel) (by decide)) ?_
  refine ce_op (okGoto (off := (-98)) (by decide +kernel) (by decide)) ?_
  refine ce_op (okIl2 (by decide +kernel)) ?_
  refine ce_op (okIret (by decide +kernel) rfl) ?_
  exact ce_nil
set_option maxRecDepth 100000 in
def cdX7_rule : List CE := (0, 1, some (oAl 0)) :: (1, 1, some (oIc 0)) :: (2, 3, some (oPutI 7 0)) :: (5, 1, some (oIl 1)) :: (6, 3, some (oIfLt 19)) :: (9, 1, some (oIl 1)) ::
  (10, 1, some (oIc 1)) :: (11, 1, some (oAl 0)) :: (12, 3, some (oGetI 7 3)) :: (15, 1, some oIshl) :: (16, 3, some (oCmLt 21)) :: (19, 1, some (oIc (-1))) ::
  (20, 1, some oIret) :: (21, 1, some (oAl 0)) :: (22, 1, some (oIl 1)) :: (23, 3, some (oPutI 7 40)) :: (26, 1, some (oIl 1)) :: (27, 3, some (oCI 16 mX7_bits 1)) ::
  (30, 1, some oIret) :: []
set_option maxRecDepth 100000 in
set_option maxHeartbeats 4000000 in
theorem okX7_rule : CodeOk mX7_rule cdX7_rule := by
  refine ⟨by rfl, ?_⟩
  show CodeAll mX7_rule cdX7_rule
  refine ce_op (okAl1 (k := 0) (by decide +kernel) rfl) ?_
  refine ce_op (okIc1 (n := 0) (by decide +kernel) (by decide)) ?_
  refine ce_op (okPutI clX7 (k := 0) (x := 102) (by decide +kernel) (by decide) rfl wd1000 rfl rfl (by decide +kernel)) ?_
  refine ce_op (okIl1 (k := 1) (by decide +kernel) rfl) ?_
  refine ce_op (okIfLt (off := 13) (by decide +kernel) (by decide)) ?_
  refine ce_op (okIl1 (k := 1) (by decide +kernel) rfl) ?_
  refine ce_op (okIc1 (n := 1) (by decide +kernel) (by decide)) ?_
  refine ce_op (okAl1 (k := 0) (by decide +kernel) rfl) ?_
  refine ce_op (okGetI clX7 (k := 3) (x := 217) (by decide +kernel) (by decide) rfl wd1003 (Or.inl rfl)) ?_
  refine ce_op (okIshl (by decide +kernel)) ?_
  refine ce_op (okCmLt (off := 5) (by decide +kernel) (by decide)) ?_
  refine ce_op (okIc1 (n := (-1)) (by decide +kernel) (by decide)) ?_
  refine ce_op (okIret (by decide +kernel) rfl) ?_
  refine ce_op (okAl1 (k := 0) (by decide +kernel) rfl) ?_
  refine ce_op (okIl1 (k := 1) (by decide +kernel) rfl) ?_
  refine ce_op (okPutI clX7 (k := 40) (x := 235) (by decide +kernel) (by decide) rfl wd1040 rfl rfl (by decide +kernel)) ?_
  refine ce_op (okIl1 (k := 1) (by decide +kernel) rfl) ?_
  refine ce_op (okCI miX7_bits (rS (x := 359) miX7_bits (by decide +kernel) wd1483 wd1484)) ?_
  refine ce_op (okIret (by decide +kernel) rfl) ?_
  exact ce_nil
set_option maxRecDepth 100000 in
def cdX7_burdenOf : List CE := (0, 1, some (oIc 0)) :: (1, 1, some (oIs 2)) :: (2, 1, some (oIc 0)) :: (3, 1, some (oIs 3)) :: (4, 0, none) :: (4, 1, some (oIl 3)) ::
  (5, 1, some (oAl 0)) :: (6, 3, some (oGetI 7 6)) :: (9, 3, some (oCmGe 79)) :: (12, 1, some (oAl 0)) :: (13, 3, some (oGetR [(1175, 99576)])) :: (16, 1, some (oAl 0)) ::
  (17, 3, some (oGetR [(1175, 329048)])) :: (20, 1, some (oIl 3)) :: (21, 1, some oIald) :: (22, 1, some oIald) :: (23, 1, some (oIl 1)) :: (24, 3, some (oCmNe 73)) ::
  (27, 1, some (oAl 0)) :: (28, 3, some (oGetR [(1175, 99576)])) :: (31, 1, some (oAl 0)) :: (32, 3, some (oGetR [(1175, 329064)])) :: (35, 1, some (oIl 3)) :: (36, 1, some oIald) ::
  (37, 1, some oIald) :: (38, 1, some (oIl 1)) :: (39, 3, some (oCmNe 73)) :: (42, 1, some (oAl 0)) :: (43, 1, some (oAl 0)) :: (44, 3, some (oGetR [(1175, 329048)])) ::
  (47, 1, some (oIl 3)) :: (48, 1, some oIald) :: (49, 1, some (oIc 0)) :: (50, 3, some (oCI 7 mX7_isMissing 3)) :: (53, 3, some (oIfNe 73)) :: (56, 1, some (oAl 0)) ::
  (57, 1, some (oAl 0)) :: (58, 3, some (oGetR [(1175, 329064)])) :: (61, 1, some (oIl 3)) :: (62, 1, some oIald) :: (63, 1, some (oIc 0)) :: (64, 3, some (oCI 7 mX7_isMissing 3)) ::
  (67, 3, some (oIfNe 73)) :: (70, 3, some (oInc 2 1)) :: (73, 3, some (oInc 3 1)) :: (76, 3, some (oGoto 4)) :: (79, 1, some (oIl 2)) :: (80, 1, some oIret) :: []
set_option maxRecDepth 100000 in
set_option maxHeartbeats 4000000 in
theorem okX7_burdenOf : CodeOk mX7_burdenOf cdX7_burdenOf := by
  refine ⟨by rfl, ?_⟩
  show CodeAll mX7_burdenOf cdX7_burdenOf
  refine ce_op (okIc1 (n := 0) (by decide +kernel) (by decide)) ?_
  refine ce_op (okIs1 (k := 2) (by decide +kernel) rfl (by decide)) ?_
  refine ce_op (okIc1 (n := 0) (by decide +kernel) (by decide)) ?_
  refine ce_op (okIs1 (k := 3) (by decide +kernel) rfl (by decide)) ?_
  refine ce_st ?_
  refine ce_op (okIl1 (k := 3) (by decide +kernel) rfl) ?_
  refine ce_op (okAl1 (k := 0) (by decide +kernel) rfl) ?_
  refine ce_op (okGetI clX7 (k := 6) (x := 226) (by decide +kernel) (by decide) rfl wd1006 (Or.inl rfl)) ?_
  refine ce_op (okCmGe (off := 70) (by decide +kernel) (by decide)) ?_
  refine ce_op (okAl1 (k := 0) (by decide +kernel) rfl) ?_
  refine ce_op (okGetR clX7 (k := 12) (x := 27) (by decide +kernel) (by decide) rfl wd1012 rfl (by decide +kernel)) ?_
  refine ce_op (okAl1 (k := 0) (by decide +kernel) rfl) ?_
  refine ce_op (okGetR clX7 (k := 18) (x := 46) (by decide +kernel) (by decide) rfl wd1018 rfl (by decide +kernel)) ?_
  refine ce_op (okIl1 (k := 3) (by decide +kernel) rfl) ?_
  refine ce_op (okIald (by decide +kernel)) ?_
  refine ce_op (okIald (by decide +kernel)) ?_
  refine ce_op (okIl1 (k := 1) (by decide +kernel) rfl) ?_
  refine ce_op (okCmNe (off := 49) (by decide +kernel) (by decide)) ?_
  refine ce_op (okAl1 (k := 0) (by decide +kernel) rfl) ?_
  refine ce_op (okGetR clX7 (k := 12) (x := 27) (by decide +kernel) (by decide) rfl wd1012 rfl (by decide +kernel)) ?_
  refine ce_op (okAl1 (k := 0) (by decide +kernel) rfl) ?_
  refine ce_op (okGetR clX7 (k := 19) (x := 49) (by decide +kernel) (by decide) rfl wd1019 rfl (by decide +kernel)) ?_
  refine ce_op (okIl1 (k := 3) (by decide +kernel) rfl) ?_
  refine ce_op (okIald (by decide +kernel)) ?_
  refine ce_op (okIald (by decide +kernel)) ?_
  refine ce_op (okIl1 (k := 1) (by decide +kernel) rfl) ?_
  refine ce_op (okCmNe (off := 34) (by decide +kernel) (by decide)) ?_
  refine ce_op (okAl1 (k := 0) (by decide +kernel) rfl) ?_
  refine ce_op (okAl1 (k := 0) (by decide +kernel) rfl) ?_
  refine ce_op (okGetR clX7 (k := 18) (x := 46) (by decide +kernel) (by decide) rfl wd1018 rfl (by decide +kernel)) ?_
  refine ce_op (okIl1 (k := 3) (by decide +kernel) rfl) ?_
  refine ce_op (okIald (by decide +kernel)) ?_
  refine ce_op (okIc1 (n := 0) (by decide +kernel) (by decide)) ?_
  refine ce_op (okCI miX7_isMissing (rV clX7 (x := 262) miX7_isMissing rfl (by decide +kernel) wd1338 wd1340 wd68)) ?_
  refine ce_op (okIfNe (off := 20) (by decide +kernel) (by decide)) ?_
  refine ce_op (okAl1 (k := 0) (by decide +kernel) rfl) ?_
  refine ce_op (okAl1 (k := 0) (by decide +kernel) rfl) ?_
  refine ce_op (okGetR clX7 (k := 19) (x := 49) (by decide +kernel) (by decide) rfl wd1019 rfl (by decide +kernel)) ?_
  refine ce_op (okIl1 (k := 3) (by decide +kernel) rfl) ?_
  refine ce_op (okIald (by decide +kernel)) ?_
  refine ce_op (okIc1 (n := 0) (by decide +kernel) (by decide)) ?_
  refine ce_op (okCI miX7_isMissing (rV clX7 (x := 262) miX7_isMissing rfl (by decide +kernel) wd1338 wd1340 wd68)) ?_
  refine ce_op (okIfNe (off := 6) (by decide +kernel) (by decide)) ?_
  refine ce_op (okInc (n := 1) (by decide +kernel) (by decide)) ?_
  refine ce_op (okInc (n := 1) (by decide +kernel) (by decide)) ?_
  refine ce_op (okGoto (off := (-72)) (by decide +kernel) (by decide)) ?_
  refine ce_op (okIl1 (k := 2) (by decide +kernel) rfl) ?_
  refine ce_op (okIret (by decide +kernel) rfl) ?_
  exact ce_nil
set_option maxRecDepth 100000 in
def cdX7_burden : List CE := (0, 1, some (oAl 0)) :: (1, 1, some (oIc 0)) :: (2, 3, some (oPutI 7 0)) :: (5, 1, some (oIl 1)) :: (6, 3, some (oIfLt 17)) :: (9, 1, some (oIl 1)) ::
  (10, 1, some (oAl 0)) :: (11, 3, some (oGetI 7 3)) :: (14, 3, some (oCmLt 21)) :: (17, 1, some (oIc (-1))) :: (18, 3, some (oGoto 26)) :: (21, 1, some (oAl 0)) ::
  (22, 1, some (oIl 1)) :: (23, 3, some (oCI 7 mX7_burdenOf 2)) :: (26, 1, some oIret) :: []
set_option maxRecDepth 100000 in
set_option maxHeartbeats 4000000 in
theorem okX7_burden : CodeOk mX7_burden cdX7_burden := by
  refine ⟨by rfl, ?_⟩
  show CodeAll mX7_burden cdX7_burden
  refine ce_op (okAl1 (k := 0) (by decide +kernel) rfl) ?_
  refine ce_op (okIc1 (n := 0) (by decide +kernel) (by decide)) ?_
  refine ce_op (okPutI clX7 (k := 0) (x := 102) (by decide +kernel) (by decide) rfl wd1000 rfl rfl (by decide +kernel)) ?_
  refine ce_op (okIl1 (k := 1) (by decide +kernel) rfl) ?_
  refine ce_op (okIfLt (off := 11) (by decide +kernel) (by decide)) ?_
  refine ce_op (okIl1 (k := 1) (by decide +kernel) rfl) ?_
  refine ce_op (okAl1 (k := 0) (by decide +kernel) rfl) ?_
  refine ce_op (okGetI clX7 (k := 3) (x := 217) (by decide +kernel) (by decide) rfl wd1003 (Or.inl rfl)) ?_
  refine ce_op (okCmLt (off := 7) (by decide +kernel) (by decide)) ?_
  refine ce_op (okIc1 (n := (-1)) (by decide +kernel) (by decide)) ?_
  refine ce_op (okGoto (off := 8) (by decide +kernel) (by decide)) ?_
  refine ce_op (okAl1 (k := 0) (by decide +kernel) rfl) ?_
  refine ce_op (okIl1 (k := 1) (by decide +kernel) rfl) ?_
  refine ce_op (okCI miX7_burdenOf (rV clX7 (x := 362) miX7_burdenOf rfl (by decide +kernel) wd1498 wd1500 wd88)) ?_
  refine ce_op (okIret (by decide +kernel) rfl) ?_
  exact ce_nil
set_option maxRecDepth 100000 in
def cdX7_starve : List CE := (0, 1, some (oAl 0)) :: (1, 1, some (oIc 0)) :: (2, 3, some (oPutI 7 0)) :: (5, 1, some (oIl 1)) :: (6, 1, some (oIl 2)) :: (7, 1, some (oIl 3)) ::
  (8, 3, some (oCI 16 mX7_isAsked 3)) :: (11, 3, some (oIfEq 30)) :: (14, 2, some (oIl 4)) :: (16, 3, some (oIfLt 30)) :: (19, 2, some (oIl 5)) :: (21, 3, some (oIfLt 30)) ::
  (24, 2, some (oIl 5)) :: (26, 1, some (oIc 2)) :: (27, 3, some (oCmLe 34)) :: (30, 3, some (oJc (-1))) :: (33, 1, some oJret) :: (34, 1, some (oAl 0)) ::
  (35, 1, some (oIl 1)) :: (36, 1, some (oIl 2)) :: (37, 1, some (oIl 3)) :: (38, 3, some (oCV 7 mX7_seeksNow 4)) :: (41, 1, some (oAl 0)) :: (42, 3, some (oGetI 7 47)) ::
  (45, 3, some (oIfEq 52)) :: (48, 3, some (oJc (-2))) :: (51, 1, some oJret) :: (52, 1, some (oIc (-1))) :: (53, 2, some (oIs 6)) :: (55, 1, some (oJc 0)) ::
  (56, 2, some (oJs 7)) :: (58, 1, some (oIc 0)) :: (59, 2, some (oIs 9)) :: (61, 1, some (oIc 0)) :: (62, 2, some (oIs 10)) :: (64, 0, none) ::
  (64, 2, some (oIl 10)) :: (66, 1, some (oIc 1)) :: (67, 1, some (oAl 0)) :: (68, 3, some (oGetI 7 3)) :: (71, 1, some oIshl) :: (72, 3, some (oCmGe 192)) ::
  (75, 1, some (oIc 0)) :: (76, 2, some (oIs 11)) :: (78, 1, some (oIc 0)) :: (79, 2, some (oIs 12)) :: (81, 0, none) :: (81, 2, some (oIl 12)) ::
  (83, 1, some (oAl 0)) :: (84, 3, some (oGetI 7 3)) :: (87, 3, some (oCmGe 122)) :: (90, 2, some (oIl 11)) :: (92, 2, some (oIl 10)) :: (94, 2, some (oIl 12)) ::
  (96, 1, some oIshr) :: (97, 1, some (oIc 1)) :: (98, 1, some oIand) :: (99, 1, some (oIc 1)) :: (100, 3, some (oCmNe 112)) :: (103, 1, some (oAl 0)) ::
  (104, 2, some (oIl 12)) :: (106, 3, some (oCI 7 mX7_burdenOf 2)) :: (109, 3, some (oGoto 113)) :: (112, 1, some (oIc 0)) :: (113, 1, some oIadd) :: (114, 2, some (oIs 11)) ::
  (116, 3, some (oInc 12 1)) :: (119, 3, some (oGoto 81)) :: (122, 2, some (oIl 11)) :: (124, 2, some (oIl 4)) :: (126, 3, some (oCmLe 132)) :: (129, 3, some (oGoto 186)) ::
  (132, 1, some (oAl 0)) :: (133, 1, some (oIc 0)) :: (134, 1, some (oIc 0)) :: (135, 2, some (oIl 10)) :: (137, 3, some (oCJ 7 mX7_allTakes 4)) :: (140, 2, some (oJs 12)) ::
  (142, 2, some (oIl 6)) :: (144, 1, some (oIc (-1))) :: (145, 3, some (oCmEq 174)) :: (148, 2, some (oJl 12)) :: (150, 2, some (oJl 7)) :: (152, 1, some oLcmp) ::
  (153, 3, some (oIfGt 186)) :: (156, 2, some (oJl 12)) :: (158, 2, some (oJl 7)) :: (160, 1, some oLcmp) :: (161, 3, some (oIfNe 174)) :: (164, 2, some (oIl 11)) ::
  (166, 2, some (oIl 9)) :: (168, 3, some (oCmLt 174)) :: (171, 3, some (oGoto 186)) :: (174, 2, some (oIl 10)) :: (176, 2, some (oIs 6)) :: (178, 2, some (oJl 12)) ::
  (180, 2, some (oJs 7)) :: (182, 2, some (oIl 11)) :: (184, 2, some (oIs 9)) :: (186, 3, some (oInc 10 1)) :: (189, 3, some (oGoto 64)) :: (192, 2, some (oIl 5)) ::
  (194, 3, some (oIfNe 203)) :: (197, 2, some (oIl 6)) :: (199, 1, some oI2l) :: (200, 3, some (oGoto 217)) :: (203, 2, some (oIl 5)) :: (205, 1, some (oIc 1)) ::
  (206, 3, some (oCmNe 214)) :: (209, 2, some (oJl 7)) :: (211, 3, some (oGoto 217)) :: (214, 2, some (oIl 9)) :: (216, 1, some oI2l) :: (217, 1, some oJret) :: []
set_option maxRecDepth 100000 in
set_option maxHeartbeats 4000000 in
theorem okX7_starve : CodeOk mX7_starve cdX7_starve := by
  refine ⟨by rfl, ?_⟩
  show CodeAll mX7_starve cdX7_starve
  refine ce_op (okAl1 (k := 0) (by decide +kernel) rfl) ?_
  refine ce_op (okIc1 (n := 0) (by decide +kernel) (by decide)) ?_
  refine ce_op (okPutI clX7 (k := 0) (x := 102) (by decide +kernel) (by decide) rfl wd1000 rfl rfl (by decide +kernel)) ?_
  refine ce_op (okIl1 (k := 1) (by decide +kernel) rfl) ?_
  refine ce_op (okIl1 (k := 2) (by decide +kernel) rfl) ?_
  refine ce_op (okIl1 (k := 3) (by decide +kernel) rfl) ?_
  refine ce_op (okCI miX7_isAsked (rS (x := 295) miX7_isAsked (by decide +kernel) wd1358 wd1359)) ?_
  refine ce_op (okIfEq (off := 19) (by decide +kernel) (by decide)) ?_
  refine ce_op (okIl2 (by decide +kernel)) ?_
  refine ce_op (okIfLt (off := 14) (by decide +kernel) (by decide)) ?_
  refine ce_op (okIl2 (by decide +kernel)) ?_
  refine ce_op (okIfLt (off := 9) (by decide +kernel) (by decide)) ?_
  refine ce_op (okIl2 (by decide +kernel)) ?_
  refine ce_op (okIc1 (n := 2) (by decide +kernel) (by decide)) ?_
  refine ce_op (okCmLe (off := 7) (by decide +kernel) (by decide)) ?_
  refine ce_op (okJcL (k := 318) (by decide +kernel) wd1407) ?_
  refine ce_op (okJret (by decide +kernel) rfl) ?_
  refine ce_op (okAl1 (k := 0) (by decide +kernel) rfl) ?_
  refine ce_op (okIl1 (k := 1) (by decide +kernel) rfl) ?_
  refine ce_op (okIl1 (k := 2) (by decide +kernel) rfl) ?_
  refine ce_op (okIl1 (k := 3) (by decide +kernel) rfl) ?_
  refine ce_op (okCV miX7_seeksNow (rV clX7 (x := 299) miX7_seeksNow rfl (by decide +kernel) wd1361 wd1363 wd69)) ?_
  refine ce_op (okAl1 (k := 0) (by decide +kernel) rfl) ?_
  refine ce_op (okGetI clX7 (k := 47) (x := 272) (by decide +kernel) (by decide) rfl wd1047 (Or.inr rfl)) ?_
  refine ce_op (okIfEq (off := 7) (by decide +kernel) (by decide)) ?_
  refine ce_op (okJcL (k := 320) (by decide +kernel) wd1408) ?_
  refine ce_op (okJret (by decide +kernel) rfl) ?_
  refine ce_op (okIc1 (n := (-1)) (by decide +kernel) (by decide)) ?_
  refine ce_op (okIs2 (by decide +kernel) (by decide)) ?_
  refine ce_op (okJc1 (n := 0) (by decide +kernel) (by decide)) ?_
  refine ce_op (okJs2 (by decide +kernel) (by decide)) ?_
  refine ce_op (okIc1 (n := 0) (by decide +kernel) (by decide)) ?_
  refine ce_op (okIs2 (by decide +kernel) (by decide)) ?_
  refine ce_op (okIc1 (n := 0) (by decide +kernel) (by decide)) ?_
  refine ce_op (okIs2 (by decide +kernel) (by decide)) ?_
  refine ce_st ?_
  refine ce_op (okIl2 (by decide +kernel)) ?_
  refine ce_op (okIc1 (n := 1) (by decide +kernel) (by decide)) ?_
  refine ce_op (okAl1 (k := 0) (by decide +kernel) rfl) ?_
  refine ce_op (okGetI clX7 (k := 3) (x := 217) (by decide +kernel) (by decide) rfl wd1003 (Or.inl rfl)) ?_
  refine ce_op (okIshl (by decide +kernel)) ?_
  refine ce_op (okCmGe (off := 120) (by decide +kernel) (by decide)) ?_
  refine ce_op (okIc1 (n := 0) (by decide +kernel) (by decide)) ?_
  refine ce_op (okIs2 (by decide +kernel) (by decide)) ?_
  refine ce_op (okIc1 (n := 0) (by decide +kernel) (by decide)) ?_
  refine ce_op (okIs2 (by decide +kernel) (by decide)) ?_
  refine ce_st ?_
  refine ce_op (okIl2 (by decide +kernel)) ?_
  refine ce_op (okAl1 (k := 0) (by decide +kernel) rfl) ?_
  refine ce_op (okGetI clX7 (k := 3) (x := 217) (by decide +kernel) (by decide) rfl wd1003 (Or.inl rfl)) ?_
  refine ce_op (okCmGe (off := 35) (by decide +kernel) (by decide)) ?_
  refine ce_op (okIl2 (by decide +kernel)) ?_
  refine ce_op (okIl2 (by decide +kernel)) ?_
  refine ce_op (okIl2 (by decide +kernel)) ?_
  refine ce_op (okIshr (by decide +kernel)) ?_
  refine ce_op (okIc1 (n := 1) (by decide +kernel) (by decide)) ?_
  refine ce_op (okIand (by decide +kernel)) ?_
  refine ce_op (okIc1 (n := 1) (by decide +kernel) (by decide)) ?_
  refine ce_op (okCmNe (off := 12) (by decide +kernel) (by decide)) ?_
  refine ce_op (okAl1 (k := 0) (by decide +kernel) rfl) ?_
  refine ce_op (okIl2 (by decide +kernel)) ?_
  refine ce_op (okCI miX7_burdenOf (rV clX7 (x := 362) miX7_burdenOf rfl (by decide +kernel) wd1498 wd1500 wd88)) ?_
  refine ce_op (okGoto (off := 4) (by decide +kernel) (by decide)) ?_
  refine ce_op (okIc1 (n := 0) (by decide +kernel) (by decide)) ?_
  refine ce_op (okIadd (by decide +kernel)) ?_
  refine ce_op (okIs2 (by decide +kernel) (by decide)) ?_
  refine ce_op (okInc (n := 1) (by decide +kernel) (by decide)) ?_
  refine ce_op (okGoto (off := (-38)) (by decide +kernel) (by decide)) ?_
  refine ce_op (okIl2 (by decide +kernel)) ?_
  refine ce_op (okIl2 (by decide +kernel)) ?_
  refine ce_op (okCmLe (off := 6) (by decide +kernel) (by decide)) ?_
  refine ce_op (okGoto (off := 57) (by decide +kernel) (by decide)) ?_
  refine ce_op (okAl1 (k := 0) (by decide +kernel) rfl) ?_
  refine ce_op (okIc1 (n := 0) (by decide +kernel) (by decide)) ?_
  refine ce_op (okIc1 (n := 0) (by decide +kernel) (by decide)) ?_
  refine ce_op (okIl2 (by decide +kernel)) ?_
  refine ce_op (okCJ miX7_allTakes (rV clX7 (x := 322) miX7_allTakes rfl (by decide +kernel) wd1409 wd1411 wd77)) ?_
  refine ce_op (okJs2 (by decide +kernel) (by decide)) ?_
  refine ce_op (okIl2 (by decide +kernel)) ?_
  refine ce_op (okIc1 (n := (-1)) (by decide +kernel) (by decide)) ?_
  refine ce_op (okCmEq (off := 29) (by decide +kernel) (by decide)) ?_
  refine ce_op (okJl2 (by decide +kernel)) ?_
  refine ce_op (okJl2 (by decide +kernel)) ?_
  refine ce_op (okLcmp (by decide +kernel)) ?_
  refine ce_op (okIfGt (off := 33) (by decide +kernel) (by decide)) ?_
  refine ce_op (okJl2 (by decide +kernel)) ?_
  refine ce_op (okJl2 (by decide +kernel)) ?_
  refine ce_op (okLcmp (by decide +kernel)) ?_
  refine ce_op (okIfNe (off := 13) (by decide +kernel) (by decide)) ?_
  refine ce_op (okIl2 (by decide +kernel)) ?_
  refine ce_op (okIl2 (by decide +kernel)) ?_
  refine ce_op (okCmLt (off := 6) (by decide +kernel) (by decide)) ?_
  refine ce_op (okGoto (off := 15) (by decide +kernel) (by decide)) ?_
  refine ce_op (okIl2 (by decide +kernel)) ?_
  refine ce_op (okIs2 (by decide +kernel) (by decide)) ?_
  refine ce_op (okJl2 (by decide +kernel)) ?_
  refine ce_op (okJs2 (by decide +kernel) (by decide)) ?_
  refine ce_op (okIl2 (by decide +kernel)) ?_
  refine ce_op (okIs2 (by decide +kernel) (by decide)) ?_
  refine ce_op (okInc (n := 1) (by decide +kernel) (by decide)) ?_
  refine ce_op (okGoto (off := (-125)) (by decide +kernel) (by decide)) ?_
  refine ce_op (okIl2 (by decide +kernel)) ?_
  refine ce_op (okIfNe (off := 9) (by decide +kernel) (by decide)) ?_
  refine ce_op (okIl2 (by decide +kernel)) ?_
  refine ce_op (okI2l (by decide +kernel)) ?_
  refine ce_op (okGoto (off := 17) (by decide +kernel) (by decide)) ?_
  refine ce_op (okIl2 (by decide +kernel)) ?_
  refine ce_op (okIc1 (n := 1) (by decide +kernel) (by decide)) ?_
  refine ce_op (okCmNe (off := 8) (by decide +kernel) (by decide)) ?_
  refine ce_op (okJl2 (by decide +kernel)) ?_
  refine ce_op (okGoto (off := 6) (by decide +kernel) (by decide)) ?_
  refine ce_op (okIl2 (by decide +kernel)) ?_
  refine ce_op (okI2l (by decide +kernel)) ?_
  refine ce_op (okJret (by decide +kernel) rfl) ?_
  exact ce_nil
set_option maxRecDepth 100000 in
def cdX7_count : List CE := (0, 1, some (oAl 0)) :: (1, 1, some (oIc 0)) :: (2, 3, some (oPutI 7 0)) :: (5, 1, some (oIc 0)) :: (6, 1, some (oIs 2)) :: (7, 1, some (oIl 1)) ::
  (8, 48, some (oSw [(0, 56), (1, 61), (2, 66), (3, 71), (4, 76), (5, 86), (6, 94), (7, 102)] 140)) :: (56, 1, some (oAl 0)) :: (57, 3, some (oGetI 7 3)) :: (60, 1, some oIret) :: (61, 1, some (oAl 0)) :: (62, 3, some (oGetI 7 4)) ::
  (65, 1, some oIret) :: (66, 1, some (oAl 0)) :: (67, 3, some (oGetI 7 5)) :: (70, 1, some oIret) :: (71, 1, some (oAl 0)) :: (72, 3, some (oGetI 7 6)) ::
  (75, 1, some oIret) :: (76, 1, some (oAl 0)) :: (77, 3, some (oGetI 7 6)) :: (80, 1, some (oAl 0)) :: (81, 3, some (oGetI 7 7)) :: (84, 1, some oIsub) ::
  (85, 1, some oIret) :: (86, 1, some (oAl 0)) :: (87, 3, some (oGetI 7 39)) :: (90, 3, some (oCI 16 mX7_bits 1)) :: (93, 1, some oIret) :: (94, 1, some (oAl 0)) ::
  (95, 3, some (oGetI 7 40)) :: (98, 3, some (oCI 16 mX7_bits 1)) :: (101, 1, some oIret) :: (102, 1, some (oIc 0)) :: (103, 1, some (oIs 3)) :: (104, 0, none) ::
  (104, 1, some (oIl 3)) :: (105, 1, some (oAl 0)) :: (106, 3, some (oGetI 7 5)) :: (109, 3, some (oCmGe 138)) :: (112, 1, some (oIl 2)) :: (113, 1, some (oAl 0)) ::
  (114, 1, some (oIl 3)) :: (115, 1, some (oAl 0)) :: (116, 3, some (oGetI 7 40)) :: (119, 3, some (oCI 7 mX7_isMissing 3)) :: (122, 3, some (oIfEq 129)) :: (125, 1, some (oIc 1)) ::
  (126, 3, some (oGoto 130)) :: (129, 1, some (oIc 0)) :: (130, 1, some oIadd) :: (131, 1, some (oIs 2)) :: (132, 3, some (oInc 3 1)) :: (135, 3, some (oGoto 104)) ::
  (138, 1, some (oIl 2)) :: (139, 1, some oIret) :: (140, 1, some (oIc (-1))) :: (141, 1, some oIret) :: []
set_option maxRecDepth 100000 in
set_option maxHeartbeats 4000000 in
theorem okX7_count : CodeOk mX7_count cdX7_count := by
  refine ⟨by rfl, ?_⟩
  show CodeAll mX7_count cdX7_count
  refine ce_op (okAl1 (k := 0) (by decide +kernel) rfl) ?_
  refine ce_op (okIc1 (n := 0) (by decide +kernel) (by decide)) ?_
  refine ce_op (okPutI clX7 (k := 0) (x := 102) (by decide +kernel) (by decide) rfl wd1000 rfl rfl (by decide +kernel)) ?_
  refine ce_op (okIc1 (n := 0) (by decide +kernel) (by decide)) ?_
  refine ce_op (okIs1 (k := 2) (by decide +kernel) rfl (by decide)) ?_
  refine ce_op (okIl1 (k := 1) (by decide +kernel) rfl) ?_
  refine ce_op (okTsw (dO := 132) (lo := 0) (hi := 7) (offs := #[48, 53, 58, 63, 68, 78, 86, 94]) (by decide +kernel) (by decide) (by decide +kernel) (by decide +kernel) (sw_all (by decide +kernel))) ?_
  refine ce_op (okAl1 (k := 0) (by decide +kernel) rfl) ?_
  refine ce_op (okGetI clX7 (k := 3) (x := 217) (by decide +kernel) (by decide) rfl wd1003 (Or.inl rfl)) ?_
  refine ce_op (okIret (by decide +kernel) rfl) ?_
  refine ce_op (okAl1 (k := 0) (by decide +kernel) rfl) ?_
  refine ce_op (okGetI clX7 (k := 4) (x := 220) (by decide +kernel) (by decide) rfl wd1004 (Or.inl rfl)) ?_
  refine ce_op (okIret (by decide +kernel) rfl) ?_
  refine ce_op (okAl1 (k := 0) (by decide +kernel) rfl) ?_
  refine ce_op (okGetI clX7 (k := 5) (x := 223) (by decide +kernel) (by decide) rfl wd1005 (Or.inl rfl)) ?_
  refine ce_op (okIret (by decide +kernel) rfl) ?_
  refine ce_op (okAl1 (k := 0) (by decide +kernel) rfl) ?_
  refine ce_op (okGetI clX7 (k := 6) (x := 226) (by decide +kernel) (by decide) rfl wd1006 (Or.inl rfl)) ?_
  refine ce_op (okIret (by decide +kernel) rfl) ?_
  refine ce_op (okAl1 (k := 0) (by decide +kernel) rfl) ?_
  refine ce_op (okGetI clX7 (k := 6) (x := 226) (by decide +kernel) (by decide) rfl wd1006 (Or.inl rfl)) ?_
  refine ce_op (okAl1 (k := 0) (by decide +kernel) rfl) ?_
  refine ce_op (okGetI clX7 (k := 7) (x := 229) (by decide +kernel) (by decide) rfl wd1007 (Or.inl rfl)) ?_
  refine ce_op (okIsub (by decide +kernel)) ?_
  refine ce_op (okIret (by decide +kernel) rfl) ?_
  refine ce_op (okAl1 (k := 0) (by decide +kernel) rfl) ?_
  refine ce_op (okGetI clX7 (k := 39) (x := 232) (by decide +kernel) (by decide) rfl wd1039 (Or.inl rfl)) ?_
  refine ce_op (okCI miX7_bits (rS (x := 359) miX7_bits (by decide +kernel) wd1483 wd1484)) ?_
  refine ce_op (okIret (by decide +kernel) rfl) ?_
  refine ce_op (okAl1 (k := 0) (by decide +kernel) rfl) ?_
  refine ce_op (okGetI clX7 (k := 40) (x := 235) (by decide +kernel) (by decide) rfl wd1040 (Or.inl rfl)) ?_
  refine ce_op (okCI miX7_bits (rS (x := 359) miX7_bits (by decide +kernel) wd1483 wd1484)) ?_
  refine ce_op (okIret (by decide +kernel) rfl) ?_
  refine ce_op (okIc1 (n := 0) (by decide +kernel) (by decide)) ?_
  refine ce_op (okIs1 (k := 3) (by decide +kernel) rfl (by decide)) ?_
  refine ce_st ?_
  refine ce_op (okIl1 (k := 3) (by decide +kernel) rfl) ?_
  refine ce_op (okAl1 (k := 0) (by decide +kernel) rfl) ?_
  refine ce_op (okGetI clX7 (k := 5) (x := 223) (by decide +kernel) (by decide) rfl wd1005 (Or.inl rfl)) ?_
  refine ce_op (okCmGe (off := 29) (by decide +kernel) (by decide)) ?_
  refine ce_op (okIl1 (k := 2) (by decide +kernel) rfl) ?_
  refine ce_op (okAl1 (k := 0) (by decide +kernel) rfl) ?_
  refine ce_op (okIl1 (k := 3) (by decide +kernel) rfl) ?_
  refine ce_op (okAl1 (k := 0) (by decide +kernel) rfl) ?_
  refine ce_op (okGetI clX7 (k := 40) (x := 235) (by decide +kernel) (by decide) rfl wd1040 (Or.inl rfl)) ?_
  refine ce_op (okCI miX7_isMissing (rV clX7 (x := 262) miX7_isMissing rfl (by decide +kernel) wd1338 wd1340 wd68)) ?_
  refine ce_op (okIfEq (off := 7) (by decide +kernel) (by decide)) ?_
  refine ce_op (okIc1 (n := 1) (by decide +kernel) (by decide)) ?_
  refine ce_op (okGoto (off := 4) (by decide +kernel) (by decide)) ?_
  refine ce_op (okIc1 (n := 0) (by decide +kernel) (by decide)) ?_
  refine ce_op (okIadd (by decide +kernel)) ?_
  refine ce_op (okIs1 (k := 2) (by decide +kernel) rfl (by decide)) ?_
  refine ce_op (okInc (n := 1) (by decide +kernel) (by decide)) ?_
  refine ce_op (okGoto (off := (-31)) (by decide +kernel) (by decide)) ?_
  refine ce_op (okIl1 (k := 2) (by decide +kernel) rfl) ?_
  refine ce_op (okIret (by decide +kernel) rfl) ?_
  refine ce_op (okIc1 (n := (-1)) (by decide +kernel) (by decide)) ?_
  refine ce_op (okIret (by decide +kernel) rfl) ?_
  exact ce_nil
