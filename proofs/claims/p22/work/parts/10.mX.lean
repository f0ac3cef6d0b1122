set_option maxRecDepth 100000 in
def cdX0_clear : List CE := (0, 1, some (oAl 0)) :: (1, 3, some (oGetR [(336, 354), (720, 738)])) :: (4, 1, some (oIc 0)) :: (5, 3, some (oPutI 2 1)) :: (8, 1, some (oAl 0)) :: (9, 3, some (oGetR [(336, 386), (720, 770)])) ::
  (12, 1, some (oIc 0)) :: (13, 3, some (oPutI 2 1)) :: (16, 1, some (oAl 0)) :: (17, 3, some (oGetR [(336, 418), (720, 802)])) :: (20, 1, some (oIc 0)) :: (21, 3, some (oPutI 2 1)) ::
  (24, 1, some (oAl 0)) :: (25, 3, some (oGetR [(336, 452), (720, 836)])) :: (28, 1, some (oIc 0)) :: (29, 3, some (oPutI 4 7)) :: (32, 1, some (oAl 0)) :: (33, 3, some (oGetR [(336, 452), (720, 836)])) ::
  (36, 1, some (oIc 0)) :: (37, 3, some (oPutI 4 8)) :: (40, 1, some oVret) :: []
set_option maxRecDepth 100000 in
set_option maxHeartbeats 4000000 in
theorem okX0_clear : CodeOk mX0_clear cdX0_clear := by
  refine ⟨by rfl, ?_⟩
  show CodeAll mX0_clear cdX0_clear
  refine ce_op (okAl1 (k := 0) (by decide +kernel) rfl) ?_
  refine ce_op (okGetR clX0 (k := 0) (x := 12) (by decide +kernel) (by decide) rfl wd341 rfl (by decide +kernel)) ?_
  refine ce_op (okIc1 (n := 0) (by decide +kernel) (by decide)) ?_
  refine ce_op (okPutI clX2 (k := 1) (x := 60) (by decide +kernel) (by decide) rfl wd271 rfl rfl (by decide +kernel)) ?_
  refine ce_op (okAl1 (k := 0) (by decide +kernel) rfl) ?_
  refine ce_op (okGetR clX0 (k := 1) (x := 18) (by decide +kernel) (by decide) rfl wd344 rfl (by decide +kernel)) ?_
  refine ce_op (okIc1 (n := 0) (by decide +kernel) (by decide)) ?_
  refine ce_op (okPutI clX2 (k := 1) (x := 60) (by decide +kernel) (by decide) rfl wd271 rfl rfl (by decide +kernel)) ?_
  refine ce_op (okAl1 (k := 0) (by decide +kernel) rfl) ?_
  refine ce_op (okGetR clX0 (k := 2) (x := 21) (by decide +kernel) (by decide) rfl wd347 rfl (by decide +kernel)) ?_
  refine ce_op (okIc1 (n := 0) (by decide +kernel) (by decide)) ?_
  refine ce_op (okPutI clX2 (k := 1) (x := 60) (by decide +kernel) (by decide) rfl wd271 rfl rfl (by decide +kernel)) ?_
  refine ce_op (okAl1 (k := 0) (by decide +kernel) rfl) ?_
  refine ce_op (okGetR clX0 (k := 3) (x := 27) (by decide +kernel) (by decide) rfl wd350 rfl (by decide +kernel)) ?_
  refine ce_op (okIc1 (n := 0) (by decide +kernel) (by decide)) ?_
  refine ce_op (okPutI clX4 (k := 7) (x := 64) (by decide +kernel) (by decide) rfl wd314 rfl rfl (by decide +kernel)) ?_
  refine ce_op (okAl1 (k := 0) (by decide +kernel) rfl) ?_
  refine ce_op (okGetR clX0 (k := 3) (x := 27) (by decide +kernel) (by decide) rfl wd350 rfl (by decide +kernel)) ?_
  refine ce_op (okIc1 (n := 0) (by decide +kernel) (by decide)) ?_
  refine ce_op (okPutI clX4 (k := 8) (x := 65) (by decide +kernel) (by decide) rfl wd320 rfl rfl (by decide +kernel)) ?_
  refine ce_op (okVret (by decide +kernel) rfl) ?_
  exact ce_nil
set_option maxRecDepth 100000 in
def cdX0_addFirm : List CE := (0, 1, some (oAl 0)) :: (1, 3, some (oGetR [(336, 418), (720, 802)])) :: (4, 1, some (oIl 1)) :: (5, 3, some (oCI 2 mX2_add 2)) :: (8, 2, some (oIs 4)) :: (10, 2, some (oIl 4)) ::
  (12, 3, some (oIfLt 63)) :: (15, 1, some (oAl 0)) :: (16, 3, some (oGetR [(336, 49752), (720, 50136)])) :: (19, 2, some (oIl 4)) :: (21, 1, some (oIl 2)) :: (22, 1, some oIast) ::
  (23, 1, some (oAl 0)) :: (24, 3, some (oGetR [(336, 49768), (720, 50152)])) :: (27, 2, some (oIl 4)) :: (29, 1, some (oIl 3)) :: (30, 1, some oIast) :: (31, 1, some (oAl 0)) ::
  (32, 3, some (oGetR [(336, 49784), (720, 50168)])) :: (35, 2, some (oIl 4)) :: (37, 1, some (oIc 0)) :: (38, 1, some oIast) :: (39, 1, some (oAl 0)) :: (40, 3, some (oGetR [(336, 49800), (720, 50184)])) ::
  (43, 2, some (oIl 4)) :: (45, 1, some (oIc 0)) :: (46, 1, some oIast) :: (47, 1, some (oAl 0)) :: (48, 3, some (oGetR [(336, 49816), (720, 50200)])) :: (51, 2, some (oIl 4)) ::
  (53, 1, some (oIc 0)) :: (54, 1, some oIast) :: (55, 1, some (oAl 0)) :: (56, 3, some (oGetR [(336, 49835), (720, 50219)])) :: (59, 2, some (oIl 4)) :: (61, 1, some (oIc 0)) ::
  (62, 1, some oBast) :: (63, 2, some (oIl 4)) :: (65, 1, some oIret) :: []
set_option maxRecDepth 100000 in
set_option maxHeartbeats 4000000 in
theorem okX0_addFirm : CodeOk mX0_addFirm cdX0_addFirm := by
  refine ⟨by rfl, ?_⟩
  show CodeAll mX0_addFirm cdX0_addFirm
  refine ce_op (okAl1 (k := 0) (by decide +kernel) rfl) ?_
  refine ce_op (okGetR clX0 (k := 2) (x := 21) (by decide +kernel) (by decide) rfl wd347 rfl (by decide +kernel)) ?_
  refine ce_op (okIl1 (k := 1) (by decide +kernel) rfl) ?_
  refine ce_op (okCI miX2_add (rV clX2 (x := 68) miX2_add rfl (by decide +kernel) wd532 wd509 wd510)) ?_
  refine ce_op (okIs2 (by decide +kernel) (by decide)) ?_
  refine ce_op (okIl2 (by decide +kernel)) ?_
  refine ce_op (okIfLt (off := 51) (by decide +kernel) (by decide)) ?_
  refine ce_op (okAl1 (k := 0) (by decide +kernel) rfl) ?_
  refine ce_op (okGetR clX0 (k := 5) (x := 35) (by decide +kernel) (by decide) rfl wd355 rfl (by decide +kernel)) ?_
  refine ce_op (okIl2 (by decide +kernel)) ?_
  refine ce_op (okIl1 (k := 2) (by decide +kernel) rfl) ?_
  refine ce_op (okIast (by decide +kernel)) ?_
  refine ce_op (okAl1 (k := 0) (by decide +kernel) rfl) ?_
  refine ce_op (okGetR clX0 (k := 6) (x := 38) (by decide +kernel) (by decide) rfl wd357 rfl (by decide +kernel)) ?_
  refine ce_op (okIl2 (by decide +kernel)) ?_
  refine ce_op (okIl1 (k := 3) (by decide +kernel) rfl) ?_
  refine ce_op (okIast (by decide +kernel)) ?_
  refine ce_op (okAl1 (k := 0) (by decide +kernel) rfl) ?_
  refine ce_op (okGetR clX0 (k := 7) (x := 41) (by decide +kernel) (by decide) rfl wd359 rfl (by decide +kernel)) ?_
  refine ce_op (okIl2 (by decide +kernel)) ?_
  refine ce_op (okIc1 (n := 0) (by decide +kernel) (by decide)) ?_
  refine ce_op (okIast (by decide +kernel)) ?_
  refine ce_op (okAl1 (k := 0) (by decide +kernel) rfl) ?_
  refine ce_op (okGetR clX0 (k := 8) (x := 44) (by decide +kernel) (by decide) rfl wd362 rfl (by decide +kernel)) ?_
  refine ce_op (okIl2 (by decide +kernel)) ?_
  refine ce_op (okIc1 (n := 0) (by decide +kernel) (by decide)) ?_
  refine ce_op (okIast (by decide +kernel)) ?_
  refine ce_op (okAl1 (k := 0) (by decide +kernel) rfl) ?_
  refine ce_op (okGetR clX0 (k := 9) (x := 47) (by decide +kernel) (by decide) rfl wd365 rfl (by decide +kernel)) ?_
  refine ce_op (okIl2 (by decide +kernel)) ?_
  refine ce_op (okIc1 (n := 0) (by decide +kernel) (by decide)) ?_
  refine ce_op (okIast (by decide +kernel)) ?_
  refine ce_op (okAl1 (k := 0) (by decide +kernel) rfl) ?_
  refine ce_op (okGetR clX0 (k := 10) (x := 50) (by decide +kernel) (by decide) rfl wd368 rfl (by decide +kernel)) ?_
  refine ce_op (okIl2 (by decide +kernel)) ?_
  refine ce_op (okIc1 (n := 0) (by decide +kernel) (by decide)) ?_
  refine ce_op (okBast (by decide +kernel)) ?_
  refine ce_op (okIl2 (by decide +kernel)) ?_
  refine ce_op (okIret (by decide +kernel) rfl) ?_
  exact ce_nil
set_option maxRecDepth 100000 in
def cdX0_sinceBoth : List CE := (0, 1, some (oAl 0)) :: (1, 3, some (oGetR [(336, 49768), (720, 50152)])) :: (4, 1, some (oIl 1)) :: (5, 1, some oIald) :: (6, 1, some (oAl 0)) :: (7, 3, some (oGetR [(336, 49768), (720, 50152)])) ::
  (10, 1, some (oIl 2)) :: (11, 1, some oIald) :: (12, 3, some oMax) :: (15, 1, some oIret) :: []
set_option maxRecDepth 100000 in
set_option maxHeartbeats 4000000 in
theorem okX0_sinceBoth : CodeOk mX0_sinceBoth cdX0_sinceBoth := by
  refine ⟨by rfl, ?_⟩
  show CodeAll mX0_sinceBoth cdX0_sinceBoth
  refine ce_op (okAl1 (k := 0) (by decide +kernel) rfl) ?_
  refine ce_op (okGetR clX0 (k := 6) (x := 38) (by decide +kernel) (by decide) rfl wd357 rfl (by decide +kernel)) ?_
  refine ce_op (okIl1 (k := 1) (by decide +kernel) rfl) ?_
  refine ce_op (okIald (by decide +kernel)) ?_
  refine ce_op (okAl1 (k := 0) (by decide +kernel) rfl) ?_
  refine ce_op (okGetR clX0 (k := 6) (x := 38) (by decide +kernel) (by decide) rfl wd357 rfl (by decide +kernel)) ?_
  refine ce_op (okIl1 (k := 2) (by decide +kernel) rfl) ?_
  refine ce_op (okIald (by decide +kernel)) ?_
  refine ce_op (okMax (x := 72) (by decide +kernel) wd547 wd548 wd98 wd549) ?_
  refine ce_op (okIret (by decide +kernel) rfl) ?_
  exact ce_nil
set_option maxRecDepth 100000 in
def cdX0_joinParties : List CE := (0, 1, some (oIc 0)) :: (1, 1, some (oIs 1)) :: (2, 0, none) :: (2, 1, some (oIl 1)) :: (3, 1, some (oAl 0)) :: (4, 3, some (oGetR [(336, 418), (720, 802)])) ::
  (7, 3, some (oGetI 2 1)) :: (10, 3, some (oCmGe 64)) :: (13, 1, some (oAl 0)) :: (14, 3, some (oGetR [(336, 49848), (720, 50232)])) :: (17, 1, some (oIl 1)) :: (18, 1, some (oIl 1)) ::
  (19, 1, some oIast) :: (20, 1, some (oIc 0)) :: (21, 1, some (oIs 2)) :: (22, 0, none) :: (22, 1, some (oIl 2)) :: (23, 1, some (oIl 1)) ::
  (24, 3, some (oCmGe 58)) :: (27, 1, some (oAl 0)) :: (28, 1, some (oIl 1)) :: (29, 1, some (oIl 2)) :: (30, 3, some (oCI 0 mX0_areJoined 3)) :: (33, 3, some (oIfEq 52)) ::
  (36, 1, some (oAl 0)) :: (37, 1, some (oAl 0)) :: (38, 3, some (oGetR [(336, 49848), (720, 50232)])) :: (41, 1, some (oIl 1)) :: (42, 1, some oIald) :: (43, 1, some (oAl 0)) ::
  (44, 3, some (oGetR [(336, 49848), (720, 50232)])) :: (47, 1, some (oIl 2)) :: (48, 1, some oIald) :: (49, 3, some (oCV 0 mX0_mergeParties 3)) :: (52, 3, some (oInc 2 1)) :: (55, 3, some (oGoto 22)) ::
  (58, 3, some (oInc 1 1)) :: (61, 3, some (oGoto 2)) :: (64, 1, some oVret) :: []
set_option maxRecDepth 100000 in
set_option maxHeartbeats 4000000 in
theorem okX0_joinParties : CodeOk mX0_joinParties cdX0_joinParties := by
  refine ⟨by rfl, ?_⟩
  show CodeAll mX0_joinParties cdX0_joinParties
  refine ce_op (okIc1 (n := 0) (by decide +kernel) (by decide)) ?_
  refine ce_op (okIs1 (k := 1) (by decide +kernel) rfl (by decide)) ?_
  refine ce_st ?_
  refine ce_op (okIl1 (k := 1) (by decide +kernel) rfl) ?_
  refine ce_op (okAl1 (k := 0) (by decide +kernel) rfl) ?_
  refine ce_op (okGetR clX0 (k := 2) (x := 21) (by decide +kernel) (by decide) rfl wd347 rfl (by decide +kernel)) ?_
  refine ce_op (okGetI clX2 (k := 1) (x := 60) (by decide +kernel) (by decide) rfl wd271 (Or.inl rfl)) ?_
  refine ce_op (okCmGe (off := 54) (by decide +kernel) (by decide)) ?_
  refine ce_op (okAl1 (k := 0) (by decide +kernel) rfl) ?_
  refine ce_op (okGetR clX0 (k := 11) (x := 54) (by decide +kernel) (by decide) rfl wd370 rfl (by decide +kernel)) ?_
  refine ce_op (okIl1 (k := 1) (by decide +kernel) rfl) ?_
  refine ce_op (okIl1 (k := 1) (by decide +kernel) rfl) ?_
  refine ce_op (okIast (by decide +kernel)) ?_
  refine ce_op (okIc1 (n := 0) (by decide +kernel) (by decide)) ?_
  refine ce_op (okIs1 (k := 2) (by decide +kernel) rfl (by decide)) ?_
  refine ce_st ?_
  refine ce_op (okIl1 (k := 2) (by decide +kernel) rfl) ?_
  refine ce_op (okIl1 (k := 1) (by decide +kernel) rfl) ?_
  refine ce_op (okCmGe (off := 34) (by decide +kernel) (by decide)) ?_
  refine ce_op (okAl1 (k := 0) (by decide +kernel) rfl) ?_
  refine ce_op (okIl1 (k := 1) (by decide +kernel) rfl) ?_
  refine ce_op (okIl1 (k := 2) (by decide +kernel) rfl) ?_
  refine ce_op (okCI miX0_areJoined (rV clX0 (x := 78) miX0_areJoined rfl (by decide +kernel) wd573 wd575 wd16)) ?_
  refine ce_op (okIfEq (off := 19) (by decide +kernel) (by decide)) ?_
  refine ce_op (okAl1 (k := 0) (by decide +kernel) rfl) ?_
  refine ce_op (okAl1 (k := 0) (by decide +kernel) rfl) ?_
  refine ce_op (okGetR clX0 (k := 11) (x := 54) (by decide +kernel) (by decide) rfl wd370 rfl (by decide +kernel)) ?_
  refine ce_op (okIl1 (k := 1) (by decide +kernel) rfl) ?_
  refine ce_op (okIald (by decide +kernel)) ?_
  refine ce_op (okAl1 (k := 0) (by decide +kernel) rfl) ?_
  refine ce_op (okGetR clX0 (k := 11) (x := 54) (by decide +kernel) (by decide) rfl wd370 rfl (by decide +kernel)) ?_
  refine ce_op (okIl1 (k := 2) (by decide +kernel) rfl) ?_
  refine ce_op (okIald (by decide +kernel)) ?_
  refine ce_op (okCV miX0_mergeParties (rV clX0 (x := 82) miX0_mergeParties rfl (by decide +kernel) wd577 wd579 wd17)) ?_
  refine ce_op (okInc (n := 1) (by decide +kernel) (by decide)) ?_
  refine ce_op (okGoto (off := (-33)) (by decide +kernel) (by decide)) ?_
  refine ce_op (okInc (n := 1) (by decide +kernel) (by decide)) ?_
  refine ce_op (okGoto (off := (-59)) (by decide +kernel) (by decide)) ?_
  refine ce_op (okVret (by decide +kernel) rfl) ?_
  exact ce_nil
set_option maxRecDepth 100000 in
def cdX0_areJoined : List CE := (0, 1, some (oAl 0)) :: (1, 3, some (oGetR [(336, 49784), (720, 50168)])) :: (4, 1, some (oIl 1)) :: (5, 1, some oIald) :: (6, 3, some (oIfEq 24)) :: (9, 1, some (oAl 0)) ::
  (10, 3, some (oGetR [(336, 49784), (720, 50168)])) :: (13, 1, some (oIl 1)) :: (14, 1, some oIald) :: (15, 1, some (oAl 0)) :: (16, 3, some (oGetR [(336, 49784), (720, 50168)])) :: (19, 1, some (oIl 2)) ::
  (20, 1, some oIald) :: (21, 3, some (oCmEq 48)) :: (24, 1, some (oAl 0)) :: (25, 3, some (oGetR [(336, 49800), (720, 50184)])) :: (28, 1, some (oIl 1)) :: (29, 1, some oIald) ::
  (30, 3, some (oIfEq 52)) :: (33, 1, some (oAl 0)) :: (34, 3, some (oGetR [(336, 49800), (720, 50184)])) :: (37, 1, some (oIl 1)) :: (38, 1, some oIald) :: (39, 1, some (oAl 0)) ::
  (40, 3, some (oGetR [(336, 49800), (720, 50184)])) :: (43, 1, some (oIl 2)) :: (44, 1, some oIald) :: (45, 3, some (oCmNe 52)) :: (48, 1, some (oIc 1)) :: (49, 3, some (oGoto 53)) ::
  (52, 1, some (oIc 0)) :: (53, 1, some oZret) :: []
set_option maxRecDepth 100000 in
set_option maxHeartbeats 4000000 in
theorem okX0_areJoined : CodeOk mX0_areJoined cdX0_areJoined := by
  refine ⟨by rfl, ?_⟩
  show CodeAll mX0_areJoined cdX0_areJoined
  refine ce_op (okAl1 (k := 0) (by decide +kernel) rfl) ?_
  refine ce_op (okGetR clX0 (k := 7) (x := 41) (by decide +kernel) (by decide) rfl wd359 rfl (by decide +kernel)) ?_
  refine ce_op (okIl1 (k := 1) (by decide +kernel) rfl) ?_
  refine ce_op (okIald (by decide +kernel)) ?_
  refine ce_op (okIfEq (off := 18) (by decide +kernel) (by decide)) ?_
  refine ce_op (okAl1 (k := 0) (by decide +kernel) rfl) ?_
  refine ce_op (okGetR clX0 (k := 7) (x := 41) (by decide +kernel) (by decide) rfl wd359 rfl (by decide +kernel)) ?_
  refine ce_op (okIl1 (k := 1) (by decide +kernel) rfl) ?_
  refine ce_op (okIald (by decide +kernel)) ?_
  refine ce_op (okAl1 (k := 0) (by decide +kernel) rfl) ?_
  refine ce_op (okGetR clX0 (k := 7) (x := 41) (by decide +kernel) (by decide) rfl wd359 rfl (by decide +kernel)) ?_
  refine ce_op (okIl1 (k := 2) (by decide +kernel) rfl) ?_
  refine ce_op (okIald (by decide +kernel)) ?_
  refine ce_op (okCmEq (off := 27) (by decide +kernel) (by decide)) ?_
  refine ce_op (okAl1 (k := 0) (by decide +kernel) rfl) ?_
  refine ce_op (okGetR clX0 (k := 8) (x := 44) (by decide +kernel) (by decide) rfl wd362 rfl (by decide +kernel)) ?_
  refine ce_op (okIl1 (k := 1) (by decide +kernel) rfl) ?_
  refine ce_op (okIald (by decide +kernel)) ?_
  refine ce_op (okIfEq (off := 22) (by decide +kernel) (by decide)) ?_
  refine ce_op (okAl1 (k := 0) (by decide +kernel) rfl) ?_
  refine ce_op (okGetR clX0 (k := 8) (x := 44) (by decide +kernel) (by decide) rfl wd362 rfl (by decide +kernel)) ?_
  refine ce_op (okIl1 (k := 1) (by decide +kernel) rfl) ?_
  refine ce_op (okIald (by decide +kernel)) ?_
  refine ce_op (okAl1 (k := 0) (by decide +kernel) rfl) ?_
  refine ce_op (okGetR clX0 (k := 8) (x := 44) (by decide +kernel) (by decide) rfl wd362 rfl (by decide +kernel)) ?_
  refine ce_op (okIl1 (k := 2) (by decide +kernel) rfl) ?_
  refine ce_op (okIald (by decide +kernel)) ?_
  refine ce_op (okCmNe (off := 7) (by decide +kernel) (by decide)) ?_
  refine ce_op (okIc1 (n := 1) (by decide +kernel) (by decide)) ?_
  refine ce_op (okGoto (off := 4) (by decide +kernel) (by decide)) ?_
  refine ce_op (okIc1 (n := 0) (by decide +kernel) (by decide)) ?_
  refine ce_op (okZret (by decide +kernel) rfl) ?_
  exact ce_nil
set_option maxRecDepth 100000 in
def cdX0_mergeParties : List CE := (0, 1, some (oIl 1)) :: (1, 1, some (oIl 2)) :: (2, 3, some oMin) :: (5, 1, some (oIs 3)) :: (6, 1, some (oIc 0)) :: (7, 2, some (oIs 4)) ::
  (9, 0, none) :: (9, 2, some (oIl 4)) :: (11, 1, some (oAl 0)) :: (12, 3, some (oGetR [(336, 418), (720, 802)])) :: (15, 3, some (oGetI 2 1)) :: (18, 3, some (oCmGe 57)) ::
  (21, 1, some (oAl 0)) :: (22, 3, some (oGetR [(336, 49848), (720, 50232)])) :: (25, 2, some (oIl 4)) :: (27, 1, some oIald) :: (28, 1, some (oIl 1)) :: (29, 3, some (oCmEq 43)) ::
  (32, 1, some (oAl 0)) :: (33, 3, some (oGetR [(336, 49848), (720, 50232)])) :: (36, 2, some (oIl 4)) :: (38, 1, some oIald) :: (39, 1, some (oIl 2)) :: (40, 3, some (oCmNe 51)) ::
  (43, 1, some (oAl 0)) :: (44, 3, some (oGetR [(336, 49848), (720, 50232)])) :: (47, 2, some (oIl 4)) :: (49, 1, some (oIl 3)) :: (50, 1, some oIast) :: (51, 3, some (oInc 4 1)) ::
  (54, 3, some (oGoto 9)) :: (57, 1, some oVret) :: []
set_option maxRecDepth 100000 in
set_option maxHeartbeats 4000000 in
theorem okX0_mergeParties : CodeOk mX0_mergeParties cdX0_mergeParties := by
  refine ⟨by rfl, ?_⟩
  show CodeAll mX0_mergeParties cdX0_mergeParties
  refine ce_op (okIl1 (k := 1) (by decide +kernel) rfl) ?_
  refine ce_op (okIl1 (k := 2) (by decide +kernel) rfl) ?_
  refine ce_op (okMin (x := 86) (by decide +kernel) wd581 wd461 wd98 wd462) ?_
  refine ce_op (okIs1 (k := 3) (by decide +kernel) rfl (by decide)) ?_
  refine ce_op (okIc1 (n := 0) (by decide +kernel) (by decide)) ?_
  refine ce_op (okIs2 (by decide +kernel) (by decide)) ?_
  refine ce_st ?_
  refine ce_op (okIl2 (by decide +kernel)) ?_
  refine ce_op (okAl1 (k := 0) (by decide +kernel) rfl) ?_
  refine ce_op (okGetR clX0 (k := 2) (x := 21) (by decide +kernel) (by decide) rfl wd347 rfl (by decide +kernel)) ?_
  refine ce_op (okGetI clX2 (k := 1) (x := 60) (by decide +kernel) (by decide) rfl wd271 (Or.inl rfl)) ?_
  refine ce_op (okCmGe (off := 39) (by decide +kernel) (by decide)) ?_
  refine ce_op (okAl1 (k := 0) (by decide +kernel) rfl) ?_
  refine ce_op (okGetR clX0 (k := 11) (x := 54) (by decide +kernel) (by decide) rfl wd370 rfl (by decide +kernel)) ?_
  refine ce_op (okIl2 (by decide +kernel)) ?_
  refine ce_op (okIald (by decide +kernel)) ?_
  refine ce_op (okIl1 (k := 1) (by decide +kernel) rfl) ?_
  refine ce_op (okCmEq (off := 14) (by decide +kernel) (by decide)) ?_
  refine ce_op (okAl1 (k := 0) (by decide +kernel) rfl) ?_
  refine ce_op (okGetR clX0 (k := 11) (x := 54) (by decide +kernel) (by decide) rfl wd370 rfl (by decide +kernel)) ?_
  refine ce_op (okIl2 (by decide +kernel)) ?_
  refine ce_op (okIald (by decide +kernel)) ?_
  refine ce_op (okIl1 (k := 2) (by decide +kernel) rfl) ?_
  refine ce_op (okCmNe (off := 11) (by decide +kernel) (by decide)) ?_
  refine ce_op (okAl1 (k := 0) (by decide +kernel) rfl) ?_
  refine ce_op (okGetR clX0 (k := 11) (x := 54) (by decide +kernel) (by decide) rfl wd370 rfl (by decide +kernel)) ?_
  refine ce_op (okIl2 (by decide +kernel)) ?_
  refine ce_op (okIl1 (k := 3) (by decide +kernel) rfl) ?_
  refine ce_op (okIast (by decide +kernel)) ?_
  refine ce_op (okInc (n := 1) (by decide +kernel) (by decide)) ?_
  refine ce_op (okGoto (off := (-45)) (by decide +kernel) (by decide)) ?_
  refine ce_op (okVret (by decide +kernel) rfl) ?_
  exact ce_nil
set_option maxRecDepth 100000 in
def cdX0_partners : List CE := (0, 1, some (oIc 0)) :: (1, 1, some (oIs 2)) :: (2, 1, some (oIc 0)) :: (3, 1, some (oIs 3)) :: (4, 0, none) :: (4, 1, some (oIl 3)) ::
  (5, 1, some (oAl 0)) :: (6, 3, some (oGetR [(336, 418), (720, 802)])) :: (9, 3, some (oGetI 2 1)) :: (12, 3, some (oCmGe 47)) :: (15, 1, some (oIl 3)) :: (16, 1, some (oIl 1)) ::
  (17, 3, some (oCmEq 41)) :: (20, 1, some (oAl 0)) :: (21, 3, some (oGetR [(336, 49848), (720, 50232)])) :: (24, 1, some (oIl 3)) :: (25, 1, some oIald) :: (26, 1, some (oAl 0)) ::
  (27, 3, some (oGetR [(336, 49848), (720, 50232)])) :: (30, 1, some (oIl 1)) :: (31, 1, some oIald) :: (32, 3, some (oCmNe 41)) :: (35, 1, some (oIl 2)) :: (36, 1, some (oIc 1)) ::
  (37, 1, some (oIl 3)) :: (38, 1, some oIshl) :: (39, 1, some oIor) :: (40, 1, some (oIs 2)) :: (41, 3, some (oInc 3 1)) :: (44, 3, some (oGoto 4)) ::
  (47, 1, some (oIl 2)) :: (48, 1, some oIret) :: []
set_option maxRecDepth 100000 in
set_option maxHeartbeats 4000000 in
theorem okX0_partners : CodeOk mX0_partners cdX0_partners := by
  refine ⟨by rfl, ?_⟩
  show CodeAll mX0_partners cdX0_partners
  refine ce_op (okIc1 (n := 0) (by decide +kernel) (by decide)) ?_
  refine ce_op (okIs1 (k := 2) (by decide +kernel) rfl (by decide)) ?_
  refine ce_op (okIc1 (n := 0) (by decide +kernel) (by decide)) ?_
  refine ce_op (okIs1 (k := 3) (by decide +kernel) rfl (by decide)) ?_
  refine ce_st ?_
  refine ce_op (okIl1 (k := 3) (by decide +kernel) rfl) ?_
  refine ce_op (okAl1 (k := 0) (by decide +kernel) rfl) ?_
  refine ce_op (okGetR clX0 (k := 2) (x := 21) (by decide +kernel) (by decide) rfl wd347 rfl (by decide +kernel)) ?_
  refine ce_op (okGetI clX2 (k := 1) (x := 60) (by decide +kernel) (by decide) rfl wd271 (Or.inl rfl)) ?_
  refine ce_op (okCmGe (off := 35) (by decide +kernel) (by decide)) ?_
  refine ce_op (okIl1 (k := 3) (by decide +kernel) rfl) ?_
  refine ce_op (okIl1 (k := 1) (by decide +kernel) rfl) ?_
  refine ce_op (okCmEq (off := 24) (by decide +kernel) (by decide)) ?_
  refine ce_op (okAl1 (k := 0) (by decide +kernel) rfl) ?_
  refine ce_op (okGetR clX0 (k := 11) (x := 54) (by decide +kernel) (by decide) rfl wd370 rfl (by decide +kernel)) ?_
  refine ce_op (okIl1 (k := 3) (by decide +kernel) rfl) ?_
  refine ce_op (okIald (by decide +kernel)) ?_
  refine ce_op (okAl1 (k := 0) (by decide +kernel) rfl) ?_
  refine ce_op (okGetR clX0 (k := 11) (x := 54) (by decide +kernel) (by decide) rfl wd370 rfl (by decide +kernel)) ?_
  refine ce_op (okIl1 (k := 1) (by decide +kernel) rfl) ?_
  refine ce_op (okIald (by decide +kernel)) ?_
  refine ce_op (okCmNe (off := 9) (by decide +kernel) (by decide)) ?_
  refine ce_op (okIl1 (k := 2) (by decide +kernel) rfl) ?_
  refine ce_op (okIc1 (n := 1) (by decide +kernel) (by decide)) ?_
  refine ce_op (okIl1 (k := 3) (by decide +kernel) rfl) ?_
  refine ce_op (okIshl (by decide +kernel)) ?_
  refine ce_op (okIor (by decide +kernel)) ?_
  refine ce_op (okIs1 (k := 2) (by decide +kernel) rfl (by decide)) ?_
  refine ce_op (okInc (n := 1) (by decide +kernel) (by decide)) ?_
  refine ce_op (okGoto (off := (-40)) (by decide +kernel) (by decide)) ?_
  refine ce_op (okIl1 (k := 2) (by decide +kernel) rfl) ?_
  refine ce_op (okIret (by decide +kernel) rfl) ?_
  exact ce_nil
set_option maxRecDepth 100000 in
def cdX0_firmsIn : List CE := (0, 1, some (oIc 0)) :: (1, 1, some (oIs 2)) :: (2, 1, some (oIc 0)) :: (3, 1, some (oIs 3)) :: (4, 0, none) :: (4, 1, some (oIl 3)) ::
  (5, 1, some (oAl 0)) :: (6, 3, some (oGetR [(336, 418), (720, 802)])) :: (9, 3, some (oGetI 2 1)) :: (12, 3, some (oCmGe 41)) :: (15, 1, some (oIl 2)) :: (16, 1, some (oAl 0)) ::
  (17, 3, some (oGetR [(336, 49752), (720, 50136)])) :: (20, 1, some (oIl 3)) :: (21, 1, some oIald) :: (22, 1, some (oIl 1)) :: (23, 3, some (oCmNe 32)) :: (26, 1, some (oIc 1)) ::
  (27, 1, some (oIl 3)) :: (28, 1, some oIshl) :: (29, 3, some (oGoto 33)) :: (32, 1, some (oIc 0)) :: (33, 1, some oIor) :: (34, 1, some (oIs 2)) ::
  (35, 3, some (oInc 3 1)) :: (38, 3, some (oGoto 4)) :: (41, 1, some (oIl 2)) :: (42, 1, some oIret) :: []
set_option maxRecDepth 100000 in
set_option maxHeartbeats 4000000 in
theorem okX0_firmsIn : CodeOk mX0_firmsIn cdX0_firmsIn := by
  refine ⟨by rfl, ?_⟩
  show CodeAll mX0_firmsIn cdX0_firmsIn
  refine ce_op (okIc1 (n := 0) (by decide +kernel) (by decide)) ?_
  refine ce_op (okIs1 (k := 2) (by decide +kernel) rfl (by decide)) ?_
  refine ce_op (okIc1 (n := 0) (by decide +kernel) (by decide)) ?_
  refine ce_op (okIs1 (k := 3) (by decide +kernel) rfl (by decide)) ?_
  refine ce_st ?_
  refine ce_op (okIl1 (k := 3) (by decide +kernel) rfl) ?_
  refine ce_op (okAl1 (k := 0) (by decide +kernel) rfl) ?_
  refine ce_op (okGetR clX0 (k := 2) (x := 21) (by decide +kernel) (by decide) rfl wd347 rfl (by decide +kernel)) ?_
  refine ce_op (okGetI clX2 (k := 1) (x := 60) (by decide +kernel) (by decide) rfl wd271 (Or.inl rfl)) ?_
  refine ce_op (okCmGe (off := 29) (by decide +kernel) (by decide)) ?_
  refine ce_op (okIl1 (k := 2) (by decide +kernel) rfl) ?_
  refine ce_op (okAl1 (k := 0) (by decide +kernel) rfl) ?_
  refine ce_op (okGetR clX0 (k := 5) (x := 35) (by decide +kernel) (by decide) rfl wd355 rfl (by decide +kernel)) ?_
  refine ce_op (okIl1 (k := 3) (by decide +kernel) rfl) ?_
  refine ce_op (okIald (by decide +kernel)) ?_
  refine ce_op (okIl1 (k := 1) (by decide +kernel) rfl) ?_
  refine ce_op (okCmNe (off := 9) (by decide +kernel) (by decide)) ?_
  refine ce_op (okIc1 (n := 1) (by decide +kernel) (by decide)) ?_
  refine ce_op (okIl1 (k := 3) (by decide +kernel) rfl) ?_
  refine ce_op (okIshl (by decide +kernel)) ?_
  refine ce_op (okGoto (off := 4) (by decide +kernel) (by decide)) ?_
  refine ce_op (okIc1 (n := 0) (by decide +kernel) (by decide)) ?_
  refine ce_op (okIor (by decide +kernel)) ?_
  refine ce_op (okIs1 (k := 2) (by decide +kernel) rfl (by decide)) ?_
  refine ce_op (okInc (n := 1) (by decide +kernel) (by decide)) ?_
  refine ce_op (okGoto (off := (-34)) (by decide +kernel) (by decide)) ?_
  refine ce_op (okIl1 (k := 2) (by decide +kernel) rfl) ?_
  refine ce_op (okIret (by decide +kernel) rfl) ?_
  exact ce_nil
set_option maxRecDepth 100000 in
def cdX0_taxEach : List CE := (0, 1, some (oAl 0)) :: (1, 3, some (oGetR [(336, 49752), (720, 50136)])) :: (4, 1, some (oAl 0)) :: (5, 3, some (oGetR [(336, 452), (720, 836)])) :: (8, 3, some (oGetR [(452, 164312), (836, 164696)])) :: (11, 1, some (oIl 1)) ::
  (12, 1, some oIald) :: (13, 1, some oIald) :: (14, 1, some (oIs 3)) :: (15, 1, some (oIl 3)) :: (16, 1, some (oAl 0)) :: (17, 3, some (oGetR [(336, 49752), (720, 50136)])) ::
  (20, 1, some (oAl 0)) :: (21, 3, some (oGetR [(336, 452), (720, 836)])) :: (24, 3, some (oGetR [(452, 164328), (836, 164712)])) :: (27, 1, some (oIl 1)) :: (28, 1, some oIald) :: (29, 1, some oIald) ::
  (30, 3, some (oCmNe 41)) :: (33, 1, some (oIl 2)) :: (34, 1, some (oIl 3)) :: (35, 1, some oIshr) :: (36, 1, some (oIc 1)) :: (37, 1, some oIand) ::
  (38, 3, some (oIfEq 43)) :: (41, 1, some (oIc 0)) :: (42, 1, some oIret) :: (43, 1, some (oAl 0)) :: (44, 3, some (oGetR [(336, 452), (720, 836)])) :: (47, 3, some (oGetR [(452, 164376), (836, 164760)])) ::
  (50, 1, some (oIl 1)) :: (51, 1, some oIald) :: (52, 1, some (oAl 0)) :: (53, 3, some (oGetR [(336, 21064), (720, 21448)])) :: (56, 1, some (oIl 3)) :: (57, 1, some oIald) ::
  (58, 1, some oImul) :: (59, 1, some oIret) :: []
set_option maxRecDepth 100000 in
set_option maxHeartbeats 4000000 in
theorem okX0_taxEach : CodeOk mX0_taxEach cdX0_taxEach := by
  refine ⟨by rfl, ?_⟩
  show CodeAll mX0_taxEach cdX0_taxEach
  refine ce_op (okAl1 (k := 0) (by decide +kernel) rfl) ?_
  refine ce_op (okGetR clX0 (k := 5) (x := 35) (by decide +kernel) (by decide) rfl wd355 rfl (by decide +kernel)) ?_
  refine ce_op (okAl1 (k := 0) (by decide +kernel) rfl) ?_
  refine ce_op (okGetR clX0 (k := 3) (x := 27) (by decide +kernel) (by decide) rfl wd350 rfl (by decide +kernel)) ?_
  refine ce_op (okGetR clX4 (k := 0) (x := 89) (by decide +kernel) (by decide) rfl wd289 rfl (by decide +kernel)) ?_
  refine ce_op (okIl1 (k := 1) (by decide +kernel) rfl) ?_
  refine ce_op (okIald (by decide +kernel)) ?_
  refine ce_op (okIald (by decide +kernel)) ?_
  refine ce_op (okIs1 (k := 3) (by decide +kernel) rfl (by decide)) ?_
  refine ce_op (okIl1 (k := 3) (by decide +kernel) rfl) ?_
  refine ce_op (okAl1 (k := 0) (by decide +kernel) rfl) ?_
  refine ce_op (okGetR clX0 (k := 5) (x := 35) (by decide +kernel) (by decide) rfl wd355 rfl (by decide +kernel)) ?_
  refine ce_op (okAl1 (k := 0) (by decide +kernel) rfl) ?_
  refine ce_op (okGetR clX0 (k := 3) (x := 27) (by decide +kernel) (by decide) rfl wd350 rfl (by decide +kernel)) ?_
  refine ce_op (okGetR clX4 (k := 1) (x := 92) (by decide +kernel) (by decide) rfl wd294 rfl (by decide +kernel)) ?_
  refine ce_op (okIl1 (k := 1) (by decide +kernel) rfl) ?_
  refine ce_op (okIald (by decide +kernel)) ?_
  refine ce_op (okIald (by decide +kernel)) ?_
  refine ce_op (okCmNe (off := 11) (by decide +kernel) (by decide)) ?_
  refine ce_op (okIl1 (k := 2) (by decide +kernel) rfl) ?_
  refine ce_op (okIl1 (k := 3) (by decide +kernel) rfl) ?_
  refine ce_op (okIshr (by decide +kernel)) ?_
  refine ce_op (okIc1 (n := 1) (by decide +kernel) (by decide)) ?_
  refine ce_op (okIand (by decide +kernel)) ?_
  refine ce_op (okIfEq (off := 5) (by decide +kernel) (by decide)) ?_
  refine ce_op (okIc1 (n := 0) (by decide +kernel) (by decide)) ?_
  refine ce_op (okIret (by decide +kernel) rfl) ?_
  refine ce_op (okAl1 (k := 0) (by decide +kernel) rfl) ?_
  refine ce_op (okGetR clX0 (k := 3) (x := 27) (by decide +kernel) (by decide) rfl wd350 rfl (by decide +kernel)) ?_
  refine ce_op (okGetR clX4 (k := 4) (x := 95) (by decide +kernel) (by decide) rfl wd305 rfl (by decide +kernel)) ?_
  refine ce_op (okIl1 (k := 1) (by decide +kernel) rfl) ?_
  refine ce_op (okIald (by decide +kernel)) ?_
  refine ce_op (okAl1 (k := 0) (by decide +kernel) rfl) ?_
  refine ce_op (okGetR clX0 (k := 4) (x := 31) (by decide +kernel) (by decide) rfl wd353 rfl (by decide +kernel)) ?_
  refine ce_op (okIl1 (k := 3) (by decide +kernel) rfl) ?_
  refine ce_op (okIald (by decide +kernel)) ?_
  refine ce_op (okImul (by decide +kernel)) ?_
  refine ce_op (okIret (by decide +kernel) rfl) ?_
  exact ce_nil
set_option maxRecDepth 100000 in
def cdX0_taxOf : List CE := (0, 1, some (oAl 0)) :: (1, 3, some (oGetR [(336, 452), (720, 836)])) :: (4, 3, some (oGetR [(452, 164344), (836, 164728)])) :: (7, 1, some (oIl 1)) :: (8, 1, some oIald) :: (9, 1, some (oAl 0)) ::
  (10, 1, some (oIl 1)) :: (11, 1, some (oIl 2)) :: (12, 3, some (oCI 0 mX0_taxEach 3)) :: (15, 1, some oImul) :: (16, 1, some oIret) :: []
set_option maxRecDepth 100000 in
set_option maxHeartbeats 4000000 in
theorem okX0_taxOf : CodeOk mX0_taxOf cdX0_taxOf := by
  refine ⟨by rfl, ?_⟩
  show CodeAll mX0_taxOf cdX0_taxOf
  refine ce_op (okAl1 (k := 0) (by decide +kernel) rfl) ?_
  refine ce_op (okGetR clX0 (k := 3) (x := 27) (by decide +kernel) (by decide) rfl wd350 rfl (by decide +kernel)) ?_
  refine ce_op (okGetR clX4 (k := 2) (x := 98) (by decide +kernel) (by decide) rfl wd298 rfl (by decide +kernel)) ?_
  refine ce_op (okIl1 (k := 1) (by decide +kernel) rfl) ?_
  refine ce_op (okIald (by decide +kernel)) ?_
  refine ce_op (okAl1 (k := 0) (by decide +kernel) rfl) ?_
  refine ce_op (okIl1 (k := 1) (by decide +kernel) rfl) ?_
  refine ce_op (okIl1 (k := 2) (by decide +kernel) rfl) ?_
  refine ce_op (okCI miX0_taxEach (rV clX0 (x := 101) miX0_taxEach rfl (by decide +kernel) wd616 wd618 wd19)) ?_
  refine ce_op (okImul (by decide +kernel)) ?_
  refine ce_op (okIret (by decide +kernel) rfl) ?_
  exact ce_nil
set_option maxRecDepth 100000 in
def cdX0_tally : List CE := (0, 1, some (oIc 0)) :: (1, 1, some (oIs 2)) :: (2, 0, none) :: (2, 1, some (oIl 2)) :: (3, 1, some (oAl 0)) :: (4, 3, some (oGetR [(336, 418), (720, 802)])) ::
  (7, 3, some (oGetI 2 1)) :: (10, 3, some (oCmGe 26)) :: (13, 1, some (oAl 0)) :: (14, 3, some (oGetR [(336, 49864), (720, 50248)])) :: (17, 1, some (oIl 2)) :: (18, 1, some (oIc 0)) ::
  (19, 1, some oIast) :: (20, 3, some (oInc 2 1)) :: (23, 3, some (oGoto 2)) :: (26, 1, some (oIc 0)) :: (27, 1, some (oIs 2)) :: (28, 0, none) ::
  (28, 1, some (oIl 2)) :: (29, 1, some (oAl 0)) :: (30, 3, some (oGetR [(336, 452), (720, 836)])) :: (33, 3, some (oGetI 4 7)) :: (36, 3, some (oCmGe 88)) :: (39, 1, some (oAl 0)) ::
  (40, 1, some (oIl 2)) :: (41, 1, some (oIl 1)) :: (42, 3, some (oCI 0 mX0_taxOf 3)) :: (45, 1, some (oIs 3)) :: (46, 1, some (oAl 0)) :: (47, 3, some (oGetR [(336, 49864), (720, 50248)])) ::
  (50, 1, some (oAl 0)) :: (51, 3, some (oGetR [(336, 452), (720, 836)])) :: (54, 3, some (oGetR [(452, 164312), (836, 164696)])) :: (57, 1, some (oIl 2)) :: (58, 1, some oIald) :: (59, 1, some oDup2) ::
  (60, 1, some oIald) :: (61, 1, some (oIl 3)) :: (62, 1, some oIadd) :: (63, 1, some oIast) :: (64, 1, some (oAl 0)) :: (65, 3, some (oGetR [(336, 49864), (720, 50248)])) ::
  (68, 1, some (oAl 0)) :: (69, 3, some (oGetR [(336, 452), (720, 836)])) :: (72, 3, some (oGetR [(452, 164328), (836, 164712)])) :: (75, 1, some (oIl 2)) :: (76, 1, some oIald) :: (77, 1, some oDup2) ::
  (78, 1, some oIald) :: (79, 1, some (oIl 3)) :: (80, 1, some oIsub) :: (81, 1, some oIast) :: (82, 3, some (oInc 2 1)) :: (85, 3, some (oGoto 28)) ::
  (88, 1, some oVret) :: []
set_option maxRecDepth 100000 in
set_option maxHeartbeats 4000000 in
theorem okX0_tally : CodeOk mX0_tally cdX0_tally := by
  refine ⟨by rfl, ?_⟩
  show CodeAll mX0_tally cdX0_tally
  refine ce_op (okIc1 (n := 0) (by decide +kernel) (by decide)) ?_
  refine ce_op (okIs1 (k := 2) (by decide +kernel) rfl (by decide)) ?_
  refine ce_st ?_
  refine ce_op (okIl1 (k := 2) (by decide +kernel) rfl) ?_
  refine ce_op (okAl1 (k := 0) (by decide +kernel) rfl) ?_
  refine ce_op (okGetR clX0 (k := 2) (x := 21) (by decide +kernel) (by decide) rfl wd347 rfl (by decide +kernel)) ?_
  refine ce_op (okGetI clX2 (k := 1) (x := 60) (by decide +kernel) (by decide) rfl wd271 (Or.inl rfl)) ?_
  refine ce_op (okCmGe (off := 16) (by decide +kernel) (by decide)) ?_
  refine ce_op (okAl1 (k := 0) (by decide +kernel) rfl) ?_
  refine ce_op (okGetR clX0 (k := 12) (x := 57) (by decide +kernel) (by decide) rfl wd372 rfl (by decide +kernel)) ?_
  refine ce_op (okIl1 (k := 2) (by decide +kernel) rfl) ?_
  refine ce_op (okIc1 (n := 0) (by decide +kernel) (by decide)) ?_
  refine ce_op (okIast (by decide +kernel)) ?_
  refine ce_op (okInc (n := 1) (by decide +kernel) (by decide)) ?_
  refine ce_op (okGoto (off := (-21)) (by decide +kernel) (by decide)) ?_
  refine ce_op (okIc1 (n := 0) (by decide +kernel) (by decide)) ?_
  refine ce_op (okIs1 (k := 2) (by decide +kernel) rfl (by decide)) ?_
  refine ce_st ?_
  refine ce_op (okIl1 (k := 2) (by decide +kernel) rfl) ?_
  refine ce_op (okAl1 (k := 0) (by decide +kernel) rfl) ?_
  refine ce_op (okGetR clX0 (k := 3) (x := 27) (by decide +kernel) (by decide) rfl wd350 rfl (by decide +kernel)) ?_
  refine ce_op (okGetI clX4 (k := 7) (x := 64) (by decide +kernel) (by decide) rfl wd314 (Or.inl rfl)) ?_
  refine ce_op (okCmGe (off := 52) (by decide +kernel) (by decide)) ?_
  refine ce_op (okAl1 (k := 0) (by decide +kernel) rfl) ?_
  refine ce_op (okIl1 (k := 2) (by decide +kernel) rfl) ?_
  refine ce_op (okIl1 (k := 1) (by decide +kernel) rfl) ?_
  refine ce_op (okCI miX0_taxOf (rV clX0 (x := 104) miX0_taxOf rfl (by decide +kernel) wd612 wd613 wd614)) ?_
  refine ce_op (okIs1 (k := 3) (by decide +kernel) rfl (by decide)) ?_
  refine ce_op (okAl1 (k := 0) (by decide +kernel) rfl) ?_
  refine ce_op (okGetR clX0 (k := 12) (x := 57) (by decide +kernel) (by decide) rfl wd372 rfl (by decide +kernel)) ?_
  refine ce_op (okAl1 (k := 0) (by decide +kernel) rfl) ?_
  refine ce_op (okGetR clX0 (k := 3) (x := 27) (by decide +kernel) (by decide) rfl wd350 rfl (by decide +kernel)) ?_
  refine ce_op (okGetR clX4 (k := 0) (x := 89) (by decide +kernel) (by decide) rfl wd289 rfl (by decide +kernel)) ?_
  refine ce_op (okIl1 (k := 2) (by decide +kernel) rfl) ?_
  refine ce_op (okIald (by decide +kernel)) ?_
  refine ce_op (okDup2 (by decide +kernel)) ?_
  refine ce_op (okIald (by decide +kernel)) ?_
  refine ce_op (okIl1 (k := 3) (by decide +kernel) rfl) ?_
  refine ce_op (okIadd (by decide +kernel)) ?_
  refine ce_op (okIast (by decide +kernel)) ?_
  refine ce_op (okAl1 (k := 0) (by decide +kernel) rfl) ?_
  refine ce_op (okGetR clX0 (k := 12) (x := 57) (by decide +kernel) (by decide) rfl wd372 rfl (by decide +kernel)) ?_
  refine ce_op (okAl1 (k := 0) (by decide +kernel) rfl) ?_
  refine ce_op (okGetR clX0 (k := 3) (x := 27) (by decide +kernel) (by decide) rfl wd350 rfl (by decide +kernel)) ?_
  refine ce_op (okGetR clX4 (k := 1) (x := 92) (by decide +kernel) (by decide) rfl wd294 rfl (by decide +kernel)) ?_
  refine ce_op (okIl1 (k := 2) (by decide +kernel) rfl) ?_
  refine ce_op (okIald (by decide +kernel)) ?_
  refine ce_op (okDup2 (by decide +kernel)) ?_
  refine ce_op (okIald (by decide +kernel)) ?_
  refine ce_op (okIl1 (k := 3) (by decide +kernel) rfl) ?_
  refine ce_op (okIsub (by decide +kernel)) ?_
  refine ce_op (okIast (by decide +kernel)) ?_
  refine ce_op (okInc (n := 1) (by decide +kernel) (by decide)) ?_
  refine ce_op (okGoto (off := (-57)) (by decide +kernel) (by decide)) ?_
  refine ce_op (okVret (by decide +kernel) rfl) ?_
  exact ce_nil
set_option maxRecDepth 100000 in
def cdX0_owed : List CE := (0, 1, some (oAl 0)) :: (1, 1, some (oIl 2)) :: (2, 3, some (oCV 0 mX0_tally 2)) :: (5, 1, some (oAl 0)) :: (6, 3, some (oGetR [(336, 49864), (720, 50248)])) :: (9, 1, some (oIl 1)) ::
  (10, 1, some oIald) :: (11, 1, some oIret) :: []
set_option maxRecDepth 100000 in
set_option maxHeartbeats 4000000 in
theorem okX0_owed : CodeOk mX0_owed cdX0_owed := by
  refine ⟨by rfl, ?_⟩
  show CodeAll mX0_owed cdX0_owed
  refine ce_op (okAl1 (k := 0) (by decide +kernel) rfl) ?_
  refine ce_op (okIl1 (k := 2) (by decide +kernel) rfl) ?_
  refine ce_op (okCV miX0_tally (rV clX0 (x := 107) miX0_tally rfl (by decide +kernel) wd608 wd610 wd18)) ?_
  refine ce_op (okAl1 (k := 0) (by decide +kernel) rfl) ?_
  refine ce_op (okGetR clX0 (k := 12) (x := 57) (by decide +kernel) (by decide) rfl wd372 rfl (by decide +kernel)) ?_
  refine ce_op (okIl1 (k := 1) (by decide +kernel) rfl) ?_
  refine ce_op (okIald (by decide +kernel)) ?_
  refine ce_op (okIret (by decide +kernel) rfl) ?_
  exact ce_nil
set_option maxRecDepth 100000 in
def cdX0_missing : List CE := (0, 1, some (oAl 0)) :: (1, 1, some (oIl 1)) :: (2, 3, some (oCV 0 mX0_tally 2)) :: (5, 1, some (oIc 0)) :: (6, 1, some (oIs 2)) :: (7, 1, some (oIc 0)) ::
  (8, 1, some (oIs 3)) :: (9, 0, none) :: (9, 1, some (oIl 3)) :: (10, 1, some (oAl 0)) :: (11, 3, some (oGetR [(336, 418), (720, 802)])) :: (14, 3, some (oGetI 2 1)) ::
  (17, 3, some (oCmGe 54)) :: (20, 1, some (oIl 2)) :: (21, 1, some (oAl 0)) :: (22, 3, some (oGetR [(336, 49864), (720, 50248)])) :: (25, 1, some (oIl 3)) :: (26, 1, some oIald) ::
  (27, 2, some (oIc 100)) :: (29, 1, some (oAl 0)) :: (30, 3, some (oGetR [(336, 49816), (720, 50200)])) :: (33, 1, some (oIl 3)) :: (34, 1, some oIald) :: (35, 1, some oImul) ::
  (36, 3, some (oCmLe 45)) :: (39, 1, some (oIc 1)) :: (40, 1, some (oIl 3)) :: (41, 1, some oIshl) :: (42, 3, some (oGoto 46)) :: (45, 1, some (oIc 0)) ::
  (46, 1, some oIor) :: (47, 1, some (oIs 2)) :: (48, 3, some (oInc 3 1)) :: (51, 3, some (oGoto 9)) :: (54, 1, some (oIl 2)) :: (55, 1, some oIret) :: []
set_option maxRecDepth 100000 in
set_option maxHeartbeats 4000000 in
theorem okX0_missing : CodeOk mX0_missing cdX0_missing := by
  refine ⟨by rfl, ?_⟩
  show CodeAll mX0_missing cdX0_missing
  refine ce_op (okAl1 (k := 0) (by decide +kernel) rfl) ?_
  refine ce_op (okIl1 (k := 1) (by decide +kernel) rfl) ?_
  refine ce_op (okCV miX0_tally (rV clX0 (x := 107) miX0_tally rfl (by decide +kernel) wd608 wd610 wd18)) ?_
  refine ce_op (okIc1 (n := 0) (by decide +kernel) (by decide)) ?_
  refine ce_op (okIs1 (k := 2) (by decide +kernel) rfl (by decide)) ?_
  refine ce_op (okIc1 (n := 0) (by decide +kernel) (by decide)) ?_
  refine ce_op (okIs1 (k := 3) (by decide +kernel) rfl (by decide)) ?_
  refine ce_st ?_
  refine ce_op (okIl1 (k := 3) (by decide +kernel) rfl) ?_
  refine ce_op (okAl1 (k := 0) (by decide +kernel) rfl) ?_
  refine ce_op (okGetR clX0 (k := 2) (x := 21) (by decide +kernel) (by decide) rfl wd347 rfl (by decide +kernel)) ?_
  refine ce_op (okGetI clX2 (k := 1) (x := 60) (by decide +kernel) (by decide) rfl wd271 (Or.inl rfl)) ?_
  refine ce_op (okCmGe (off := 37) (by decide +kernel) (by decide)) ?_
  refine ce_op (okIl1 (k := 2) (by decide +kernel) rfl) ?_
  refine ce_op (okAl1 (k := 0) (by decide +kernel) rfl) ?_
  refine ce_op (okGetR clX0 (k := 12) (x := 57) (by decide +kernel) (by decide) rfl wd372 rfl (by decide +kernel)) ?_
  refine ce_op (okIl1 (k := 3) (by decide +kernel) rfl) ?_
  refine ce_op (okIald (by decide +kernel)) ?_
  refine ce_op (okIc2 (n := 100) (by decide +kernel) (by decide)) ?_
  refine ce_op (okAl1 (k := 0) (by decide +kernel) rfl) ?_
  refine ce_op (okGetR clX0 (k := 9) (x := 47) (by decide +kernel) (by decide) rfl wd365 rfl (by decide +kernel)) ?_
  refine ce_op (okIl1 (k := 3) (by decide +kernel) rfl) ?_
  refine ce_op (okIald (by decide +kernel)) ?_
  refine ce_op (okImul (by decide +kernel)) ?_
  refine ce_op (okCmLe (off := 9) (by decide +kernel) (by decide)) ?_
  refine ce_op (okIc1 (n := 1) (by decide +kernel) (by decide)) ?_
  refine ce_op (okIl1 (k := 3) (by decide +kernel) rfl) ?_
  refine ce_op (okIshl (by decide +kernel)) ?_
  refine ce_op (okGoto (off := 4) (by decide +kernel) (by decide)) ?_
  refine ce_op (okIc1 (n := 0) (by decide +kernel) (by decide)) ?_
  refine ce_op (okIor (by decide +kernel)) ?_
  refine ce_op (okIs1 (k := 2) (by decide +kernel) rfl (by decide)) ?_
  refine ce_op (okInc (n := 1) (by decide +kernel) (by decide)) ?_
  refine ce_op (okGoto (off := (-42)) (by decide +kernel) (by decide)) ?_
  refine ce_op (okIl1 (k := 2) (by decide +kernel) rfl) ?_
  refine ce_op (okIret (by decide +kernel) rfl) ?_
  exact ce_nil
set_option maxRecDepth 100000 in
def cdX0_honestSales : List CE := (0, 1, some (oAl 0)) :: (1, 1, some (oIl 1)) :: (2, 3, some (oCI 0 mX0_firmsIn 2)) :: (5, 1, some (oIl 2)) :: (6, 1, some (oIc (-1))) :: (7, 1, some oIxor) ::
  (8, 1, some oIand) :: (9, 1, some (oIs 3)) :: (10, 1, some (oIc 0)) :: (11, 2, some (oIs 4)) :: (13, 1, some (oIc 0)) :: (14, 2, some (oIs 5)) ::
  (16, 0, none) :: (16, 2, some (oIl 5)) :: (18, 1, some (oAl 0)) :: (19, 3, some (oGetR [(336, 452), (720, 836)])) :: (22, 3, some (oGetI 4 7)) :: (25, 3, some (oCmGe 66)) ::
  (28, 2, some (oIl 4)) :: (30, 1, some (oIl 3)) :: (31, 1, some (oAl 0)) :: (32, 3, some (oGetR [(336, 452), (720, 836)])) :: (35, 3, some (oGetR [(452, 164312), (836, 164696)])) :: (38, 2, some (oIl 5)) ::
  (40, 1, some oIald) :: (41, 1, some oIshr) :: (42, 1, some (oIl 3)) :: (43, 1, some (oAl 0)) :: (44, 3, some (oGetR [(336, 452), (720, 836)])) :: (47, 3, some (oGetR [(452, 164328), (836, 164712)])) ::
  (50, 2, some (oIl 5)) :: (52, 1, some oIald) :: (53, 1, some oIshr) :: (54, 1, some oIand) :: (55, 1, some (oIc 1)) :: (56, 1, some oIand) ::
  (57, 1, some oIadd) :: (58, 2, some (oIs 4)) :: (60, 3, some (oInc 5 1)) :: (63, 3, some (oGoto 16)) :: (66, 2, some (oIl 4)) :: (68, 1, some oIret) :: []
set_option maxRecDepth 100000 in
set_option maxHeartbeats 4000000 in
theorem okX0_honestSales : CodeOk mX0_honestSales cdX0_honestSales := by
  refine ⟨by rfl, ?_⟩
  show CodeAll mX0_honestSales cdX0_honestSales
  refine ce_op (okAl1 (k := 0) (by decide +kernel) rfl) ?_
  refine ce_op (okIl1 (k := 1) (by decide +kernel) rfl) ?_
  refine ce_op (okCI miX0_firmsIn (rV clX0 (x := 111) miX0_firmsIn rfl (by decide +kernel) wd872 wd873 wd874)) ?_
  refine ce_op (okIl1 (k := 2) (by decide +kernel) rfl) ?_
  refine ce_op (okIc1 (n := (-1)) (by decide +kernel) (by decide)) ?_
  refine ce_op (okIxor (by decide +kernel)) ?_
  refine ce_op (okIand (by decide +kernel)) ?_
  refine ce_op (okIs1 (k := 3) (by decide +kernel) rfl (by decide)) ?_
  refine ce_op (okIc1 (n := 0) (by decide +kernel) (by decide)) ?_
  refine ce_op (okIs2 (by decide +kernel) (by decide)) ?_
  refine ce_op (okIc1 (n := 0) (by decide +kernel) (by decide)) ?_
  refine ce_op (okIs2 (by decide +kernel) (by decide)) ?_
  refine ce_st ?_
  refine ce_op (okIl2 (by decide +kernel)) ?_
  refine ce_op (okAl1 (k := 0) (by decide +kernel) rfl) ?_
  refine ce_op (okGetR clX0 (k := 3) (x := 27) (by decide +kernel) (by decide) rfl wd350 rfl (by decide +kernel)) ?_
  refine ce_op (okGetI clX4 (k := 7) (x := 64) (by decide +kernel) (by decide) rfl wd314 (Or.inl rfl)) ?_
  refine ce_op (okCmGe (off := 41) (by decide +kernel) (by decide)) ?_
  refine ce_op (okIl2 (by decide +kernel)) ?_
  refine ce_op (okIl1 (k := 3) (by decide +kernel) rfl) ?_
  refine ce_op (okAl1 (k := 0) (by decide +kernel) rfl) ?_
  refine ce_op (okGetR clX0 (k := 3) (x := 27) (by decide +kernel) (by decide) rfl wd350 rfl (by decide +kernel)) ?_
  refine ce_op (okGetR clX4 (k := 0) (x := 89) (by decide +kernel) (by decide) rfl wd289 rfl (by decide +kernel)) ?_
  refine ce_op (okIl2 (by decide +kernel)) ?_
  refine ce_op (okIald (by decide +kernel)) ?_
  refine ce_op (okIshr (by decide +kernel)) ?_
  refine ce_op (okIl1 (k := 3) (by decide +kernel) rfl) ?_
  refine ce_op (okAl1 (k := 0) (by decide +kernel) rfl) ?_
  refine ce_op (okGetR clX0 (k := 3) (x := 27) (by decide +kernel) (by decide) rfl wd350 rfl (by decide +kernel)) ?_
  refine ce_op (okGetR clX4 (k := 1) (x := 92) (by decide +kernel) (by decide) rfl wd294 rfl (by decide +kernel)) ?_
  refine ce_op (okIl2 (by decide +kernel)) ?_
  refine ce_op (okIald (by decide +kernel)) ?_
  refine ce_op (okIshr (by decide +kernel)) ?_
  refine ce_op (okIand (by decide +kernel)) ?_
  refine ce_op (okIc1 (n := 1) (by decide +kernel) (by decide)) ?_
  refine ce_op (okIand (by decide +kernel)) ?_
  refine ce_op (okIadd (by decide +kernel)) ?_
  refine ce_op (okIs2 (by decide +kernel) (by decide)) ?_
  refine ce_op (okInc (n := 1) (by decide +kernel) (by decide)) ?_
  refine ce_op (okGoto (off := (-47)) (by decide +kernel) (by decide)) ?_
  refine ce_op (okIl2 (by decide +kernel)) ?_
  refine ce_op (okIret (by decide +kernel) rfl) ?_
  exact ce_nil
set_option maxRecDepth 100000 in
def cdX0_firmsOf : List CE := (0, 1, some (oIc 0)) :: (1, 2, some (oIs 4)) :: (3, 1, some (oIc 0)) :: (4, 2, some (oIs 5)) :: (6, 0, none) :: (6, 2, some (oIl 5)) ::
  (8, 1, some (oIl 3)) :: (9, 3, some (oCmGe 39)) :: (12, 2, some (oIl 4)) :: (14, 1, some (oIc 1)) :: (15, 1, some (oAl 0)) :: (16, 3, some (oGetR [(336, 452), (720, 836)])) ::
  (19, 3, some (oGetR [(452, 164312), (836, 164696)])) :: (22, 1, some (oJl 1)) :: (23, 2, some (oIl 5)) :: (25, 3, some (oCI 16 mX6_saleAt 2)) :: (28, 1, some oIald) :: (29, 1, some oIshl) ::
  (30, 1, some oIor) :: (31, 2, some (oIs 4)) :: (33, 3, some (oInc 5 1)) :: (36, 3, some (oGoto 6)) :: (39, 2, some (oIl 4)) :: (41, 1, some oIret) :: []
set_option maxRecDepth 100000 in
set_option maxHeartbeats 4000000 in
theorem okX0_firmsOf : CodeOk mX0_firmsOf cdX0_firmsOf := by
  refine ⟨by rfl, ?_⟩
  show CodeAll mX0_firmsOf cdX0_firmsOf
  refine ce_op (okIc1 (n := 0) (by decide +kernel) (by decide)) ?_
  refine ce_op (okIs2 (by decide +kernel) (by decide)) ?_
  refine ce_op (okIc1 (n := 0) (by decide +kernel) (by decide)) ?_
  refine ce_op (okIs2 (by decide +kernel) (by decide)) ?_
  refine ce_st ?_
  refine ce_op (okIl2 (by decide +kernel)) ?_
  refine ce_op (okIl1 (k := 3) (by decide +kernel) rfl) ?_
  refine ce_op (okCmGe (off := 30) (by decide +kernel) (by decide)) ?_
  refine ce_op (okIl2 (by decide +kernel)) ?_
  refine ce_op (okIc1 (n := 1) (by decide +kernel) (by decide)) ?_
  refine ce_op (okAl1 (k := 0) (by decide +kernel) rfl) ?_
  refine ce_op (okGetR clX0 (k := 3) (x := 27) (by decide +kernel) (by decide) rfl wd350 rfl (by decide +kernel)) ?_
  refine ce_op (okGetR clX4 (k := 0) (x := 89) (by decide +kernel) (by decide) rfl wd289 rfl (by decide +kernel)) ?_
  refine ce_op (okJl1 (k := 1) (by decide +kernel) rfl) ?_
  refine ce_op (okIl2 (by decide +kernel)) ?_
  refine ce_op (okCI miX6_saleAt (rN (x := 114) (host := "SaleRounds") miX6_saleAt (by decide +kernel) (by decide +kernel) wd685)) ?_
  refine ce_op (okIald (by decide +kernel)) ?_
  refine ce_op (okIshl (by decide +kernel)) ?_
  refine ce_op (okIor (by decide +kernel)) ?_
  refine ce_op (okIs2 (by decide +kernel) (by decide)) ?_
  refine ce_op (okInc (n := 1) (by decide +kernel) (by decide)) ?_
  refine ce_op (okGoto (off := (-30)) (by decide +kernel) (by decide)) ?_
  refine ce_op (okIl2 (by decide +kernel)) ?_
  refine ce_op (okIret (by decide +kernel) rfl) ?_
  exact ce_nil
set_option maxRecDepth 100000 in
def cdX0_carriedBy : List CE := (0, 3, some (oIc 999)) :: (3, 2, some (oIs 4)) :: (5, 1, some (oIc 0)) :: (6, 2, some (oIs 5)) :: (8, 0, none) :: (8, 2, some (oIl 5)) ::
  (10, 1, some (oIl 3)) :: (11, 3, some (oCmGe 41)) :: (14, 2, some (oIl 4)) :: (16, 1, some (oAl 0)) :: (17, 3, some (oGetR [(336, 452), (720, 836)])) :: (20, 3, some (oGetR [(452, 164344), (836, 164728)])) ::
  (23, 1, some (oJl 1)) :: (24, 2, some (oIl 5)) :: (26, 3, some (oCI 16 mX6_saleAt 2)) :: (29, 1, some oIald) :: (30, 3, some oMin) :: (33, 2, some (oIs 4)) ::
  (35, 3, some (oInc 5 1)) :: (38, 3, some (oGoto 8)) :: (41, 2, some (oIl 4)) :: (43, 1, some oIret) :: []
set_option maxRecDepth 100000 in
set_option maxHeartbeats 4000000 in
theorem okX0_carriedBy : CodeOk mX0_carriedBy cdX0_carriedBy := by
  refine ⟨by rfl, ?_⟩
  show CodeAll mX0_carriedBy cdX0_carriedBy
  refine ce_op (okIc3 (n := 999) (by decide +kernel) (by decide)) ?_
  refine ce_op (okIs2 (by decide +kernel) (by decide)) ?_
  refine ce_op (okIc1 (n := 0) (by decide +kernel) (by decide)) ?_
  refine ce_op (okIs2 (by decide +kernel) (by decide)) ?_
  refine ce_st ?_
  refine ce_op (okIl2 (by decide +kernel)) ?_
  refine ce_op (okIl1 (k := 3) (by decide +kernel) rfl) ?_
  refine ce_op (okCmGe (off := 30) (by decide +kernel) (by decide)) ?_
  refine ce_op (okIl2 (by decide +kernel)) ?_
  refine ce_op (okAl1 (k := 0) (by decide +kernel) rfl) ?_
  refine ce_op (okGetR clX0 (k := 3) (x := 27) (by decide +kernel) (by decide) rfl wd350 rfl (by decide +kernel)) ?_
  refine ce_op (okGetR clX4 (k := 2) (x := 98) (by decide +kernel) (by decide) rfl wd298 rfl (by decide +kernel)) ?_
  refine ce_op (okJl1 (k := 1) (by decide +kernel) rfl) ?_
  refine ce_op (okIl2 (by decide +kernel)) ?_
  refine ce_op (okCI miX6_saleAt (rN (x := 114) (host := "SaleRounds") miX6_saleAt (by decide +kernel) (by decide +kernel) wd685)) ?_
  refine ce_op (okIald (by decide +kernel)) ?_
  refine ce_op (okMin (x := 86) (by decide +kernel) wd581 wd461 wd98 wd462) ?_
  refine ce_op (okIs2 (by decide +kernel) (by decide)) ?_
  refine ce_op (okInc (n := 1) (by decide +kernel) (by decide)) ?_
  refine ce_op (okGoto (off := (-30)) (by decide +kernel) (by decide)) ?_
  refine ce_op (okIl2 (by decide +kernel)) ?_
  refine ce_op (okIret (by decide +kernel) rfl) ?_
  exact ce_nil
set_option maxRecDepth 100000 in
def cdX0_takenBy : List CE := (0, 1, some (oIc 0)) :: (1, 2, some (oIs 6)) :: (3, 1, some (oJl 1)) :: (4, 1, some (oIl 3)) :: (5, 1, some (oIc 1)) :: (6, 1, some oIsub) ::
  (7, 3, some (oCI 16 mX6_saleAt 2)) :: (10, 2, some (oIs 7)) :: (12, 1, some (oIc 0)) :: (13, 2, some (oIs 8)) :: (15, 0, none) :: (15, 2, some (oIl 8)) ::
  (17, 1, some (oIl 3)) :: (18, 3, some (oCmGe 83)) :: (21, 1, some (oJl 1)) :: (22, 2, some (oIl 8)) :: (24, 3, some (oCI 16 mX6_saleAt 2)) :: (27, 2, some (oIs 9)) ::
  (29, 2, some (oIl 4)) :: (31, 1, some (oAl 0)) :: (32, 3, some (oGetR [(336, 452), (720, 836)])) :: (35, 3, some (oGetR [(452, 164312), (836, 164696)])) :: (38, 2, some (oIl 9)) :: (40, 1, some oIald) ::
  (41, 1, some oIshr) :: (42, 1, some (oIc 1)) :: (43, 1, some oIand) :: (44, 3, some (oIfEq 73)) :: (47, 2, some (oIl 6)) :: (49, 1, some (oIc 0)) ::
  (50, 1, some (oAl 0)) :: (51, 2, some (oIl 9)) :: (53, 2, some (oIl 5)) :: (55, 3, some (oCI 0 mX0_taxEach 3)) :: (58, 1, some (oAl 0)) :: (59, 2, some (oIl 7)) ::
  (61, 2, some (oIl 5)) :: (63, 3, some (oCI 0 mX0_taxEach 3)) :: (66, 1, some oIsub) :: (67, 3, some oMax) :: (70, 1, some oIadd) :: (71, 2, some (oIs 6)) ::
  (73, 2, some (oIl 9)) :: (75, 2, some (oIs 7)) :: (77, 3, some (oInc 8 1)) :: (80, 3, some (oGoto 15)) :: (83, 2, some (oIl 6)) :: (85, 1, some (oAl 0)) ::
  (86, 1, some (oJl 1)) :: (87, 1, some (oIl 3)) :: (88, 3, some (oCI 0 mX0_carriedBy 3)) :: (91, 1, some oImul) :: (92, 1, some oIret) :: []
set_option maxRecDepth 100000 in
set_option maxHeartbeats 4000000 in
theorem okX0_takenBy : CodeOk mX0_takenBy cdX0_takenBy := by
  refine ⟨by rfl, ?_⟩
  show CodeAll mX0_takenBy cdX0_takenBy
  refine ce_op (okIc1 (n := 0) (by decide +kernel) (by decide)) ?_
  refine ce_op (okIs2 (by decide +kernel) (by decide)) ?_
  refine ce_op (okJl1 (k := 1) (by decide +kernel) rfl) ?_
  refine ce_op (okIl1 (k := 3) (by decide +kernel) rfl) ?_
  refine ce_op (okIc1 (n := 1) (by decide +kernel) (by decide)) ?_
  refine ce_op (okIsub (by decide +kernel)) ?_
  refine ce_op (okCI miX6_saleAt (rN (x := 114) (host := "SaleRounds") miX6_saleAt (by decide +kernel) (by decide +kernel) wd685)) ?_
  refine ce_op (okIs2 (by decide +kernel) (by decide)) ?_
  refine ce_op (okIc1 (n := 0) (by decide +kernel) (by decide)) ?_
  refine ce_op (okIs2 (by decide +kernel) (by decide)) ?_
  refine ce_st ?_
  refine ce_op (okIl2 (by decide +kernel)) ?_
  refine ce_op (okIl1 (k := 3) (by decide +kernel) rfl) ?_
  refine ce_op (okCmGe (off := 65) (by decide +kernel) (by decide)) ?_
  refine ce_op (okJl1 (k := 1) (by decide +kernel) rfl) ?_
  refine ce_op (okIl2 (by decide +kernel)) ?_
  refine ce_op (okCI miX6_saleAt (rN (x := 114) (host := "SaleRounds") miX6_saleAt (by decide +kernel) (by decide +kernel) wd685)) ?_
  refine ce_op (okIs2 (by decide +kernel) (by decide)) ?_
  refine ce_op (okIl2 (by decide +kernel)) ?_
  refine ce_op (okAl1 (k := 0) (by decide +kernel) rfl) ?_
  refine ce_op (okGetR clX0 (k := 3) (x := 27) (by decide +kernel) (by decide) rfl wd350 rfl (by decide +kernel)) ?_
  refine ce_op (okGetR clX4 (k := 0) (x := 89) (by decide +kernel) (by decide) rfl wd289 rfl (by decide +kernel)) ?_
  refine ce_op (okIl2 (by decide +kernel)) ?_
  refine ce_op (okIald (by decide +kernel)) ?_
  refine ce_op (okIshr (by decide +kernel)) ?_
  refine ce_op (okIc1 (n := 1) (by decide +kernel) (by decide)) ?_
  refine ce_op (okIand (by decide +kernel)) ?_
  refine ce_op (okIfEq (off := 29) (by decide +kernel) (by decide)) ?_
  refine ce_op (okIl2 (by decide +kernel)) ?_
  refine ce_op (okIc1 (n := 0) (by decide +kernel) (by decide)) ?_
  refine ce_op (okAl1 (k := 0) (by decide +kernel) rfl) ?_
  refine ce_op (okIl2 (by decide +kernel)) ?_
  refine ce_op (okIl2 (by decide +kernel)) ?_
  refine ce_op (okCI miX0_taxEach (rV clX0 (x := 101) miX0_taxEach rfl (by decide +kernel) wd616 wd618 wd19)) ?_
  refine ce_op (okAl1 (k := 0) (by decide +kernel) rfl) ?_
  refine ce_op (okIl2 (by decide +kernel)) ?_
  refine ce_op (okIl2 (by decide +kernel)) ?_
  refine ce_op (okCI miX0_taxEach (rV clX0 (x := 101) miX0_taxEach rfl (by decide +kernel) wd616 wd618 wd19)) ?_
  refine ce_op (okIsub (by decide +kernel)) ?_
  refine ce_op (okMax (x := 72) (by decide +kernel) wd547 wd548 wd98 wd549) ?_
  refine ce_op (okIadd (by decide +kernel)) ?_
  refine ce_op (okIs2 (by decide +kernel) (by decide)) ?_
  refine ce_op (okIl2 (by decide +kernel)) ?_
  refine ce_op (okIs2 (by decide +kernel) (by decide)) ?_
  refine ce_op (okInc (n := 1) (by decide +kernel) (by decide)) ?_
  refine ce_op (okGoto (off := (-65)) (by decide +kernel) (by decide)) ?_
  refine ce_op (okIl2 (by decide +kernel)) ?_
  refine ce_op (okAl1 (k := 0) (by decide +kernel) rfl) ?_
  refine ce_op (okJl1 (k := 1) (by decide +kernel) rfl) ?_
  refine ce_op (okIl1 (k := 3) (by decide +kernel) rfl) ?_
  refine ce_op (okCI miX0_carriedBy (rV clX0 (x := 118) miX0_carriedBy rfl (by decide +kernel) wd692 wd681 wd682)) ?_
  refine ce_op (okImul (by decide +kernel)) ?_
  refine ce_op (okIret (by decide +kernel) rfl) ?_
  exact ce_nil
set_option maxRecDepth 100000 in
def cdX1_forget : List CE := (0, 1, some (oAl 0)) :: (1, 1, some (oIc 0)) :: (2, 3, some (oPutZ 1 13)) :: (5, 1, some oVret) :: []
set_option maxRecDepth 100000 in
set_option maxHeartbeats 4000000 in
theorem okX1_forget : CodeOk mX1_forget cdX1_forget := by
  refine ⟨by rfl, ?_⟩
  show CodeAll mX1_forget cdX1_forget
  refine ce_op (okAl1 (k := 0) (by decide +kernel) rfl) ?_
  refine ce_op (okIc1 (n := 0) (by decide +kernel) (by decide)) ?_
  refine ce_op (okPutZ clX1 (k := 13) (x := 53) (by decide +kernel) (by decide) rfl wd176 rfl rfl (by decide +kernel)) ?_
  refine ce_op (okVret (by decide +kernel) rfl) ?_
  exact ce_nil
set_option maxRecDepth 100000 in
def cdX1_find : List CE := (0, 1, some (oIl 2)) :: (1, 1, some (oAl 0)) :: (2, 3, some (oGetI 1 14)) :: (5, 3, some (oCmNe 38)) :: (8, 1, some (oIl 3)) :: (9, 1, some (oAl 0)) ::
  (10, 3, some (oGetI 1 10)) :: (13, 3, some (oCmNe 38)) :: (16, 2, some (oIl 4)) :: (18, 1, some (oAl 0)) :: (19, 3, some (oGetI 1 15)) :: (22, 3, some (oCmNe 38)) ::
  (25, 2, some (oIl 5)) :: (27, 1, some (oAl 0)) :: (28, 3, some (oGetI 1 16)) :: (31, 3, some (oCmNe 38)) :: (34, 1, some (oIc 1)) :: (35, 3, some (oGoto 39)) ::
  (38, 1, some (oIc 0)) :: (39, 2, some (oIs 6)) :: (41, 1, some (oAl 0)) :: (42, 3, some (oGetI 1 13)) :: (45, 3, some (oIfEq 73)) :: (48, 2, some (oIl 6)) ::
  (50, 3, some (oIfEq 73)) :: (53, 1, some (oAl 0)) :: (54, 3, some (oGetI 1 9)) :: (57, 3, some (oIc 200)) :: (60, 3, some (oCmLe 68)) :: (63, 2, some (oIc (-2))) ::
  (65, 3, some (oGoto 72)) :: (68, 1, some (oAl 0)) :: (69, 3, some (oGetI 1 9)) :: (72, 1, some oIret) :: (73, 1, some (oAl 0)) :: (74, 1, some (oAl 1)) ::
  (75, 1, some (oIl 2)) :: (76, 2, some (oIl 5)) :: (78, 3, some (oCV 1 mX1_load 4)) :: (81, 1, some (oAl 0)) :: (82, 1, some (oIl 2)) :: (83, 3, some (oPutI 1 14)) ::
  (86, 1, some (oAl 0)) :: (87, 2, some (oIl 4)) :: (89, 3, some (oPutI 1 15)) :: (92, 1, some (oAl 0)) :: (93, 2, some (oIl 5)) :: (95, 3, some (oPutI 1 16)) ::
  (98, 1, some (oAl 0)) :: (99, 1, some (oIc 1)) :: (100, 3, some (oPutZ 1 13)) :: (103, 1, some (oAl 0)) :: (104, 1, some (oIl 3)) :: (105, 2, some (oIl 4)) ::
  (107, 3, some (oCI 1 mX1_search 3)) :: (110, 1, some oIret) :: []
set_option maxRecDepth 100000 in
set_option maxHeartbeats 4000000 in
theorem okX1_find : CodeOk mX1_find cdX1_find := by
  refine ⟨by rfl, ?_⟩
  show CodeAll mX1_find cdX1_find
  refine ce_op (okIl1 (k := 2) (by decide +kernel) rfl) ?_
  refine ce_op (okAl1 (k := 0) (by decide +kernel) rfl) ?_
  refine ce_op (okGetI clX1 (k := 14) (x := 57) (by decide +kernel) (by decide) rfl wd177 (Or.inl rfl)) ?_
  refine ce_op (okCmNe (off := 33) (by decide +kernel) (by decide)) ?_
  refine ce_op (okIl1 (k := 3) (by decide +kernel) rfl) ?_
  refine ce_op (okAl1 (k := 0) (by decide +kernel) rfl) ?_
  refine ce_op (okGetI clX1 (k := 10) (x := 44) (by decide +kernel) (by decide) rfl wd173 (Or.inl rfl)) ?_
  refine ce_op (okCmNe (off := 25) (by decide +kernel) (by decide)) ?_
  refine ce_op (okIl2 (by decide +kernel)) ?_
  refine ce_op (okAl1 (k := 0) (by decide +kernel) rfl) ?_
  refine ce_op (okGetI clX1 (k := 15) (x := 60) (by decide +kernel) (by decide) rfl wd178 (Or.inl rfl)) ?_
  refine ce_op (okCmNe (off := 16) (by decide +kernel) (by decide)) ?_
  refine ce_op (okIl2 (by decide +kernel)) ?_
  refine ce_op (okAl1 (k := 0) (by decide +kernel) rfl) ?_
  refine ce_op (okGetI clX1 (k := 16) (x := 63) (by decide +kernel) (by decide) rfl wd179 (Or.inl rfl)) ?_
  refine ce_op (okCmNe (off := 7) (by decide +kernel) (by decide)) ?_
  refine ce_op (okIc1 (n := 1) (by decide +kernel) (by decide)) ?_
  refine ce_op (okGoto (off := 4) (by decide +kernel) (by decide)) ?_
  refine ce_op (okIc1 (n := 0) (by decide +kernel) (by decide)) ?_
  refine ce_op (okIs2 (by decide +kernel) (by decide)) ?_
  refine ce_op (okAl1 (k := 0) (by decide +kernel) rfl) ?_
  refine ce_op (okGetI clX1 (k := 13) (x := 53) (by decide +kernel) (by decide) rfl wd176 (Or.inr rfl)) ?_
  refine ce_op (okIfEq (off := 28) (by decide +kernel) (by decide)) ?_
  refine ce_op (okIl2 (by decide +kernel)) ?_
  refine ce_op (okIfEq (off := 23) (by decide +kernel) (by decide)) ?_
  refine ce_op (okAl1 (k := 0) (by decide +kernel) rfl) ?_
  refine ce_op (okGetI clX1 (k := 9) (x := 41) (by decide +kernel) (by decide) rfl wd172 (Or.inl rfl)) ?_
  refine ce_op (okIc3 (n := 200) (by decide +kernel) (by decide)) ?_
  refine ce_op (okCmLe (off := 8) (by decide +kernel) (by decide)) ?_
  refine ce_op (okIc2 (n := (-2)) (by decide +kernel) (by decide)) ?_
  refine ce_op (okGoto (off := 7) (by decide +kernel) (by decide)) ?_
  refine ce_op (okAl1 (k := 0) (by decide +kernel) rfl) ?_
  refine ce_op (okGetI clX1 (k := 9) (x := 41) (by decide +kernel) (by decide) rfl wd172 (Or.inl rfl)) ?_
  refine ce_op (okIret (by decide +kernel) rfl) ?_
  refine ce_op (okAl1 (k := 0) (by decide +kernel) rfl) ?_
  refine ce_op (okAl1 (k := 1) (by decide +kernel) rfl) ?_
  refine ce_op (okIl1 (k := 2) (by decide +kernel) rfl) ?_
  refine ce_op (okIl2 (by decide +kernel)) ?_
  refine ce_op (okCV miX1_load (rV clX1 (x := 66) miX1_load rfl (by decide +kernel) wd652 wd653 wd654)) ?_
  refine ce_op (okAl1 (k := 0) (by decide +kernel) rfl) ?_
  refine ce_op (okIl1 (k := 2) (by decide +kernel) rfl) ?_
  refine ce_op (okPutI clX1 (k := 14) (x := 57) (by decide +kernel) (by decide) rfl wd177 rfl rfl (by decide +kernel)) ?_
  refine ce_op (okAl1 (k := 0) (by decide +kernel) rfl) ?_
  refine ce_op (okIl2 (by decide +kernel)) ?_
  refine ce_op (okPutI clX1 (k := 15) (x := 60) (by decide +kernel) (by decide) rfl wd178 rfl rfl (by decide +kernel)) ?_
  refine ce_op (okAl1 (k := 0) (by decide +kernel) rfl) ?_
  refine ce_op (okIl2 (by decide +kernel)) ?_
  refine ce_op (okPutI clX1 (k := 16) (x := 63) (by decide +kernel) (by decide) rfl wd179 rfl rfl (by decide +kernel)) ?_
  refine ce_op (okAl1 (k := 0) (by decide +kernel) rfl) ?_
  refine ce_op (okIc1 (n := 1) (by decide +kernel) (by decide)) ?_
  refine ce_op (okPutZ clX1 (k := 13) (x := 53) (by decide +kernel) (by decide) rfl wd176 rfl rfl (by decide +kernel)) ?_
  refine ce_op (okAl1 (k := 0) (by decide +kernel) rfl) ?_
  refine ce_op (okIl1 (k := 3) (by decide +kernel) rfl) ?_
  refine ce_op (okIl2 (by decide +kernel)) ?_
  refine ce_op (okCI miX1_search (rV clX1 (x := 70) miX1_search rfl (by decide +kernel) wd656 wd657 wd658)) ?_
  refine ce_op (okIret (by decide +kernel) rfl) ?_
  exact ce_nil
set_option maxRecDepth 100000 in
def cdX1_load : List CE := (0, 1, some (oAl 0)) :: (1, 1, some (oAl 1)) :: (2, 3, some (oGetI 4 7)) :: (5, 3, some (oPutI 1 8)) :: (8, 1, some (oIc 0)) :: (9, 2, some (oIs 4)) ::
  (11, 0, none) :: (11, 2, some (oIl 4)) :: (13, 1, some (oAl 0)) :: (14, 3, some (oGetI 1 8)) :: (17, 3, some (oCmGe 148)) :: (20, 1, some (oAl 0)) ::
  (21, 3, some (oGetR [(49, 163944)])) :: (24, 2, some (oIl 4)) :: (26, 1, some (oAl 1)) :: (27, 3, some (oGetR [(452, 164312), (836, 164696)])) :: (30, 2, some (oIl 4)) :: (32, 1, some oIald) ::
  (33, 1, some oIast) :: (34, 1, some (oAl 0)) :: (35, 3, some (oGetR [(49, 163960)])) :: (38, 2, some (oIl 4)) :: (40, 1, some (oAl 1)) :: (41, 3, some (oGetR [(452, 164328), (836, 164712)])) ::
  (44, 2, some (oIl 4)) :: (46, 1, some oIald) :: (47, 1, some oIast) :: (48, 1, some (oAl 0)) :: (49, 3, some (oGetR [(49, 163976)])) :: (52, 2, some (oIl 4)) ::
  (54, 1, some (oAl 1)) :: (55, 3, some (oGetR [(452, 164392), (836, 164776)])) :: (58, 2, some (oIl 4)) :: (60, 1, some oIald) :: (61, 1, some oIast) :: (62, 1, some (oAl 0)) ::
  (63, 3, some (oGetR [(49, 163992)])) :: (66, 2, some (oIl 4)) :: (68, 1, some (oAl 1)) :: (69, 3, some (oGetR [(452, 164360), (836, 164744)])) :: (72, 2, some (oIl 4)) :: (74, 1, some oIald) ::
  (75, 1, some (oIl 2)) :: (76, 3, some (oIfNe 91)) :: (79, 1, some (oIc 4)) :: (80, 1, some (oAl 1)) :: (81, 3, some (oGetR [(452, 164408), (836, 164792)])) :: (84, 2, some (oIl 4)) ::
  (86, 1, some oIald) :: (87, 1, some oImul) :: (88, 3, some (oGoto 92)) :: (91, 1, some (oIc 0)) :: (92, 1, some oIadd) :: (93, 1, some oIast) ::
  (94, 1, some (oIl 2)) :: (95, 3, some (oIfNe 112)) :: (98, 1, some (oAl 1)) :: (99, 3, some (oGetR [(452, 164408), (836, 164792)])) :: (102, 2, some (oIl 4)) :: (104, 1, some oIald) ::
  (105, 3, some (oIfNe 112)) :: (108, 1, some (oIc 1)) :: (109, 3, some (oGoto 113)) :: (112, 1, some (oIc 0)) :: (113, 2, some (oIs 5)) :: (115, 2, some (oIl 5)) ::
  (117, 3, some (oIfNe 134)) :: (120, 1, some (oIl 3)) :: (121, 1, some (oAl 0)) :: (122, 3, some (oGetR [(49, 163944)])) :: (125, 2, some (oIl 4)) :: (127, 1, some oIald) ::
  (128, 1, some oIshr) :: (129, 1, some (oIc 1)) :: (130, 1, some oIand) :: (131, 3, some (oIfEq 142)) :: (134, 1, some (oAl 0)) :: (135, 3, some (oGetR [(49, 163992)])) ::
  (138, 2, some (oIl 4)) :: (140, 1, some (oIc (-1))) :: (141, 1, some oIast) :: (142, 3, some (oInc 4 1)) :: (145, 3, some (oGoto 11)) :: (148, 1, some oVret) :: []
set_option maxRecDepth 100000 in
set_option maxHeartbeats 4000000 in
theorem okX1_load : CodeOk mX1_load cdX1_load := by
  refine ⟨by rfl, ?_⟩
  show CodeAll mX1_load cdX1_load
  refine ce_op (okAl1 (k := 0) (by decide +kernel) rfl) ?_
  refine ce_op (okAl1 (k := 1) (by decide +kernel) rfl) ?_
  refine ce_op (okGetI clX4 (k := 7) (x := 74) (by decide +kernel) (by decide) rfl wd316 (Or.inl rfl)) ?_
  refine ce_op (okPutI clX1 (k := 8) (x := 37) (by decide +kernel) (by decide) rfl wd171 rfl rfl (by decide +kernel)) ?_
  refine ce_op (okIc1 (n := 0) (by decide +kernel) (by decide)) ?_
  refine ce_op (okIs2 (by decide +kernel) (by decide)) ?_
  refine ce_st ?_
  refine ce_op (okIl2 (by decide +kernel)) ?_
  refine ce_op (okAl1 (k := 0) (by decide +kernel) rfl) ?_
  refine ce_op (okGetI clX1 (k := 8) (x := 37) (by decide +kernel) (by decide) rfl wd171 (Or.inl rfl)) ?_
  refine ce_op (okCmGe (off := 131) (by decide +kernel) (by decide)) ?_
  refine ce_op (okAl1 (k := 0) (by decide +kernel) rfl) ?_
  refine ce_op (okGetR clX1 (k := 2) (x := 19) (by decide +kernel) (by decide) rfl wd165 rfl (by decide +kernel)) ?_
  refine ce_op (okIl2 (by decide +kernel)) ?_
  refine ce_op (okAl1 (k := 1) (by decide +kernel) rfl) ?_
  refine ce_op (okGetR clX4 (k := 0) (x := 77) (by decide +kernel) (by decide) rfl wd287 rfl (by decide +kernel)) ?_
  refine ce_op (okIl2 (by decide +kernel)) ?_
  refine ce_op (okIald (by decide +kernel)) ?_
  refine ce_op (okIast (by decide +kernel)) ?_
  refine ce_op (okAl1 (k := 0) (by decide +kernel) rfl) ?_
  refine ce_op (okGetR clX1 (k := 3) (x := 22) (by decide +kernel) (by decide) rfl wd166 rfl (by decide +kernel)) ?_
  refine ce_op (okIl2 (by decide +kernel)) ?_
  refine ce_op (okAl1 (k := 1) (by decide +kernel) rfl) ?_
  refine ce_op (okGetR clX4 (k := 1) (x := 78) (by decide +kernel) (by decide) rfl wd292 rfl (by decide +kernel)) ?_
  refine ce_op (okIl2 (by decide +kernel)) ?_
  refine ce_op (okIald (by decide +kernel)) ?_
  refine ce_op (okIast (by decide +kernel)) ?_
  refine ce_op (okAl1 (k := 0) (by decide +kernel) rfl) ?_
  refine ce_op (okGetR clX1 (k := 4) (x := 25) (by decide +kernel) (by decide) rfl wd167 rfl (by decide +kernel)) ?_
  refine ce_op (okIl2 (by decide +kernel)) ?_
  refine ce_op (okAl1 (k := 1) (by decide +kernel) rfl) ?_
  refine ce_op (okGetR clX4 (k := 5) (x := 79) (by decide +kernel) (by decide) rfl wd308 rfl (by decide +kernel)) ?_
  refine ce_op (okIl2 (by decide +kernel)) ?_
  refine ce_op (okIald (by decide +kernel)) ?_
  refine ce_op (okIast (by decide +kernel)) ?_
  refine ce_op (okAl1 (k := 0) (by decide +kernel) rfl) ?_
  refine ce_op (okGetR clX1 (k := 5) (x := 28) (by decide +kernel) (by decide) rfl wd168 rfl (by decide +kernel)) ?_
  refine ce_op (okIl2 (by decide +kernel)) ?_
  refine ce_op (okAl1 (k := 1) (by decide +kernel) rfl) ?_
  refine ce_op (okGetR clX4 (k := 3) (x := 80) (by decide +kernel) (by decide) rfl wd301 rfl (by decide +kernel)) ?_
  refine ce_op (okIl2 (by decide +kernel)) ?_
  refine ce_op (okIald (by decide +kernel)) ?_
  refine ce_op (okIl1 (k := 2) (by decide +kernel) rfl) ?_
  refine ce_op (okIfNe (off := 15) (by decide +kernel) (by decide)) ?_
  refine ce_op (okIc1 (n := 4) (by decide +kernel) (by decide)) ?_
  refine ce_op (okAl1 (k := 1) (by decide +kernel) rfl) ?_
  refine ce_op (okGetR clX4 (k := 6) (x := 83) (by decide +kernel) (by decide) rfl wd311 rfl (by decide +kernel)) ?_
  refine ce_op (okIl2 (by decide +kernel)) ?_
  refine ce_op (okIald (by decide +kernel)) ?_
  refine ce_op (okImul (by decide +kernel)) ?_
  refine ce_op (okGoto (off := 4) (by decide +kernel) (by decide)) ?_
  refine ce_op (okIc1 (n := 0) (by decide +kernel) (by decide)) ?_
  refine ce_op (okIadd (by decide +kernel)) ?_
  refine ce_op (okIast (by decide +kernel)) ?_
  refine ce_op (okIl1 (k := 2) (by decide +kernel) rfl) ?_
  refine ce_op (okIfNe (off := 17) (by decide +kernel) (by decide)) ?_
  refine ce_op (okAl1 (k := 1) (by decide +kernel) rfl) ?_
  refine ce_op (okGetR clX4 (k := 6) (x := 83) (by decide +kernel) (by decide) rfl wd311 rfl (by decide +kernel)) ?_
  refine ce_op (okIl2 (by decide +kernel)) ?_
  refine ce_op (okIald (by decide +kernel)) ?_
  refine ce_op (okIfNe (off := 7) (by decide +kernel) (by decide)) ?_
  refine ce_op (okIc1 (n := 1) (by decide +kernel) (by decide)) ?_
  refine ce_op (okGoto (off := 4) (by decide +kernel) (by decide)) ?_
  refine ce_op (okIc1 (n := 0) (by decide +kernel) (by decide)) ?_
  refine ce_op (okIs2 (by decide +kernel) (by decide)) ?_
  refine ce_op (okIl2 (by decide +kernel)) ?_
  refine ce_op (okIfNe (off := 17) (by decide +kernel) (by decide)) ?_
  refine ce_op (okIl1 (k := 3) (by decide +kernel) rfl) ?_
  refine ce_op (okAl1 (k := 0) (by decide +kernel) rfl) ?_
  refine ce_op (okGetR clX1 (k := 2) (x := 19) (by decide +kernel) (by decide) rfl wd165 rfl (by decide +kernel)) ?_
  refine ce_op (okIl2 (by decide +kernel)) ?_
  refine ce_op (okIald (by decide +kernel)) ?_
  refine ce_op (okIshr (by decide +kernel)) ?_
  refine ce_op (okIc1 (n := 1) (by decide +kernel) (by decide)) ?_
  refine ce_op (okIand (by decide +kernel)) ?_
  refine ce_op (okIfEq (off := 11) (by decide +kernel) (by decide)) ?_
  refine ce_op (okAl1 (k := 0) (by decide +kernel) rfl) ?_
  refine ce_op (okGetR clX1 (k := 5) (x := 28) (by decide +kernel) (by decide) rfl wd168 rfl (by decide +kernel)) ?_
  refine ce_op (okIl2 (by decide +kernel)) ?_
  refine ce_op (okIc1 (n := (-1)) (by decide +kernel) (by decide)) ?_
  refine ce_op (okIast (by decide +kernel)) ?_
  refine ce_op (okInc (n := 1) (by decide +kernel) (by decide)) ?_
  refine ce_op (okGoto (off := (-134)) (by decide +kernel) (by decide)) ?_
  refine ce_op (okVret (by decide +kernel) rfl) ?_
  exact ce_nil
set_option maxRecDepth 100000 in
def cdX1_shuffle : List CE := (0, 1, some (oJl 1)) :: (1, 1, some (oJs 3)) :: (2, 1, some (oAl 0)) :: (3, 3, some (oGetI 1 8)) :: (6, 1, some (oIc 1)) :: (7, 1, some oIsub) ::
  (8, 2, some (oIs 5)) :: (10, 0, none) :: (10, 2, some (oIl 5)) :: (12, 1, some (oIc 1)) :: (13, 3, some (oCmLt 82)) :: (16, 1, some (oJl 3)) ::
  (17, 3, some (oJc 1103515245)) :: (20, 1, some oLmul) :: (21, 3, some (oJc 12345)) :: (24, 1, some oLadd) :: (25, 3, some (oJc 2147483647)) :: (28, 1, some oLand) ::
  (29, 1, some (oJs 3)) :: (30, 1, some (oJl 3)) :: (31, 3, some (oJc 65536)) :: (34, 1, some oLdiv) :: (35, 2, some (oIl 5)) :: (37, 1, some (oIc 1)) ::
  (38, 1, some oIadd) :: (39, 1, some oI2l) :: (40, 1, some oLrem) :: (41, 1, some oL2i) :: (42, 2, some (oIs 6)) :: (44, 1, some (oAl 0)) ::
  (45, 3, some (oGetR [(49, 163960)])) :: (48, 2, some (oIl 5)) :: (50, 1, some oIald) :: (51, 2, some (oIs 7)) :: (53, 1, some (oAl 0)) :: (54, 3, some (oGetR [(49, 163960)])) ::
  (57, 2, some (oIl 5)) :: (59, 1, some (oAl 0)) :: (60, 3, some (oGetR [(49, 163960)])) :: (63, 2, some (oIl 6)) :: (65, 1, some oIald) :: (66, 1, some oIast) ::
  (67, 1, some (oAl 0)) :: (68, 3, some (oGetR [(49, 163960)])) :: (71, 2, some (oIl 6)) :: (73, 2, some (oIl 7)) :: (75, 1, some oIast) :: (76, 3, some (oInc 5 (-1))) ::
  (79, 3, some (oGoto 10)) :: (82, 1, some (oJl 3)) :: (83, 1, some oJret) :: []
set_option maxRecDepth 100000 in
set_option maxHeartbeats 4000000 in
theorem okX1_shuffle : CodeOk mX1_shuffle cdX1_shuffle := by
  refine ⟨by rfl, ?_⟩
  show CodeAll mX1_shuffle cdX1_shuffle
  refine ce_op (okJl1 (k := 1) (by decide +kernel) rfl) ?_
  refine ce_op (okJs1 (k := 3) (by decide +kernel) rfl (by decide)) ?_
  refine ce_op (okAl1 (k := 0) (by decide +kernel) rfl) ?_
  refine ce_op (okGetI clX1 (k := 8) (x := 37) (by decide +kernel) (by decide) rfl wd171 (Or.inl rfl)) ?_
  refine ce_op (okIc1 (n := 1) (by decide +kernel) (by decide)) ?_
  refine ce_op (okIsub (by decide +kernel)) ?_
  refine ce_op (okIs2 (by decide +kernel) (by decide)) ?_
  refine ce_st ?_
  refine ce_op (okIl2 (by decide +kernel)) ?_
  refine ce_op (okIc1 (n := 1) (by decide +kernel) (by decide)) ?_
  refine ce_op (okCmLt (off := 69) (by decide +kernel) (by decide)) ?_
  refine ce_op (okJl1 (k := 3) (by decide +kernel) rfl) ?_
  refine ce_op (okJcL (k := 86) (by decide +kernel) wd774) ?_
  refine ce_op (okLmul (by decide +kernel)) ?_
  refine ce_op (okJcL (k := 88) (by decide +kernel) wd775) ?_
  refine ce_op (okLadd (by decide +kernel)) ?_
  refine ce_op (okJcL (k := 90) (by decide +kernel) wd776) ?_
  refine ce_op (okLand (by decide +kernel)) ?_
  refine ce_op (okJs1 (k := 3) (by decide +kernel) rfl (by decide)) ?_
  refine ce_op (okJl1 (k := 3) (by decide +kernel) rfl) ?_
  refine ce_op (okJcL (k := 92) (by decide +kernel) wd777) ?_
  refine ce_op (okLdiv (by decide +kernel)) ?_
  refine ce_op (okIl2 (by decide +kernel)) ?_
  refine ce_op (okIc1 (n := 1) (by decide +kernel) (by decide)) ?_
  refine ce_op (okIadd (by decide +kernel)) ?_
  refine ce_op (okI2l (by decide +kernel)) ?_
  refine ce_op (okLrem (by decide +kernel)) ?_
  refine ce_op (okL2i (by decide +kernel)) ?_
  refine ce_op (okIs2 (by decide +kernel) (by decide)) ?_
  refine ce_op (okAl1 (k := 0) (by decide +kernel) rfl) ?_
  refine ce_op (okGetR clX1 (k := 3) (x := 22) (by decide +kernel) (by decide) rfl wd166 rfl (by decide +kernel)) ?_
  refine ce_op (okIl2 (by decide +kernel)) ?_
  refine ce_op (okIald (by decide +kernel)) ?_
  refine ce_op (okIs2 (by decide +kernel) (by decide)) ?_
  refine ce_op (okAl1 (k := 0) (by decide +kernel) rfl) ?_
  refine ce_op (okGetR clX1 (k := 3) (x := 22) (by decide +kernel) (by decide) rfl wd166 rfl (by decide +kernel)) ?_
  refine ce_op (okIl2 (by decide +kernel)) ?_
  refine ce_op (okAl1 (k := 0) (by decide +kernel) rfl) ?_
  refine ce_op (okGetR clX1 (k := 3) (x := 22) (by decide +kernel) (by decide) rfl wd166 rfl (by decide +kernel)) ?_
  refine ce_op (okIl2 (by decide +kernel)) ?_
  refine ce_op (okIald (by decide +kernel)) ?_
  refine ce_op (okIast (by decide +kernel)) ?_
  refine ce_op (okAl1 (k := 0) (by decide +kernel) rfl) ?_
  refine ce_op (okGetR clX1 (k := 3) (x := 22) (by decide +kernel) (by decide) rfl wd166 rfl (by decide +kernel)) ?_
  refine ce_op (okIl2 (by decide +kernel)) ?_
  refine ce_op (okIl2 (by decide +kernel)) ?_
  refine ce_op (okIast (by decide +kernel)) ?_
  refine ce_op (okInc (n := (-1)) (by decide +kernel) (by decide)) ?_
  refine ce_op (okGoto (off := (-69)) (by decide +kernel) (by decide)) ?_
  refine ce_op (okJl1 (k := 3) (by decide +kernel) rfl) ?_
  refine ce_op (okJret (by decide +kernel) rfl) ?_
  exact ce_nil
set_option maxRecDepth 100000 in
def cdX1_search : List CE := (0, 1, some (oAl 0)) :: (1, 1, some (oIc 0)) :: (2, 3, some (oPutI 1 9)) :: (5, 1, some (oAl 0)) :: (6, 1, some (oIl 1)) :: (7, 3, some (oPutI 1 10)) ::
  (10, 1, some (oAl 0)) :: (11, 3, some (oCV 1 mX1_linkSales 1)) :: (14, 1, some (oIc 0)) :: (15, 1, some (oIs 3)) :: (16, 0, none) :: (16, 1, some (oIl 3)) ::
  (17, 2, some (oIc 12)) :: (19, 3, some (oCmGe 33)) :: (22, 1, some (oAl 0)) :: (23, 1, some (oIl 3)) :: (24, 3, some (oCV 1 mX1_measure 2)) :: (27, 3, some (oInc 3 1)) ::
  (30, 3, some (oGoto 16)) :: (33, 1, some (oIc 0)) :: (34, 1, some (oIs 3)) :: (35, 0, none) :: (35, 1, some (oIl 3)) :: (36, 1, some (oAl 0)) ::
  (37, 3, some (oGetI 1 8)) :: (40, 3, some (oCmGe 104)) :: (43, 1, some (oAl 0)) :: (44, 3, some (oGetI 1 9)) :: (47, 3, some (oIc 200)) :: (50, 3, some (oCmGt 104)) ::
  (53, 1, some (oAl 0)) :: (54, 3, some (oGetR [(49, 163992)])) :: (57, 1, some (oIl 3)) :: (58, 1, some oIald) :: (59, 3, some (oIfLt 98)) :: (62, 1, some (oAl 0)) ::
  (63, 1, some (oAl 0)) :: (64, 3, some (oGetR [(49, 163944)])) :: (67, 1, some (oIl 3)) :: (68, 1, some oIald) :: (69, 3, some (oPutI 1 11)) :: (72, 1, some (oAl 0)) ::
  (73, 1, some (oAl 0)) :: (74, 3, some (oGetR [(49, 163976)])) :: (77, 1, some (oIl 3)) :: (78, 1, some oIald) :: (79, 1, some (oIl 2)) :: (80, 1, some oIadd) ::
  (81, 3, some (oPutI 1 12)) :: (84, 1, some (oAl 0)) :: (85, 1, some (oIl 3)) :: (86, 1, some oI2l) :: (87, 1, some (oIc 1)) :: (88, 1, some (oIl 3)) ::
  (89, 1, some (oIc 1)) :: (90, 1, some (oAl 0)) :: (91, 3, some (oGetI 1 11)) :: (94, 1, some oIshl) :: (95, 3, some (oCV 1 mX1_extend 5)) :: (98, 3, some (oInc 3 1)) ::
  (101, 3, some (oGoto 35)) :: (104, 1, some (oAl 0)) :: (105, 3, some (oGetI 1 9)) :: (108, 3, some (oIc 200)) :: (111, 3, some (oCmLe 119)) :: (114, 2, some (oIc (-2))) ::
  (116, 3, some (oGoto 123)) :: (119, 1, some (oAl 0)) :: (120, 3, some (oGetI 1 9)) :: (123, 1, some oIret) :: []
set_option maxRecDepth 100000 in
set_option maxHeartbeats 4000000 in
theorem okX1_search : CodeOk mX1_search cdX1_search := by
  refine ⟨by rfl, ?_⟩
  show CodeAll mX1_search cdX1_search
  refine ce_op (okAl1 (k := 0) (by decide +kernel) rfl) ?_
  refine ce_op (okIc1 (n := 0) (by decide +kernel) (by decide)) ?_
  refine ce_op (okPutI clX1 (k := 9) (x := 41) (by decide +kernel) (by decide) rfl wd172 rfl rfl (by decide +kernel)) ?_
  refine ce_op (okAl1 (k := 0) (by decide +kernel) rfl) ?_
  refine ce_op (okIl1 (k := 1) (by decide +kernel) rfl) ?_
  refine ce_op (okPutI clX1 (k := 10) (x := 44) (by decide +kernel) (by decide) rfl wd173 rfl rfl (by decide +kernel)) ?_
  refine ce_op (okAl1 (k := 0) (by decide +kernel) rfl) ?_
  refine ce_op (okCV miX1_linkSales (rV clX1 (x := 94) miX1_linkSales rfl (by decide +kernel) wd660 wd662 wd21)) ?_
  refine ce_op (okIc1 (n := 0) (by decide +kernel) (by decide)) ?_
  refine ce_op (okIs1 (k := 3) (by decide +kernel) rfl (by decide)) ?_
  refine ce_st ?_
  refine ce_op (okIl1 (k := 3) (by decide +kernel) rfl) ?_
  refine ce_op (okIc2 (n := 12) (by decide +kernel) (by decide)) ?_
  refine ce_op (okCmGe (off := 14) (by decide +kernel) (by decide)) ?_
  refine ce_op (okAl1 (k := 0) (by decide +kernel) rfl) ?_
  refine ce_op (okIl1 (k := 3) (by decide +kernel) rfl) ?_
  refine ce_op (okCV miX1_measure (rV clX1 (x := 97) miX1_measure rfl (by decide +kernel) wd664 wd666 wd22)) ?_
  refine ce_op (okInc (n := 1) (by decide +kernel) (by decide)) ?_
  refine ce_op (okGoto (off := (-14)) (by decide +kernel) (by decide)) ?_
  refine ce_op (okIc1 (n := 0) (by decide +kernel) (by decide)) ?_
  refine ce_op (okIs1 (k := 3) (by decide +kernel) rfl (by decide)) ?_
  refine ce_st ?_
  refine ce_op (okIl1 (k := 3) (by decide +kernel) rfl) ?_
  refine ce_op (okAl1 (k := 0) (by decide +kernel) rfl) ?_
  refine ce_op (okGetI clX1 (k := 8) (x := 37) (by decide +kernel) (by decide) rfl wd171 (Or.inl rfl)) ?_
  refine ce_op (okCmGe (off := 64) (by decide +kernel) (by decide)) ?_
  refine ce_op (okAl1 (k := 0) (by decide +kernel) rfl) ?_
  refine ce_op (okGetI clX1 (k := 9) (x := 41) (by decide +kernel) (by decide) rfl wd172 (Or.inl rfl)) ?_
  refine ce_op (okIc3 (n := 200) (by decide +kernel) (by decide)) ?_
  refine ce_op (okCmGt (off := 54) (by decide +kernel) (by decide)) ?_
  refine ce_op (okAl1 (k := 0) (by decide +kernel) rfl) ?_
  refine ce_op (okGetR clX1 (k := 5) (x := 28) (by decide +kernel) (by decide) rfl wd168 rfl (by decide +kernel)) ?_
  refine ce_op (okIl1 (k := 3) (by decide +kernel) rfl) ?_
  refine ce_op (okIald (by decide +kernel)) ?_
  refine ce_op (okIfLt (off := 39) (by decide +kernel) (by decide)) ?_
  refine ce_op (okAl1 (k := 0) (by decide +kernel) rfl) ?_
  refine ce_op (okAl1 (k := 0) (by decide +kernel) rfl) ?_
  refine ce_op (okGetR clX1 (k := 2) (x := 19) (by decide +kernel) (by decide) rfl wd165 rfl (by decide +kernel)) ?_
  refine ce_op (okIl1 (k := 3) (by decide +kernel) rfl) ?_
  refine ce_op (okIald (by decide +kernel)) ?_
  refine ce_op (okPutI clX1 (k := 11) (x := 47) (by decide +kernel) (by decide) rfl wd174 rfl rfl (by decide +kernel)) ?_
  refine ce_op (okAl1 (k := 0) (by decide +kernel) rfl) ?_
  refine ce_op (okAl1 (k := 0) (by decide +kernel) rfl) ?_
  refine ce_op (okGetR clX1 (k := 4) (x := 25) (by decide +kernel) (by decide) rfl wd167 rfl (by decide +kernel)) ?_
  refine ce_op (okIl1 (k := 3) (by decide +kernel) rfl) ?_
  refine ce_op (okIald (by decide +kernel)) ?_
  refine ce_op (okIl1 (k := 2) (by decide +kernel) rfl) ?_
  refine ce_op (okIadd (by decide +kernel)) ?_
  refine ce_op (okPutI clX1 (k := 12) (x := 50) (by decide +kernel) (by decide) rfl wd175 rfl rfl (by decide +kernel)) ?_
  refine ce_op (okAl1 (k := 0) (by decide +kernel) rfl) ?_
  refine ce_op (okIl1 (k := 3) (by decide +kernel) rfl) ?_
  refine ce_op (okI2l (by decide +kernel)) ?_
  refine ce_op (okIc1 (n := 1) (by decide +kernel) (by decide)) ?_
  refine ce_op (okIl1 (k := 3) (by decide +kernel) rfl) ?_
  refine ce_op (okIc1 (n := 1) (by decide +kernel) (by decide)) ?_
  refine ce_op (okAl1 (k := 0) (by decide +kernel) rfl) ?_
  refine ce_op (okGetI clX1 (k := 11) (x := 47) (by decide +kernel) (by decide) rfl wd174 (Or.inl rfl)) ?_
  refine ce_op (okIshl (by decide +kernel)) ?_
  refine ce_op (okCV miX1_extend (rV clX1 (x := 101) miX1_extend rfl (by decide +kernel) wd668 wd670 wd23)) ?_
  refine ce_op (okInc (n := 1) (by decide +kernel) (by decide)) ?_
  refine ce_op (okGoto (off := (-66)) (by decide +kernel) (by decide)) ?_
  refine ce_op (okAl1 (k := 0) (by decide +kernel) rfl) ?_
  refine ce_op (okGetI clX1 (k := 9) (x := 41) (by decide +kernel) (by decide) rfl wd172 (Or.inl rfl)) ?_
  refine ce_op (okIc3 (n := 200) (by decide +kernel) (by decide)) ?_
  refine ce_op (okCmLe (off := 8) (by decide +kernel) (by decide)) ?_
  refine ce_op (okIc2 (n := (-2)) (by decide +kernel) (by decide)) ?_
  refine ce_op (okGoto (off := 7) (by decide +kernel) (by decide)) ?_
  refine ce_op (okAl1 (k := 0) (by decide +kernel) rfl) ?_
  refine ce_op (okGetI clX1 (k := 9) (x := 41) (by decide +kernel) (by decide) rfl wd172 (Or.inl rfl)) ?_
  refine ce_op (okIret (by decide +kernel) rfl) ?_
  exact ce_nil
set_option maxRecDepth 100000 in
def cdX1_linkSales : List CE := (0, 1, some (oIc 0)) :: (1, 1, some (oIs 1)) :: (2, 0, none) :: (2, 1, some (oIl 1)) :: (3, 1, some (oAl 0)) :: (4, 3, some (oGetI 1 8)) ::
  (7, 3, some (oCmGe 105)) :: (10, 1, some (oAl 0)) :: (11, 3, some (oGetR [(49, 164009)])) :: (14, 1, some (oIl 1)) :: (15, 1, some (oJc 0)) :: (16, 1, some oJast) ::
  (17, 1, some (oIc 0)) :: (18, 1, some (oIs 2)) :: (19, 0, none) :: (19, 1, some (oIl 2)) :: (20, 1, some (oAl 0)) :: (21, 3, some (oGetI 1 8)) ::
  (24, 3, some (oCmGe 99)) :: (27, 1, some (oAl 0)) :: (28, 3, some (oGetR [(49, 163992)])) :: (31, 1, some (oIl 1)) :: (32, 1, some oIald) :: (33, 3, some (oIfLt 99)) ::
  (36, 1, some (oAl 0)) :: (37, 3, some (oGetR [(49, 163944)])) :: (40, 1, some (oIl 2)) :: (41, 1, some oIald) :: (42, 1, some (oAl 0)) :: (43, 3, some (oGetR [(49, 163960)])) ::
  (46, 1, some (oIl 1)) :: (47, 1, some oIald) :: (48, 3, some (oCmNe 93)) :: (51, 1, some (oAl 0)) :: (52, 3, some (oGetR [(49, 163992)])) :: (55, 1, some (oIl 2)) ::
  (56, 1, some oIald) :: (57, 1, some (oAl 0)) :: (58, 3, some (oGetR [(49, 163992)])) :: (61, 1, some (oIl 1)) :: (62, 1, some oIald) :: (63, 3, some (oCmNe 93)) ::
  (66, 1, some (oAl 0)) :: (67, 3, some (oGetR [(49, 163976)])) :: (70, 1, some (oIl 2)) :: (71, 1, some oIald) :: (72, 1, some (oAl 0)) :: (73, 3, some (oGetR [(49, 163976)])) ::
  (76, 1, some (oIl 1)) :: (77, 1, some oIald) :: (78, 3, some (oCmLt 93)) :: (81, 1, some (oAl 0)) :: (82, 3, some (oGetR [(49, 164009)])) :: (85, 1, some (oIl 1)) ::
  (86, 1, some oDup2) :: (87, 1, some oJald) :: (88, 1, some (oJc 1)) :: (89, 1, some (oIl 2)) :: (90, 1, some oLshl) :: (91, 1, some oLor) ::
  (92, 1, some oJast) :: (93, 3, some (oInc 2 1)) :: (96, 3, some (oGoto 19)) :: (99, 3, some (oInc 1 1)) :: (102, 3, some (oGoto 2)) :: (105, 1, some oVret) :: []
set_option maxRecDepth 100000 in
set_option maxHeartbeats 4000000 in
theorem okX1_linkSales : CodeOk mX1_linkSales cdX1_linkSales := by
  refine ⟨by rfl, ?_⟩
  show CodeAll mX1_linkSales cdX1_linkSales
  refine ce_op (okIc1 (n := 0) (by decide +kernel) (by decide)) ?_
  refine ce_op (okIs1 (k := 1) (by decide +kernel) rfl (by decide)) ?_
  refine ce_st ?_
  refine ce_op (okIl1 (k := 1) (by decide +kernel) rfl) ?_
  refine ce_op (okAl1 (k := 0) (by decide +kernel) rfl) ?_
  refine ce_op (okGetI clX1 (k := 8) (x := 37) (by decide +kernel) (by decide) rfl wd171 (Or.inl rfl)) ?_
  refine ce_op (okCmGe (off := 98) (by decide +kernel) (by decide)) ?_
  refine ce_op (okAl1 (k := 0) (by decide +kernel) rfl) ?_
  refine ce_op (okGetR clX1 (k := 6) (x := 31) (by decide +kernel) (by decide) rfl wd169 rfl (by decide +kernel)) ?_
  refine ce_op (okIl1 (k := 1) (by decide +kernel) rfl) ?_
  refine ce_op (okJc1 (n := 0) (by decide +kernel) (by decide)) ?_
  refine ce_op (okJast (by decide +kernel)) ?_
  refine ce_op (okIc1 (n := 0) (by decide +kernel) (by decide)) ?_
  refine ce_op (okIs1 (k := 2) (by decide +kernel) rfl (by decide)) ?_
  refine ce_st ?_
  refine ce_op (okIl1 (k := 2) (by decide +kernel) rfl) ?_
  refine ce_op (okAl1 (k := 0) (by decide +kernel) rfl) ?_
  refine ce_op (okGetI clX1 (k := 8) (x := 37) (by decide +kernel) (by decide) rfl wd171 (Or.inl rfl)) ?_
  refine ce_op (okCmGe (off := 75) (by decide +kernel) (by decide)) ?_
  refine ce_op (okAl1 (k := 0) (by decide +kernel) rfl) ?_
  refine ce_op (okGetR clX1 (k := 5) (x := 28) (by decide +kernel) (by decide) rfl wd168 rfl (by decide +kernel)) ?_
  refine ce_op (okIl1 (k := 1) (by decide +kernel) rfl) ?_
  refine ce_op (okIald (by decide +kernel)) ?_
  refine ce_op (okIfLt (off := 66) (by decide +kernel) (by decide)) ?_
  refine ce_op (okAl1 (k := 0) (by decide +kernel) rfl) ?_
  refine ce_op (okGetR clX1 (k := 2) (x := 19) (by decide +kernel) (by decide) rfl wd165 rfl (by decide +kernel)) ?_
  refine ce_op (okIl1 (k := 2) (by decide +kernel) rfl) ?_
  refine ce_op (okIald (by decide +kernel)) ?_
  refine ce_op (okAl1 (k := 0) (by decide +kernel) rfl) ?_
  refine ce_op (okGetR clX1 (k := 3) (x := 22) (by decide +kernel) (by decide) rfl wd166 rfl (by decide +kernel)) ?_
  refine ce_op (okIl1 (k := 1) (by decide +kernel) rfl) ?_
  refine ce_op (okIald (by decide +kernel)) ?_
  refine ce_op (okCmNe (off := 45) (by decide +kernel) (by decide)) ?_
  refine ce_op (okAl1 (k := 0) (by decide +kernel) rfl) ?_
  refine ce_op (okGetR clX1 (k := 5) (x := 28) (by decide +kernel) (by decide) rfl wd168 rfl (by decide +kernel)) ?_
  refine ce_op (okIl1 (k := 2) (by decide +kernel) rfl) ?_
  refine ce_op (okIald (by decide +kernel)) ?_
  refine ce_op (okAl1 (k := 0) (by decide +kernel) rfl) ?_
  refine ce_op (okGetR clX1 (k := 5) (x := 28) (by decide +kernel) (by decide) rfl wd168 rfl (by decide +kernel)) ?_
  refine ce_op (okIl1 (k := 1) (by decide +kernel) rfl) ?_
  refine ce_op (okIald (by decide +kernel)) ?_
  refine ce_op (okCmNe (off := 30) (by decide +kernel) (by decide)) ?_
  refine ce_op (okAl1 (k := 0) (by decide +kernel) rfl) ?_
  refine ce_op (okGetR clX1 (k := 4) (x := 25) (by decide +kernel) (by decide) rfl wd167 rfl (by decide +kernel)) ?_
  refine ce_op (okIl1 (k := 2) (by decide +kernel) rfl) ?_
  refine ce_op (okIald (by decide +kernel)) ?_
  refine ce_op (okAl1 (k := 0) (by decide +kernel) rfl) ?_
  refine ce_op (okGetR clX1 (k := 4) (x := 25) (by decide +kernel) (by decide) rfl wd167 rfl (by decide +kernel)) ?_
  refine ce_op (okIl1 (k := 1) (by decide +kernel) rfl) ?_
  refine ce_op (okIald (by decide +kernel)) ?_
  refine ce_op (okCmLt (off := 15) (by decide +kernel) (by decide)) ?_
  refine ce_op (okAl1 (k := 0) (by decide +kernel) rfl) ?_
  refine ce_op (okGetR clX1 (k := 6) (x := 31) (by decide +kernel) (by decide) rfl wd169 rfl (by decide +kernel)) ?_
  refine ce_op (okIl1 (k := 1) (by decide +kernel) rfl) ?_
  refine ce_op (okDup2 (by decide +kernel)) ?_
  refine ce_op (okJald (by decide +kernel)) ?_
  refine ce_op (okJc1 (n := 1) (by decide +kernel) (by decide)) ?_
  refine ce_op (okIl1 (k := 2) (by decide +kernel) rfl) ?_
  refine ce_op (okLshl (by decide +kernel)) ?_
  refine ce_op (okLor (by decide +kernel)) ?_
  refine ce_op (okJast (by decide +kernel)) ?_
  refine ce_op (okInc (n := 1) (by decide +kernel) (by decide)) ?_
  refine ce_op (okGoto (off := (-77)) (by decide +kernel) (by decide)) ?_
  refine ce_op (okInc (n := 1) (by decide +kernel) (by decide)) ?_
  refine ce_op (okGoto (off := (-100)) (by decide +kernel) (by decide)) ?_
  refine ce_op (okVret (by decide +kernel) rfl) ?_
  exact ce_nil
set_option maxRecDepth 100000 in
def cdX1_measure : List CE := (0, 1, some (oJc 0)) :: (1, 1, some (oJs 2)) :: (2, 1, some (oIc 0)) :: (3, 2, some (oIs 4)) :: (5, 0, none) :: (5, 2, some (oIl 4)) ::
  (7, 1, some (oAl 0)) :: (8, 3, some (oGetI 1 8)) :: (11, 3, some (oCmGe 52)) :: (14, 1, some (oJl 2)) :: (15, 1, some (oAl 0)) :: (16, 3, some (oGetR [(49, 163992)])) ::
  (19, 2, some (oIl 4)) :: (21, 1, some oIald) :: (22, 3, some (oIfLt 43)) :: (25, 1, some (oAl 0)) :: (26, 3, some (oGetR [(49, 163960)])) :: (29, 2, some (oIl 4)) ::
  (31, 1, some oIald) :: (32, 1, some (oIl 1)) :: (33, 3, some (oCmNe 43)) :: (36, 1, some (oJc 1)) :: (37, 2, some (oIl 4)) :: (39, 1, some oLshl) ::
  (40, 3, some (oGoto 44)) :: (43, 1, some (oJc 0)) :: (44, 1, some oLor) :: (45, 1, some (oJs 2)) :: (46, 3, some (oInc 4 1)) :: (49, 3, some (oGoto 5)) ::
  (52, 1, some (oIl 1)) :: (53, 2, some (oIc 6)) :: (55, 1, some oImul) :: (56, 2, some (oIs 4)) :: (58, 1, some (oIc 1)) :: (59, 2, some (oIs 5)) ::
  (61, 0, none) :: (61, 2, some (oIl 5)) :: (63, 1, some (oAl 0)) :: (64, 3, some (oGetI 1 10)) :: (67, 3, some (oCmGe 145)) :: (70, 2, some (oIl 5)) ::
  (72, 2, some (oIc 6)) :: (74, 3, some (oCmGe 145)) :: (77, 1, some (oAl 0)) :: (78, 3, some (oGetR [(49, 295097)])) :: (81, 2, some (oIl 4)) :: (83, 2, some (oIl 5)) ::
  (85, 1, some oIadd) :: (86, 1, some (oJl 2)) :: (87, 1, some oJast) :: (88, 1, some (oJl 2)) :: (89, 2, some (oJs 6)) :: (91, 1, some (oIc 0)) ::
  (92, 2, some (oIs 8)) :: (94, 0, none) :: (94, 2, some (oIl 8)) :: (96, 1, some (oAl 0)) :: (97, 3, some (oGetI 1 8)) :: (100, 3, some (oCmGe 136)) ::
  (103, 2, some (oJl 6)) :: (105, 1, some (oAl 0)) :: (106, 3, some (oGetR [(49, 164009)])) :: (109, 2, some (oIl 8)) :: (111, 1, some oJald) :: (112, 1, some (oJl 2)) ::
  (113, 1, some oLand) :: (114, 1, some (oJc 0)) :: (115, 1, some oLcmp) :: (116, 3, some (oIfEq 126)) :: (119, 1, some (oJc 1)) :: (120, 2, some (oIl 8)) ::
  (122, 1, some oLshl) :: (123, 3, some (oGoto 127)) :: (126, 1, some (oJc 0)) :: (127, 1, some oLor) :: (128, 2, some (oJs 6)) :: (130, 3, some (oInc 8 1)) ::
  (133, 3, some (oGoto 94)) :: (136, 2, some (oJl 6)) :: (138, 1, some (oJs 2)) :: (139, 3, some (oInc 5 1)) :: (142, 3, some (oGoto 61)) :: (145, 1, some oVret) :: []
set_option maxRecDepth 100000 in
set_option maxHeartbeats 4000000 in
theorem okX1_measure : CodeOk mX1_measure cdX1_measure := by
  refine ⟨by rfl, ?_⟩
  show CodeAll mX1_measure cdX1_measure
  refine ce_op (okJc1 (n := 0) (by decide +kernel) (by decide)) ?_
  refine ce_op (okJs1 (k := 2) (by decide +kernel) rfl (by decide)) ?_
  refine ce_op (okIc1 (n := 0) (by decide +kernel) (by decide)) ?_
  refine ce_op (okIs2 (by decide +kernel) (by decide)) ?_
  refine ce_st ?_
  refine ce_op (okIl2 (by decide +kernel)) ?_
  refine ce_op (okAl1 (k := 0) (by decide +kernel) rfl) ?_
  refine ce_op (okGetI clX1 (k := 8) (x := 37) (by decide +kernel) (by decide) rfl wd171 (Or.inl rfl)) ?_
  refine ce_op (okCmGe (off := 41) (by decide +kernel) (by decide)) ?_
  refine ce_op (okJl1 (k := 2) (by decide +kernel) rfl) ?_
  refine ce_op (okAl1 (k := 0) (by decide +kernel) rfl) ?_
  refine ce_op (okGetR clX1 (k := 5) (x := 28) (by decide +kernel) (by decide) rfl wd168 rfl (by decide +kernel)) ?_
  refine ce_op (okIl2 (by decide +kernel)) ?_
  refine ce_op (okIald (by decide +kernel)) ?_
  refine ce_op (okIfLt (off := 21) (by decide +kernel) (by decide)) ?_
  refine ce_op (okAl1 (k := 0) (by decide +kernel) rfl) ?_
  refine ce_op (okGetR clX1 (k := 3) (x := 22) (by decide +kernel) (by decide) rfl wd166 rfl (by decide +kernel)) ?_
  refine ce_op (okIl2 (by decide +kernel)) ?_
  refine ce_op (okIald (by decide +kernel)) ?_
  refine ce_op (okIl1 (k := 1) (by decide +kernel) rfl) ?_
  refine ce_op (okCmNe (off := 10) (by decide +kernel) (by decide)) ?_
  refine ce_op (okJc1 (n := 1) (by decide +kernel) (by decide)) ?_
  refine ce_op (okIl2 (by decide +kernel)) ?_
  refine ce_op (okLshl (by decide +kernel)) ?_
  refine ce_op (okGoto (off := 4) (by decide +kernel) (by decide)) ?_
  refine ce_op (okJc1 (n := 0) (by decide +kernel) (by decide)) ?_
  refine ce_op (okLor (by decide +kernel)) ?_
  refine ce_op (okJs1 (k := 2) (by decide +kernel) rfl (by decide)) ?_
  refine ce_op (okInc (n := 1) (by decide +kernel) (by decide)) ?_
  refine ce_op (okGoto (off := (-44)) (by decide +kernel) (by decide)) ?_
  refine ce_op (okIl1 (k := 1) (by decide +kernel) rfl) ?_
  refine ce_op (okIc2 (n := 6) (by decide +kernel) (by decide)) ?_
  refine ce_op (okImul (by decide +kernel)) ?_
  refine ce_op (okIs2 (by decide +kernel) (by decide)) ?_
  refine ce_op (okIc1 (n := 1) (by decide +kernel) (by decide)) ?_
  refine ce_op (okIs2 (by decide +kernel) (by decide)) ?_
  refine ce_st ?_
  refine ce_op (okIl2 (by decide +kernel)) ?_
  refine ce_op (okAl1 (k := 0) (by decide +kernel) rfl) ?_
  refine ce_op (okGetI clX1 (k := 10) (x := 44) (by decide +kernel) (by decide) rfl wd173 (Or.inl rfl)) ?_
  refine ce_op (okCmGe (off := 78) (by decide +kernel) (by decide)) ?_
  refine ce_op (okIl2 (by decide +kernel)) ?_
  refine ce_op (okIc2 (n := 6) (by decide +kernel) (by decide)) ?_
  refine ce_op (okCmGe (off := 71) (by decide +kernel) (by decide)) ?_
  refine ce_op (okAl1 (k := 0) (by decide +kernel) rfl) ?_
  refine ce_op (okGetR clX1 (k := 7) (x := 34) (by decide +kernel) (by decide) rfl wd170 rfl (by decide +kernel)) ?_
  refine ce_op (okIl2 (by decide +kernel)) ?_
  refine ce_op (okIl2 (by decide +kernel)) ?_
  refine ce_op (okIadd (by decide +kernel)) ?_
  refine ce_op (okJl1 (k := 2) (by decide +kernel) rfl) ?_
  refine ce_op (okJast (by decide +kernel)) ?_
  refine ce_op (okJl1 (k := 2) (by decide +kernel) rfl) ?_
  refine ce_op (okJs2 (by decide +kernel) (by decide)) ?_
  refine ce_op (okIc1 (n := 0) (by decide +kernel) (by decide)) ?_
  refine ce_op (okIs2 (by decide +kernel) (by decide)) ?_
  refine ce_st ?_
  refine ce_op (okIl2 (by decide +kernel)) ?_
  refine ce_op (okAl1 (k := 0) (by decide +kernel) rfl) ?_
  refine ce_op (okGetI clX1 (k := 8) (x := 37) (by decide +kernel) (by decide) rfl wd171 (Or.inl rfl)) ?_
  refine ce_op (okCmGe (off := 36) (by decide +kernel) (by decide)) ?_
  refine ce_op (okJl2 (by decide +kernel)) ?_
  refine ce_op (okAl1 (k := 0) (by decide +kernel) rfl) ?_
  refine ce_op (okGetR clX1 (k := 6) (x := 31) (by decide +kernel) (by decide) rfl wd169 rfl (by decide +kernel)) ?_
  refine ce_op (okIl2 (by decide +kernel)) ?_
  refine ce_op (okJald (by decide +kernel)) ?_
  refine ce_op (okJl1 (k := 2) (by decide +kernel) rfl) ?_
  refine ce_op (okLand (by decide +kernel)) ?_
  refine ce_op (okJc1 (n := 0) (by decide +kernel) (by decide)) ?_
  refine ce_op (okLcmp (by decide +kernel)) ?_
  refine ce_op (okIfEq (off := 10) (by decide +kernel) (by decide)) ?_
  refine ce_op (okJc1 (n := 1) (by decide +kernel) (by decide)) ?_
  refine ce_op (okIl2 (by decide +kernel)) ?_
  refine ce_op (okLshl (by decide +kernel)) ?_
  refine ce_op (okGoto (off := 4) (by decide +kernel) (by decide)) ?_
  refine ce_op (okJc1 (n := 0) (by decide +kernel) (by decide)) ?_
  refine ce_op (okLor (by decide +kernel)) ?_
  refine ce_op (okJs2 (by decide +kernel) (by decide)) ?_
  refine ce_op (okInc (n := 1) (by decide +kernel) (by decide)) ?_
  refine ce_op (okGoto (off := (-39)) (by decide +kernel) (by decide)) ?_
  refine ce_op (okJl2 (by decide +kernel)) ?_
  refine ce_op (okJs1 (k := 2) (by decide +kernel) rfl (by decide)) ?_
  refine ce_op (okInc (n := 1) (by decide +kernel) (by decide)) ?_
  refine ce_op (okGoto (off := (-81)) (by decide +kernel) (by decide)) ?_
  refine ce_op (okVret (by decide +kernel) rfl) ?_
  exact ce_nil
set_option maxRecDepth 100000 in
def cdX1_extend : List CE := (0, 1, some (oAl 0)) :: (1, 3, some (oGetR [(49, 163960)])) :: (4, 2, some (oIl 4)) :: (6, 1, some oIald) :: (7, 1, some (oAl 0)) :: (8, 3, some (oGetI 1 11)) ::
  (11, 3, some (oCmNe 26)) :: (14, 1, some (oIl 3)) :: (15, 1, some (oIc 2)) :: (16, 3, some (oCmLt 25)) :: (19, 1, some (oAl 0)) :: (20, 1, some (oJl 1)) ::
  (21, 1, some (oIl 3)) :: (22, 3, some (oCV 1 mX1_keep 3)) :: (25, 1, some oVret) :: (26, 1, some (oIl 3)) :: (27, 1, some (oAl 0)) :: (28, 3, some (oGetI 1 10)) ::
  (31, 3, some (oCmGe 55)) :: (34, 1, some (oIl 3)) :: (35, 2, some (oIc 6)) :: (37, 3, some (oCmGe 55)) :: (40, 2, some (oIl 5)) :: (42, 1, some (oAl 0)) ::
  (43, 3, some (oGetR [(49, 163960)])) :: (46, 2, some (oIl 4)) :: (48, 1, some oIald) :: (49, 1, some oIshr) :: (50, 1, some (oIc 1)) :: (51, 1, some oIand) ::
  (52, 3, some (oIfEq 56)) :: (55, 1, some oVret) :: (56, 1, some (oAl 0)) :: (57, 3, some (oGetR [(49, 164009)])) :: (60, 2, some (oIl 4)) :: (62, 1, some oJald) ::
  (63, 1, some (oAl 0)) :: (64, 3, some (oGetR [(49, 295097)])) :: (67, 1, some (oAl 0)) :: (68, 3, some (oGetI 1 11)) :: (71, 2, some (oIc 6)) :: (73, 1, some oImul) ::
  (74, 1, some (oAl 0)) :: (75, 3, some (oGetI 1 10)) :: (78, 1, some oIadd) :: (79, 1, some (oIl 3)) :: (80, 1, some oIsub) :: (81, 1, some oJald) ::
  (82, 1, some oLand) :: (83, 2, some (oJs 6)) :: (85, 1, some (oIc 0)) :: (86, 2, some (oIs 8)) :: (88, 0, none) :: (88, 2, some (oIl 8)) ::
  (90, 1, some (oAl 0)) :: (91, 3, some (oGetI 1 8)) :: (94, 3, some (oCmGe 180)) :: (97, 2, some (oJl 6)) :: (99, 2, some (oIl 8)) :: (101, 1, some oLushr) ::
  (102, 1, some (oJc 0)) :: (103, 1, some oLcmp) :: (104, 3, some (oIfEq 180)) :: (107, 1, some (oAl 0)) :: (108, 3, some (oGetI 1 9)) :: (111, 3, some (oIc 200)) ::
  (114, 3, some (oCmGt 180)) :: (117, 2, some (oJl 6)) :: (119, 2, some (oIl 8)) :: (121, 1, some oLushr) :: (122, 1, some (oJc 1)) :: (123, 1, some oLand) ::
  (124, 1, some (oJc 0)) :: (125, 1, some oLcmp) :: (126, 3, some (oIfEq 174)) :: (129, 1, some (oAl 0)) :: (130, 3, some (oGetR [(49, 163976)])) :: (133, 2, some (oIl 8)) ::
  (135, 1, some oIald) :: (136, 1, some (oAl 0)) :: (137, 3, some (oGetI 1 12)) :: (140, 3, some (oCmGt 174)) :: (143, 1, some (oAl 0)) :: (144, 1, some (oJl 1)) ::
  (145, 2, some (oIl 8)) :: (147, 1, some oI2l) :: (148, 2, some (oIc 6)) :: (150, 1, some (oIl 3)) :: (151, 1, some oImul) :: (152, 1, some oLshl) ::
  (153, 1, some oLor) :: (154, 1, some (oIl 3)) :: (155, 1, some (oIc 1)) :: (156, 1, some oIadd) :: (157, 2, some (oIl 8)) :: (159, 2, some (oIl 5)) ::
  (161, 1, some (oIc 1)) :: (162, 1, some (oAl 0)) :: (163, 3, some (oGetR [(49, 163960)])) :: (166, 2, some (oIl 4)) :: (168, 1, some oIald) :: (169, 1, some oIshl) ::
  (170, 1, some oIor) :: (171, 3, some (oCV 1 mX1_extend 5)) :: (174, 3, some (oInc 8 1)) :: (177, 3, some (oGoto 88)) :: (180, 1, some oVret) :: []
set_option maxRecDepth 100000 in
set_option maxHeartbeats 4000000 in
theorem okX1_extend : CodeOk mX1_extend cdX1_extend := by
  refine ⟨by rfl, ?_⟩
  show CodeAll mX1_extend cdX1_extend
  refine ce_op (okAl1 (k := 0) (by decide +kernel) rfl) ?_
  refine ce_op (okGetR clX1 (k := 3) (x := 22) (by decide +kernel) (by decide) rfl wd166 rfl (by decide +kernel)) ?_
  refine ce_op (okIl2 (by decide +kernel)) ?_
  refine ce_op (okIald (by decide +kernel)) ?_
  refine ce_op (okAl1 (k := 0) (by decide +kernel) rfl) ?_
  refine ce_op (okGetI clX1 (k := 11) (x := 47) (by decide +kernel) (by decide) rfl wd174 (Or.inl rfl)) ?_
  refine ce_op (okCmNe (off := 15) (by decide +kernel) (by decide)) ?_
  refine ce_op (okIl1 (k := 3) (by decide +kernel) rfl) ?_
  refine ce_op (okIc1 (n := 2) (by decide +kernel) (by decide)) ?_
  refine ce_op (okCmLt (off := 9) (by decide +kernel) (by decide)) ?_
  refine ce_op (okAl1 (k := 0) (by decide +kernel) rfl) ?_
  refine ce_op (okJl1 (k := 1) (by decide +kernel) rfl) ?_
  refine ce_op (okIl1 (k := 3) (by decide +kernel) rfl) ?_
  refine ce_op (okCV miX1_keep (rV clX1 (x := 105) miX1_keep rfl (by decide +kernel) wd672 wd674 wd24)) ?_
  refine ce_op (okVret (by decide +kernel) rfl) ?_
  refine ce_op (okIl1 (k := 3) (by decide +kernel) rfl) ?_
  refine ce_op (okAl1 (k := 0) (by decide +kernel) rfl) ?_
  refine ce_op (okGetI clX1 (k := 10) (x := 44) (by decide +kernel) (by decide) rfl wd173 (Or.inl rfl)) ?_
  refine ce_op (okCmGe (off := 24) (by decide +kernel) (by decide)) ?_
  refine ce_op (okIl1 (k := 3) (by decide +kernel) rfl) ?_
  refine ce_op (okIc2 (n := 6) (by decide +kernel) (by decide)) ?_
  refine ce_op (okCmGe (off := 18) (by decide +kernel) (by decide)) ?_
  refine ce_op (okIl2 (by decide +kernel)) ?_
  refine ce_op (okAl1 (k := 0) (by decide +kernel) rfl) ?_
  refine ce_op (okGetR clX1 (k := 3) (x := 22) (by decide +kernel) (by decide) rfl wd166 rfl (by decide +kernel)) ?_
  refine ce_op (okIl2 (by decide +kernel)) ?_
  refine ce_op (okIald (by decide +kernel)) ?_
  refine ce_op (okIshr (by decide +kernel)) ?_
  refine ce_op (okIc1 (n := 1) (by decide +kernel) (by decide)) ?_
  refine ce_op (okIand (by decide +kernel)) ?_
  refine ce_op (okIfEq (off := 4) (by decide +kernel) (by decide)) ?_
  refine ce_op (okVret (by decide +kernel) rfl) ?_
  refine ce_op (okAl1 (k := 0) (by decide +kernel) rfl) ?_
  refine ce_op (okGetR clX1 (k := 6) (x := 31) (by decide +kernel) (by decide) rfl wd169 rfl (by decide +kernel)) ?_
  refine ce_op (okIl2 (by decide +kernel)) ?_
  refine ce_op (okJald (by decide +kernel)) ?_
  refine ce_op (okAl1 (k := 0) (by decide +kernel) rfl) ?_
  refine ce_op (okGetR clX1 (k := 7) (x := 34) (by decide +kernel) (by decide) rfl wd170 rfl (by decide +kernel)) ?_
  refine ce_op (okAl1 (k := 0) (by decide +kernel) rfl) ?_
  refine ce_op (okGetI clX1 (k := 11) (x := 47) (by decide +kernel) (by decide) rfl wd174 (Or.inl rfl)) ?_
  refine ce_op (okIc2 (n := 6) (by decide +kernel) (by decide)) ?_
  refine ce_op (okImul (by decide +kernel)) ?_
  refine ce_op (okAl1 (k := 0) (by decide +kernel) rfl) ?_
  refine ce_op (okGetI clX1 (k := 10) (x := 44) (by decide +kernel) (by decide) rfl wd173 (Or.inl rfl)) ?_
  refine ce_op (okIadd (by decide +kernel)) ?_
  refine ce_op (okIl1 (k := 3) (by decide +kernel) rfl) ?_
  refine ce_op (okIsub (by decide +kernel)) ?_
  refine ce_op (okJald (by decide +kernel)) ?_
  refine ce_op (okLand (by decide +kernel)) ?_
  refine ce_op (okJs2 (by decide +kernel) (by decide)) ?_
  refine ce_op (okIc1 (n := 0) (by decide +kernel) (by decide)) ?_
  refine ce_op (okIs2 (by decide +kernel) (by decide)) ?_
  refine ce_st ?_
  refine ce_op (okIl2 (by decide +kernel)) ?_
  refine ce_op (okAl1 (k := 0) (by decide +kernel) rfl) ?_
  refine ce_op (okGetI clX1 (k := 8) (x := 37) (by decide +kernel) (by decide) rfl wd171 (Or.inl rfl)) ?_
  refine ce_op (okCmGe (off := 86) (by decide +kernel) (by decide)) ?_
  refine ce_op (okJl2 (by decide +kernel)) ?_
  refine ce_op (okIl2 (by decide +kernel)) ?_
  refine ce_op (okLushr (by decide +kernel)) ?_
  refine ce_op (okJc1 (n := 0) (by decide +kernel) (by decide)) ?_
  refine ce_op (okLcmp (by decide +kernel)) ?_
  refine ce_op (okIfEq (off := 76) (by decide +kernel) (by decide)) ?_
  refine ce_op (okAl1 (k := 0) (by decide +kernel) rfl) ?_
  refine ce_op (okGetI clX1 (k := 9) (x := 41) (by decide +kernel) (by decide) rfl wd172 (Or.inl rfl)) ?_
  refine ce_op (okIc3 (n := 200) (by decide +kernel) (by decide)) ?_
  refine ce_op (okCmGt (off := 66) (by decide +kernel) (by decide)) ?_
  refine ce_op (okJl2 (by decide +kernel)) ?_
  refine ce_op (okIl2 (by decide +kernel)) ?_
  refine ce_op (okLushr (by decide +kernel)) ?_
  refine ce_op (okJc1 (n := 1) (by decide +kernel) (by decide)) ?_
  refine ce_op (okLand (by decide +kernel)) ?_
  refine ce_op (okJc1 (n := 0) (by decide +kernel) (by decide)) ?_
  refine ce_op (okLcmp (by decide +kernel)) ?_
  refine ce_op (okIfEq (off := 48) (by decide +kernel) (by decide)) ?_
  refine ce_op (okAl1 (k := 0) (by decide +kernel) rfl) ?_
  refine ce_op (okGetR clX1 (k := 4) (x := 25) (by decide +kernel) (by decide) rfl wd167 rfl (by decide +kernel)) ?_
  refine ce_op (okIl2 (by decide +kernel)) ?_
  refine ce_op (okIald (by decide +kernel)) ?_
  refine ce_op (okAl1 (k := 0) (by decide +kernel) rfl) ?_
  refine ce_op (okGetI clX1 (k := 12) (x := 50) (by decide +kernel) (by decide) rfl wd175 (Or.inl rfl)) ?_
  refine ce_op (okCmGt (off := 34) (by decide +kernel) (by decide)) ?_
  refine ce_op (okAl1 (k := 0) (by decide +kernel) rfl) ?_
  refine ce_op (okJl1 (k := 1) (by decide +kernel) rfl) ?_
  refine ce_op (okIl2 (by decide +kernel)) ?_
  refine ce_op (okI2l (by decide +kernel)) ?_
  refine ce_op (okIc2 (n := 6) (by decide +kernel) (by decide)) ?_
  refine ce_op (okIl1 (k := 3) (by decide +kernel) rfl) ?_
  refine ce_op (okImul (by decide +kernel)) ?_
  refine ce_op (okLshl (by decide +kernel)) ?_
  refine ce_op (okLor (by decide +kernel)) ?_
  refine ce_op (okIl1 (k := 3) (by decide +kernel) rfl) ?_
  refine ce_op (okIc1 (n := 1) (by decide +kernel) (by decide)) ?_
  refine ce_op (okIadd (by decide +kernel)) ?_
  refine ce_op (okIl2 (by decide +kernel)) ?_
  refine ce_op (okIl2 (by decide +kernel)) ?_
  refine ce_op (okIc1 (n := 1) (by decide +kernel) (by decide)) ?_
  refine ce_op (okAl1 (k := 0) (by decide +kernel) rfl) ?_
  refine ce_op (okGetR clX1 (k := 3) (x := 22) (by decide +kernel) (by decide) rfl wd166 rfl (by decide +kernel)) ?_
  refine ce_op (okIl2 (by decide +kernel)) ?_
  refine ce_op (okIald (by decide +kernel)) ?_
  refine ce_op (okIshl (by decide +kernel)) ?_
  refine ce_op (okIor (by decide +kernel)) ?_
  refine ce_op (okCV miX1_extend (rV clX1 (x := 101) miX1_extend rfl (by decide +kernel) wd668 wd670 wd23)) ?_
  refine ce_op (okInc (n := 1) (by decide +kernel) (by decide)) ?_
  refine ce_op (okGoto (off := (-89)) (by decide +kernel) (by decide)) ?_
  refine ce_op (okVret (by decide +kernel) rfl) ?_
  exact ce_nil
set_option maxRecDepth 100000 in
def cdX1_keep : List CE := (0, 1, some (oAl 0)) :: (1, 3, some (oGetI 1 9)) :: (4, 3, some (oIc 200)) :: (7, 3, some (oCmGe 30)) :: (10, 1, some (oAl 0)) :: (11, 3, some (oGetR [(49, 819273)])) ::
  (14, 1, some (oAl 0)) :: (15, 3, some (oGetI 1 9)) :: (18, 1, some (oJl 1)) :: (19, 1, some oJast) :: (20, 1, some (oAl 0)) :: (21, 3, some (oGetR [(49, 819288)])) ::
  (24, 1, some (oAl 0)) :: (25, 3, some (oGetI 1 9)) :: (28, 1, some (oIl 3)) :: (29, 1, some oIast) :: (30, 1, some (oAl 0)) :: (31, 1, some oDup) ::
  (32, 3, some (oGetI 1 9)) :: (35, 1, some (oIc 1)) :: (36, 1, some oIadd) :: (37, 3, some (oPutI 1 9)) :: (40, 1, some oVret) :: []
set_option maxRecDepth 100000 in
set_option maxHeartbeats 4000000 in
theorem okX1_keep : CodeOk mX1_keep cdX1_keep := by
  refine ⟨by rfl, ?_⟩
  show CodeAll mX1_keep cdX1_keep
  refine ce_op (okAl1 (k := 0) (by decide +kernel) rfl) ?_
  refine ce_op (okGetI clX1 (k := 9) (x := 41) (by decide +kernel) (by decide) rfl wd172 (Or.inl rfl)) ?_
  refine ce_op (okIc3 (n := 200) (by decide +kernel) (by decide)) ?_
  refine ce_op (okCmGe (off := 23) (by decide +kernel) (by decide)) ?_
  refine ce_op (okAl1 (k := 0) (by decide +kernel) rfl) ?_
  refine ce_op (okGetR clX1 (k := 0) (x := 9) (by decide +kernel) (by decide) rfl wd161 rfl (by decide +kernel)) ?_
  refine ce_op (okAl1 (k := 0) (by decide +kernel) rfl) ?_
  refine ce_op (okGetI clX1 (k := 9) (x := 41) (by decide +kernel) (by decide) rfl wd172 (Or.inl rfl)) ?_
  refine ce_op (okJl1 (k := 1) (by decide +kernel) rfl) ?_
  refine ce_op (okJast (by decide +kernel)) ?_
  refine ce_op (okAl1 (k := 0) (by decide +kernel) rfl) ?_
  refine ce_op (okGetR clX1 (k := 1) (x := 15) (by decide +kernel) (by decide) rfl wd163 rfl (by decide +kernel)) ?_
  refine ce_op (okAl1 (k := 0) (by decide +kernel) rfl) ?_
  refine ce_op (okGetI clX1 (k := 9) (x := 41) (by decide +kernel) (by decide) rfl wd172 (Or.inl rfl)) ?_
  refine ce_op (okIl1 (k := 3) (by decide +kernel) rfl) ?_
  refine ce_op (okIast (by decide +kernel)) ?_
  refine ce_op (okAl1 (k := 0) (by decide +kernel) rfl) ?_
  refine ce_op (okDup (by decide +kernel)) ?_
  refine ce_op (okGetI clX1 (k := 9) (x := 41) (by decide +kernel) (by decide) rfl wd172 (Or.inl rfl)) ?_
  refine ce_op (okIc1 (n := 1) (by decide +kernel) (by decide)) ?_
  refine ce_op (okIadd (by decide +kernel)) ?_
  refine ce_op (okPutI clX1 (k := 9) (x := 41) (by decide +kernel) (by decide) rfl wd172 rfl rfl (by decide +kernel)) ?_
  refine ce_op (okVret (by decide +kernel) rfl) ?_
  exact ce_nil
set_option maxRecDepth 100000 in
def cdX2_has : List CE := (0, 1, some (oIl 1)) :: (1, 3, some (oIfLt 16)) :: (4, 1, some (oIl 1)) :: (5, 1, some (oAl 0)) :: (6, 3, some (oGetI 2 1)) :: (9, 3, some (oCmGe 16)) ::
  (12, 1, some (oIc 1)) :: (13, 3, some (oGoto 17)) :: (16, 1, some (oIc 0)) :: (17, 1, some oZret) :: []
set_option maxRecDepth 100000 in
set_option maxHeartbeats 4000000 in
theorem okX2_has : CodeOk mX2_has cdX2_has := by
  refine ⟨by rfl, ?_⟩
  show CodeAll mX2_has cdX2_has
  refine ce_op (okIl1 (k := 1) (by decide +kernel) rfl) ?_
  refine ce_op (okIfLt (off := 15) (by decide +kernel) (by decide)) ?_
  refine ce_op (okIl1 (k := 1) (by decide +kernel) rfl) ?_
  refine ce_op (okAl1 (k := 0) (by decide +kernel) rfl) ?_
  refine ce_op (okGetI clX2 (k := 1) (x := 15) (by decide +kernel) (by decide) rfl wd270 (Or.inl rfl)) ?_
  refine ce_op (okCmGe (off := 7) (by decide +kernel) (by decide)) ?_
  refine ce_op (okIc1 (n := 1) (by decide +kernel) (by decide)) ?_
  refine ce_op (okGoto (off := 4) (by decide +kernel) (by decide)) ?_
  refine ce_op (okIc1 (n := 0) (by decide +kernel) (by decide)) ?_
  refine ce_op (okZret (by decide +kernel) rfl) ?_
  exact ce_nil
set_option maxRecDepth 100000 in
def cdX2_find : List CE := (0, 1, some (oIc 0)) :: (1, 1, some (oIs 2)) :: (2, 0, none) :: (2, 1, some (oIl 2)) :: (3, 1, some (oAl 0)) :: (4, 3, some (oGetI 2 1)) ::
  (7, 3, some (oCmGe 28)) :: (10, 1, some (oAl 0)) :: (11, 3, some (oGetR [(354, 49528), (386, 49560), (418, 49592), (738, 49912), (770, 49944), (802, 49976)])) :: (14, 1, some (oIl 2)) :: (15, 1, some oIald) :: (16, 1, some (oIl 1)) ::
  (17, 3, some (oCmNe 22)) :: (20, 1, some (oIl 2)) :: (21, 1, some oIret) :: (22, 3, some (oInc 2 1)) :: (25, 3, some (oGoto 2)) :: (28, 1, some (oIc (-1))) ::
  (29, 1, some oIret) :: []
set_option maxRecDepth 100000 in
set_option maxHeartbeats 4000000 in
theorem okX2_find : CodeOk mX2_find cdX2_find := by
  refine ⟨by rfl, ?_⟩
  show CodeAll mX2_find cdX2_find
  refine ce_op (okIc1 (n := 0) (by decide +kernel) (by decide)) ?_
  refine ce_op (okIs1 (k := 2) (by decide +kernel) rfl (by decide)) ?_
  refine ce_st ?_
  refine ce_op (okIl1 (k := 2) (by decide +kernel) rfl) ?_
  refine ce_op (okAl1 (k := 0) (by decide +kernel) rfl) ?_
  refine ce_op (okGetI clX2 (k := 1) (x := 15) (by decide +kernel) (by decide) rfl wd270 (Or.inl rfl)) ?_
  refine ce_op (okCmGe (off := 21) (by decide +kernel) (by decide)) ?_
  refine ce_op (okAl1 (k := 0) (by decide +kernel) rfl) ?_
  refine ce_op (okGetR clX2 (k := 0) (x := 9) (by decide +kernel) (by decide) rfl wd269 rfl (by decide +kernel)) ?_
  refine ce_op (okIl1 (k := 2) (by decide +kernel) rfl) ?_
  refine ce_op (okIald (by decide +kernel)) ?_
  refine ce_op (okIl1 (k := 1) (by decide +kernel) rfl) ?_
  refine ce_op (okCmNe (off := 5) (by decide +kernel) (by decide)) ?_
  refine ce_op (okIl1 (k := 2) (by decide +kernel) rfl) ?_
  refine ce_op (okIret (by decide +kernel) rfl) ?_
  refine ce_op (okInc (n := 1) (by decide +kernel) (by decide)) ?_
  refine ce_op (okGoto (off := (-23)) (by decide +kernel) (by decide)) ?_
  refine ce_op (okIc1 (n := (-1)) (by decide +kernel) (by decide)) ?_
  refine ce_op (okIret (by decide +kernel) rfl) ?_
  exact ce_nil
set_option maxRecDepth 100000 in
def cdX2_add : List CE := (0, 1, some (oAl 0)) :: (1, 3, some (oGetI 2 1)) :: (4, 2, some (oIc 12)) :: (6, 3, some (oCmLt 11)) :: (9, 1, some (oIc (-1))) :: (10, 1, some oIret) ::
  (11, 1, some (oAl 0)) :: (12, 3, some (oGetR [(354, 49528), (386, 49560), (418, 49592), (738, 49912), (770, 49944), (802, 49976)])) :: (15, 1, some (oAl 0)) :: (16, 3, some (oGetI 2 1)) :: (19, 1, some (oIl 1)) :: (20, 1, some oIast) ::
  (21, 1, some (oAl 0)) :: (22, 1, some oDup) :: (23, 3, some (oGetI 2 1)) :: (26, 1, some (oIc 1)) :: (27, 1, some oIadd) :: (28, 3, some (oPutI 2 1)) ::
  (31, 1, some (oAl 0)) :: (32, 3, some (oGetI 2 1)) :: (35, 1, some (oIc 1)) :: (36, 1, some oIsub) :: (37, 1, some oIret) :: []
set_option maxRecDepth 100000 in
set_option maxHeartbeats 4000000 in
theorem okX2_add : CodeOk mX2_add cdX2_add := by
  refine ⟨by rfl, ?_⟩
  show CodeAll mX2_add cdX2_add
  refine ce_op (okAl1 (k := 0) (by decide +kernel) rfl) ?_
  refine ce_op (okGetI clX2 (k := 1) (x := 15) (by decide +kernel) (by decide) rfl wd270 (Or.inl rfl)) ?_
  refine ce_op (okIc2 (n := 12) (by decide +kernel) (by decide)) ?_
  refine ce_op (okCmLt (off := 5) (by decide +kernel) (by decide)) ?_
  refine ce_op (okIc1 (n := (-1)) (by decide +kernel) (by decide)) ?_
  refine ce_op (okIret (by decide +kernel) rfl) ?_
  refine ce_op (okAl1 (k := 0) (by decide +kernel) rfl) ?_
  refine ce_op (okGetR clX2 (k := 0) (x := 9) (by decide +kernel) (by decide) rfl wd269 rfl (by decide +kernel)) ?_
  refine ce_op (okAl1 (k := 0) (by decide +kernel) rfl) ?_
  refine ce_op (okGetI clX2 (k := 1) (x := 15) (by decide +kernel) (by decide) rfl wd270 (Or.inl rfl)) ?_
  refine ce_op (okIl1 (k := 1) (by decide +kernel) rfl) ?_
  refine ce_op (okIast (by decide +kernel)) ?_
  refine ce_op (okAl1 (k := 0) (by decide +kernel) rfl) ?_
  refine ce_op (okDup (by decide +kernel)) ?_
  refine ce_op (okGetI clX2 (k := 1) (x := 15) (by decide +kernel) (by decide) rfl wd270 (Or.inl rfl)) ?_
  refine ce_op (okIc1 (n := 1) (by decide +kernel) (by decide)) ?_
  refine ce_op (okIadd (by decide +kernel)) ?_
  refine ce_op (okPutI clX2 (k := 1) (x := 15) (by decide +kernel) (by decide) rfl wd270 rfl rfl (by decide +kernel)) ?_
  refine ce_op (okAl1 (k := 0) (by decide +kernel) rfl) ?_
  refine ce_op (okGetI clX2 (k := 1) (x := 15) (by decide +kernel) (by decide) rfl wd270 (Or.inl rfl)) ?_
  refine ce_op (okIc1 (n := 1) (by decide +kernel) (by decide)) ?_
  refine ce_op (okIsub (by decide +kernel)) ?_
  refine ce_op (okIret (by decide +kernel) rfl) ?_
  exact ce_nil
set_option maxRecDepth 100000 in
def cdX3_hasSpace : List CE := (0, 1, some (oAl 0)) :: (1, 3, some (oGetI 3 1)) :: (4, 1, some (oIl 1)) :: (5, 1, some oIadd) :: (6, 3, some (oIc 800)) :: (9, 3, some (oCmGt 16)) ::
  (12, 1, some (oIc 1)) :: (13, 3, some (oGoto 17)) :: (16, 1, some (oIc 0)) :: (17, 1, some oZret) :: []
set_option maxRecDepth 100000 in
set_option maxHeartbeats 4000000 in
theorem okX3_hasSpace : CodeOk mX3_hasSpace cdX3_hasSpace := by
  refine ⟨by rfl, ?_⟩
  show CodeAll mX3_hasSpace cdX3_hasSpace
  refine ce_op (okAl1 (k := 0) (by decide +kernel) rfl) ?_
  refine ce_op (okGetI clX3 (k := 1) (x := 15) (by decide +kernel) (by decide) rfl wd124 (Or.inl rfl)) ?_
  refine ce_op (okIl1 (k := 1) (by decide +kernel) rfl) ?_
  refine ce_op (okIadd (by decide +kernel)) ?_
  refine ce_op (okIc3 (n := 800) (by decide +kernel) (by decide)) ?_
  refine ce_op (okCmGt (off := 7) (by decide +kernel) (by decide)) ?_
  refine ce_op (okIc1 (n := 1) (by decide +kernel) (by decide)) ?_
  refine ce_op (okGoto (off := 4) (by decide +kernel) (by decide)) ?_
  refine ce_op (okIc1 (n := 0) (by decide +kernel) (by decide)) ?_
  refine ce_op (okZret (by decide +kernel) rfl) ?_
  exact ce_nil
set_option maxRecDepth 100000 in
def cdX3_push : List CE := (0, 1, some (oAl 0)) :: (1, 1, some (oIc 4)) :: (2, 3, some (oCI 3 mX3_hasSpace 2)) :: (5, 3, some (oIfEq 77)) :: (8, 1, some (oAl 0)) :: (9, 3, some (oGetR [(19, 3276842)])) ::
  (12, 1, some (oAl 0)) :: (13, 3, some (oGetI 3 1)) :: (16, 1, some (oIl 1)) :: (17, 2, some (oIc 24)) :: (19, 1, some oIshr) :: (20, 1, some oI2b) ::
  (21, 1, some oBast) :: (22, 1, some (oAl 0)) :: (23, 3, some (oGetR [(19, 3276842)])) :: (26, 1, some (oAl 0)) :: (27, 3, some (oGetI 3 1)) :: (30, 1, some (oIc 1)) ::
  (31, 1, some oIadd) :: (32, 1, some (oIl 1)) :: (33, 2, some (oIc 16)) :: (35, 1, some oIshr) :: (36, 1, some oI2b) :: (37, 1, some oBast) ::
  (38, 1, some (oAl 0)) :: (39, 3, some (oGetR [(19, 3276842)])) :: (42, 1, some (oAl 0)) :: (43, 3, some (oGetI 3 1)) :: (46, 1, some (oIc 2)) :: (47, 1, some oIadd) ::
  (48, 1, some (oIl 1)) :: (49, 2, some (oIc 8)) :: (51, 1, some oIshr) :: (52, 1, some oI2b) :: (53, 1, some oBast) :: (54, 1, some (oAl 0)) ::
  (55, 3, some (oGetR [(19, 3276842)])) :: (58, 1, some (oAl 0)) :: (59, 3, some (oGetI 3 1)) :: (62, 1, some (oIc 3)) :: (63, 1, some oIadd) :: (64, 1, some (oIl 1)) ::
  (65, 1, some oI2b) :: (66, 1, some oBast) :: (67, 1, some (oAl 0)) :: (68, 1, some oDup) :: (69, 3, some (oGetI 3 1)) :: (72, 1, some (oIc 4)) ::
  (73, 1, some oIadd) :: (74, 3, some (oPutI 3 1)) :: (77, 1, some oVret) :: []
set_option maxRecDepth 100000 in
set_option maxHeartbeats 4000000 in
theorem okX3_push : CodeOk mX3_push cdX3_push := by
  refine ⟨by rfl, ?_⟩
  show CodeAll mX3_push cdX3_push
  refine ce_op (okAl1 (k := 0) (by decide +kernel) rfl) ?_
  refine ce_op (okIc1 (n := 4) (by decide +kernel) (by decide)) ?_
  refine ce_op (okCI miX3_hasSpace (rV clX3 (x := 40) miX3_hasSpace rfl (by decide +kernel) wd447 wd440 wd441)) ?_
  refine ce_op (okIfEq (off := 72) (by decide +kernel) (by decide)) ?_
  refine ce_op (okAl1 (k := 0) (by decide +kernel) rfl) ?_
  refine ce_op (okGetR clX3 (k := 0) (x := 9) (by decide +kernel) (by decide) rfl wd123 rfl (by decide +kernel)) ?_
  refine ce_op (okAl1 (k := 0) (by decide +kernel) rfl) ?_
  refine ce_op (okGetI clX3 (k := 1) (x := 15) (by decide +kernel) (by decide) rfl wd124 (Or.inl rfl)) ?_
  refine ce_op (okIl1 (k := 1) (by decide +kernel) rfl) ?_
  refine ce_op (okIc2 (n := 24) (by decide +kernel) (by decide)) ?_
  refine ce_op (okIshr (by decide +kernel)) ?_
  refine ce_op (okI2b (by decide +kernel)) ?_
  refine ce_op (okBast (by decide +kernel)) ?_
  refine ce_op (okAl1 (k := 0) (by decide +kernel) rfl) ?_
  refine ce_op (okGetR clX3 (k := 0) (x := 9) (by decide +kernel) (by decide) rfl wd123 rfl (by decide +kernel)) ?_
  refine ce_op (okAl1 (k := 0) (by decide +kernel) rfl) ?_
  refine ce_op (okGetI clX3 (k := 1) (x := 15) (by decide +kernel) (by decide) rfl wd124 (Or.inl rfl)) ?_
  refine ce_op (okIc1 (n := 1) (by decide +kernel) (by decide)) ?_
  refine ce_op (okIadd (by decide +kernel)) ?_
  refine ce_op (okIl1 (k := 1) (by decide +kernel) rfl) ?_
  refine ce_op (okIc2 (n := 16) (by decide +kernel) (by decide)) ?_
  refine ce_op (okIshr (by decide +kernel)) ?_
  refine ce_op (okI2b (by decide +kernel)) ?_
  refine ce_op (okBast (by decide +kernel)) ?_
  refine ce_op (okAl1 (k := 0) (by decide +kernel) rfl) ?_
  refine ce_op (okGetR clX3 (k := 0) (x := 9) (by decide +kernel) (by decide) rfl wd123 rfl (by decide +kernel)) ?_
  refine ce_op (okAl1 (k := 0) (by decide +kernel) rfl) ?_
  refine ce_op (okGetI clX3 (k := 1) (x := 15) (by decide +kernel) (by decide) rfl wd124 (Or.inl rfl)) ?_
  refine ce_op (okIc1 (n := 2) (by decide +kernel) (by decide)) ?_
  refine ce_op (okIadd (by decide +kernel)) ?_
  refine ce_op (okIl1 (k := 1) (by decide +kernel) rfl) ?_
  refine ce_op (okIc2 (n := 8) (by decide +kernel) (by decide)) ?_
  refine ce_op (okIshr (by decide +kernel)) ?_
  refine ce_op (okI2b (by decide +kernel)) ?_
  refine ce_op (okBast (by decide +kernel)) ?_
  refine ce_op (okAl1 (k := 0) (by decide +kernel) rfl) ?_
  refine ce_op (okGetR clX3 (k := 0) (x := 9) (by decide +kernel) (by decide) rfl wd123 rfl (by decide +kernel)) ?_
  refine ce_op (okAl1 (k := 0) (by decide +kernel) rfl) ?_
  refine ce_op (okGetI clX3 (k := 1) (x := 15) (by decide +kernel) (by decide) rfl wd124 (Or.inl rfl)) ?_
  refine ce_op (okIc1 (n := 3) (by decide +kernel) (by decide)) ?_
  refine ce_op (okIadd (by decide +kernel)) ?_
  refine ce_op (okIl1 (k := 1) (by decide +kernel) rfl) ?_
  refine ce_op (okI2b (by decide +kernel)) ?_
  refine ce_op (okBast (by decide +kernel)) ?_
  refine ce_op (okAl1 (k := 0) (by decide +kernel) rfl) ?_
  refine ce_op (okDup (by decide +kernel)) ?_
  refine ce_op (okGetI clX3 (k := 1) (x := 15) (by decide +kernel) (by decide) rfl wd124 (Or.inl rfl)) ?_
  refine ce_op (okIc1 (n := 4) (by decide +kernel) (by decide)) ?_
  refine ce_op (okIadd (by decide +kernel)) ?_
  refine ce_op (okPutI clX3 (k := 1) (x := 15) (by decide +kernel) (by decide) rfl wd124 rfl rfl (by decide +kernel)) ?_
  refine ce_op (okVret (by decide +kernel) rfl) ?_
  exact ce_nil
set_option maxRecDepth 100000 in
def cdX3_read : List CE := (0, 1, some (oAl 0)) :: (1, 1, some (oIl 1)) :: (2, 1, some (oAl 0)) :: (3, 3, some (oGetI 3 1)) :: (6, 3, some oMin) :: (9, 3, some (oPutI 3 4)) ::
  (12, 1, some (oAl 0)) :: (13, 1, some (oIc 0)) :: (14, 3, some (oPutI 3 1)) :: (17, 1, some (oAl 0)) :: (18, 1, some (oIc 0)) :: (19, 3, some (oPutI 3 5)) ::
  (22, 1, some (oAl 0)) :: (23, 1, some (oIc 0)) :: (24, 3, some (oPutI 3 2)) :: (27, 1, some (oAl 0)) :: (28, 1, some (oIc (-1))) :: (29, 3, some (oPutI 3 3)) ::
  (32, 1, some (oAl 0)) :: (33, 3, some (oCV 3 mX3_advance 1)) :: (36, 1, some (oIc 0)) :: (37, 1, some (oIs 3)) :: (38, 1, some (oIc 1)) :: (39, 2, some (oIs 4)) ::
  (41, 0, none) :: (41, 1, some (oIl 3)) :: (42, 3, some (oIc 800)) :: (45, 3, some (oCmGe 266)) :: (48, 2, some (oIl 4)) :: (50, 3, some (oIfEq 266)) ::
  (53, 1, some (oAl 0)) :: (54, 3, some (oGetI 3 6)) :: (57, 3, some (oIfEq 266)) :: (60, 1, some (oAl 0)) :: (61, 3, some (oGetI 3 6)) :: (64, 1, some (oIc 1)) ::
  (65, 3, some (oCmNe 75)) :: (68, 1, some (oAl 0)) :: (69, 3, some (oGetI 3 8)) :: (72, 3, some (oGoto 76)) :: (75, 1, some (oIc 0)) :: (76, 52, some (oSw [(211366912, 178), (251105280, 153), (404164608, 128), (538218496, 228), (638981120, 203)] 253)) ::
  (128, 1, some (oAl 0)) :: (129, 1, some (oAl 2)) :: (130, 3, some (oCI 3 mX3_readLand 2)) :: (133, 3, some (oIfEq 147)) :: (136, 1, some (oAl 0)) :: (137, 3, some (oCI 3 mX3_lineEnds 1)) ::
  (140, 3, some (oIfEq 147)) :: (143, 1, some (oIc 1)) :: (144, 3, some (oGoto 148)) :: (147, 1, some (oIc 0)) :: (148, 2, some (oIs 4)) :: (150, 3, some (oGoto 260)) ::
  (153, 1, some (oAl 0)) :: (154, 1, some (oAl 2)) :: (155, 3, some (oCI 3 mX3_readGood 2)) :: (158, 3, some (oIfEq 172)) :: (161, 1, some (oAl 0)) :: (162, 3, some (oCI 3 mX3_lineEnds 1)) ::
  (165, 3, some (oIfEq 172)) :: (168, 1, some (oIc 1)) :: (169, 3, some (oGoto 173)) :: (172, 1, some (oIc 0)) :: (173, 2, some (oIs 4)) :: (175, 3, some (oGoto 260)) ::
  (178, 1, some (oAl 0)) :: (179, 1, some (oAl 2)) :: (180, 3, some (oCI 3 mX3_readFirm 2)) :: (183, 3, some (oIfEq 197)) :: (186, 1, some (oAl 0)) :: (187, 3, some (oCI 3 mX3_lineEnds 1)) ::
  (190, 3, some (oIfEq 197)) :: (193, 1, some (oIc 1)) :: (194, 3, some (oGoto 198)) :: (197, 1, some (oIc 0)) :: (198, 2, some (oIs 4)) :: (200, 3, some (oGoto 260)) ::
  (203, 1, some (oAl 0)) :: (204, 1, some (oAl 2)) :: (205, 3, some (oCI 3 mX3_readSale 2)) :: (208, 3, some (oIfEq 222)) :: (211, 1, some (oAl 0)) :: (212, 3, some (oCI 3 mX3_lineEnds 1)) ::
  (215, 3, some (oIfEq 222)) :: (218, 1, some (oIc 1)) :: (219, 3, some (oGoto 223)) :: (222, 1, some (oIc 0)) :: (223, 2, some (oIs 4)) :: (225, 3, some (oGoto 260)) ::
  (228, 1, some (oAl 0)) :: (229, 1, some (oAl 2)) :: (230, 3, some (oCI 3 mX3_readPaid 2)) :: (233, 3, some (oIfEq 247)) :: (236, 1, some (oAl 0)) :: (237, 3, some (oCI 3 mX3_lineEnds 1)) ::
  (240, 3, some (oIfEq 247)) :: (243, 1, some (oIc 1)) :: (244, 3, some (oGoto 248)) :: (247, 1, some (oIc 0)) :: (248, 2, some (oIs 4)) :: (250, 3, some (oGoto 260)) ::
  (253, 1, some (oAl 0)) :: (254, 1, some (oIc 1)) :: (255, 3, some (oCI 3 mX3_fail 2)) :: (258, 2, some (oIs 4)) :: (260, 3, some (oInc 3 1)) :: (263, 3, some (oGoto 41)) ::
  (266, 2, some (oIl 4)) :: (268, 3, some (oIfEq 275)) :: (271, 1, some (oIl 3)) :: (272, 3, some (oGoto 276)) :: (275, 1, some (oIc (-1))) :: (276, 1, some oIret) :: []
set_option maxRecDepth 100000 in
set_option maxHeartbeats 4000000 in
theorem okX3_read : CodeOk mX3_read cdX3_read := by
  refine ⟨by rfl, ?_⟩
  show CodeAll mX3_read cdX3_read
  refine ce_op (okAl1 (k := 0) (by decide +kernel) rfl) ?_
  refine ce_op (okIl1 (k := 1) (by decide +kernel) rfl) ?_
  refine ce_op (okAl1 (k := 0) (by decide +kernel) rfl) ?_
  refine ce_op (okGetI clX3 (k := 1) (x := 15) (by decide +kernel) (by decide) rfl wd124 (Or.inl rfl)) ?_
  refine ce_op (okMin (x := 44) (by decide +kernel) wd460 wd461 wd98 wd462) ?_
  refine ce_op (okPutI clX3 (k := 4) (x := 25) (by decide +kernel) (by decide) rfl wd130 rfl rfl (by decide +kernel)) ?_
  refine ce_op (okAl1 (k := 0) (by decide +kernel) rfl) ?_
  refine ce_op (okIc1 (n := 0) (by decide +kernel) (by decide)) ?_
  refine ce_op (okPutI clX3 (k := 1) (x := 15) (by decide +kernel) (by decide) rfl wd124 rfl rfl (by decide +kernel)) ?_
  refine ce_op (okAl1 (k := 0) (by decide +kernel) rfl) ?_
  refine ce_op (okIc1 (n := 0) (by decide +kernel) (by decide)) ?_
  refine ce_op (okPutI clX3 (k := 5) (x := 28) (by decide +kernel) (by decide) rfl wd131 rfl rfl (by decide +kernel)) ?_
  refine ce_op (okAl1 (k := 0) (by decide +kernel) rfl) ?_
  refine ce_op (okIc1 (n := 0) (by decide +kernel) (by decide)) ?_
  refine ce_op (okPutI clX3 (k := 2) (x := 19) (by decide +kernel) (by decide) rfl wd126 rfl rfl (by decide +kernel)) ?_
  refine ce_op (okAl1 (k := 0) (by decide +kernel) rfl) ?_
  refine ce_op (okIc1 (n := (-1)) (by decide +kernel) (by decide)) ?_
  refine ce_op (okPutI clX3 (k := 3) (x := 22) (by decide +kernel) (by decide) rfl wd128 rfl rfl (by decide +kernel)) ?_
  refine ce_op (okAl1 (k := 0) (by decide +kernel) rfl) ?_
  refine ce_op (okCV miX3_advance (rV clX3 (x := 50) miX3_advance rfl (by decide +kernel) wd463 wd465 wd0)) ?_
  refine ce_op (okIc1 (n := 0) (by decide +kernel) (by decide)) ?_
  refine ce_op (okIs1 (k := 3) (by decide +kernel) rfl (by decide)) ?_
  refine ce_op (okIc1 (n := 1) (by decide +kernel) (by decide)) ?_
  refine ce_op (okIs2 (by decide +kernel) (by decide)) ?_
  refine ce_st ?_
  refine ce_op (okIl1 (k := 3) (by decide +kernel) rfl) ?_
  refine ce_op (okIc3 (n := 800) (by decide +kernel) (by decide)) ?_
  refine ce_op (okCmGe (off := 221) (by decide +kernel) (by decide)) ?_
  refine ce_op (okIl2 (by decide +kernel)) ?_
  refine ce_op (okIfEq (off := 216) (by decide +kernel) (by decide)) ?_
  refine ce_op (okAl1 (k := 0) (by decide +kernel) rfl) ?_
  refine ce_op (okGetI clX3 (k := 6) (x := 31) (by decide +kernel) (by decide) rfl wd132 (Or.inl rfl)) ?_
  refine ce_op (okIfEq (off := 209) (by decide +kernel) (by decide)) ?_
  refine ce_op (okAl1 (k := 0) (by decide +kernel) rfl) ?_
  refine ce_op (okGetI clX3 (k := 6) (x := 31) (by decide +kernel) (by decide) rfl wd132 (Or.inl rfl)) ?_
  refine ce_op (okIc1 (n := 1) (by decide +kernel) (by decide)) ?_
  refine ce_op (okCmNe (off := 10) (by decide +kernel) (by decide)) ?_
  refine ce_op (okAl1 (k := 0) (by decide +kernel) rfl) ?_
  refine ce_op (okGetI clX3 (k := 8) (x := 37) (by decide +kernel) (by decide) rfl wd134 (Or.inl rfl)) ?_
  refine ce_op (okGoto (off := 4) (by decide +kernel) (by decide)) ?_
  refine ce_op (okIc1 (n := 0) (by decide +kernel) (by decide)) ?_
  refine ce_op (okLsw (dO := 177) (ps := #[(211366912, 102), (251105280, 77), (404164608, 52), (538218496, 152), (638981120, 127)]) (by decide +kernel) (by decide) (by decide +kernel) (by decide +kernel)) ?_
  refine ce_op (okAl1 (k := 0) (by decide +kernel) rfl) ?_
  refine ce_op (okAl1 (k := 2) (by decide +kernel) rfl) ?_
  refine ce_op (okCI miX3_readLand (rV clX3 (x := 53) miX3_readLand rfl (by decide +kernel) wd482 wd484 wd3)) ?_
  refine ce_op (okIfEq (off := 14) (by decide +kernel) (by decide)) ?_
  refine ce_op (okAl1 (k := 0) (by decide +kernel) rfl) ?_
  refine ce_op (okCI miX3_lineEnds (rV clX3 (x := 57) miX3_lineEnds rfl (by decide +kernel) wd512 wd514 wd7)) ?_
  refine ce_op (okIfEq (off := 7) (by decide +kernel) (by decide)) ?_
  refine ce_op (okIc1 (n := 1) (by decide +kernel) (by decide)) ?_
  refine ce_op (okGoto (off := 4) (by decide +kernel) (by decide)) ?_
  refine ce_op (okIc1 (n := 0) (by decide +kernel) (by decide)) ?_
  refine ce_op (okIs2 (by decide +kernel) (by decide)) ?_
  refine ce_op (okGoto (off := 110) (by decide +kernel) (by decide)) ?_
  refine ce_op (okAl1 (k := 0) (by decide +kernel) rfl) ?_
  refine ce_op (okAl1 (k := 2) (by decide +kernel) rfl) ?_
  refine ce_op (okCI miX3_readGood (rV clX3 (x := 61) miX3_readGood rfl (by decide +kernel) wd516 wd518 wd8)) ?_
  refine ce_op (okIfEq (off := 14) (by decide +kernel) (by decide)) ?_
  refine ce_op (okAl1 (k := 0) (by decide +kernel) rfl) ?_
  refine ce_op (okCI miX3_lineEnds (rV clX3 (x := 57) miX3_lineEnds rfl (by decide +kernel) wd512 wd514 wd7)) ?_
  refine ce_op (okIfEq (off := 7) (by decide +kernel) (by decide)) ?_
  refine ce_op (okIc1 (n := 1) (by decide +kernel) (by decide)) ?_
  refine ce_op (okGoto (off := 4) (by decide +kernel) (by decide)) ?_
  refine ce_op (okIc1 (n := 0) (by decide +kernel) (by decide)) ?_
  refine ce_op (okIs2 (by decide +kernel) (by decide)) ?_
  refine ce_op (okGoto (off := 85) (by decide +kernel) (by decide)) ?_
  refine ce_op (okAl1 (k := 0) (by decide +kernel) rfl) ?_
  refine ce_op (okAl1 (k := 2) (by decide +kernel) rfl) ?_
  refine ce_op (okCI miX3_readFirm (rV clX3 (x := 64) miX3_readFirm rfl (by decide +kernel) wd520 wd522 wd9)) ?_
  refine ce_op (okIfEq (off := 14) (by decide +kernel) (by decide)) ?_
  refine ce_op (okAl1 (k := 0) (by decide +kernel) rfl) ?_
  refine ce_op (okCI miX3_lineEnds (rV clX3 (x := 57) miX3_lineEnds rfl (by decide +kernel) wd512 wd514 wd7)) ?_
  refine ce_op (okIfEq (off := 7) (by decide +kernel) (by decide)) ?_
  refine ce_op (okIc1 (n := 1) (by decide +kernel) (by decide)) ?_
  refine ce_op (okGoto (off := 4) (by decide +kernel) (by decide)) ?_
  refine ce_op (okIc1 (n := 0) (by decide +kernel) (by decide)) ?_
  refine ce_op (okIs2 (by decide +kernel) (by decide)) ?_
  refine ce_op (okGoto (off := 60) (by decide +kernel) (by decide)) ?_
  refine ce_op (okAl1 (k := 0) (by decide +kernel) rfl) ?_
  refine ce_op (okAl1 (k := 2) (by decide +kernel) rfl) ?_
  refine ce_op (okCI miX3_readSale (rV clX3 (x := 67) miX3_readSale rfl (by decide +kernel) wd539 wd541 wd12)) ?_
  refine ce_op (okIfEq (off := 14) (by decide +kernel) (by decide)) ?_
  refine ce_op (okAl1 (k := 0) (by decide +kernel) rfl) ?_
  refine ce_op (okCI miX3_lineEnds (rV clX3 (x := 57) miX3_lineEnds rfl (by decide +kernel) wd512 wd514 wd7)) ?_
  refine ce_op (okIfEq (off := 7) (by decide +kernel) (by decide)) ?_
  refine ce_op (okIc1 (n := 1) (by decide +kernel) (by decide)) ?_
  refine ce_op (okGoto (off := 4) (by decide +kernel) (by decide)) ?_
  refine ce_op (okIc1 (n := 0) (by decide +kernel) (by decide)) ?_
  refine ce_op (okIs2 (by decide +kernel) (by decide)) ?_
  refine ce_op (okGoto (off := 35) (by decide +kernel) (by decide)) ?_
  refine ce_op (okAl1 (k := 0) (by decide +kernel) rfl) ?_
  refine ce_op (okAl1 (k := 2) (by decide +kernel) rfl) ?_
  refine ce_op (okCI miX3_readPaid (rV clX3 (x := 70) miX3_readPaid rfl (by decide +kernel) wd564 wd566 wd15)) ?_
  refine ce_op (okIfEq (off := 14) (by decide +kernel) (by decide)) ?_
  refine ce_op (okAl1 (k := 0) (by decide +kernel) rfl) ?_
  refine ce_op (okCI miX3_lineEnds (rV clX3 (x := 57) miX3_lineEnds rfl (by decide +kernel) wd512 wd514 wd7)) ?_
  refine ce_op (okIfEq (off := 7) (by decide +kernel) (by decide)) ?_
  refine ce_op (okIc1 (n := 1) (by decide +kernel) (by decide)) ?_
  refine ce_op (okGoto (off := 4) (by decide +kernel) (by decide)) ?_
  refine ce_op (okIc1 (n := 0) (by decide +kernel) (by decide)) ?_
  refine ce_op (okIs2 (by decide +kernel) (by decide)) ?_
  refine ce_op (okGoto (off := 10) (by decide +kernel) (by decide)) ?_
  refine ce_op (okAl1 (k := 0) (by decide +kernel) rfl) ?_
  refine ce_op (okIc1 (n := 1) (by decide +kernel) (by decide)) ?_
  refine ce_op (okCI miX3_fail (rV clX3 (x := 73) miX3_fail rfl (by decide +kernel) wd490 wd492 wd5)) ?_
  refine ce_op (okIs2 (by decide +kernel) (by decide)) ?_
  refine ce_op (okInc (n := 1) (by decide +kernel) (by decide)) ?_
  refine ce_op (okGoto (off := (-222)) (by decide +kernel) (by decide)) ?_
  refine ce_op (okIl2 (by decide +kernel)) ?_
  refine ce_op (okIfEq (off := 7) (by decide +kernel) (by decide)) ?_
  refine ce_op (okIl1 (k := 3) (by decide +kernel) rfl) ?_
  refine ce_op (okGoto (off := 4) (by decide +kernel) (by decide)) ?_
  refine ce_op (okIc1 (n := (-1)) (by decide +kernel) (by decide)) ?_
  refine ce_op (okIret (by decide +kernel) rfl) ?_
  exact ce_nil
set_option maxRecDepth 100000 in
def cdX3_readLand : List CE := (0, 1, some (oAl 0)) :: (1, 1, some (oAl 1)) :: (2, 3, some (oGetR [(336, 354), (720, 738)])) :: (5, 1, some (oIc 5)) :: (6, 3, some (oCI 3 mX3_newName 3)) :: (9, 1, some (oIs 2)) ::
  (10, 1, some (oIl 2)) :: (11, 3, some (oIfGe 16)) :: (14, 1, some (oIc 0)) :: (15, 1, some oZret) :: (16, 1, some (oAl 0)) :: (17, 1, some (oIc 0)) ::
  (18, 2, some (oIc 40)) :: (20, 3, some (oCI 3 mX3_numberWithin 3)) :: (23, 1, some (oIs 3)) :: (24, 1, some (oIl 3)) :: (25, 3, some (oIfGe 30)) :: (28, 1, some (oIc 0)) ::
  (29, 1, some oZret) :: (30, 1, some (oAl 1)) :: (31, 3, some (oGetR [(336, 354), (720, 738)])) :: (34, 1, some (oIl 2)) :: (35, 3, some (oCI 2 mX2_add 2)) :: (38, 2, some (oIs 4)) ::
  (40, 2, some (oIl 4)) :: (42, 3, some (oIfLt 59)) :: (45, 2, some (oIl 4)) :: (47, 1, some (oIc 5)) :: (48, 3, some (oCmGe 59)) :: (51, 1, some (oAl 1)) ::
  (52, 3, some (oGetR [(336, 21064), (720, 21448)])) :: (55, 2, some (oIl 4)) :: (57, 1, some (oIl 3)) :: (58, 1, some oIast) :: (59, 1, some (oIc 1)) :: (60, 1, some oZret) :: []
set_option maxRecDepth 100000 in
set_option maxHeartbeats 4000000 in
theorem okX3_readLand : CodeOk mX3_readLand cdX3_readLand := by
  refine ⟨by rfl, ?_⟩
  show CodeAll mX3_readLand cdX3_readLand
  refine ce_op (okAl1 (k := 0) (by decide +kernel) rfl) ?_
  refine ce_op (okAl1 (k := 1) (by decide +kernel) rfl) ?_
  refine ce_op (okGetR clX0 (k := 0) (x := 76) (by decide +kernel) (by decide) rfl wd342 rfl (by decide +kernel)) ?_
  refine ce_op (okIc1 (n := 5) (by decide +kernel) (by decide)) ?_
  refine ce_op (okCI miX3_newName (rV clX3 (x := 82) miX3_newName rfl (by decide +kernel) wd486 wd488 wd4)) ?_
  refine ce_op (okIs1 (k := 2) (by decide +kernel) rfl (by decide)) ?_
  refine ce_op (okIl1 (k := 2) (by decide +kernel) rfl) ?_
  refine ce_op (okIfGe (off := 5) (by decide +kernel) (by decide)) ?_
  refine ce_op (okIc1 (n := 0) (by decide +kernel) (by decide)) ?_
  refine ce_op (okZret (by decide +kernel) rfl) ?_
  refine ce_op (okAl1 (k := 0) (by decide +kernel) rfl) ?_
  refine ce_op (okIc1 (n := 0) (by decide +kernel) (by decide)) ?_
  refine ce_op (okIc2 (n := 40) (by decide +kernel) (by decide)) ?_
  refine ce_op (okCI miX3_numberWithin (rV clX3 (x := 86) miX3_numberWithin rfl (by decide +kernel) wd501 wd503 wd6)) ?_
  refine ce_op (okIs1 (k := 3) (by decide +kernel) rfl (by decide)) ?_
  refine ce_op (okIl1 (k := 3) (by decide +kernel) rfl) ?_
  refine ce_op (okIfGe (off := 5) (by decide +kernel) (by decide)) ?_
  refine ce_op (okIc1 (n := 0) (by decide +kernel) (by decide)) ?_
  refine ce_op (okZret (by decide +kernel) rfl) ?_
  refine ce_op (okAl1 (k := 1) (by decide +kernel) rfl) ?_
  refine ce_op (okGetR clX0 (k := 0) (x := 76) (by decide +kernel) (by decide) rfl wd342 rfl (by decide +kernel)) ?_
  refine ce_op (okIl1 (k := 2) (by decide +kernel) rfl) ?_
  refine ce_op (okCI miX2_add (rV clX2 (x := 89) miX2_add rfl (by decide +kernel) wd508 wd509 wd510)) ?_
  refine ce_op (okIs2 (by decide +kernel) (by decide)) ?_
  refine ce_op (okIl2 (by decide +kernel)) ?_
  refine ce_op (okIfLt (off := 17) (by decide +kernel) (by decide)) ?_
  refine ce_op (okIl2 (by decide +kernel)) ?_
  refine ce_op (okIc1 (n := 5) (by decide +kernel) (by decide)) ?_
  refine ce_op (okCmGe (off := 11) (by decide +kernel) (by decide)) ?_
  refine ce_op (okAl1 (k := 1) (by decide +kernel) rfl) ?_
  refine ce_op (okGetR clX0 (k := 4) (x := 95) (by decide +kernel) (by decide) rfl wd354 rfl (by decide +kernel)) ?_
  refine ce_op (okIl2 (by decide +kernel)) ?_
  refine ce_op (okIl1 (k := 3) (by decide +kernel) rfl) ?_
  refine ce_op (okIast (by decide +kernel)) ?_
  refine ce_op (okIc1 (n := 1) (by decide +kernel) (by decide)) ?_
  refine ce_op (okZret (by decide +kernel) rfl) ?_
  exact ce_nil
set_option maxRecDepth 100000 in
def cdX3_readGood : List CE := (0, 1, some (oAl 0)) :: (1, 1, some (oAl 1)) :: (2, 3, some (oGetR [(336, 386), (720, 770)])) :: (5, 1, some (oIc 4)) :: (6, 3, some (oCI 3 mX3_newName 3)) :: (9, 1, some (oIs 2)) ::
  (10, 1, some (oIl 2)) :: (11, 3, some (oIfLt 29)) :: (14, 1, some (oAl 1)) :: (15, 3, some (oGetR [(336, 386), (720, 770)])) :: (18, 1, some (oIl 2)) :: (19, 3, some (oCI 2 mX2_add 2)) ::
  (22, 3, some (oIfLt 29)) :: (25, 1, some (oIc 1)) :: (26, 3, some (oGoto 30)) :: (29, 1, some (oIc 0)) :: (30, 1, some oZret) :: []
set_option maxRecDepth 100000 in
set_option maxHeartbeats 4000000 in
theorem okX3_readGood : CodeOk mX3_readGood cdX3_readGood := by
  refine ⟨by rfl, ?_⟩
  show CodeAll mX3_readGood cdX3_readGood
  refine ce_op (okAl1 (k := 0) (by decide +kernel) rfl) ?_
  refine ce_op (okAl1 (k := 1) (by decide +kernel) rfl) ?_
  refine ce_op (okGetR clX0 (k := 1) (x := 99) (by decide +kernel) (by decide) rfl wd346 rfl (by decide +kernel)) ?_
  refine ce_op (okIc1 (n := 4) (by decide +kernel) (by decide)) ?_
  refine ce_op (okCI miX3_newName (rV clX3 (x := 82) miX3_newName rfl (by decide +kernel) wd486 wd488 wd4)) ?_
  refine ce_op (okIs1 (k := 2) (by decide +kernel) rfl (by decide)) ?_
  refine ce_op (okIl1 (k := 2) (by decide +kernel) rfl) ?_
  refine ce_op (okIfLt (off := 18) (by decide +kernel) (by decide)) ?_
  refine ce_op (okAl1 (k := 1) (by decide +kernel) rfl) ?_
  refine ce_op (okGetR clX0 (k := 1) (x := 99) (by decide +kernel) (by decide) rfl wd346 rfl (by decide +kernel)) ?_
  refine ce_op (okIl1 (k := 2) (by decide +kernel) rfl) ?_
  refine ce_op (okCI miX2_add (rV clX2 (x := 89) miX2_add rfl (by decide +kernel) wd508 wd509 wd510)) ?_
  refine ce_op (okIfLt (off := 7) (by decide +kernel) (by decide)) ?_
  refine ce_op (okIc1 (n := 1) (by decide +kernel) (by decide)) ?_
  refine ce_op (okGoto (off := 4) (by decide +kernel) (by decide)) ?_
  refine ce_op (okIc1 (n := 0) (by decide +kernel) (by decide)) ?_
  refine ce_op (okZret (by decide +kernel) rfl) ?_
  exact ce_nil
set_option maxRecDepth 100000 in
def cdX3_readFirm : List CE := (0, 1, some (oAl 0)) :: (1, 1, some (oAl 1)) :: (2, 3, some (oGetR [(336, 418), (720, 802)])) :: (5, 2, some (oIc 12)) :: (7, 3, some (oCI 3 mX3_newName 3)) :: (10, 1, some (oIs 2)) ::
  (11, 1, some (oIl 2)) :: (12, 3, some (oIfGe 17)) :: (15, 1, some (oIc 0)) :: (16, 1, some oZret) :: (17, 1, some (oAl 0)) :: (18, 1, some (oAl 1)) ::
  (19, 3, some (oGetR [(336, 354), (720, 738)])) :: (22, 3, some (oCI 3 mX3_toldName 2)) :: (25, 1, some (oIs 3)) :: (26, 1, some (oIl 3)) :: (27, 3, some (oIfGe 32)) :: (30, 1, some (oIc 0)) ::
  (31, 1, some oZret) :: (32, 1, some (oAl 0)) :: (33, 1, some (oIc 0)) :: (34, 3, some (oIc 400)) :: (37, 3, some (oCI 3 mX3_numberWithin 3)) :: (40, 2, some (oIs 4)) ::
  (42, 2, some (oIl 4)) :: (44, 3, some (oIfGe 49)) :: (47, 1, some (oIc 0)) :: (48, 1, some oZret) :: (49, 1, some (oAl 1)) :: (50, 1, some (oIl 2)) ::
  (51, 1, some (oIl 3)) :: (52, 2, some (oIl 4)) :: (54, 3, some (oCI 0 mX0_addFirm 4)) :: (57, 2, some (oIs 5)) :: (59, 2, some (oIl 5)) :: (61, 3, some (oIfLt 98)) ::
  (64, 1, some (oAl 0)) :: (65, 1, some (oAl 1)) :: (66, 2, some (oIl 5)) :: (68, 3, some (oCI 3 mX3_readTie 3)) :: (71, 3, some (oIfEq 98)) :: (74, 1, some (oAl 0)) ::
  (75, 1, some (oAl 1)) :: (76, 2, some (oIl 5)) :: (78, 3, some (oCI 3 mX3_readTie 3)) :: (81, 3, some (oIfEq 98)) :: (84, 1, some (oAl 0)) :: (85, 1, some (oAl 1)) ::
  (86, 2, some (oIl 5)) :: (88, 3, some (oCI 3 mX3_readTie 3)) :: (91, 3, some (oIfEq 98)) :: (94, 1, some (oIc 1)) :: (95, 3, some (oGoto 99)) :: (98, 1, some (oIc 0)) ::
  (99, 1, some oZret) :: []
set_option maxRecDepth 100000 in
set_option maxHeartbeats 4000000 in
theorem okX3_readFirm : CodeOk mX3_readFirm cdX3_readFirm := by
  refine ⟨by rfl, ?_⟩
  show CodeAll mX3_readFirm cdX3_readFirm
  refine ce_op (okAl1 (k := 0) (by decide +kernel) rfl) ?_
  refine ce_op (okAl1 (k := 1) (by decide +kernel) rfl) ?_
  refine ce_op (okGetR clX0 (k := 2) (x := 102) (by decide +kernel) (by decide) rfl wd349 rfl (by decide +kernel)) ?_
  refine ce_op (okIc2 (n := 12) (by decide +kernel) (by decide)) ?_
  refine ce_op (okCI miX3_newName (rV clX3 (x := 82) miX3_newName rfl (by decide +kernel) wd486 wd488 wd4)) ?_
  refine ce_op (okIs1 (k := 2) (by decide +kernel) rfl (by decide)) ?_
  refine ce_op (okIl1 (k := 2) (by decide +kernel) rfl) ?_
  refine ce_op (okIfGe (off := 5) (by decide +kernel) (by decide)) ?_
  refine ce_op (okIc1 (n := 0) (by decide +kernel) (by decide)) ?_
  refine ce_op (okZret (by decide +kernel) rfl) ?_
  refine ce_op (okAl1 (k := 0) (by decide +kernel) rfl) ?_
  refine ce_op (okAl1 (k := 1) (by decide +kernel) rfl) ?_
  refine ce_op (okGetR clX0 (k := 0) (x := 76) (by decide +kernel) (by decide) rfl wd342 rfl (by decide +kernel)) ?_
  refine ce_op (okCI miX3_toldName (rV clX3 (x := 105) miX3_toldName rfl (by decide +kernel) wd524 wd526 wd10)) ?_
  refine ce_op (okIs1 (k := 3) (by decide +kernel) rfl (by decide)) ?_
  refine ce_op (okIl1 (k := 3) (by decide +kernel) rfl) ?_
  refine ce_op (okIfGe (off := 5) (by decide +kernel) (by decide)) ?_
  refine ce_op (okIc1 (n := 0) (by decide +kernel) (by decide)) ?_
  refine ce_op (okZret (by decide +kernel) rfl) ?_
  refine ce_op (okAl1 (k := 0) (by decide +kernel) rfl) ?_
  refine ce_op (okIc1 (n := 0) (by decide +kernel) (by decide)) ?_
  refine ce_op (okIc3 (n := 400) (by decide +kernel) (by decide)) ?_
  refine ce_op (okCI miX3_numberWithin (rV clX3 (x := 86) miX3_numberWithin rfl (by decide +kernel) wd501 wd503 wd6)) ?_
  refine ce_op (okIs2 (by decide +kernel) (by decide)) ?_
  refine ce_op (okIl2 (by decide +kernel)) ?_
  refine ce_op (okIfGe (off := 5) (by decide +kernel) (by decide)) ?_
  refine ce_op (okIc1 (n := 0) (by decide +kernel) (by decide)) ?_
  refine ce_op (okZret (by decide +kernel) rfl) ?_
  refine ce_op (okAl1 (k := 1) (by decide +kernel) rfl) ?_
  refine ce_op (okIl1 (k := 2) (by decide +kernel) rfl) ?_
  refine ce_op (okIl1 (k := 3) (by decide +kernel) rfl) ?_
  refine ce_op (okIl2 (by decide +kernel)) ?_
  refine ce_op (okCI miX0_addFirm (rV clX0 (x := 109) miX0_addFirm rfl (by decide +kernel) wd528 wd529 wd530)) ?_
  refine ce_op (okIs2 (by decide +kernel) (by decide)) ?_
  refine ce_op (okIl2 (by decide +kernel)) ?_
  refine ce_op (okIfLt (off := 37) (by decide +kernel) (by decide)) ?_
  refine ce_op (okAl1 (k := 0) (by decide +kernel) rfl) ?_
  refine ce_op (okAl1 (k := 1) (by decide +kernel) rfl) ?_
  refine ce_op (okIl2 (by decide +kernel)) ?_
  refine ce_op (okCI miX3_readTie (rV clX3 (x := 113) miX3_readTie rfl (by decide +kernel) wd533 wd535 wd11)) ?_
  refine ce_op (okIfEq (off := 27) (by decide +kernel) (by decide)) ?_
  refine ce_op (okAl1 (k := 0) (by decide +kernel) rfl) ?_
  refine ce_op (okAl1 (k := 1) (by decide +kernel) rfl) ?_
  refine ce_op (okIl2 (by decide +kernel)) ?_
  refine ce_op (okCI miX3_readTie (rV clX3 (x := 113) miX3_readTie rfl (by decide +kernel) wd533 wd535 wd11)) ?_
  refine ce_op (okIfEq (off := 17) (by decide +kernel) (by decide)) ?_
  refine ce_op (okAl1 (k := 0) (by decide +kernel) rfl) ?_
  refine ce_op (okAl1 (k := 1) (by decide +kernel) rfl) ?_
  refine ce_op (okIl2 (by decide +kernel)) ?_
  refine ce_op (okCI miX3_readTie (rV clX3 (x := 113) miX3_readTie rfl (by decide +kernel) wd533 wd535 wd11)) ?_
  refine ce_op (okIfEq (off := 7) (by decide +kernel) (by decide)) ?_
  refine ce_op (okIc1 (n := 1) (by decide +kernel) (by decide)) ?_
  refine ce_op (okGoto (off := 4) (by decide +kernel) (by decide)) ?_
  refine ce_op (okIc1 (n := 0) (by decide +kernel) (by decide)) ?_
  refine ce_op (okZret (by decide +kernel) rfl) ?_
  exact ce_nil
set_option maxRecDepth 100000 in
def cdX3_readTie : List CE := (0, 1, some (oAl 0)) :: (1, 3, some (oGetI 3 6)) :: (4, 1, some (oIc 1)) :: (5, 3, some (oCmNe 26)) :: (8, 1, some (oAl 0)) :: (9, 3, some (oGetI 3 8)) ::
  (12, 2, some (oIc 269946880)) :: (14, 3, some (oCmEq 28)) :: (17, 1, some (oAl 0)) :: (18, 3, some (oGetI 3 8)) :: (21, 2, some (oIc 620213248)) :: (23, 3, some (oCmEq 28)) ::
  (26, 1, some (oIc 1)) :: (27, 1, some oZret) :: (28, 1, some (oAl 0)) :: (29, 3, some (oGetI 3 8)) :: (32, 2, some (oIc 269946880)) :: (34, 3, some (oCmNe 44)) ::
  (37, 1, some (oAl 1)) :: (38, 3, some (oGetR [(336, 49784), (720, 50168)])) :: (41, 3, some (oGoto 48)) :: (44, 1, some (oAl 1)) :: (45, 3, some (oGetR [(336, 49800), (720, 50184)])) :: (48, 1, some (oAs 3)) ::
  (49, 1, some (oAl 3)) :: (50, 1, some (oIl 2)) :: (51, 1, some oIald) :: (52, 3, some (oIfEq 61)) :: (55, 1, some (oAl 0)) :: (56, 1, some (oIc 3)) ::
  (57, 3, some (oCI 3 mX3_fail 2)) :: (60, 1, some oZret) :: (61, 1, some (oAl 0)) :: (62, 3, some (oCV 3 mX3_advance 1)) :: (65, 1, some (oAl 0)) :: (66, 1, some (oIc 1)) ::
  (67, 2, some (oIc 99)) :: (69, 3, some (oCI 3 mX3_numberWithin 3)) :: (72, 2, some (oIs 4)) :: (74, 2, some (oIl 4)) :: (76, 3, some (oIfGe 81)) :: (79, 1, some (oIc 0)) ::
  (80, 1, some oZret) :: (81, 1, some (oAl 3)) :: (82, 1, some (oIl 2)) :: (83, 2, some (oIl 4)) :: (85, 1, some oIast) :: (86, 1, some (oIc 1)) ::
  (87, 1, some oZret) :: []
set_option maxRecDepth 100000 in
set_option maxHeartbeats 4000000 in
theorem okX3_readTie : CodeOk mX3_readTie cdX3_readTie := by
  refine ⟨by rfl, ?_⟩
  show CodeAll mX3_readTie cdX3_readTie
  refine ce_op (okAl1 (k := 0) (by decide +kernel) rfl) ?_
  refine ce_op (okGetI clX3 (k := 6) (x := 31) (by decide +kernel) (by decide) rfl wd132 (Or.inl rfl)) ?_
  refine ce_op (okIc1 (n := 1) (by decide +kernel) (by decide)) ?_
  refine ce_op (okCmNe (off := 21) (by decide +kernel) (by decide)) ?_
  refine ce_op (okAl1 (k := 0) (by decide +kernel) rfl) ?_
  refine ce_op (okGetI clX3 (k := 8) (x := 37) (by decide +kernel) (by decide) rfl wd134 (Or.inl rfl)) ?_
  refine ce_op (okIcL (k := 117) (by decide +kernel) wd537) ?_
  refine ce_op (okCmEq (off := 14) (by decide +kernel) (by decide)) ?_
  refine ce_op (okAl1 (k := 0) (by decide +kernel) rfl) ?_
  refine ce_op (okGetI clX3 (k := 8) (x := 37) (by decide +kernel) (by decide) rfl wd134 (Or.inl rfl)) ?_
  refine ce_op (okIcL (k := 118) (by decide +kernel) wd538) ?_
  refine ce_op (okCmEq (off := 5) (by decide +kernel) (by decide)) ?_
  refine ce_op (okIc1 (n := 1) (by decide +kernel) (by decide)) ?_
  refine ce_op (okZret (by decide +kernel) rfl) ?_
  refine ce_op (okAl1 (k := 0) (by decide +kernel) rfl) ?_
  refine ce_op (okGetI clX3 (k := 8) (x := 37) (by decide +kernel) (by decide) rfl wd134 (Or.inl rfl)) ?_
  refine ce_op (okIcL (k := 117) (by decide +kernel) wd537) ?_
  refine ce_op (okCmNe (off := 10) (by decide +kernel) (by decide)) ?_
  refine ce_op (okAl1 (k := 1) (by decide +kernel) rfl) ?_
  refine ce_op (okGetR clX0 (k := 7) (x := 119) (by decide +kernel) (by decide) rfl wd361 rfl (by decide +kernel)) ?_
  refine ce_op (okGoto (off := 7) (by decide +kernel) (by decide)) ?_
  refine ce_op (okAl1 (k := 1) (by decide +kernel) rfl) ?_
  refine ce_op (okGetR clX0 (k := 8) (x := 122) (by decide +kernel) (by decide) rfl wd364 rfl (by decide +kernel)) ?_
  refine ce_op (okAs1 (k := 3) (by decide +kernel) rfl (by decide)) ?_
  refine ce_op (okAl1 (k := 3) (by decide +kernel) rfl) ?_
  refine ce_op (okIl1 (k := 2) (by decide +kernel) rfl) ?_
  refine ce_op (okIald (by decide +kernel)) ?_
  refine ce_op (okIfEq (off := 9) (by decide +kernel) (by decide)) ?_
  refine ce_op (okAl1 (k := 0) (by decide +kernel) rfl) ?_
  refine ce_op (okIc1 (n := 3) (by decide +kernel) (by decide)) ?_
  refine ce_op (okCI miX3_fail (rV clX3 (x := 73) miX3_fail rfl (by decide +kernel) wd490 wd492 wd5)) ?_
  refine ce_op (okZret (by decide +kernel) rfl) ?_
  refine ce_op (okAl1 (k := 0) (by decide +kernel) rfl) ?_
  refine ce_op (okCV miX3_advance (rV clX3 (x := 50) miX3_advance rfl (by decide +kernel) wd463 wd465 wd0)) ?_
  refine ce_op (okAl1 (k := 0) (by decide +kernel) rfl) ?_
  refine ce_op (okIc1 (n := 1) (by decide +kernel) (by decide)) ?_
  refine ce_op (okIc2 (n := 99) (by decide +kernel) (by decide)) ?_
  refine ce_op (okCI miX3_numberWithin (rV clX3 (x := 86) miX3_numberWithin rfl (by decide +kernel) wd501 wd503 wd6)) ?_
  refine ce_op (okIs2 (by decide +kernel) (by decide)) ?_
  refine ce_op (okIl2 (by decide +kernel)) ?_
  refine ce_op (okIfGe (off := 5) (by decide +kernel) (by decide)) ?_
  refine ce_op (okIc1 (n := 0) (by decide +kernel) (by decide)) ?_
  refine ce_op (okZret (by decide +kernel) rfl) ?_
  refine ce_op (okAl1 (k := 3) (by decide +kernel) rfl) ?_
  refine ce_op (okIl1 (k := 2) (by decide +kernel) rfl) ?_
  refine ce_op (okIl2 (by decide +kernel)) ?_
  refine ce_op (okIast (by decide +kernel)) ?_
  refine ce_op (okIc1 (n := 1) (by decide +kernel) (by decide)) ?_
  refine ce_op (okZret (by decide +kernel) rfl) ?_
  exact ce_nil
set_option maxRecDepth 100000 in
def cdX3_readSale : List CE := (0, 1, some (oAl 1)) :: (1, 3, some (oGetR [(336, 452), (720, 836)])) :: (4, 3, some (oGetI 4 7)) :: (7, 2, some (oIc 30)) :: (9, 3, some (oCmLt 18)) :: (12, 1, some (oAl 0)) ::
  (13, 1, some (oIc 2)) :: (14, 3, some (oCI 3 mX3_fail 2)) :: (17, 1, some oZret) :: (18, 1, some (oAl 0)) :: (19, 3, some (oCV 3 mX3_advance 1)) :: (22, 1, some (oAl 0)) ::
  (23, 1, some (oAl 1)) :: (24, 3, some (oGetR [(336, 418), (720, 802)])) :: (27, 3, some (oCI 3 mX3_toldName 2)) :: (30, 1, some (oIs 2)) :: (31, 1, some (oIl 2)) :: (32, 3, some (oIfGe 37)) ::
  (35, 1, some (oIc 0)) :: (36, 1, some oZret) :: (37, 1, some (oAl 0)) :: (38, 3, some (oGetI 3 6)) :: (41, 1, some (oIc 1)) :: (42, 3, some (oCmNe 66)) ::
  (45, 1, some (oAl 1)) :: (46, 3, some (oGetR [(336, 418), (720, 802)])) :: (49, 1, some (oAl 0)) :: (50, 3, some (oGetI 3 8)) :: (53, 3, some (oCI 2 mX2_find 2)) :: (56, 1, some (oIl 2)) ::
  (57, 3, some (oCmNe 66)) :: (60, 1, some (oAl 0)) :: (61, 1, some (oIc 3)) :: (62, 3, some (oCI 3 mX3_fail 2)) :: (65, 1, some oZret) :: (66, 1, some (oAl 0)) ::
  (67, 1, some (oAl 1)) :: (68, 3, some (oGetR [(336, 418), (720, 802)])) :: (71, 3, some (oCI 3 mX3_toldName 2)) :: (74, 1, some (oIs 3)) :: (75, 1, some (oIl 3)) :: (76, 3, some (oIfGe 81)) ::
  (79, 1, some (oIc 0)) :: (80, 1, some oZret) :: (81, 1, some (oAl 0)) :: (82, 1, some (oIc 1)) :: (83, 3, some (oIc 999)) :: (86, 3, some (oCI 3 mX3_numberWithin 3)) ::
  (89, 2, some (oIs 4)) :: (91, 2, some (oIl 4)) :: (93, 3, some (oIfGe 98)) :: (96, 1, some (oIc 0)) :: (97, 1, some oZret) :: (98, 1, some (oAl 0)) ::
  (99, 1, some (oAl 1)) :: (100, 3, some (oGetR [(336, 386), (720, 770)])) :: (103, 3, some (oCI 3 mX3_toldName 2)) :: (106, 2, some (oIs 5)) :: (108, 2, some (oIl 5)) :: (110, 3, some (oIfGe 115)) ::
  (113, 1, some (oIc 0)) :: (114, 1, some oZret) :: (115, 1, some (oAl 0)) :: (116, 1, some (oIc 1)) :: (117, 3, some (oIc 999)) :: (120, 3, some (oCI 3 mX3_numberWithin 3)) ::
  (123, 2, some (oIs 6)) :: (125, 2, some (oIl 6)) :: (127, 3, some (oIfGe 132)) :: (130, 1, some (oIc 0)) :: (131, 1, some oZret) :: (132, 1, some (oAl 0)) ::
  (133, 1, some (oAl 1)) :: (134, 1, some (oIl 2)) :: (135, 1, some (oIl 3)) :: (136, 3, some (oCI 0 mX0_sinceBoth 3)) :: (139, 3, some (oCI 3 mX3_readDay 2)) :: (142, 2, some (oIs 7)) ::
  (144, 2, some (oIl 7)) :: (146, 3, some (oIfGe 151)) :: (149, 1, some (oIc 0)) :: (150, 1, some oZret) :: (151, 1, some (oAl 0)) :: (152, 3, some (oCI 3 mX3_readMark 1)) ::
  (155, 2, some (oIs 8)) :: (157, 2, some (oIl 8)) :: (159, 3, some (oIfLt 188)) :: (162, 1, some (oAl 1)) :: (163, 3, some (oGetR [(336, 452), (720, 836)])) :: (166, 1, some (oIl 2)) ::
  (167, 1, some (oIl 3)) :: (168, 2, some (oIl 4)) :: (170, 2, some (oIl 5)) :: (172, 2, some (oIl 6)) :: (174, 2, some (oIl 7)) :: (176, 2, some (oIl 8)) ::
  (178, 3, some (oCI 4 mX4_add 8)) :: (181, 3, some (oIfEq 188)) :: (184, 1, some (oIc 1)) :: (185, 3, some (oGoto 189)) :: (188, 1, some (oIc 0)) :: (189, 1, some oZret) :: []
set_option maxRecDepth 100000 in
set_option maxHeartbeats 4000000 in
theorem okX3_readSale : CodeOk mX3_readSale cdX3_readSale := by
  refine ⟨by rfl, ?_⟩
  show CodeAll mX3_readSale cdX3_readSale
  refine ce_op (okAl1 (k := 1) (by decide +kernel) rfl) ?_
  refine ce_op (okGetR clX0 (k := 3) (x := 125) (by decide +kernel) (by decide) rfl wd352 rfl (by decide +kernel)) ?_
  refine ce_op (okGetI clX4 (k := 7) (x := 129) (by decide +kernel) (by decide) rfl wd318 (Or.inl rfl)) ?_
  refine ce_op (okIc2 (n := 30) (by decide +kernel) (by decide)) ?_
  refine ce_op (okCmLt (off := 9) (by decide +kernel) (by decide)) ?_
  refine ce_op (okAl1 (k := 0) (by decide +kernel) rfl) ?_
  refine ce_op (okIc1 (n := 2) (by decide +kernel) (by decide)) ?_
  refine ce_op (okCI miX3_fail (rV clX3 (x := 73) miX3_fail rfl (by decide +kernel) wd490 wd492 wd5)) ?_
  refine ce_op (okZret (by decide +kernel) rfl) ?_
  refine ce_op (okAl1 (k := 0) (by decide +kernel) rfl) ?_
  refine ce_op (okCV miX3_advance (rV clX3 (x := 50) miX3_advance rfl (by decide +kernel) wd463 wd465 wd0)) ?_
  refine ce_op (okAl1 (k := 0) (by decide +kernel) rfl) ?_
  refine ce_op (okAl1 (k := 1) (by decide +kernel) rfl) ?_
  refine ce_op (okGetR clX0 (k := 2) (x := 102) (by decide +kernel) (by decide) rfl wd349 rfl (by decide +kernel)) ?_
  refine ce_op (okCI miX3_toldName (rV clX3 (x := 105) miX3_toldName rfl (by decide +kernel) wd524 wd526 wd10)) ?_
  refine ce_op (okIs1 (k := 2) (by decide +kernel) rfl (by decide)) ?_
  refine ce_op (okIl1 (k := 2) (by decide +kernel) rfl) ?_
  refine ce_op (okIfGe (off := 5) (by decide +kernel) (by decide)) ?_
  refine ce_op (okIc1 (n := 0) (by decide +kernel) (by decide)) ?_
  refine ce_op (okZret (by decide +kernel) rfl) ?_
  refine ce_op (okAl1 (k := 0) (by decide +kernel) rfl) ?_
  refine ce_op (okGetI clX3 (k := 6) (x := 31) (by decide +kernel) (by decide) rfl wd132 (Or.inl rfl)) ?_
  refine ce_op (okIc1 (n := 1) (by decide +kernel) (by decide)) ?_
  refine ce_op (okCmNe (off := 24) (by decide +kernel) (by decide)) ?_
  refine ce_op (okAl1 (k := 1) (by decide +kernel) rfl) ?_
  refine ce_op (okGetR clX0 (k := 2) (x := 102) (by decide +kernel) (by decide) rfl wd349 rfl (by decide +kernel)) ?_
  refine ce_op (okAl1 (k := 0) (by decide +kernel) rfl) ?_
  refine ce_op (okGetI clX3 (k := 8) (x := 37) (by decide +kernel) (by decide) rfl wd134 (Or.inl rfl)) ?_
  refine ce_op (okCI miX2_find (rV clX2 (x := 132) miX2_find rfl (by decide +kernel) wd497 wd498 wd499)) ?_
  refine ce_op (okIl1 (k := 2) (by decide +kernel) rfl) ?_
  refine ce_op (okCmNe (off := 9) (by decide +kernel) (by decide)) ?_
  refine ce_op (okAl1 (k := 0) (by decide +kernel) rfl) ?_
  refine ce_op (okIc1 (n := 3) (by decide +kernel) (by decide)) ?_
  refine ce_op (okCI miX3_fail (rV clX3 (x := 73) miX3_fail rfl (by decide +kernel) wd490 wd492 wd5)) ?_
  refine ce_op (okZret (by decide +kernel) rfl) ?_
  refine ce_op (okAl1 (k := 0) (by decide +kernel) rfl) ?_
  refine ce_op (okAl1 (k := 1) (by decide +kernel) rfl) ?_
  refine ce_op (okGetR clX0 (k := 2) (x := 102) (by decide +kernel) (by decide) rfl wd349 rfl (by decide +kernel)) ?_
  refine ce_op (okCI miX3_toldName (rV clX3 (x := 105) miX3_toldName rfl (by decide +kernel) wd524 wd526 wd10)) ?_
  refine ce_op (okIs1 (k := 3) (by decide +kernel) rfl (by decide)) ?_
  refine ce_op (okIl1 (k := 3) (by decide +kernel) rfl) ?_
  refine ce_op (okIfGe (off := 5) (by decide +kernel) (by decide)) ?_
  refine ce_op (okIc1 (n := 0) (by decide +kernel) (by decide)) ?_
  refine ce_op (okZret (by decide +kernel) rfl) ?_
  refine ce_op (okAl1 (k := 0) (by decide +kernel) rfl) ?_
  refine ce_op (okIc1 (n := 1) (by decide +kernel) (by decide)) ?_
  refine ce_op (okIc3 (n := 999) (by decide +kernel) (by decide)) ?_
  refine ce_op (okCI miX3_numberWithin (rV clX3 (x := 86) miX3_numberWithin rfl (by decide +kernel) wd501 wd503 wd6)) ?_
  refine ce_op (okIs2 (by decide +kernel) (by decide)) ?_
  refine ce_op (okIl2 (by decide +kernel)) ?_
  refine ce_op (okIfGe (off := 5) (by decide +kernel) (by decide)) ?_
  refine ce_op (okIc1 (n := 0) (by decide +kernel) (by decide)) ?_
  refine ce_op (okZret (by decide +kernel) rfl) ?_
  refine ce_op (okAl1 (k := 0) (by decide +kernel) rfl) ?_
  refine ce_op (okAl1 (k := 1) (by decide +kernel) rfl) ?_
  refine ce_op (okGetR clX0 (k := 1) (x := 99) (by decide +kernel) (by decide) rfl wd346 rfl (by decide +kernel)) ?_
  refine ce_op (okCI miX3_toldName (rV clX3 (x := 105) miX3_toldName rfl (by decide +kernel) wd524 wd526 wd10)) ?_
  refine ce_op (okIs2 (by decide +kernel) (by decide)) ?_
  refine ce_op (okIl2 (by decide +kernel)) ?_
  refine ce_op (okIfGe (off := 5) (by decide +kernel) (by decide)) ?_
  refine ce_op (okIc1 (n := 0) (by decide +kernel) (by decide)) ?_
  refine ce_op (okZret (by decide +kernel) rfl) ?_
  refine ce_op (okAl1 (k := 0) (by decide +kernel) rfl) ?_
  refine ce_op (okIc1 (n := 1) (by decide +kernel) (by decide)) ?_
  refine ce_op (okIc3 (n := 999) (by decide +kernel) (by decide)) ?_
  refine ce_op (okCI miX3_numberWithin (rV clX3 (x := 86) miX3_numberWithin rfl (by decide +kernel) wd501 wd503 wd6)) ?_
  refine ce_op (okIs2 (by decide +kernel) (by decide)) ?_
  refine ce_op (okIl2 (by decide +kernel)) ?_
  refine ce_op (okIfGe (off := 5) (by decide +kernel) (by decide)) ?_
  refine ce_op (okIc1 (n := 0) (by decide +kernel) (by decide)) ?_
  refine ce_op (okZret (by decide +kernel) rfl) ?_
  refine ce_op (okAl1 (k := 0) (by decide +kernel) rfl) ?_
  refine ce_op (okAl1 (k := 1) (by decide +kernel) rfl) ?_
  refine ce_op (okIl1 (k := 2) (by decide +kernel) rfl) ?_
  refine ce_op (okIl1 (k := 3) (by decide +kernel) rfl) ?_
  refine ce_op (okCI miX0_sinceBoth (rV clX0 (x := 135) miX0_sinceBoth rfl (by decide +kernel) wd543 wd544 wd545)) ?_
  refine ce_op (okCI miX3_readDay (rV clX3 (x := 138) miX3_readDay rfl (by decide +kernel) wd550 wd552 wd13)) ?_
  refine ce_op (okIs2 (by decide +kernel) (by decide)) ?_
  refine ce_op (okIl2 (by decide +kernel)) ?_
  refine ce_op (okIfGe (off := 5) (by decide +kernel) (by decide)) ?_
  refine ce_op (okIc1 (n := 0) (by decide +kernel) (by decide)) ?_
  refine ce_op (okZret (by decide +kernel) rfl) ?_
  refine ce_op (okAl1 (k := 0) (by decide +kernel) rfl) ?_
  refine ce_op (okCI miX3_readMark (rV clX3 (x := 141) miX3_readMark rfl (by decide +kernel) wd555 wd557 wd14)) ?_
  refine ce_op (okIs2 (by decide +kernel) (by decide)) ?_
  refine ce_op (okIl2 (by decide +kernel)) ?_
  refine ce_op (okIfLt (off := 29) (by decide +kernel) (by decide)) ?_
  refine ce_op (okAl1 (k := 1) (by decide +kernel) rfl) ?_
  refine ce_op (okGetR clX0 (k := 3) (x := 125) (by decide +kernel) (by decide) rfl wd352 rfl (by decide +kernel)) ?_
  refine ce_op (okIl1 (k := 2) (by decide +kernel) rfl) ?_
  refine ce_op (okIl1 (k := 3) (by decide +kernel) rfl) ?_
  refine ce_op (okIl2 (by decide +kernel)) ?_
  refine ce_op (okIl2 (by decide +kernel)) ?_
  refine ce_op (okIl2 (by decide +kernel)) ?_
  refine ce_op (okIl2 (by decide +kernel)) ?_
  refine ce_op (okIl2 (by decide +kernel)) ?_
  refine ce_op (okCI miX4_add (rV clX4 (x := 145) miX4_add rfl (by decide +kernel) wd560 wd561 wd562)) ?_
  refine ce_op (okIfEq (off := 7) (by decide +kernel) (by decide)) ?_
  refine ce_op (okIc1 (n := 1) (by decide +kernel) (by decide)) ?_
  refine ce_op (okGoto (off := 4) (by decide +kernel) (by decide)) ?_
  refine ce_op (okIc1 (n := 0) (by decide +kernel) (by decide)) ?_
  refine ce_op (okZret (by decide +kernel) rfl) ?_
  exact ce_nil
set_option maxRecDepth 100000 in
def cdX3_readDay : List CE := (0, 1, some (oAl 0)) :: (1, 3, some (oGetI 3 6)) :: (4, 1, some (oIc 1)) :: (5, 3, some (oCmNe 17)) :: (8, 1, some (oAl 0)) :: (9, 3, some (oGetI 3 8)) ::
  (12, 2, some (oIc 136085504)) :: (14, 3, some (oCmEq 25)) :: (17, 1, some (oAl 0)) :: (18, 1, some (oIc 1)) :: (19, 3, some (oCI 3 mX3_fail 2)) :: (22, 1, some oPop) ::
  (23, 1, some (oIc (-1))) :: (24, 1, some oIret) :: (25, 1, some (oAl 0)) :: (26, 3, some (oCV 3 mX3_advance 1)) :: (29, 1, some (oAl 0)) :: (30, 3, some (oGetI 3 7)) ::
  (33, 1, some (oIs 2)) :: (34, 1, some (oAl 0)) :: (35, 1, some (oIc 0)) :: (36, 3, some (oIc 400)) :: (39, 3, some (oCI 3 mX3_numberWithin 3)) :: (42, 1, some (oIs 3)) ::
  (43, 1, some (oIl 3)) :: (44, 3, some (oIfLt 64)) :: (47, 1, some (oIl 3)) :: (48, 1, some (oIl 1)) :: (49, 3, some (oCmGe 64)) :: (52, 1, some (oAl 0)) ::
  (53, 1, some (oIc 5)) :: (54, 3, some (oPutI 3 2)) :: (57, 1, some (oAl 0)) :: (58, 1, some (oIl 2)) :: (59, 3, some (oPutI 3 3)) :: (62, 1, some (oIc (-1))) ::
  (63, 1, some oIret) :: (64, 1, some (oIl 3)) :: (65, 1, some oIret) :: []
set_option maxRecDepth 100000 in
set_option maxHeartbeats 4000000 in
theorem okX3_readDay : CodeOk mX3_readDay cdX3_readDay := by
  refine ⟨by rfl, ?_⟩
  show CodeAll mX3_readDay cdX3_readDay
  refine ce_op (okAl1 (k := 0) (by decide +kernel) rfl) ?_
  refine ce_op (okGetI clX3 (k := 6) (x := 31) (by decide +kernel) (by decide) rfl wd132 (Or.inl rfl)) ?_
  refine ce_op (okIc1 (n := 1) (by decide +kernel) (by decide)) ?_
  refine ce_op (okCmNe (off := 12) (by decide +kernel) (by decide)) ?_
  refine ce_op (okAl1 (k := 0) (by decide +kernel) rfl) ?_
  refine ce_op (okGetI clX3 (k := 8) (x := 37) (by decide +kernel) (by decide) rfl wd134 (Or.inl rfl)) ?_
  refine ce_op (okIcL (k := 148) (by decide +kernel) wd554) ?_
  refine ce_op (okCmEq (off := 11) (by decide +kernel) (by decide)) ?_
  refine ce_op (okAl1 (k := 0) (by decide +kernel) rfl) ?_
  refine ce_op (okIc1 (n := 1) (by decide +kernel) (by decide)) ?_
  refine ce_op (okCI miX3_fail (rV clX3 (x := 73) miX3_fail rfl (by decide +kernel) wd490 wd492 wd5)) ?_
  refine ce_op (okPop (by decide +kernel)) ?_
  refine ce_op (okIc1 (n := (-1)) (by decide +kernel) (by decide)) ?_
  refine ce_op (okIret (by decide +kernel) rfl) ?_
  refine ce_op (okAl1 (k := 0) (by decide +kernel) rfl) ?_
  refine ce_op (okCV miX3_advance (rV clX3 (x := 50) miX3_advance rfl (by decide +kernel) wd463 wd465 wd0)) ?_
  refine ce_op (okAl1 (k := 0) (by decide +kernel) rfl) ?_
  refine ce_op (okGetI clX3 (k := 7) (x := 34) (by decide +kernel) (by decide) rfl wd133 (Or.inl rfl)) ?_
  refine ce_op (okIs1 (k := 2) (by decide +kernel) rfl (by decide)) ?_
  refine ce_op (okAl1 (k := 0) (by decide +kernel) rfl) ?_
  refine ce_op (okIc1 (n := 0) (by decide +kernel) (by decide)) ?_
  refine ce_op (okIc3 (n := 400) (by decide +kernel) (by decide)) ?_
  refine ce_op (okCI miX3_numberWithin (rV clX3 (x := 86) miX3_numberWithin rfl (by decide +kernel) wd501 wd503 wd6)) ?_
  refine ce_op (okIs1 (k := 3) (by decide +kernel) rfl (by decide)) ?_
  refine ce_op (okIl1 (k := 3) (by decide +kernel) rfl) ?_
  refine ce_op (okIfLt (off := 20) (by decide +kernel) (by decide)) ?_
  refine ce_op (okIl1 (k := 3) (by decide +kernel) rfl) ?_
  refine ce_op (okIl1 (k := 1) (by decide +kernel) rfl) ?_
  refine ce_op (okCmGe (off := 15) (by decide +kernel) (by decide)) ?_
  refine ce_op (okAl1 (k := 0) (by decide +kernel) rfl) ?_
  refine ce_op (okIc1 (n := 5) (by decide +kernel) (by decide)) ?_
  refine ce_op (okPutI clX3 (k := 2) (x := 19) (by decide +kernel) (by decide) rfl wd126 rfl rfl (by decide +kernel)) ?_
  refine ce_op (okAl1 (k := 0) (by decide +kernel) rfl) ?_
  refine ce_op (okIl1 (k := 2) (by decide +kernel) rfl) ?_
  refine ce_op (okPutI clX3 (k := 3) (x := 22) (by decide +kernel) (by decide) rfl wd128 rfl rfl (by decide +kernel)) ?_
  refine ce_op (okIc1 (n := (-1)) (by decide +kernel) (by decide)) ?_
  refine ce_op (okIret (by decide +kernel) rfl) ?_
  refine ce_op (okIl1 (k := 3) (by decide +kernel) rfl) ?_
  refine ce_op (okIret (by decide +kernel) rfl) ?_
  exact ce_nil
set_option maxRecDepth 100000 in
def cdX3_readMark : List CE := (0, 1, some (oAl 0)) :: (1, 3, some (oGetI 3 6)) :: (4, 1, some (oIc 1)) :: (5, 3, some (oCmNe 17)) :: (8, 1, some (oAl 0)) :: (9, 3, some (oGetI 3 8)) ::
  (12, 2, some (oIc 437857280)) :: (14, 3, some (oCmEq 19)) :: (17, 1, some (oIc 0)) :: (18, 1, some oIret) :: (19, 1, some (oAl 0)) :: (20, 3, some (oCV 3 mX3_advance 1)) ::
  (23, 1, some (oAl 0)) :: (24, 1, some (oIc 1)) :: (25, 2, some (oIc 99)) :: (27, 3, some (oCI 3 mX3_numberWithin 3)) :: (30, 1, some oIret) :: []
set_option maxRecDepth 100000 in
set_option maxHeartbeats 4000000 in
theorem okX3_readMark : CodeOk mX3_readMark cdX3_readMark := by
  refine ⟨by rfl, ?_⟩
  show CodeAll mX3_readMark cdX3_readMark
  refine ce_op (okAl1 (k := 0) (by decide +kernel) rfl) ?_
  refine ce_op (okGetI clX3 (k := 6) (x := 31) (by decide +kernel) (by decide) rfl wd132 (Or.inl rfl)) ?_
  refine ce_op (okIc1 (n := 1) (by decide +kernel) (by decide)) ?_
  refine ce_op (okCmNe (off := 12) (by decide +kernel) (by decide)) ?_
  refine ce_op (okAl1 (k := 0) (by decide +kernel) rfl) ?_
  refine ce_op (okGetI clX3 (k := 8) (x := 37) (by decide +kernel) (by decide) rfl wd134 (Or.inl rfl)) ?_
  refine ce_op (okIcL (k := 149) (by decide +kernel) wd559) ?_
  refine ce_op (okCmEq (off := 5) (by decide +kernel) (by decide)) ?_
  refine ce_op (okIc1 (n := 0) (by decide +kernel) (by decide)) ?_
  refine ce_op (okIret (by decide +kernel) rfl) ?_
  refine ce_op (okAl1 (k := 0) (by decide +kernel) rfl) ?_
  refine ce_op (okCV miX3_advance (rV clX3 (x := 50) miX3_advance rfl (by decide +kernel) wd463 wd465 wd0)) ?_
  refine ce_op (okAl1 (k := 0) (by decide +kernel) rfl) ?_
  refine ce_op (okIc1 (n := 1) (by decide +kernel) (by decide)) ?_
  refine ce_op (okIc2 (n := 99) (by decide +kernel) (by decide)) ?_
  refine ce_op (okCI miX3_numberWithin (rV clX3 (x := 86) miX3_numberWithin rfl (by decide +kernel) wd501 wd503 wd6)) ?_
  refine ce_op (okIret (by decide +kernel) rfl) ?_
  exact ce_nil
set_option maxRecDepth 100000 in
def cdX3_readPaid : List CE := (0, 1, some (oAl 0)) :: (1, 3, some (oCV 3 mX3_advance 1)) :: (4, 1, some (oAl 0)) :: (5, 3, some (oGetI 3 6)) :: (8, 1, some (oIc 1)) :: (9, 3, some (oCmNe 43)) ::
  (12, 1, some (oAl 1)) :: (13, 3, some (oGetR [(336, 418), (720, 802)])) :: (16, 1, some (oAl 0)) :: (17, 3, some (oGetI 3 8)) :: (20, 3, some (oCI 2 mX2_find 2)) :: (23, 1, some (oIs 2)) ::
  (24, 1, some (oIl 2)) :: (25, 3, some (oIfLt 43)) :: (28, 1, some (oAl 1)) :: (29, 3, some (oGetR [(336, 49835), (720, 50219)])) :: (32, 1, some (oIl 2)) :: (33, 1, some oBald) ::
  (34, 3, some (oIfEq 43)) :: (37, 1, some (oAl 0)) :: (38, 1, some (oIc 3)) :: (39, 3, some (oCI 3 mX3_fail 2)) :: (42, 1, some oZret) :: (43, 1, some (oAl 0)) ::
  (44, 1, some (oAl 1)) :: (45, 3, some (oGetR [(336, 418), (720, 802)])) :: (48, 3, some (oCI 3 mX3_toldName 2)) :: (51, 1, some (oIs 2)) :: (52, 1, some (oIl 2)) :: (53, 3, some (oIfGe 58)) ::
  (56, 1, some (oIc 0)) :: (57, 1, some oZret) :: (58, 1, some (oAl 0)) :: (59, 1, some (oIc 0)) :: (60, 2, some (oIc 999999)) :: (62, 3, some (oCI 3 mX3_numberWithin 3)) ::
  (65, 1, some (oIs 3)) :: (66, 1, some (oIl 3)) :: (67, 3, some (oIfGe 72)) :: (70, 1, some (oIc 0)) :: (71, 1, some oZret) :: (72, 1, some (oAl 1)) ::
  (73, 3, some (oGetR [(336, 49816), (720, 50200)])) :: (76, 1, some (oIl 2)) :: (77, 1, some (oIl 3)) :: (78, 1, some oIast) :: (79, 1, some (oAl 1)) :: (80, 3, some (oGetR [(336, 49835), (720, 50219)])) ::
  (83, 1, some (oIl 2)) :: (84, 1, some (oIc 1)) :: (85, 1, some oBast) :: (86, 1, some (oIc 1)) :: (87, 1, some oZret) :: []
set_option maxRecDepth 100000 in
set_option maxHeartbeats 4000000 in
theorem okX3_readPaid : CodeOk mX3_readPaid cdX3_readPaid := by
  refine ⟨by rfl, ?_⟩
  show CodeAll mX3_readPaid cdX3_readPaid
  refine ce_op (okAl1 (k := 0) (by decide +kernel) rfl) ?_
  refine ce_op (okCV miX3_advance (rV clX3 (x := 50) miX3_advance rfl (by decide +kernel) wd463 wd465 wd0)) ?_
  refine ce_op (okAl1 (k := 0) (by decide +kernel) rfl) ?_
  refine ce_op (okGetI clX3 (k := 6) (x := 31) (by decide +kernel) (by decide) rfl wd132 (Or.inl rfl)) ?_
  refine ce_op (okIc1 (n := 1) (by decide +kernel) (by decide)) ?_
  refine ce_op (okCmNe (off := 34) (by decide +kernel) (by decide)) ?_
  refine ce_op (okAl1 (k := 1) (by decide +kernel) rfl) ?_
  refine ce_op (okGetR clX0 (k := 2) (x := 102) (by decide +kernel) (by decide) rfl wd349 rfl (by decide +kernel)) ?_
  refine ce_op (okAl1 (k := 0) (by decide +kernel) rfl) ?_
  refine ce_op (okGetI clX3 (k := 8) (x := 37) (by decide +kernel) (by decide) rfl wd134 (Or.inl rfl)) ?_
  refine ce_op (okCI miX2_find (rV clX2 (x := 132) miX2_find rfl (by decide +kernel) wd497 wd498 wd499)) ?_
  refine ce_op (okIs1 (k := 2) (by decide +kernel) rfl (by decide)) ?_
  refine ce_op (okIl1 (k := 2) (by decide +kernel) rfl) ?_
  refine ce_op (okIfLt (off := 18) (by decide +kernel) (by decide)) ?_
  refine ce_op (okAl1 (k := 1) (by decide +kernel) rfl) ?_
  refine ce_op (okGetR clX0 (k := 10) (x := 150) (by decide +kernel) (by decide) rfl wd369 rfl (by decide +kernel)) ?_
  refine ce_op (okIl1 (k := 2) (by decide +kernel) rfl) ?_
  refine ce_op (okBald (by decide +kernel)) ?_
  refine ce_op (okIfEq (off := 9) (by decide +kernel) (by decide)) ?_
  refine ce_op (okAl1 (k := 0) (by decide +kernel) rfl) ?_
  refine ce_op (okIc1 (n := 3) (by decide +kernel) (by decide)) ?_
  refine ce_op (okCI miX3_fail (rV clX3 (x := 73) miX3_fail rfl (by decide +kernel) wd490 wd492 wd5)) ?_
  refine ce_op (okZret (by decide +kernel) rfl) ?_
  refine ce_op (okAl1 (k := 0) (by decide +kernel) rfl) ?_
  refine ce_op (okAl1 (k := 1) (by decide +kernel) rfl) ?_
  refine ce_op (okGetR clX0 (k := 2) (x := 102) (by decide +kernel) (by decide) rfl wd349 rfl (by decide +kernel)) ?_
  refine ce_op (okCI miX3_toldName (rV clX3 (x := 105) miX3_toldName rfl (by decide +kernel) wd524 wd526 wd10)) ?_
  refine ce_op (okIs1 (k := 2) (by decide +kernel) rfl (by decide)) ?_
  refine ce_op (okIl1 (k := 2) (by decide +kernel) rfl) ?_
  refine ce_op (okIfGe (off := 5) (by decide +kernel) (by decide)) ?_
  refine ce_op (okIc1 (n := 0) (by decide +kernel) (by decide)) ?_
  refine ce_op (okZret (by decide +kernel) rfl) ?_
  refine ce_op (okAl1 (k := 0) (by decide +kernel) rfl) ?_
  refine ce_op (okIc1 (n := 0) (by decide +kernel) (by decide)) ?_
  refine ce_op (okIcL (k := 154) (by decide +kernel) wd568) ?_
  refine ce_op (okCI miX3_numberWithin (rV clX3 (x := 86) miX3_numberWithin rfl (by decide +kernel) wd501 wd503 wd6)) ?_
  refine ce_op (okIs1 (k := 3) (by decide +kernel) rfl (by decide)) ?_
  refine ce_op (okIl1 (k := 3) (by decide +kernel) rfl) ?_
  refine ce_op (okIfGe (off := 5) (by decide +kernel) (by decide)) ?_
  refine ce_op (okIc1 (n := 0) (by decide +kernel) (by decide)) ?_
  refine ce_op (okZret (by decide +kernel) rfl) ?_
  refine ce_op (okAl1 (k := 1) (by decide +kernel) rfl) ?_
  refine ce_op (okGetR clX0 (k := 9) (x := 155) (by decide +kernel) (by decide) rfl wd367 rfl (by decide +kernel)) ?_
  refine ce_op (okIl1 (k := 2) (by decide +kernel) rfl) ?_
  refine ce_op (okIl1 (k := 3) (by decide +kernel) rfl) ?_
  refine ce_op (okIast (by decide +kernel)) ?_
  refine ce_op (okAl1 (k := 1) (by decide +kernel) rfl) ?_
  refine ce_op (okGetR clX0 (k := 10) (x := 150) (by decide +kernel) (by decide) rfl wd369 rfl (by decide +kernel)) ?_
  refine ce_op (okIl1 (k := 2) (by decide +kernel) rfl) ?_
  refine ce_op (okIc1 (n := 1) (by decide +kernel) (by decide)) ?_
  refine ce_op (okBast (by decide +kernel)) ?_
  refine ce_op (okIc1 (n := 1) (by decide +kernel) (by decide)) ?_
  refine ce_op (okZret (by decide +kernel) rfl) ?_
  exact ce_nil
set_option maxRecDepth 100000 in
def cdX3_newName : List CE := (0, 1, some (oAl 1)) :: (1, 3, some (oGetI 2 1)) :: (4, 1, some (oIl 2)) :: (5, 3, some (oCmLt 16)) :: (8, 1, some (oAl 0)) :: (9, 1, some (oIc 2)) ::
  (10, 3, some (oCI 3 mX3_fail 2)) :: (13, 1, some oPop) :: (14, 1, some (oIc (-1))) :: (15, 1, some oIret) :: (16, 1, some (oAl 0)) :: (17, 3, some (oCV 3 mX3_advance 1)) ::
  (20, 1, some (oAl 0)) :: (21, 3, some (oGetI 3 6)) :: (24, 1, some (oIc 1)) :: (25, 3, some (oCmNe 38)) :: (28, 1, some (oAl 0)) :: (29, 3, some (oGetI 3 8)) ::
  (32, 3, some (oCI 16 mX3_isOfLanguage 1)) :: (35, 3, some (oIfEq 46)) :: (38, 1, some (oAl 0)) :: (39, 1, some (oIc 1)) :: (40, 3, some (oCI 3 mX3_fail 2)) :: (43, 1, some oPop) ::
  (44, 1, some (oIc (-1))) :: (45, 1, some oIret) :: (46, 1, some (oAl 1)) :: (47, 1, some (oAl 0)) :: (48, 3, some (oGetI 3 8)) :: (51, 3, some (oCI 2 mX2_find 2)) ::
  (54, 3, some (oIfLt 65)) :: (57, 1, some (oAl 0)) :: (58, 1, some (oIc 3)) :: (59, 3, some (oCI 3 mX3_fail 2)) :: (62, 1, some oPop) :: (63, 1, some (oIc (-1))) ::
  (64, 1, some oIret) :: (65, 1, some (oAl 0)) :: (66, 3, some (oGetI 3 8)) :: (69, 1, some (oIs 3)) :: (70, 1, some (oAl 0)) :: (71, 3, some (oCV 3 mX3_advance 1)) ::
  (74, 1, some (oIl 3)) :: (75, 1, some oIret) :: []
set_option maxRecDepth 100000 in
set_option maxHeartbeats 4000000 in
theorem okX3_newName : CodeOk mX3_newName cdX3_newName := by
  refine ⟨by rfl, ?_⟩
  show CodeAll mX3_newName cdX3_newName
  refine ce_op (okAl1 (k := 1) (by decide +kernel) rfl) ?_
  refine ce_op (okGetI clX2 (k := 1) (x := 158) (by decide +kernel) (by decide) rfl wd272 (Or.inl rfl)) ?_
  refine ce_op (okIl1 (k := 2) (by decide +kernel) rfl) ?_
  refine ce_op (okCmLt (off := 11) (by decide +kernel) (by decide)) ?_
  refine ce_op (okAl1 (k := 0) (by decide +kernel) rfl) ?_
  refine ce_op (okIc1 (n := 2) (by decide +kernel) (by decide)) ?_
  refine ce_op (okCI miX3_fail (rV clX3 (x := 73) miX3_fail rfl (by decide +kernel) wd490 wd492 wd5)) ?_
  refine ce_op (okPop (by decide +kernel)) ?_
  refine ce_op (okIc1 (n := (-1)) (by decide +kernel) (by decide)) ?_
  refine ce_op (okIret (by decide +kernel) rfl) ?_
  refine ce_op (okAl1 (k := 0) (by decide +kernel) rfl) ?_
  refine ce_op (okCV miX3_advance (rV clX3 (x := 50) miX3_advance rfl (by decide +kernel) wd463 wd465 wd0)) ?_
  refine ce_op (okAl1 (k := 0) (by decide +kernel) rfl) ?_
  refine ce_op (okGetI clX3 (k := 6) (x := 31) (by decide +kernel) (by decide) rfl wd132 (Or.inl rfl)) ?_
  refine ce_op (okIc1 (n := 1) (by decide +kernel) (by decide)) ?_
  refine ce_op (okCmNe (off := 13) (by decide +kernel) (by decide)) ?_
  refine ce_op (okAl1 (k := 0) (by decide +kernel) rfl) ?_
  refine ce_op (okGetI clX3 (k := 8) (x := 37) (by decide +kernel) (by decide) rfl wd134 (Or.inl rfl)) ?_
  refine ce_op (okCI miX3_isOfLanguage (rS (x := 159) miX3_isOfLanguage (by decide +kernel) wd494 wd495)) ?_
  refine ce_op (okIfEq (off := 11) (by decide +kernel) (by decide)) ?_
  refine ce_op (okAl1 (k := 0) (by decide +kernel) rfl) ?_
  refine ce_op (okIc1 (n := 1) (by decide +kernel) (by decide)) ?_
  refine ce_op (okCI miX3_fail (rV clX3 (x := 73) miX3_fail rfl (by decide +kernel) wd490 wd492 wd5)) ?_
  refine ce_op (okPop (by decide +kernel)) ?_
  refine ce_op (okIc1 (n := (-1)) (by decide +kernel) (by decide)) ?_
  refine ce_op (okIret (by decide +kernel) rfl) ?_
  refine ce_op (okAl1 (k := 1) (by decide +kernel) rfl) ?_
  refine ce_op (okAl1 (k := 0) (by decide +kernel) rfl) ?_
  refine ce_op (okGetI clX3 (k := 8) (x := 37) (by decide +kernel) (by decide) rfl wd134 (Or.inl rfl)) ?_
  refine ce_op (okCI miX2_find (rV clX2 (x := 132) miX2_find rfl (by decide +kernel) wd497 wd498 wd499)) ?_
  refine ce_op (okIfLt (off := 11) (by decide +kernel) (by decide)) ?_
  refine ce_op (okAl1 (k := 0) (by decide +kernel) rfl) ?_
  refine ce_op (okIc1 (n := 3) (by decide +kernel) (by decide)) ?_
  refine ce_op (okCI miX3_fail (rV clX3 (x := 73) miX3_fail rfl (by decide +kernel) wd490 wd492 wd5)) ?_
  refine ce_op (okPop (by decide +kernel)) ?_
  refine ce_op (okIc1 (n := (-1)) (by decide +kernel) (by decide)) ?_
  refine ce_op (okIret (by decide +kernel) rfl) ?_
  refine ce_op (okAl1 (k := 0) (by decide +kernel) rfl) ?_
  refine ce_op (okGetI clX3 (k := 8) (x := 37) (by decide +kernel) (by decide) rfl wd134 (Or.inl rfl)) ?_
  refine ce_op (okIs1 (k := 3) (by decide +kernel) rfl (by decide)) ?_
  refine ce_op (okAl1 (k := 0) (by decide +kernel) rfl) ?_
  refine ce_op (okCV miX3_advance (rV clX3 (x := 50) miX3_advance rfl (by decide +kernel) wd463 wd465 wd0)) ?_
  refine ce_op (okIl1 (k := 3) (by decide +kernel) rfl) ?_
  refine ce_op (okIret (by decide +kernel) rfl) ?_
  exact ce_nil
set_option maxRecDepth 100000 in
def cdX3_toldName : List CE := (0, 1, some (oAl 0)) :: (1, 3, some (oGetI 3 6)) :: (4, 1, some (oIc 1)) :: (5, 3, some (oCmNe 18)) :: (8, 1, some (oAl 0)) :: (9, 3, some (oGetI 3 8)) ::
  (12, 3, some (oCI 16 mX3_isOfLanguage 1)) :: (15, 3, some (oIfEq 26)) :: (18, 1, some (oAl 0)) :: (19, 1, some (oIc 1)) :: (20, 3, some (oCI 3 mX3_fail 2)) :: (23, 1, some oPop) ::
  (24, 1, some (oIc (-1))) :: (25, 1, some oIret) :: (26, 1, some (oAl 1)) :: (27, 1, some (oAl 0)) :: (28, 3, some (oGetI 3 8)) :: (31, 3, some (oCI 2 mX2_find 2)) ::
  (34, 1, some (oIs 2)) :: (35, 1, some (oIl 2)) :: (36, 3, some (oIfGe 47)) :: (39, 1, some (oAl 0)) :: (40, 1, some (oIc 4)) :: (41, 3, some (oCI 3 mX3_fail 2)) ::
  (44, 1, some oPop) :: (45, 1, some (oIc (-1))) :: (46, 1, some oIret) :: (47, 1, some (oAl 0)) :: (48, 3, some (oCV 3 mX3_advance 1)) :: (51, 1, some (oIl 2)) ::
  (52, 1, some oIret) :: []
set_option maxRecDepth 100000 in
set_option maxHeartbeats 4000000 in
theorem okX3_toldName : CodeOk mX3_toldName cdX3_toldName := by
  refine ⟨by rfl, ?_⟩
  show CodeAll mX3_toldName cdX3_toldName
  refine ce_op (okAl1 (k := 0) (by decide +kernel) rfl) ?_
  refine ce_op (okGetI clX3 (k := 6) (x := 31) (by decide +kernel) (by decide) rfl wd132 (Or.inl rfl)) ?_
  refine ce_op (okIc1 (n := 1) (by decide +kernel) (by decide)) ?_
  refine ce_op (okCmNe (off := 13) (by decide +kernel) (by decide)) ?_
  refine ce_op (okAl1 (k := 0) (by decide +kernel) rfl) ?_
  refine ce_op (okGetI clX3 (k := 8) (x := 37) (by decide +kernel) (by decide) rfl wd134 (Or.inl rfl)) ?_
  refine ce_op (okCI miX3_isOfLanguage (rS (x := 159) miX3_isOfLanguage (by decide +kernel) wd494 wd495)) ?_
  refine ce_op (okIfEq (off := 11) (by decide +kernel) (by decide)) ?_
  refine ce_op (okAl1 (k := 0) (by decide +kernel) rfl) ?_
  refine ce_op (okIc1 (n := 1) (by decide +kernel) (by decide)) ?_
  refine ce_op (okCI miX3_fail (rV clX3 (x := 73) miX3_fail rfl (by decide +kernel) wd490 wd492 wd5)) ?_
  refine ce_op (okPop (by decide +kernel)) ?_
  refine ce_op (okIc1 (n := (-1)) (by decide +kernel) (by decide)) ?_
  refine ce_op (okIret (by decide +kernel) rfl) ?_
  refine ce_op (okAl1 (k := 1) (by decide +kernel) rfl) ?_
  refine ce_op (okAl1 (k := 0) (by decide +kernel) rfl) ?_
  refine ce_op (okGetI clX3 (k := 8) (x := 37) (by decide +kernel) (by decide) rfl wd134 (Or.inl rfl)) ?_
  refine ce_op (okCI miX2_find (rV clX2 (x := 132) miX2_find rfl (by decide +kernel) wd497 wd498 wd499)) ?_
  refine ce_op (okIs1 (k := 2) (by decide +kernel) rfl (by decide)) ?_
  refine ce_op (okIl1 (k := 2) (by decide +kernel) rfl) ?_
  refine ce_op (okIfGe (off := 11) (by decide +kernel) (by decide)) ?_
  refine ce_op (okAl1 (k := 0) (by decide +kernel) rfl) ?_
  refine ce_op (okIc1 (n := 4) (by decide +kernel) (by decide)) ?_
  refine ce_op (okCI miX3_fail (rV clX3 (x := 73) miX3_fail rfl (by decide +kernel) wd490 wd492 wd5)) ?_
  refine ce_op (okPop (by decide +kernel)) ?_
  refine ce_op (okIc1 (n := (-1)) (by decide +kernel) (by decide)) ?_
  refine ce_op (okIret (by decide +kernel) rfl) ?_
  refine ce_op (okAl1 (k := 0) (by decide +kernel) rfl) ?_
  refine ce_op (okCV miX3_advance (rV clX3 (x := 50) miX3_advance rfl (by decide +kernel) wd463 wd465 wd0)) ?_
  refine ce_op (okIl1 (k := 2) (by decide +kernel) rfl) ?_
  refine ce_op (okIret (by decide +kernel) rfl) ?_
  exact ce_nil
set_option maxRecDepth 100000 in
def cdX3_numberWithin : List CE := (0, 1, some (oAl 0)) :: (1, 3, some (oGetI 3 6)) :: (4, 1, some (oIc 2)) :: (5, 3, some (oCmEq 16)) :: (8, 1, some (oAl 0)) :: (9, 1, some (oIc 1)) ::
  (10, 3, some (oCI 3 mX3_fail 2)) :: (13, 1, some oPop) :: (14, 1, some (oIc (-1))) :: (15, 1, some oIret) :: (16, 1, some (oAl 0)) :: (17, 3, some (oGetI 3 8)) ::
  (20, 1, some (oIl 1)) :: (21, 1, some (oIl 2)) :: (22, 3, some (oCI 16 mX6_within 3)) :: (25, 3, some (oIfNe 36)) :: (28, 1, some (oAl 0)) :: (29, 1, some (oIc 2)) ::
  (30, 3, some (oCI 3 mX3_fail 2)) :: (33, 1, some oPop) :: (34, 1, some (oIc (-1))) :: (35, 1, some oIret) :: (36, 1, some (oAl 0)) :: (37, 3, some (oGetI 3 8)) ::
  (40, 1, some (oIs 3)) :: (41, 1, some (oAl 0)) :: (42, 3, some (oCV 3 mX3_advance 1)) :: (45, 1, some (oIl 3)) :: (46, 1, some oIret) :: []
set_option maxRecDepth 100000 in
set_option maxHeartbeats 4000000 in
theorem okX3_numberWithin : CodeOk mX3_numberWithin cdX3_numberWithin := by
  refine ⟨by rfl, ?_⟩
  show CodeAll mX3_numberWithin cdX3_numberWithin
  refine ce_op (okAl1 (k := 0) (by decide +kernel) rfl) ?_
  refine ce_op (okGetI clX3 (k := 6) (x := 31) (by decide +kernel) (by decide) rfl wd132 (Or.inl rfl)) ?_
  refine ce_op (okIc1 (n := 2) (by decide +kernel) (by decide)) ?_
  refine ce_op (okCmEq (off := 11) (by decide +kernel) (by decide)) ?_
  refine ce_op (okAl1 (k := 0) (by decide +kernel) rfl) ?_
  refine ce_op (okIc1 (n := 1) (by decide +kernel) (by decide)) ?_
  refine ce_op (okCI miX3_fail (rV clX3 (x := 73) miX3_fail rfl (by decide +kernel) wd490 wd492 wd5)) ?_
  refine ce_op (okPop (by decide +kernel)) ?_
  refine ce_op (okIc1 (n := (-1)) (by decide +kernel) (by decide)) ?_
  refine ce_op (okIret (by decide +kernel) rfl) ?_
  refine ce_op (okAl1 (k := 0) (by decide +kernel) rfl) ?_
  refine ce_op (okGetI clX3 (k := 8) (x := 37) (by decide +kernel) (by decide) rfl wd134 (Or.inl rfl)) ?_
  refine ce_op (okIl1 (k := 1) (by decide +kernel) rfl) ?_
  refine ce_op (okIl1 (k := 2) (by decide +kernel) rfl) ?_
  refine ce_op (okCI miX6_within (rN (x := 162) (host := "SaleRounds") miX6_within (by decide +kernel) (by decide +kernel) wd506)) ?_
  refine ce_op (okIfNe (off := 11) (by decide +kernel) (by decide)) ?_
  refine ce_op (okAl1 (k := 0) (by decide +kernel) rfl) ?_
  refine ce_op (okIc1 (n := 2) (by decide +kernel) (by decide)) ?_
  refine ce_op (okCI miX3_fail (rV clX3 (x := 73) miX3_fail rfl (by decide +kernel) wd490 wd492 wd5)) ?_
  refine ce_op (okPop (by decide +kernel)) ?_
  refine ce_op (okIc1 (n := (-1)) (by decide +kernel) (by decide)) ?_
  refine ce_op (okIret (by decide +kernel) rfl) ?_
  refine ce_op (okAl1 (k := 0) (by decide +kernel) rfl) ?_
  refine ce_op (okGetI clX3 (k := 8) (x := 37) (by decide +kernel) (by decide) rfl wd134 (Or.inl rfl)) ?_
  refine ce_op (okIs1 (k := 3) (by decide +kernel) rfl (by decide)) ?_
  refine ce_op (okAl1 (k := 0) (by decide +kernel) rfl) ?_
  refine ce_op (okCV miX3_advance (rV clX3 (x := 50) miX3_advance rfl (by decide +kernel) wd463 wd465 wd0)) ?_
  refine ce_op (okIl1 (k := 3) (by decide +kernel) rfl) ?_
  refine ce_op (okIret (by decide +kernel) rfl) ?_
  exact ce_nil
set_option maxRecDepth 100000 in
def cdX3_lineEnds : List CE := (0, 1, some (oAl 0)) :: (1, 3, some (oGetI 3 6)) :: (4, 1, some (oIc 3)) :: (5, 3, some (oCmEq 14)) :: (8, 1, some (oAl 0)) :: (9, 1, some (oIc 1)) ::
  (10, 3, some (oCI 3 mX3_fail 2)) :: (13, 1, some oZret) :: (14, 1, some (oAl 0)) :: (15, 3, some (oCV 3 mX3_advance 1)) :: (18, 1, some (oIc 1)) :: (19, 1, some oZret) :: []
set_option maxRecDepth 100000 in
set_option maxHeartbeats 4000000 in
theorem okX3_lineEnds : CodeOk mX3_lineEnds cdX3_lineEnds := by
  refine ⟨by rfl, ?_⟩
  show CodeAll mX3_lineEnds cdX3_lineEnds
  refine ce_op (okAl1 (k := 0) (by decide +kernel) rfl) ?_
  refine ce_op (okGetI clX3 (k := 6) (x := 31) (by decide +kernel) (by decide) rfl wd132 (Or.inl rfl)) ?_
  refine ce_op (okIc1 (n := 3) (by decide +kernel) (by decide)) ?_
  refine ce_op (okCmEq (off := 9) (by decide +kernel) (by decide)) ?_
  refine ce_op (okAl1 (k := 0) (by decide +kernel) rfl) ?_
  refine ce_op (okIc1 (n := 1) (by decide +kernel) (by decide)) ?_
  refine ce_op (okCI miX3_fail (rV clX3 (x := 73) miX3_fail rfl (by decide +kernel) wd490 wd492 wd5)) ?_
  refine ce_op (okZret (by decide +kernel) rfl) ?_
  refine ce_op (okAl1 (k := 0) (by decide +kernel) rfl) ?_
  refine ce_op (okCV miX3_advance (rV clX3 (x := 50) miX3_advance rfl (by decide +kernel) wd463 wd465 wd0)) ?_
  refine ce_op (okIc1 (n := 1) (by decide +kernel) (by decide)) ?_
  refine ce_op (okZret (by decide +kernel) rfl) ?_
  exact ce_nil
set_option maxRecDepth 100000 in
def cdX3_fail : List CE := (0, 1, some (oAl 0)) :: (1, 1, some (oIl 1)) :: (2, 3, some (oPutI 3 2)) :: (5, 1, some (oAl 0)) :: (6, 1, some (oAl 0)) :: (7, 3, some (oGetI 3 7)) ::
  (10, 3, some (oPutI 3 3)) :: (13, 1, some (oIc 0)) :: (14, 1, some oZret) :: []
set_option maxRecDepth 100000 in
set_option maxHeartbeats 4000000 in
theorem okX3_fail : CodeOk mX3_fail cdX3_fail := by
  refine ⟨by rfl, ?_⟩
  show CodeAll mX3_fail cdX3_fail
  refine ce_op (okAl1 (k := 0) (by decide +kernel) rfl) ?_
  refine ce_op (okIl1 (k := 1) (by decide +kernel) rfl) ?_
  refine ce_op (okPutI clX3 (k := 2) (x := 19) (by decide +kernel) (by decide) rfl wd126 rfl rfl (by decide +kernel)) ?_
  refine ce_op (okAl1 (k := 0) (by decide +kernel) rfl) ?_
  refine ce_op (okAl1 (k := 0) (by decide +kernel) rfl) ?_
  refine ce_op (okGetI clX3 (k := 7) (x := 34) (by decide +kernel) (by decide) rfl wd133 (Or.inl rfl)) ?_
  refine ce_op (okPutI clX3 (k := 3) (x := 22) (by decide +kernel) (by decide) rfl wd128 rfl rfl (by decide +kernel)) ?_
  refine ce_op (okIc1 (n := 0) (by decide +kernel) (by decide)) ?_
  refine ce_op (okZret (by decide +kernel) rfl) ?_
  exact ce_nil
set_option maxRecDepth 100000 in
def cdX3_isOfLanguage : List CE := (0, 1, some (oIl 0)) :: (1, 83, some (oSw [(136085504, 84), (211366912, 84), (251105280, 84), (269946880, 84), (404164608, 84), (437857280, 84), (538218496, 84), (620213248, 84), (638981120, 84)] 86)) :: (84, 1, some (oIc 1)) :: (85, 1, some oZret) :: (86, 1, some (oIc 0)) :: (87, 1, some oZret) :: []
set_option maxRecDepth 100000 in
set_option maxHeartbeats 4000000 in
theorem okX3_isOfLanguage : CodeOk mX3_isOfLanguage cdX3_isOfLanguage := by
  refine ⟨by rfl, ?_⟩
  show CodeAll mX3_isOfLanguage cdX3_isOfLanguage
  refine ce_op (okIl1 (k := 0) (by decide +kernel) rfl) ?_
  refine ce_op (okLsw (dO := 85) (ps := #[(136085504, 83), (211366912, 83), (251105280, 83), (269946880, 83), (404164608, 83), (437857280, 83), (538218496, 83), (620213248, 83), (638981120, 83)]) (by decide +kernel) (by decide) (by decide +kernel) (by decide +kernel)) ?_
  refine ce_op (okIc1 (n := 1) (by decide +kernel) (by decide)) ?_
  refine ce_op (okZret (by decide +kernel) rfl) ?_
  refine ce_op (okIc1 (n := 0) (by decide +kernel) (by decide)) ?_
  refine ce_op (okZret (by decide +kernel) rfl) ?_
  exact ce_nil
set_option maxRecDepth 100000 in
def cdX3_advance : List CE := (0, 0, none) :: (0, 1, some (oAl 0)) :: (1, 3, some (oGetI 3 5)) :: (4, 1, some (oAl 0)) :: (5, 3, some (oGetI 3 4)) :: (8, 3, some (oCmGe 52)) ::
  (11, 1, some (oAl 0)) :: (12, 3, some (oGetR [(19, 3276842)])) :: (15, 1, some (oAl 0)) :: (16, 3, some (oGetI 3 5)) :: (19, 1, some oBald) :: (20, 2, some (oIc 10)) ::
  (22, 3, some (oCmEq 39)) :: (25, 1, some (oAl 0)) :: (26, 3, some (oGetR [(19, 3276842)])) :: (29, 1, some (oAl 0)) :: (30, 3, some (oGetI 3 5)) :: (33, 1, some oBald) ::
  (34, 2, some (oIc 32)) :: (36, 3, some (oCmNe 52)) :: (39, 1, some (oAl 0)) :: (40, 1, some oDup) :: (41, 3, some (oGetI 3 5)) :: (44, 1, some (oIc 1)) ::
  (45, 1, some oIadd) :: (46, 3, some (oPutI 3 5)) :: (49, 3, some (oGoto 0)) :: (52, 1, some (oAl 0)) :: (53, 1, some (oAl 0)) :: (54, 3, some (oGetI 3 5)) ::
  (57, 3, some (oPutI 3 7)) :: (60, 1, some (oAl 0)) :: (61, 1, some (oIc 0)) :: (62, 3, some (oPutI 3 8)) :: (65, 1, some (oAl 0)) :: (66, 3, some (oGetI 3 5)) ::
  (69, 1, some (oAl 0)) :: (70, 3, some (oGetI 3 4)) :: (73, 3, some (oCmLt 84)) :: (76, 1, some (oAl 0)) :: (77, 1, some (oIc 0)) :: (78, 3, some (oPutI 3 6)) ::
  (81, 3, some (oGoto 161)) :: (84, 1, some (oAl 0)) :: (85, 3, some (oGetR [(19, 3276842)])) :: (88, 1, some (oAl 0)) :: (89, 3, some (oGetI 3 5)) :: (92, 1, some oBald) ::
  (93, 3, some (oCI 16 mX3_isLetter 1)) :: (96, 3, some (oIfEq 106)) :: (99, 1, some (oAl 0)) :: (100, 3, some (oCV 3 mX3_takeWord 1)) :: (103, 3, some (oGoto 161)) :: (106, 1, some (oAl 0)) ::
  (107, 3, some (oGetR [(19, 3276842)])) :: (110, 1, some (oAl 0)) :: (111, 3, some (oGetI 3 5)) :: (114, 1, some oBald) :: (115, 3, some (oCI 16 mX3_isDigit 1)) :: (118, 3, some (oIfEq 128)) ::
  (121, 1, some (oAl 0)) :: (122, 3, some (oCV 3 mX3_takeNumber 1)) :: (125, 3, some (oGoto 161)) :: (128, 1, some (oAl 0)) :: (129, 1, some (oAl 0)) :: (130, 3, some (oGetR [(19, 3276842)])) ::
  (133, 1, some (oAl 0)) :: (134, 3, some (oGetI 3 5)) :: (137, 1, some oBald) :: (138, 2, some (oIc 59)) :: (140, 3, some (oCmNe 147)) :: (143, 1, some (oIc 3)) ::
  (144, 3, some (oGoto 148)) :: (147, 1, some (oIc 4)) :: (148, 3, some (oPutI 3 6)) :: (151, 1, some (oAl 0)) :: (152, 1, some oDup) :: (153, 3, some (oGetI 3 5)) ::
  (156, 1, some (oIc 1)) :: (157, 1, some oIadd) :: (158, 3, some (oPutI 3 5)) :: (161, 1, some oVret) :: []
set_option maxRecDepth 100000 in
set_option maxHeartbeats 4000000 in
theorem okX3_advance : CodeOk mX3_advance cdX3_advance := by
  refine ⟨by rfl, ?_⟩
  show CodeAll mX3_advance cdX3_advance
  refine ce_st ?_
  refine ce_op (okAl1 (k := 0) (by decide +kernel) rfl) ?_
  refine ce_op (okGetI clX3 (k := 5) (x := 28) (by decide +kernel) (by decide) rfl wd131 (Or.inl rfl)) ?_
  refine ce_op (okAl1 (k := 0) (by decide +kernel) rfl) ?_
  refine ce_op (okGetI clX3 (k := 4) (x := 25) (by decide +kernel) (by decide) rfl wd130 (Or.inl rfl)) ?_
  refine ce_op (okCmGe (off := 44) (by decide +kernel) (by decide)) ?_
  refine ce_op (okAl1 (k := 0) (by decide +kernel) rfl) ?_
  refine ce_op (okGetR clX3 (k := 0) (x := 9) (by decide +kernel) (by decide) rfl wd123 rfl (by decide +kernel)) ?_
  refine ce_op (okAl1 (k := 0) (by decide +kernel) rfl) ?_
  refine ce_op (okGetI clX3 (k := 5) (x := 28) (by decide +kernel) (by decide) rfl wd131 (Or.inl rfl)) ?_
  refine ce_op (okBald (by decide +kernel)) ?_
  refine ce_op (okIc2 (n := 10) (by decide +kernel) (by decide)) ?_
  refine ce_op (okCmEq (off := 17) (by decide +kernel) (by decide)) ?_
  refine ce_op (okAl1 (k := 0) (by decide +kernel) rfl) ?_
  refine ce_op (okGetR clX3 (k := 0) (x := 9) (by decide +kernel) (by decide) rfl wd123 rfl (by decide +kernel)) ?_
  refine ce_op (okAl1 (k := 0) (by decide +kernel) rfl) ?_
  refine ce_op (okGetI clX3 (k := 5) (x := 28) (by decide +kernel) (by decide) rfl wd131 (Or.inl rfl)) ?_
  refine ce_op (okBald (by decide +kernel)) ?_
  refine ce_op (okIc2 (n := 32) (by decide +kernel) (by decide)) ?_
  refine ce_op (okCmNe (off := 16) (by decide +kernel) (by decide)) ?_
  refine ce_op (okAl1 (k := 0) (by decide +kernel) rfl) ?_
  refine ce_op (okDup (by decide +kernel)) ?_
  refine ce_op (okGetI clX3 (k := 5) (x := 28) (by decide +kernel) (by decide) rfl wd131 (Or.inl rfl)) ?_
  refine ce_op (okIc1 (n := 1) (by decide +kernel) (by decide)) ?_
  refine ce_op (okIadd (by decide +kernel)) ?_
  refine ce_op (okPutI clX3 (k := 5) (x := 28) (by decide +kernel) (by decide) rfl wd131 rfl rfl (by decide +kernel)) ?_
  refine ce_op (okGoto (off := (-49)) (by decide +kernel) (by decide)) ?_
  refine ce_op (okAl1 (k := 0) (by decide +kernel) rfl) ?_
  refine ce_op (okAl1 (k := 0) (by decide +kernel) rfl) ?_
  refine ce_op (okGetI clX3 (k := 5) (x := 28) (by decide +kernel) (by decide) rfl wd131 (Or.inl rfl)) ?_
  refine ce_op (okPutI clX3 (k := 7) (x := 34) (by decide +kernel) (by decide) rfl wd133 rfl rfl (by decide +kernel)) ?_
  refine ce_op (okAl1 (k := 0) (by decide +kernel) rfl) ?_
  refine ce_op (okIc1 (n := 0) (by decide +kernel) (by decide)) ?_
  refine ce_op (okPutI clX3 (k := 8) (x := 37) (by decide +kernel) (by decide) rfl wd134 rfl rfl (by decide +kernel)) ?_
  refine ce_op (okAl1 (k := 0) (by decide +kernel) rfl) ?_
  refine ce_op (okGetI clX3 (k := 5) (x := 28) (by decide +kernel) (by decide) rfl wd131 (Or.inl rfl)) ?_
  refine ce_op (okAl1 (k := 0) (by decide +kernel) rfl) ?_
  refine ce_op (okGetI clX3 (k := 4) (x := 25) (by decide +kernel) (by decide) rfl wd130 (Or.inl rfl)) ?_
  refine ce_op (okCmLt (off := 11) (by decide +kernel) (by decide)) ?_
  refine ce_op (okAl1 (k := 0) (by decide +kernel) rfl) ?_
  refine ce_op (okIc1 (n := 0) (by decide +kernel) (by decide)) ?_
  refine ce_op (okPutI clX3 (k := 6) (x := 31) (by decide +kernel) (by decide) rfl wd132 rfl rfl (by decide +kernel)) ?_
  refine ce_op (okGoto (off := 80) (by decide +kernel) (by decide)) ?_
  refine ce_op (okAl1 (k := 0) (by decide +kernel) rfl) ?_
  refine ce_op (okGetR clX3 (k := 0) (x := 9) (by decide +kernel) (by decide) rfl wd123 rfl (by decide +kernel)) ?_
  refine ce_op (okAl1 (k := 0) (by decide +kernel) rfl) ?_
  refine ce_op (okGetI clX3 (k := 5) (x := 28) (by decide +kernel) (by decide) rfl wd131 (Or.inl rfl)) ?_
  refine ce_op (okBald (by decide +kernel)) ?_
  refine ce_op (okCI miX3_isLetter (rS (x := 166) miX3_isLetter (by decide +kernel) wd467 wd468)) ?_
  refine ce_op (okIfEq (off := 10) (by decide +kernel) (by decide)) ?_
  refine ce_op (okAl1 (k := 0) (by decide +kernel) rfl) ?_
  refine ce_op (okCV miX3_takeWord (rV clX3 (x := 169) miX3_takeWord rfl (by decide +kernel) wd470 wd472 wd1)) ?_
  refine ce_op (okGoto (off := 58) (by decide +kernel) (by decide)) ?_
  refine ce_op (okAl1 (k := 0) (by decide +kernel) rfl) ?_
  refine ce_op (okGetR clX3 (k := 0) (x := 9) (by decide +kernel) (by decide) rfl wd123 rfl (by decide +kernel)) ?_
  refine ce_op (okAl1 (k := 0) (by decide +kernel) rfl) ?_
  refine ce_op (okGetI clX3 (k := 5) (x := 28) (by decide +kernel) (by decide) rfl wd131 (Or.inl rfl)) ?_
  refine ce_op (okBald (by decide +kernel)) ?_
  refine ce_op (okCI miX3_isDigit (rS (x := 172) miX3_isDigit (by decide +kernel) wd474 wd475)) ?_
  refine ce_op (okIfEq (off := 10) (by decide +kernel) (by decide)) ?_
  refine ce_op (okAl1 (k := 0) (by decide +kernel) rfl) ?_
  refine ce_op (okCV miX3_takeNumber (rV clX3 (x := 175) miX3_takeNumber rfl (by decide +kernel) wd477 wd479 wd2)) ?_
  refine ce_op (okGoto (off := 36) (by decide +kernel) (by decide)) ?_
  refine ce_op (okAl1 (k := 0) (by decide +kernel) rfl) ?_
  refine ce_op (okAl1 (k := 0) (by decide +kernel) rfl) ?_
  refine ce_op (okGetR clX3 (k := 0) (x := 9) (by decide +kernel) (by decide) rfl wd123 rfl (by decide +kernel)) ?_
  refine ce_op (okAl1 (k := 0) (by decide +kernel) rfl) ?_
  refine ce_op (okGetI clX3 (k := 5) (x := 28) (by decide +kernel) (by decide) rfl wd131 (Or.inl rfl)) ?_
  refine ce_op (okBald (by decide +kernel)) ?_
  refine ce_op (okIc2 (n := 59) (by decide +kernel) (by decide)) ?_
  refine ce_op (okCmNe (off := 7) (by decide +kernel) (by decide)) ?_
  refine ce_op (okIc1 (n := 3) (by decide +kernel) (by decide)) ?_
  refine ce_op (okGoto (off := 4) (by decide +kernel) (by decide)) ?_
  refine ce_op (okIc1 (n := 4) (by decide +kernel) (by decide)) ?_
  refine ce_op (okPutI clX3 (k := 6) (x := 31) (by decide +kernel) (by decide) rfl wd132 rfl rfl (by decide +kernel)) ?_
  refine ce_op (okAl1 (k := 0) (by decide +kernel) rfl) ?_
  refine ce_op (okDup (by decide +kernel)) ?_
  refine ce_op (okGetI clX3 (k := 5) (x := 28) (by decide +kernel) (by decide) rfl wd131 (Or.inl rfl)) ?_
  refine ce_op (okIc1 (n := 1) (by decide +kernel) (by decide)) ?_
  refine ce_op (okIadd (by decide +kernel)) ?_
  refine ce_op (okPutI clX3 (k := 5) (x := 28) (by decide +kernel) (by decide) rfl wd131 rfl rfl (by decide +kernel)) ?_
  refine ce_op (okVret (by decide +kernel) rfl) ?_
  exact ce_nil
set_option maxRecDepth 100000 in
def cdX3_takeWord : List CE := (0, 0, none) :: (0, 1, some (oAl 0)) :: (1, 3, some (oGetI 3 5)) :: (4, 1, some (oAl 0)) :: (5, 3, some (oGetI 3 4)) :: (8, 3, some (oCmGe 85)) ::
  (11, 1, some (oAl 0)) :: (12, 3, some (oGetR [(19, 3276842)])) :: (15, 1, some (oAl 0)) :: (16, 3, some (oGetI 3 5)) :: (19, 1, some oBald) :: (20, 3, some (oCI 16 mX3_isLetter 1)) ::
  (23, 3, some (oIfEq 85)) :: (26, 1, some (oAl 0)) :: (27, 3, some (oGetI 3 5)) :: (30, 1, some (oAl 0)) :: (31, 3, some (oGetI 3 7)) :: (34, 1, some oIsub) ::
  (35, 1, some (oIs 1)) :: (36, 1, some (oIl 1)) :: (37, 2, some (oIc 6)) :: (39, 3, some (oCmGe 72)) :: (42, 1, some (oAl 0)) :: (43, 1, some oDup) ::
  (44, 3, some (oGetI 3 8)) :: (47, 1, some (oAl 0)) :: (48, 3, some (oGetR [(19, 3276842)])) :: (51, 1, some (oAl 0)) :: (52, 3, some (oGetI 3 5)) :: (55, 1, some oBald) ::
  (56, 2, some (oIc 97)) :: (58, 1, some oIsub) :: (59, 1, some (oIc 1)) :: (60, 1, some oIadd) :: (61, 2, some (oIc 25)) :: (63, 1, some (oIc 5)) ::
  (64, 1, some (oIl 1)) :: (65, 1, some oImul) :: (66, 1, some oIsub) :: (67, 1, some oIshl) :: (68, 1, some oIor) :: (69, 3, some (oPutI 3 8)) ::
  (72, 1, some (oAl 0)) :: (73, 1, some oDup) :: (74, 3, some (oGetI 3 5)) :: (77, 1, some (oIc 1)) :: (78, 1, some oIadd) :: (79, 3, some (oPutI 3 5)) ::
  (82, 3, some (oGoto 0)) :: (85, 1, some (oAl 0)) :: (86, 1, some (oAl 0)) :: (87, 3, some (oGetI 3 5)) :: (90, 1, some (oAl 0)) :: (91, 3, some (oGetI 3 7)) ::
  (94, 1, some oIsub) :: (95, 2, some (oIc 6)) :: (97, 3, some (oCmGt 104)) :: (100, 1, some (oIc 1)) :: (101, 3, some (oGoto 105)) :: (104, 1, some (oIc 4)) ::
  (105, 3, some (oPutI 3 6)) :: (108, 1, some oVret) :: []
set_option maxRecDepth 100000 in
set_option maxHeartbeats 4000000 in
theorem okX3_takeWord : CodeOk mX3_takeWord cdX3_takeWord := by
  refine ⟨by rfl, ?_⟩
  show CodeAll mX3_takeWord cdX3_takeWord
  refine ce_st ?_
  refine ce_op (okAl1 (k := 0) (by decide +kernel) rfl) ?_
  refine ce_op (okGetI clX3 (k := 5) (x := 28) (by decide +kernel) (by decide) rfl wd131 (Or.inl rfl)) ?_
  refine ce_op (okAl1 (k := 0) (by decide +kernel) rfl) ?_
  refine ce_op (okGetI clX3 (k := 4) (x := 25) (by decide +kernel) (by decide) rfl wd130 (Or.inl rfl)) ?_
  refine ce_op (okCmGe (off := 77) (by decide +kernel) (by decide)) ?_
  refine ce_op (okAl1 (k := 0) (by decide +kernel) rfl) ?_
  refine ce_op (okGetR clX3 (k := 0) (x := 9) (by decide +kernel) (by decide) rfl wd123 rfl (by decide +kernel)) ?_
  refine ce_op (okAl1 (k := 0) (by decide +kernel) rfl) ?_
  refine ce_op (okGetI clX3 (k := 5) (x := 28) (by decide +kernel) (by decide) rfl wd131 (Or.inl rfl)) ?_
  refine ce_op (okBald (by decide +kernel)) ?_
  refine ce_op (okCI miX3_isLetter (rS (x := 166) miX3_isLetter (by decide +kernel) wd467 wd468)) ?_
  refine ce_op (okIfEq (off := 62) (by decide +kernel) (by decide)) ?_
  refine ce_op (okAl1 (k := 0) (by decide +kernel) rfl) ?_
  refine ce_op (okGetI clX3 (k := 5) (x := 28) (by decide +kernel) (by decide) rfl wd131 (Or.inl rfl)) ?_
  refine ce_op (okAl1 (k := 0) (by decide +kernel) rfl) ?_
  refine ce_op (okGetI clX3 (k := 7) (x := 34) (by decide +kernel) (by decide) rfl wd133 (Or.inl rfl)) ?_
  refine ce_op (okIsub (by decide +kernel)) ?_
  refine ce_op (okIs1 (k := 1) (by decide +kernel) rfl (by decide)) ?_
  refine ce_op (okIl1 (k := 1) (by decide +kernel) rfl) ?_
  refine ce_op (okIc2 (n := 6) (by decide +kernel) (by decide)) ?_
  refine ce_op (okCmGe (off := 33) (by decide +kernel) (by decide)) ?_
  refine ce_op (okAl1 (k := 0) (by decide +kernel) rfl) ?_
  refine ce_op (okDup (by decide +kernel)) ?_
  refine ce_op (okGetI clX3 (k := 8) (x := 37) (by decide +kernel) (by decide) rfl wd134 (Or.inl rfl)) ?_
  refine ce_op (okAl1 (k := 0) (by decide +kernel) rfl) ?_
  refine ce_op (okGetR clX3 (k := 0) (x := 9) (by decide +kernel) (by decide) rfl wd123 rfl (by decide +kernel)) ?_
  refine ce_op (okAl1 (k := 0) (by decide +kernel) rfl) ?_
  refine ce_op (okGetI clX3 (k := 5) (x := 28) (by decide +kernel) (by decide) rfl wd131 (Or.inl rfl)) ?_
  refine ce_op (okBald (by decide +kernel)) ?_
  refine ce_op (okIc2 (n := 97) (by decide +kernel) (by decide)) ?_
  refine ce_op (okIsub (by decide +kernel)) ?_
  refine ce_op (okIc1 (n := 1) (by decide +kernel) (by decide)) ?_
  refine ce_op (okIadd (by decide +kernel)) ?_
  refine ce_op (okIc2 (n := 25) (by decide +kernel) (by decide)) ?_
  refine ce_op (okIc1 (n := 5) (by decide +kernel) (by decide)) ?_
  refine ce_op (okIl1 (k := 1) (by decide +kernel) rfl) ?_
  refine ce_op (okImul (by decide +kernel)) ?_
  refine ce_op (okIsub (by decide +kernel)) ?_
  refine ce_op (okIshl (by decide +kernel)) ?_
  refine ce_op (okIor (by decide +kernel)) ?_
  refine ce_op (okPutI clX3 (k := 8) (x := 37) (by decide +kernel) (by decide) rfl wd134 rfl rfl (by decide +kernel)) ?_
  refine ce_op (okAl1 (k := 0) (by decide +kernel) rfl) ?_
  refine ce_op (okDup (by decide +kernel)) ?_
  refine ce_op (okGetI clX3 (k := 5) (x := 28) (by decide +kernel) (by decide) rfl wd131 (Or.inl rfl)) ?_
  refine ce_op (okIc1 (n := 1) (by decide +kernel) (by decide)) ?_
  refine ce_op (okIadd (by decide +kernel)) ?_
  refine ce_op (okPutI clX3 (k := 5) (x := 28) (by decide +kernel) (by decide) rfl wd131 rfl rfl (by decide +kernel)) ?_
  refine ce_op (okGoto (off := (-82)) (by decide +kernel) (by decide)) ?_
  refine ce_op (okAl1 (k := 0) (by decide +kernel) rfl) ?_
  refine ce_op (okAl1 (k := 0) (by decide +kernel) rfl) ?_
  refine ce_op (okGetI clX3 (k := 5) (x := 28) (by decide +kernel) (by decide) rfl wd131 (Or.inl rfl)) ?_
  refine ce_op (okAl1 (k := 0) (by decide +kernel) rfl) ?_
  refine ce_op (okGetI clX3 (k := 7) (x := 34) (by decide +kernel) (by decide) rfl wd133 (Or.inl rfl)) ?_
  refine ce_op (okIsub (by decide +kernel)) ?_
  refine ce_op (okIc2 (n := 6) (by decide +kernel) (by decide)) ?_
  refine ce_op (okCmGt (off := 7) (by decide +kernel) (by decide)) ?_
  refine ce_op (okIc1 (n := 1) (by decide +kernel) (by decide)) ?_
  refine ce_op (okGoto (off := 4) (by decide +kernel) (by decide)) ?_
  refine ce_op (okIc1 (n := 4) (by decide +kernel) (by decide)) ?_
  refine ce_op (okPutI clX3 (k := 6) (x := 31) (by decide +kernel) (by decide) rfl wd132 rfl rfl (by decide +kernel)) ?_
  refine ce_op (okVret (by decide +kernel) rfl) ?_
  exact ce_nil
set_option maxRecDepth 100000 in
def cdX3_takeNumber : List CE := (0, 1, some (oAl 0)) :: (1, 1, some (oIc 2)) :: (2, 3, some (oPutI 3 6)) :: (5, 0, none) :: (5, 1, some (oAl 0)) :: (6, 3, some (oGetI 3 5)) ::
  (9, 1, some (oAl 0)) :: (10, 3, some (oGetI 3 4)) :: (13, 3, some (oCmGe 73)) :: (16, 1, some (oAl 0)) :: (17, 3, some (oGetR [(19, 3276842)])) :: (20, 1, some (oAl 0)) ::
  (21, 3, some (oGetI 3 5)) :: (24, 1, some oBald) :: (25, 3, some (oCI 16 mX3_isDigit 1)) :: (28, 3, some (oIfEq 73)) :: (31, 1, some (oAl 0)) :: (32, 2, some (oIc 10)) ::
  (34, 1, some (oAl 0)) :: (35, 3, some (oGetI 3 8)) :: (38, 1, some oImul) :: (39, 1, some (oAl 0)) :: (40, 3, some (oGetR [(19, 3276842)])) :: (43, 1, some (oAl 0)) ::
  (44, 3, some (oGetI 3 5)) :: (47, 1, some oBald) :: (48, 1, some oIadd) :: (49, 2, some (oIc 48)) :: (51, 1, some oIsub) :: (52, 2, some (oIc 1000000)) ::
  (54, 3, some oMin) :: (57, 3, some (oPutI 3 8)) :: (60, 1, some (oAl 0)) :: (61, 1, some oDup) :: (62, 3, some (oGetI 3 5)) :: (65, 1, some (oIc 1)) ::
  (66, 1, some oIadd) :: (67, 3, some (oPutI 3 5)) :: (70, 3, some (oGoto 5)) :: (73, 1, some oVret) :: []
set_option maxRecDepth 100000 in
set_option maxHeartbeats 4000000 in
theorem okX3_takeNumber : CodeOk mX3_takeNumber cdX3_takeNumber := by
  refine ⟨by rfl, ?_⟩
  show CodeAll mX3_takeNumber cdX3_takeNumber
  refine ce_op (okAl1 (k := 0) (by decide +kernel) rfl) ?_
  refine ce_op (okIc1 (n := 2) (by decide +kernel) (by decide)) ?_
  refine ce_op (okPutI clX3 (k := 6) (x := 31) (by decide +kernel) (by decide) rfl wd132 rfl rfl (by decide +kernel)) ?_
  refine ce_st ?_
  refine ce_op (okAl1 (k := 0) (by decide +kernel) rfl) ?_
  refine ce_op (okGetI clX3 (k := 5) (x := 28) (by decide +kernel) (by decide) rfl wd131 (Or.inl rfl)) ?_
  refine ce_op (okAl1 (k := 0) (by decide +kernel) rfl) ?_
  refine ce_op (okGetI clX3 (k := 4) (x := 25) (by decide +kernel) (by decide) rfl wd130 (Or.inl rfl)) ?_
  refine ce_op (okCmGe (off := 60) (by decide +kernel) (by decide)) ?_
  refine ce_op (okAl1 (k := 0) (by decide +kernel) rfl) ?_
  refine ce_op (okGetR clX3 (k := 0) (x := 9) (by decide +kernel) (by decide) rfl wd123 rfl (by decide +kernel)) ?_
  refine ce_op (okAl1 (k := 0) (by decide +kernel) rfl) ?_
  refine ce_op (okGetI clX3 (k := 5) (x := 28) (by decide +kernel) (by decide) rfl wd131 (Or.inl rfl)) ?_
  refine ce_op (okBald (by decide +kernel)) ?_
  refine ce_op (okCI miX3_isDigit (rS (x := 172) miX3_isDigit (by decide +kernel) wd474 wd475)) ?_
  refine ce_op (okIfEq (off := 45) (by decide +kernel) (by decide)) ?_
  refine ce_op (okAl1 (k := 0) (by decide +kernel) rfl) ?_
  refine ce_op (okIc2 (n := 10) (by decide +kernel) (by decide)) ?_
  refine ce_op (okAl1 (k := 0) (by decide +kernel) rfl) ?_
  refine ce_op (okGetI clX3 (k := 8) (x := 37) (by decide +kernel) (by decide) rfl wd134 (Or.inl rfl)) ?_
  refine ce_op (okImul (by decide +kernel)) ?_
  refine ce_op (okAl1 (k := 0) (by decide +kernel) rfl) ?_
  refine ce_op (okGetR clX3 (k := 0) (x := 9) (by decide +kernel) (by decide) rfl wd123 rfl (by decide +kernel)) ?_
  refine ce_op (okAl1 (k := 0) (by decide +kernel) rfl) ?_
  refine ce_op (okGetI clX3 (k := 5) (x := 28) (by decide +kernel) (by decide) rfl wd131 (Or.inl rfl)) ?_
  refine ce_op (okBald (by decide +kernel)) ?_
  refine ce_op (okIadd (by decide +kernel)) ?_
  refine ce_op (okIc2 (n := 48) (by decide +kernel) (by decide)) ?_
  refine ce_op (okIsub (by decide +kernel)) ?_
  refine ce_op (okIcL (k := 178) (by decide +kernel) wd481) ?_
  refine ce_op (okMin (x := 44) (by decide +kernel) wd460 wd461 wd98 wd462) ?_
  refine ce_op (okPutI clX3 (k := 8) (x := 37) (by decide +kernel) (by decide) rfl wd134 rfl rfl (by decide +kernel)) ?_
  refine ce_op (okAl1 (k := 0) (by decide +kernel) rfl) ?_
  refine ce_op (okDup (by decide +kernel)) ?_
  refine ce_op (okGetI clX3 (k := 5) (x := 28) (by decide +kernel) (by decide) rfl wd131 (Or.inl rfl)) ?_
  refine ce_op (okIc1 (n := 1) (by decide +kernel) (by decide)) ?_
  refine ce_op (okIadd (by decide +kernel)) ?_
  refine ce_op (okPutI clX3 (k := 5) (x := 28) (by decide +kernel) (by decide) rfl wd131 rfl rfl (by decide +kernel)) ?_
  refine ce_op (okGoto (off := (-65)) (by decide +kernel) (by decide)) ?_
  refine ce_op (okVret (by decide +kernel) rfl) ?_
  exact ce_nil
set_option maxRecDepth 100000 in
def cdX3_isLetter : List CE := (0, 1, some (oIl 0)) :: (1, 2, some (oIc 97)) :: (3, 3, some (oCmLt 16)) :: (6, 1, some (oIl 0)) :: (7, 2, some (oIc 122)) :: (9, 3, some (oCmGt 16)) ::
  (12, 1, some (oIc 1)) :: (13, 3, some (oGoto 17)) :: (16, 1, some (oIc 0)) :: (17, 1, some oZret) :: []
set_option maxRecDepth 100000 in
set_option maxHeartbeats 4000000 in
theorem okX3_isLetter : CodeOk mX3_isLetter cdX3_isLetter := by
  refine ⟨by rfl, ?_⟩
  show CodeAll mX3_isLetter cdX3_isLetter
  refine ce_op (okIl1 (k := 0) (by decide +kernel) rfl) ?_
  refine ce_op (okIc2 (n := 97) (by decide +kernel) (by decide)) ?_
  refine ce_op (okCmLt (off := 13) (by decide +kernel) (by decide)) ?_
  refine ce_op (okIl1 (k := 0) (by decide +kernel) rfl) ?_
  refine ce_op (okIc2 (n := 122) (by decide +kernel) (by decide)) ?_
  refine ce_op (okCmGt (off := 7) (by decide +kernel) (by decide)) ?_
  refine ce_op (okIc1 (n := 1) (by decide +kernel) (by decide)) ?_
  refine ce_op (okGoto (off := 4) (by decide +kernel) (by decide)) ?_
  refine ce_op (okIc1 (n := 0) (by decide +kernel) (by decide)) ?_
  refine ce_op (okZret (by decide +kernel) rfl) ?_
  exact ce_nil
set_option maxRecDepth 100000 in
def cdX3_isDigit : List CE := (0, 1, some (oIl 0)) :: (1, 2, some (oIc 48)) :: (3, 3, some (oCmLt 16)) :: (6, 1, some (oIl 0)) :: (7, 2, some (oIc 57)) :: (9, 3, some (oCmGt 16)) ::
  (12, 1, some (oIc 1)) :: (13, 3, some (oGoto 17)) :: (16, 1, some (oIc 0)) :: (17, 1, some oZret) :: []
set_option maxRecDepth 100000 in
set_option maxHeartbeats 4000000 in
theorem okX3_isDigit : CodeOk mX3_isDigit cdX3_isDigit := by
  refine ⟨by rfl, ?_⟩
  show CodeAll mX3_isDigit cdX3_isDigit
  refine ce_op (okIl1 (k := 0) (by decide +kernel) rfl) ?_
  refine ce_op (okIc2 (n := 48) (by decide +kernel) (by decide)) ?_
  refine ce_op (okCmLt (off := 13) (by decide +kernel) (by decide)) ?_
  refine ce_op (okIl1 (k := 0) (by decide +kernel) rfl) ?_
  refine ce_op (okIc2 (n := 57) (by decide +kernel) (by decide)) ?_
  refine ce_op (okCmGt (off := 7) (by decide +kernel) (by decide)) ?_
  refine ce_op (okIc1 (n := 1) (by decide +kernel) (by decide)) ?_
  refine ce_op (okGoto (off := 4) (by decide +kernel) (by decide)) ?_
  refine ce_op (okIc1 (n := 0) (by decide +kernel) (by decide)) ?_
  refine ce_op (okZret (by decide +kernel) rfl) ?_
  exact ce_nil
set_option maxRecDepth 100000 in
def cdX4_has : List CE := (0, 1, some (oIl 1)) :: (1, 3, some (oIfLt 16)) :: (4, 1, some (oIl 1)) :: (5, 1, some (oAl 0)) :: (6, 3, some (oGetI 4 7)) :: (9, 3, some (oCmGe 16)) ::
  (12, 1, some (oIc 1)) :: (13, 3, some (oGoto 17)) :: (16, 1, some (oIc 0)) :: (17, 1, some oZret) :: []
set_option maxRecDepth 100000 in
set_option maxHeartbeats 4000000 in
theorem okX4_has : CodeOk mX4_has cdX4_has := by
  refine ⟨by rfl, ?_⟩
  show CodeAll mX4_has cdX4_has
  refine ce_op (okIl1 (k := 1) (by decide +kernel) rfl) ?_
  refine ce_op (okIfLt (off := 15) (by decide +kernel) (by decide)) ?_
  refine ce_op (okIl1 (k := 1) (by decide +kernel) rfl) ?_
  refine ce_op (okAl1 (k := 0) (by decide +kernel) rfl) ?_
  refine ce_op (okGetI clX4 (k := 7) (x := 33) (by decide +kernel) (by decide) rfl wd313 (Or.inl rfl)) ?_
  refine ce_op (okCmGe (off := 7) (by decide +kernel) (by decide)) ?_
  refine ce_op (okIc1 (n := 1) (by decide +kernel) (by decide)) ?_
  refine ce_op (okGoto (off := 4) (by decide +kernel) (by decide)) ?_
  refine ce_op (okIc1 (n := 0) (by decide +kernel) (by decide)) ?_
  refine ce_op (okZret (by decide +kernel) rfl) ?_
  exact ce_nil
set_option maxRecDepth 100000 in
def cdX4_add : List CE := (0, 1, some (oAl 0)) :: (1, 3, some (oGetI 4 7)) :: (4, 2, some (oIc 40)) :: (6, 3, some (oCmLt 11)) :: (9, 1, some (oIc 0)) :: (10, 1, some oZret) ::
  (11, 1, some (oAl 0)) :: (12, 3, some (oGetR [(452, 164312), (836, 164696)])) :: (15, 1, some (oAl 0)) :: (16, 3, some (oGetI 4 7)) :: (19, 1, some (oIl 1)) :: (20, 1, some oIast) ::
  (21, 1, some (oAl 0)) :: (22, 3, some (oGetR [(452, 164328), (836, 164712)])) :: (25, 1, some (oAl 0)) :: (26, 3, some (oGetI 4 7)) :: (29, 1, some (oIl 2)) :: (30, 1, some oIast) ::
  (31, 1, some (oAl 0)) :: (32, 3, some (oGetR [(452, 164344), (836, 164728)])) :: (35, 1, some (oAl 0)) :: (36, 3, some (oGetI 4 7)) :: (39, 1, some (oIl 3)) :: (40, 1, some oIast) ::
  (41, 1, some (oAl 0)) :: (42, 3, some (oGetR [(452, 164360), (836, 164744)])) :: (45, 1, some (oAl 0)) :: (46, 3, some (oGetI 4 7)) :: (49, 2, some (oIl 4)) :: (51, 1, some oIast) ::
  (52, 1, some (oAl 0)) :: (53, 3, some (oGetR [(452, 164376), (836, 164760)])) :: (56, 1, some (oAl 0)) :: (57, 3, some (oGetI 4 7)) :: (60, 2, some (oIl 5)) :: (62, 1, some oIast) ::
  (63, 1, some (oAl 0)) :: (64, 3, some (oGetR [(452, 164392), (836, 164776)])) :: (67, 1, some (oAl 0)) :: (68, 3, some (oGetI 4 7)) :: (71, 2, some (oIl 6)) :: (73, 1, some oIast) ::
  (74, 1, some (oAl 0)) :: (75, 3, some (oGetR [(452, 164408), (836, 164792)])) :: (78, 1, some (oAl 0)) :: (79, 3, some (oGetI 4 7)) :: (82, 2, some (oIl 7)) :: (84, 1, some oIast) ::
  (85, 1, some (oAl 0)) :: (86, 1, some oDup) :: (87, 3, some (oGetI 4 7)) :: (90, 1, some (oIc 1)) :: (91, 1, some oIadd) :: (92, 3, some (oPutI 4 7)) ::
  (95, 1, some (oIc 1)) :: (96, 1, some oZret) :: []
set_option maxRecDepth 100000 in
set_option maxHeartbeats 4000000 in
theorem okX4_add : CodeOk mX4_add cdX4_add := by
  refine ⟨by rfl, ?_⟩
  show CodeAll mX4_add cdX4_add
  refine ce_op (okAl1 (k := 0) (by decide +kernel) rfl) ?_
  refine ce_op (okGetI clX4 (k := 7) (x := 33) (by decide +kernel) (by decide) rfl wd313 (Or.inl rfl)) ?_
  refine ce_op (okIc2 (n := 40) (by decide +kernel) (by decide)) ?_
  refine ce_op (okCmLt (off := 5) (by decide +kernel) (by decide)) ?_
  refine ce_op (okIc1 (n := 0) (by decide +kernel) (by decide)) ?_
  refine ce_op (okZret (by decide +kernel) rfl) ?_
  refine ce_op (okAl1 (k := 0) (by decide +kernel) rfl) ?_
  refine ce_op (okGetR clX4 (k := 0) (x := 9) (by decide +kernel) (by decide) rfl wd285 rfl (by decide +kernel)) ?_
  refine ce_op (okAl1 (k := 0) (by decide +kernel) rfl) ?_
  refine ce_op (okGetI clX4 (k := 7) (x := 33) (by decide +kernel) (by decide) rfl wd313 (Or.inl rfl)) ?_
  refine ce_op (okIl1 (k := 1) (by decide +kernel) rfl) ?_
  refine ce_op (okIast (by decide +kernel)) ?_
  refine ce_op (okAl1 (k := 0) (by decide +kernel) rfl) ?_
  refine ce_op (okGetR clX4 (k := 1) (x := 15) (by decide +kernel) (by decide) rfl wd290 rfl (by decide +kernel)) ?_
  refine ce_op (okAl1 (k := 0) (by decide +kernel) rfl) ?_
  refine ce_op (okGetI clX4 (k := 7) (x := 33) (by decide +kernel) (by decide) rfl wd313 (Or.inl rfl)) ?_
  refine ce_op (okIl1 (k := 2) (by decide +kernel) rfl) ?_
  refine ce_op (okIast (by decide +kernel)) ?_
  refine ce_op (okAl1 (k := 0) (by decide +kernel) rfl) ?_
  refine ce_op (okGetR clX4 (k := 2) (x := 18) (by decide +kernel) (by decide) rfl wd295 rfl (by decide +kernel)) ?_
  refine ce_op (okAl1 (k := 0) (by decide +kernel) rfl) ?_
  refine ce_op (okGetI clX4 (k := 7) (x := 33) (by decide +kernel) (by decide) rfl wd313 (Or.inl rfl)) ?_
  refine ce_op (okIl1 (k := 3) (by decide +kernel) rfl) ?_
  refine ce_op (okIast (by decide +kernel)) ?_
  refine ce_op (okAl1 (k := 0) (by decide +kernel) rfl) ?_
  refine ce_op (okGetR clX4 (k := 3) (x := 21) (by decide +kernel) (by decide) rfl wd299 rfl (by decide +kernel)) ?_
  refine ce_op (okAl1 (k := 0) (by decide +kernel) rfl) ?_
  refine ce_op (okGetI clX4 (k := 7) (x := 33) (by decide +kernel) (by decide) rfl wd313 (Or.inl rfl)) ?_
  refine ce_op (okIl2 (by decide +kernel)) ?_
  refine ce_op (okIast (by decide +kernel)) ?_
  refine ce_op (okAl1 (k := 0) (by decide +kernel) rfl) ?_
  refine ce_op (okGetR clX4 (k := 4) (x := 24) (by decide +kernel) (by decide) rfl wd303 rfl (by decide +kernel)) ?_
  refine ce_op (okAl1 (k := 0) (by decide +kernel) rfl) ?_
  refine ce_op (okGetI clX4 (k := 7) (x := 33) (by decide +kernel) (by decide) rfl wd313 (Or.inl rfl)) ?_
  refine ce_op (okIl2 (by decide +kernel)) ?_
  refine ce_op (okIast (by decide +kernel)) ?_
  refine ce_op (okAl1 (k := 0) (by decide +kernel) rfl) ?_
  refine ce_op (okGetR clX4 (k := 5) (x := 27) (by decide +kernel) (by decide) rfl wd306 rfl (by decide +kernel)) ?_
  refine ce_op (okAl1 (k := 0) (by decide +kernel) rfl) ?_
  refine ce_op (okGetI clX4 (k := 7) (x := 33) (by decide +kernel) (by decide) rfl wd313 (Or.inl rfl)) ?_
  refine ce_op (okIl2 (by decide +kernel)) ?_
  refine ce_op (okIast (by decide +kernel)) ?_
  refine ce_op (okAl1 (k := 0) (by decide +kernel) rfl) ?_
  refine ce_op (okGetR clX4 (k := 6) (x := 30) (by decide +kernel) (by decide) rfl wd310 rfl (by decide +kernel)) ?_
  refine ce_op (okAl1 (k := 0) (by decide +kernel) rfl) ?_
  refine ce_op (okGetI clX4 (k := 7) (x := 33) (by decide +kernel) (by decide) rfl wd313 (Or.inl rfl)) ?_
  refine ce_op (okIl2 (by decide +kernel)) ?_
  refine ce_op (okIast (by decide +kernel)) ?_
  refine ce_op (okAl1 (k := 0) (by decide +kernel) rfl) ?_
  refine ce_op (okDup (by decide +kernel)) ?_
  refine ce_op (okGetI clX4 (k := 7) (x := 33) (by decide +kernel) (by decide) rfl wd313 (Or.inl rfl)) ?_
  refine ce_op (okIc1 (n := 1) (by decide +kernel) (by decide)) ?_
  refine ce_op (okIadd (by decide +kernel)) ?_
  refine ce_op (okPutI clX4 (k := 7) (x := 33) (by decide +kernel) (by decide) rfl wd313 rfl rfl (by decide +kernel)) ?_
  refine ce_op (okIc1 (n := 1) (by decide +kernel) (by decide)) ?_
  refine ce_op (okZret (by decide +kernel) rfl) ?_
  exact ce_nil
set_option maxRecDepth 100000 in
def cdX4_goRound : List CE := (0, 1, some (oJl 3)) :: (1, 1, some (oIl 2)) :: (2, 1, some (oIc 1)) :: (3, 1, some oIsub) :: (4, 3, some (oCI 16 mX6_saleAt 2)) :: (7, 2, some (oIs 6)) ::
  (9, 2, some (oIl 5)) :: (11, 2, some (oIs 7)) :: (13, 1, some (oIc 0)) :: (14, 2, some (oIs 8)) :: (16, 0, none) :: (16, 2, some (oIl 8)) ::
  (18, 1, some (oIl 2)) :: (19, 3, some (oCmGe 134)) :: (22, 1, some (oJl 3)) :: (23, 2, some (oIl 8)) :: (25, 3, some (oCI 16 mX6_saleAt 2)) :: (28, 2, some (oIs 9)) ::
  (30, 1, some (oAl 0)) :: (31, 3, some (oGetR [(452, 164328), (836, 164712)])) :: (34, 2, some (oIl 6)) :: (36, 1, some oIald) :: (37, 1, some (oAl 0)) :: (38, 3, some (oGetR [(452, 164312), (836, 164696)])) ::
  (41, 2, some (oIl 9)) :: (43, 1, some oIald) :: (44, 3, some (oCmNe 73)) :: (47, 2, some (oIl 8)) :: (49, 3, some (oIfEq 69)) :: (52, 1, some (oAl 0)) ::
  (53, 3, some (oGetR [(452, 164392), (836, 164776)])) :: (56, 2, some (oIl 6)) :: (58, 1, some oIald) :: (59, 1, some (oAl 0)) :: (60, 3, some (oGetR [(452, 164392), (836, 164776)])) :: (63, 2, some (oIl 9)) ::
  (65, 1, some oIald) :: (66, 3, some (oCmGt 73)) :: (69, 1, some (oIc 1)) :: (70, 3, some (oGoto 74)) :: (73, 1, some (oIc 0)) :: (74, 2, some (oIs 10)) ::
  (76, 2, some (oIl 10)) :: (78, 3, some (oIfEq 108)) :: (81, 1, some (oAl 0)) :: (82, 1, some (oIl 1)) :: (83, 2, some (oIl 6)) :: (85, 2, some (oIl 9)) ::
  (87, 3, some (oCI 4 mX4_alike 4)) :: (90, 3, some (oIfEq 108)) :: (93, 2, some (oIl 7)) :: (95, 1, some (oAl 0)) :: (96, 3, some (oGetR [(452, 164312), (836, 164696)])) :: (99, 2, some (oIl 9)) ::
  (101, 1, some oIald) :: (102, 1, some oIshr) :: (103, 1, some (oIc 1)) :: (104, 1, some oIand) :: (105, 3, some (oIfEq 110)) :: (108, 1, some (oIc 0)) ::
  (109, 1, some oZret) :: (110, 2, some (oIl 7)) :: (112, 1, some (oIc 1)) :: (113, 1, some (oAl 0)) :: (114, 3, some (oGetR [(452, 164312), (836, 164696)])) :: (117, 2, some (oIl 9)) ::
  (119, 1, some oIald) :: (120, 1, some oIshl) :: (121, 1, some oIor) :: (122, 2, some (oIs 7)) :: (124, 2, some (oIl 9)) :: (126, 2, some (oIs 6)) ::
  (128, 3, some (oInc 8 1)) :: (131, 3, some (oGoto 16)) :: (134, 1, some (oIc 1)) :: (135, 1, some oZret) :: []
set_option maxRecDepth 100000 in
set_option maxHeartbeats 4000000 in
theorem okX4_goRound : CodeOk mX4_goRound cdX4_goRound := by
  refine ⟨by rfl, ?_⟩
  show CodeAll mX4_goRound cdX4_goRound
  refine ce_op (okJl1 (k := 3) (by decide +kernel) rfl) ?_
  refine ce_op (okIl1 (k := 2) (by decide +kernel) rfl) ?_
  refine ce_op (okIc1 (n := 1) (by decide +kernel) (by decide)) ?_
  refine ce_op (okIsub (by decide +kernel)) ?_
  refine ce_op (okCI miX6_saleAt (rN (x := 40) (host := "SaleRounds") miX6_saleAt (by decide +kernel) (by decide +kernel) wd685)) ?_
  refine ce_op (okIs2 (by decide +kernel) (by decide)) ?_
  refine ce_op (okIl2 (by decide +kernel)) ?_
  refine ce_op (okIs2 (by decide +kernel) (by decide)) ?_
  refine ce_op (okIc1 (n := 0) (by decide +kernel) (by decide)) ?_
  refine ce_op (okIs2 (by decide +kernel) (by decide)) ?_
  refine ce_st ?_
  refine ce_op (okIl2 (by decide +kernel)) ?_
  refine ce_op (okIl1 (k := 2) (by decide +kernel) rfl) ?_
  refine ce_op (okCmGe (off := 115) (by decide +kernel) (by decide)) ?_
  refine ce_op (okJl1 (k := 3) (by decide +kernel) rfl) ?_
  refine ce_op (okIl2 (by decide +kernel)) ?_
  refine ce_op (okCI miX6_saleAt (rN (x := 40) (host := "SaleRounds") miX6_saleAt (by decide +kernel) (by decide +kernel) wd685)) ?_
  refine ce_op (okIs2 (by decide +kernel) (by decide)) ?_
  refine ce_op (okAl1 (k := 0) (by decide +kernel) rfl) ?_
  refine ce_op (okGetR clX4 (k := 1) (x := 15) (by decide +kernel) (by decide) rfl wd290 rfl (by decide +kernel)) ?_
  refine ce_op (okIl2 (by decide +kernel)) ?_
  refine ce_op (okIald (by decide +kernel)) ?_
  refine ce_op (okAl1 (k := 0) (by decide +kernel) rfl) ?_
  refine ce_op (okGetR clX4 (k := 0) (x := 9) (by decide +kernel) (by decide) rfl wd285 rfl (by decide +kernel)) ?_
  refine ce_op (okIl2 (by decide +kernel)) ?_
  refine ce_op (okIald (by decide +kernel)) ?_
  refine ce_op (okCmNe (off := 29) (by decide +kernel) (by decide)) ?_
  refine ce_op (okIl2 (by decide +kernel)) ?_
  refine ce_op (okIfEq (off := 20) (by decide +kernel) (by decide)) ?_
  refine ce_op (okAl1 (k := 0) (by decide +kernel) rfl) ?_
  refine ce_op (okGetR clX4 (k := 5) (x := 27) (by decide +kernel) (by decide) rfl wd306 rfl (by decide +kernel)) ?_
  refine ce_op (okIl2 (by decide +kernel)) ?_
  refine ce_op (okIald (by decide +kernel)) ?_
  refine ce_op (okAl1 (k := 0) (by decide +kernel) rfl) ?_
  refine ce_op (okGetR clX4 (k := 5) (x := 27) (by decide +kernel) (by decide) rfl wd306 rfl (by decide +kernel)) ?_
  refine ce_op (okIl2 (by decide +kernel)) ?_
  refine ce_op (okIald (by decide +kernel)) ?_
  refine ce_op (okCmGt (off := 7) (by decide +kernel) (by decide)) ?_
  refine ce_op (okIc1 (n := 1) (by decide +kernel) (by decide)) ?_
  refine ce_op (okGoto (off := 4) (by decide +kernel) (by decide)) ?_
  refine ce_op (okIc1 (n := 0) (by decide +kernel) (by decide)) ?_
  refine ce_op (okIs2 (by decide +kernel) (by decide)) ?_
  refine ce_op (okIl2 (by decide +kernel)) ?_
  refine ce_op (okIfEq (off := 30) (by decide +kernel) (by decide)) ?_
  refine ce_op (okAl1 (k := 0) (by decide +kernel) rfl) ?_
  refine ce_op (okIl1 (k := 1) (by decide +kernel) rfl) ?_
  refine ce_op (okIl2 (by decide +kernel)) ?_
  refine ce_op (okIl2 (by decide +kernel)) ?_
  refine ce_op (okCI miX4_alike (rV clX4 (x := 44) miX4_alike rfl (by decide +kernel) wd711 wd713 wd25)) ?_
  refine ce_op (okIfEq (off := 18) (by decide +kernel) (by decide)) ?_
  refine ce_op (okIl2 (by decide +kernel)) ?_
  refine ce_op (okAl1 (k := 0) (by decide +kernel) rfl) ?_
  refine ce_op (okGetR clX4 (k := 0) (x := 9) (by decide +kernel) (by decide) rfl wd285 rfl (by decide +kernel)) ?_
  refine ce_op (okIl2 (by decide +kernel)) ?_
  refine ce_op (okIald (by decide +kernel)) ?_
  refine ce_op (okIshr (by decide +kernel)) ?_
  refine ce_op (okIc1 (n := 1) (by decide +kernel) (by decide)) ?_
  refine ce_op (okIand (by decide +kernel)) ?_
  refine ce_op (okIfEq (off := 5) (by decide +kernel) (by decide)) ?_
  refine ce_op (okIc1 (n := 0) (by decide +kernel) (by decide)) ?_
  refine ce_op (okZret (by decide +kernel) rfl) ?_
  refine ce_op (okIl2 (by decide +kernel)) ?_
  refine ce_op (okIc1 (n := 1) (by decide +kernel) (by decide)) ?_
  refine ce_op (okAl1 (k := 0) (by decide +kernel) rfl) ?_
  refine ce_op (okGetR clX4 (k := 0) (x := 9) (by decide +kernel) (by decide) rfl wd285 rfl (by decide +kernel)) ?_
  refine ce_op (okIl2 (by decide +kernel)) ?_
  refine ce_op (okIald (by decide +kernel)) ?_
  refine ce_op (okIshl (by decide +kernel)) ?_
  refine ce_op (okIor (by decide +kernel)) ?_
  refine ce_op (okIs2 (by decide +kernel) (by decide)) ?_
  refine ce_op (okIl2 (by decide +kernel)) ?_
  refine ce_op (okIs2 (by decide +kernel) (by decide)) ?_
  refine ce_op (okInc (n := 1) (by decide +kernel) (by decide)) ?_
  refine ce_op (okGoto (off := (-115)) (by decide +kernel) (by decide)) ?_
  refine ce_op (okIc1 (n := 1) (by decide +kernel) (by decide)) ?_
  refine ce_op (okZret (by decide +kernel) rfl) ?_
  exact ce_nil
set_option maxRecDepth 100000 in
def cdX4_alike : List CE := (0, 1, some (oAl 0)) :: (1, 3, some (oGetR [(452, 164360), (836, 164744)])) :: (4, 1, some (oIl 2)) :: (5, 1, some oIald) :: (6, 1, some (oAl 0)) :: (7, 3, some (oGetR [(452, 164360), (836, 164744)])) ::
  (10, 1, some (oIl 3)) :: (11, 1, some oIald) :: (12, 3, some (oCmNe 48)) :: (15, 1, some (oIl 1)) :: (16, 1, some (oIc 1)) :: (17, 3, some (oCmEq 44)) ::
  (20, 1, some (oAl 0)) :: (21, 3, some (oGetR [(452, 164408), (836, 164792)])) :: (24, 1, some (oIl 2)) :: (25, 1, some oIald) :: (26, 1, some (oAl 0)) :: (27, 3, some (oGetR [(452, 164408), (836, 164792)])) ::
  (30, 1, some (oIl 3)) :: (31, 1, some oIald) :: (32, 3, some (oCmNe 48)) :: (35, 1, some (oAl 0)) :: (36, 3, some (oGetR [(452, 164408), (836, 164792)])) :: (39, 1, some (oIl 2)) ::
  (40, 1, some oIald) :: (41, 3, some (oIfEq 48)) :: (44, 1, some (oIc 1)) :: (45, 3, some (oGoto 49)) :: (48, 1, some (oIc 0)) :: (49, 1, some oZret) :: []
set_option maxRecDepth 100000 in
set_option maxHeartbeats 4000000 in
theorem okX4_alike : CodeOk mX4_alike cdX4_alike := by
  refine ⟨by rfl, ?_⟩
  show CodeAll mX4_alike cdX4_alike
  refine ce_op (okAl1 (k := 0) (by decide +kernel) rfl) ?_
  refine ce_op (okGetR clX4 (k := 3) (x := 21) (by decide +kernel) (by decide) rfl wd299 rfl (by decide +kernel)) ?_
  refine ce_op (okIl1 (k := 2) (by decide +kernel) rfl) ?_
  refine ce_op (okIald (by decide +kernel)) ?_
  refine ce_op (okAl1 (k := 0) (by decide +kernel) rfl) ?_
  refine ce_op (okGetR clX4 (k := 3) (x := 21) (by decide +kernel) (by decide) rfl wd299 rfl (by decide +kernel)) ?_
  refine ce_op (okIl1 (k := 3) (by decide +kernel) rfl) ?_
  refine ce_op (okIald (by decide +kernel)) ?_
  refine ce_op (okCmNe (off := 36) (by decide +kernel) (by decide)) ?_
  refine ce_op (okIl1 (k := 1) (by decide +kernel) rfl) ?_
  refine ce_op (okIc1 (n := 1) (by decide +kernel) (by decide)) ?_
  refine ce_op (okCmEq (off := 27) (by decide +kernel) (by decide)) ?_
  refine ce_op (okAl1 (k := 0) (by decide +kernel) rfl) ?_
  refine ce_op (okGetR clX4 (k := 6) (x := 30) (by decide +kernel) (by decide) rfl wd310 rfl (by decide +kernel)) ?_
  refine ce_op (okIl1 (k := 2) (by decide +kernel) rfl) ?_
  refine ce_op (okIald (by decide +kernel)) ?_
  refine ce_op (okAl1 (k := 0) (by decide +kernel) rfl) ?_
  refine ce_op (okGetR clX4 (k := 6) (x := 30) (by decide +kernel) (by decide) rfl wd310 rfl (by decide +kernel)) ?_
  refine ce_op (okIl1 (k := 3) (by decide +kernel) rfl) ?_
  refine ce_op (okIald (by decide +kernel)) ?_
  refine ce_op (okCmNe (off := 16) (by decide +kernel) (by decide)) ?_
  refine ce_op (okAl1 (k := 0) (by decide +kernel) rfl) ?_
  refine ce_op (okGetR clX4 (k := 6) (x := 30) (by decide +kernel) (by decide) rfl wd310 rfl (by decide +kernel)) ?_
  refine ce_op (okIl1 (k := 2) (by decide +kernel) rfl) ?_
  refine ce_op (okIald (by decide +kernel)) ?_
  refine ce_op (okIfEq (off := 7) (by decide +kernel) (by decide)) ?_
  refine ce_op (okIc1 (n := 1) (by decide +kernel) (by decide)) ?_
  refine ce_op (okGoto (off := 4) (by decide +kernel) (by decide)) ?_
  refine ce_op (okIc1 (n := 0) (by decide +kernel) (by decide)) ?_
  refine ce_op (okZret (by decide +kernel) rfl) ?_
  exact ce_nil
set_option maxRecDepth 100000 in
def cdX4_soldBelow : List CE := (0, 1, some (oIc 0)) :: (1, 1, some (oIs 2)) :: (2, 0, none) :: (2, 1, some (oIl 2)) :: (3, 1, some (oAl 0)) :: (4, 3, some (oGetI 4 7)) ::
  (7, 3, some (oCmGe 37)) :: (10, 1, some (oAl 0)) :: (11, 3, some (oGetR [(452, 164312), (836, 164696)])) :: (14, 1, some (oIl 2)) :: (15, 1, some oIald) :: (16, 1, some (oIl 1)) ::
  (17, 3, some (oCmNe 31)) :: (20, 1, some (oAl 0)) :: (21, 1, some (oIl 1)) :: (22, 1, some (oIl 2)) :: (23, 3, some (oCI 4 mX4_boughtDearer 3)) :: (26, 3, some (oIfEq 31)) ::
  (29, 1, some (oIc 1)) :: (30, 1, some oZret) :: (31, 3, some (oInc 2 1)) :: (34, 3, some (oGoto 2)) :: (37, 1, some (oIc 0)) :: (38, 1, some oZret) :: []
set_option maxRecDepth 100000 in
set_option maxHeartbeats 4000000 in
theorem okX4_soldBelow : CodeOk mX4_soldBelow cdX4_soldBelow := by
  refine ⟨by rfl, ?_⟩
  show CodeAll mX4_soldBelow cdX4_soldBelow
  refine ce_op (okIc1 (n := 0) (by decide +kernel) (by decide)) ?_
  refine ce_op (okIs1 (k := 2) (by decide +kernel) rfl (by decide)) ?_
  refine ce_st ?_
  refine ce_op (okIl1 (k := 2) (by decide +kernel) rfl) ?_
  refine ce_op (okAl1 (k := 0) (by decide +kernel) rfl) ?_
  refine ce_op (okGetI clX4 (k := 7) (x := 33) (by decide +kernel) (by decide) rfl wd313 (Or.inl rfl)) ?_
  refine ce_op (okCmGe (off := 30) (by decide +kernel) (by decide)) ?_
  refine ce_op (okAl1 (k := 0) (by decide +kernel) rfl) ?_
  refine ce_op (okGetR clX4 (k := 0) (x := 9) (by decide +kernel) (by decide) rfl wd285 rfl (by decide +kernel)) ?_
  refine ce_op (okIl1 (k := 2) (by decide +kernel) rfl) ?_
  refine ce_op (okIald (by decide +kernel)) ?_
  refine ce_op (okIl1 (k := 1) (by decide +kernel) rfl) ?_
  refine ce_op (okCmNe (off := 14) (by decide +kernel) (by decide)) ?_
  refine ce_op (okAl1 (k := 0) (by decide +kernel) rfl) ?_
  refine ce_op (okIl1 (k := 1) (by decide +kernel) rfl) ?_
  refine ce_op (okIl1 (k := 2) (by decide +kernel) rfl) ?_
  refine ce_op (okCI miX4_boughtDearer (rV clX4 (x := 48) miX4_boughtDearer rfl (by decide +kernel) wd791 wd793 wd36)) ?_
  refine ce_op (okIfEq (off := 5) (by decide +kernel) (by decide)) ?_
  refine ce_op (okIc1 (n := 1) (by decide +kernel) (by decide)) ?_
  refine ce_op (okZret (by decide +kernel) rfl) ?_
  refine ce_op (okInc (n := 1) (by decide +kernel) (by decide)) ?_
  refine ce_op (okGoto (off := (-32)) (by decide +kernel) (by decide)) ?_
  refine ce_op (okIc1 (n := 0) (by decide +kernel) (by decide)) ?_
  refine ce_op (okZret (by decide +kernel) rfl) ?_
  exact ce_nil
set_option maxRecDepth 100000 in
def cdX4_boughtDearer : List CE := (0, 1, some (oIc 0)) :: (1, 1, some (oIs 3)) :: (2, 0, none) :: (2, 1, some (oIl 3)) :: (3, 1, some (oAl 0)) :: (4, 3, some (oGetI 4 7)) ::
  (7, 3, some (oCmGe 85)) :: (10, 1, some (oAl 0)) :: (11, 3, some (oGetR [(452, 164328), (836, 164712)])) :: (14, 1, some (oIl 3)) :: (15, 1, some oIald) :: (16, 1, some (oIl 1)) ::
  (17, 3, some (oCmNe 39)) :: (20, 1, some (oAl 0)) :: (21, 3, some (oGetR [(452, 164360), (836, 164744)])) :: (24, 1, some (oIl 3)) :: (25, 1, some oIald) :: (26, 1, some (oAl 0)) ::
  (27, 3, some (oGetR [(452, 164360), (836, 164744)])) :: (30, 1, some (oIl 2)) :: (31, 1, some oIald) :: (32, 3, some (oCmNe 39)) :: (35, 1, some (oIc 1)) :: (36, 3, some (oGoto 40)) ::
  (39, 1, some (oIc 0)) :: (40, 2, some (oIs 4)) :: (42, 2, some (oIl 4)) :: (44, 3, some (oIfEq 79)) :: (47, 1, some (oAl 0)) :: (48, 3, some (oGetR [(452, 164392), (836, 164776)])) ::
  (51, 1, some (oIl 3)) :: (52, 1, some oIald) :: (53, 1, some (oAl 0)) :: (54, 3, some (oGetR [(452, 164392), (836, 164776)])) :: (57, 1, some (oIl 2)) :: (58, 1, some oIald) ::
  (59, 3, some (oCmGt 79)) :: (62, 1, some (oAl 0)) :: (63, 3, some (oGetR [(452, 164376), (836, 164760)])) :: (66, 1, some (oIl 3)) :: (67, 1, some oIald) :: (68, 1, some (oAl 0)) ::
  (69, 3, some (oGetR [(452, 164376), (836, 164760)])) :: (72, 1, some (oIl 2)) :: (73, 1, some oIald) :: (74, 3, some (oCmLe 79)) :: (77, 1, some (oIc 1)) :: (78, 1, some oZret) ::
  (79, 3, some (oInc 3 1)) :: (82, 3, some (oGoto 2)) :: (85, 1, some (oIc 0)) :: (86, 1, some oZret) :: []
set_option maxRecDepth 100000 in
set_option maxHeartbeats 4000000 in
theorem okX4_boughtDearer : CodeOk mX4_boughtDearer cdX4_boughtDearer := by
  refine ⟨by rfl, ?_⟩
  show CodeAll mX4_boughtDearer cdX4_boughtDearer
  refine ce_op (okIc1 (n := 0) (by decide +kernel) (by decide)) ?_
  refine ce_op (okIs1 (k := 3) (by decide +kernel) rfl (by decide)) ?_
  refine ce_st ?_
  refine ce_op (okIl1 (k := 3) (by decide +kernel) rfl) ?_
  refine ce_op (okAl1 (k := 0) (by decide +kernel) rfl) ?_
  refine ce_op (okGetI clX4 (k := 7) (x := 33) (by decide +kernel) (by decide) rfl wd313 (Or.inl rfl)) ?_
  refine ce_op (okCmGe (off := 78) (by decide +kernel) (by decide)) ?_
  refine ce_op (okAl1 (k := 0) (by decide +kernel) rfl) ?_
  refine ce_op (okGetR clX4 (k := 1) (x := 15) (by decide +kernel) (by decide) rfl wd290 rfl (by decide +kernel)) ?_
  refine ce_op (okIl1 (k := 3) (by decide +kernel) rfl) ?_
  refine ce_op (okIald (by decide +kernel)) ?_
  refine ce_op (okIl1 (k := 1) (by decide +kernel) rfl) ?_
  refine ce_op (okCmNe (off := 22) (by decide +kernel) (by decide)) ?_
  refine ce_op (okAl1 (k := 0) (by decide +kernel) rfl) ?_
  refine ce_op (okGetR clX4 (k := 3) (x := 21) (by decide +kernel) (by decide) rfl wd299 rfl (by decide +kernel)) ?_
  refine ce_op (okIl1 (k := 3) (by decide +kernel) rfl) ?_
  refine ce_op (okIald (by decide +kernel)) ?_
  refine ce_op (okAl1 (k := 0) (by decide +kernel) rfl) ?_
  refine ce_op (okGetR clX4 (k := 3) (x := 21) (by decide +kernel) (by decide) rfl wd299 rfl (by decide +kernel)) ?_
  refine ce_op (okIl1 (k := 2) (by decide +kernel) rfl) ?_
  refine ce_op (okIald (by decide +kernel)) ?_
  refine ce_op (okCmNe (off := 7) (by decide +kernel) (by decide)) ?_
  refine ce_op (okIc1 (n := 1) (by decide +kernel) (by decide)) ?_
  refine ce_op (okGoto (off := 4) (by decide +kernel) (by decide)) ?_
  refine ce_op (okIc1 (n := 0) (by decide +kernel) (by decide)) ?_
  refine ce_op (okIs2 (by decide +kernel) (by decide)) ?_
  refine ce_op (okIl2 (by decide +kernel)) ?_
  refine ce_op (okIfEq (off := 35) (by decide +kernel) (by decide)) ?_
  refine ce_op (okAl1 (k := 0) (by decide +kernel) rfl) ?_
  refine ce_op (okGetR clX4 (k := 5) (x := 27) (by decide +kernel) (by decide) rfl wd306 rfl (by decide +kernel)) ?_
  refine ce_op (okIl1 (k := 3) (by decide +kernel) rfl) ?_
  refine ce_op (okIald (by decide +kernel)) ?_
  refine ce_op (okAl1 (k := 0) (by decide +kernel) rfl) ?_
  refine ce_op (okGetR clX4 (k := 5) (x := 27) (by decide +kernel) (by decide) rfl wd306 rfl (by decide +kernel)) ?_
  refine ce_op (okIl1 (k := 2) (by decide +kernel) rfl) ?_
  refine ce_op (okIald (by decide +kernel)) ?_
  refine ce_op (okCmGt (off := 20) (by decide +kernel) (by decide)) ?_
  refine ce_op (okAl1 (k := 0) (by decide +kernel) rfl) ?_
  refine ce_op (okGetR clX4 (k := 4) (x := 24) (by decide +kernel) (by decide) rfl wd303 rfl (by decide +kernel)) ?_
  refine ce_op (okIl1 (k := 3) (by decide +kernel) rfl) ?_
  refine ce_op (okIald (by decide +kernel)) ?_
  refine ce_op (okAl1 (k := 0) (by decide +kernel) rfl) ?_
  refine ce_op (okGetR clX4 (k := 4) (x := 24) (by decide +kernel) (by decide) rfl wd303 rfl (by decide +kernel)) ?_
  refine ce_op (okIl1 (k := 2) (by decide +kernel) rfl) ?_
  refine ce_op (okIald (by decide +kernel)) ?_
  refine ce_op (okCmLe (off := 5) (by decide +kernel) (by decide)) ?_
  refine ce_op (okIc1 (n := 1) (by decide +kernel) (by decide)) ?_
  refine ce_op (okZret (by decide +kernel) rfl) ?_
  refine ce_op (okInc (n := 1) (by decide +kernel) (by decide)) ?_
  refine ce_op (okGoto (off := (-80)) (by decide +kernel) (by decide)) ?_
  refine ce_op (okIc1 (n := 0) (by decide +kernel) (by decide)) ?_
  refine ce_op (okZret (by decide +kernel) rfl) ?_
  exact ce_nil
set_option maxRecDepth 100000 in
def cdX4_buyersFrom : List CE := (0, 1, some (oIc 0)) :: (1, 1, some (oIs 2)) :: (2, 1, some (oIc 0)) :: (3, 1, some (oIs 3)) :: (4, 0, none) :: (4, 1, some (oIl 3)) ::
  (5, 1, some (oAl 0)) :: (6, 3, some (oGetI 4 7)) :: (9, 3, some (oCmGe 42)) :: (12, 1, some (oIl 1)) :: (13, 1, some (oAl 0)) :: (14, 3, some (oGetR [(452, 164312), (836, 164696)])) ::
  (17, 1, some (oIl 3)) :: (18, 1, some oIald) :: (19, 1, some oIshr) :: (20, 1, some (oIc 1)) :: (21, 1, some oIand) :: (22, 3, some (oIfEq 36)) ::
  (25, 1, some (oIl 2)) :: (26, 1, some (oIc 1)) :: (27, 1, some (oAl 0)) :: (28, 3, some (oGetR [(452, 164328), (836, 164712)])) :: (31, 1, some (oIl 3)) :: (32, 1, some oIald) ::
  (33, 1, some oIshl) :: (34, 1, some oIor) :: (35, 1, some (oIs 2)) :: (36, 3, some (oInc 3 1)) :: (39, 3, some (oGoto 4)) :: (42, 1, some (oIl 2)) ::
  (43, 1, some oIret) :: []
set_option maxRecDepth 100000 in
set_option maxHeartbeats 4000000 in
theorem okX4_buyersFrom : CodeOk mX4_buyersFrom cdX4_buyersFrom := by
  refine ⟨by rfl, ?_⟩
  show CodeAll mX4_buyersFrom cdX4_buyersFrom
  refine ce_op (okIc1 (n := 0) (by decide +kernel) (by decide)) ?_
  refine ce_op (okIs1 (k := 2) (by decide +kernel) rfl (by decide)) ?_
  refine ce_op (okIc1 (n := 0) (by decide +kernel) (by decide)) ?_
  refine ce_op (okIs1 (k := 3) (by decide +kernel) rfl (by decide)) ?_
  refine ce_st ?_
  refine ce_op (okIl1 (k := 3) (by decide +kernel) rfl) ?_
  refine ce_op (okAl1 (k := 0) (by decide +kernel) rfl) ?_
  refine ce_op (okGetI clX4 (k := 7) (x := 33) (by decide +kernel) (by decide) rfl wd313 (Or.inl rfl)) ?_
  refine ce_op (okCmGe (off := 33) (by decide +kernel) (by decide)) ?_
  refine ce_op (okIl1 (k := 1) (by decide +kernel) rfl) ?_
  refine ce_op (okAl1 (k := 0) (by decide +kernel) rfl) ?_
  refine ce_op (okGetR clX4 (k := 0) (x := 9) (by decide +kernel) (by decide) rfl wd285 rfl (by decide +kernel)) ?_
  refine ce_op (okIl1 (k := 3) (by decide +kernel) rfl) ?_
  refine ce_op (okIald (by decide +kernel)) ?_
  refine ce_op (okIshr (by decide +kernel)) ?_
  refine ce_op (okIc1 (n := 1) (by decide +kernel) (by decide)) ?_
  refine ce_op (okIand (by decide +kernel)) ?_
  refine ce_op (okIfEq (off := 14) (by decide +kernel) (by decide)) ?_
  refine ce_op (okIl1 (k := 2) (by decide +kernel) rfl) ?_
  refine ce_op (okIc1 (n := 1) (by decide +kernel) (by decide)) ?_
  refine ce_op (okAl1 (k := 0) (by decide +kernel) rfl) ?_
  refine ce_op (okGetR clX4 (k := 1) (x := 15) (by decide +kernel) (by decide) rfl wd290 rfl (by decide +kernel)) ?_
  refine ce_op (okIl1 (k := 3) (by decide +kernel) rfl) ?_
  refine ce_op (okIald (by decide +kernel)) ?_
  refine ce_op (okIshl (by decide +kernel)) ?_
  refine ce_op (okIor (by decide +kernel)) ?_
  refine ce_op (okIs1 (k := 2) (by decide +kernel) rfl (by decide)) ?_
  refine ce_op (okInc (n := 1) (by decide +kernel) (by decide)) ?_
  refine ce_op (okGoto (off := (-35)) (by decide +kernel) (by decide)) ?_
  refine ce_op (okIl1 (k := 2) (by decide +kernel) rfl) ?_
  refine ce_op (okIret (by decide +kernel) rfl) ?_
  exact ce_nil
set_option maxRecDepth 100000 in
def cdX4_boughtOnlyFrom : List CE := (0, 1, some (oIc 0)) :: (1, 1, some (oIs 3)) :: (2, 1, some (oIc 0)) :: (3, 2, some (oIs 4)) :: (5, 0, none) :: (5, 2, some (oIl 4)) ::
  (7, 1, some (oAl 0)) :: (8, 3, some (oGetI 4 7)) :: (11, 3, some (oCmGe 49)) :: (14, 1, some (oAl 0)) :: (15, 3, some (oGetR [(452, 164328), (836, 164712)])) :: (18, 2, some (oIl 4)) ::
  (20, 1, some oIald) :: (21, 1, some (oIl 1)) :: (22, 3, some (oCmNe 43)) :: (25, 1, some (oIl 2)) :: (26, 1, some (oAl 0)) :: (27, 3, some (oGetR [(452, 164312), (836, 164696)])) ::
  (30, 2, some (oIl 4)) :: (32, 1, some oIald) :: (33, 1, some oIshr) :: (34, 1, some (oIc 1)) :: (35, 1, some oIand) :: (36, 3, some (oIfNe 41)) ::
  (39, 1, some (oIc 0)) :: (40, 1, some oZret) :: (41, 1, some (oIc 1)) :: (42, 1, some (oIs 3)) :: (43, 3, some (oInc 4 1)) :: (46, 3, some (oGoto 5)) ::
  (49, 1, some (oIl 3)) :: (50, 1, some oZret) :: []
set_option maxRecDepth 100000 in
set_option maxHeartbeats 4000000 in
theorem okX4_boughtOnlyFrom : CodeOk mX4_boughtOnlyFrom cdX4_boughtOnlyFrom := by
  refine ⟨by rfl, ?_⟩
  show CodeAll mX4_boughtOnlyFrom cdX4_boughtOnlyFrom
  refine ce_op (okIc1 (n := 0) (by decide +kernel) (by decide)) ?_
  refine ce_op (okIs1 (k := 3) (by decide +kernel) rfl (by decide)) ?_
  refine ce_op (okIc1 (n := 0) (by decide +kernel) (by decide)) ?_
  refine ce_op (okIs2 (by decide +kernel) (by decide)) ?_
  refine ce_st ?_
  refine ce_op (okIl2 (by decide +kernel)) ?_
  refine ce_op (okAl1 (k := 0) (by decide +kernel) rfl) ?_
  refine ce_op (okGetI clX4 (k := 7) (x := 33) (by decide +kernel) (by decide) rfl wd313 (Or.inl rfl)) ?_
  refine ce_op (okCmGe (off := 38) (by decide +kernel) (by decide)) ?_
  refine ce_op (okAl1 (k := 0) (by decide +kernel) rfl) ?_
  refine ce_op (okGetR clX4 (k := 1) (x := 15) (by decide +kernel) (by decide) rfl wd290 rfl (by decide +kernel)) ?_
  refine ce_op (okIl2 (by decide +kernel)) ?_
  refine ce_op (okIald (by decide +kernel)) ?_
  refine ce_op (okIl1 (k := 1) (by decide +kernel) rfl) ?_
  refine ce_op (okCmNe (off := 21) (by decide +kernel) (by decide)) ?_
  refine ce_op (okIl1 (k := 2) (by decide +kernel) rfl) ?_
  refine ce_op (okAl1 (k := 0) (by decide +kernel) rfl) ?_
  refine ce_op (okGetR clX4 (k := 0) (x := 9) (by decide +kernel) (by decide) rfl wd285 rfl (by decide +kernel)) ?_
  refine ce_op (okIl2 (by decide +kernel)) ?_
  refine ce_op (okIald (by decide +kernel)) ?_
  refine ce_op (okIshr (by decide +kernel)) ?_
  refine ce_op (okIc1 (n := 1) (by decide +kernel) (by decide)) ?_
  refine ce_op (okIand (by decide +kernel)) ?_
  refine ce_op (okIfNe (off := 5) (by decide +kernel) (by decide)) ?_
  refine ce_op (okIc1 (n := 0) (by decide +kernel) (by decide)) ?_
  refine ce_op (okZret (by decide +kernel) rfl) ?_
  refine ce_op (okIc1 (n := 1) (by decide +kernel) (by decide)) ?_
  refine ce_op (okIs1 (k := 3) (by decide +kernel) rfl (by decide)) ?_
  refine ce_op (okInc (n := 1) (by decide +kernel) (by decide)) ?_
  refine ce_op (okGoto (off := (-41)) (by decide +kernel) (by decide)) ?_
  refine ce_op (okIl1 (k := 3) (by decide +kernel) rfl) ?_
  refine ce_op (okZret (by decide +kernel) rfl) ?_
  exact ce_nil
set_option maxRecDepth 100000 in
def cdX4_gapsOf : List CE := (0, 1, some (oIc 0)) :: (1, 1, some (oIs 2)) :: (2, 1, some (oAl 0)) :: (3, 1, some (oIl 1)) :: (4, 1, some (oIc (-1))) :: (5, 3, some (oCI 4 mX4_nextOf 3)) ::
  (8, 1, some (oIs 3)) :: (9, 1, some (oIc 0)) :: (10, 2, some (oIs 4)) :: (12, 0, none) :: (12, 2, some (oIl 4)) :: (14, 1, some (oAl 0)) ::
  (15, 3, some (oGetI 4 7)) :: (18, 3, some (oCmGe 66)) :: (21, 1, some (oIl 3)) :: (22, 3, some (oIfLt 66)) :: (25, 1, some (oAl 0)) :: (26, 1, some (oIl 1)) ::
  (27, 1, some (oIl 3)) :: (28, 3, some (oCI 4 mX4_nextOf 3)) :: (31, 2, some (oIs 5)) :: (33, 2, some (oIl 5)) :: (35, 3, some (oIfLt 57)) :: (38, 1, some (oAl 0)) ::
  (39, 3, some (oGetR [(452, 164312), (836, 164696)])) :: (42, 2, some (oIl 5)) :: (44, 1, some oIald) :: (45, 1, some (oAl 0)) :: (46, 3, some (oGetR [(452, 164328), (836, 164712)])) :: (49, 1, some (oIl 3)) ::
  (50, 1, some oIald) :: (51, 3, some (oCmEq 57)) :: (54, 3, some (oInc 2 1)) :: (57, 2, some (oIl 5)) :: (59, 1, some (oIs 3)) :: (60, 3, some (oInc 4 1)) ::
  (63, 3, some (oGoto 12)) :: (66, 1, some (oIl 2)) :: (67, 1, some oIret) :: []
set_option maxRecDepth 100000 in
set_option maxHeartbeats 4000000 in
theorem okX4_gapsOf : CodeOk mX4_gapsOf cdX4_gapsOf := by
  refine ⟨by rfl, ?_⟩
  show CodeAll mX4_gapsOf cdX4_gapsOf
  refine ce_op (okIc1 (n := 0) (by decide +kernel) (by decide)) ?_
  refine ce_op (okIs1 (k := 2) (by decide +kernel) rfl (by decide)) ?_
  refine ce_op (okAl1 (k := 0) (by decide +kernel) rfl) ?_
  refine ce_op (okIl1 (k := 1) (by decide +kernel) rfl) ?_
  refine ce_op (okIc1 (n := (-1)) (by decide +kernel) (by decide)) ?_
  refine ce_op (okCI miX4_nextOf (rV clX4 (x := 52) miX4_nextOf rfl (by decide +kernel) wd827 wd829 wd38)) ?_
  refine ce_op (okIs1 (k := 3) (by decide +kernel) rfl (by decide)) ?_
  refine ce_op (okIc1 (n := 0) (by decide +kernel) (by decide)) ?_
  refine ce_op (okIs2 (by decide +kernel) (by decide)) ?_
  refine ce_st ?_
  refine ce_op (okIl2 (by decide +kernel)) ?_
  refine ce_op (okAl1 (k := 0) (by decide +kernel) rfl) ?_
  refine ce_op (okGetI clX4 (k := 7) (x := 33) (by decide +kernel) (by decide) rfl wd313 (Or.inl rfl)) ?_
  refine ce_op (okCmGe (off := 48) (by decide +kernel) (by decide)) ?_
  refine ce_op (okIl1 (k := 3) (by decide +kernel) rfl) ?_
  refine ce_op (okIfLt (off := 44) (by decide +kernel) (by decide)) ?_
  refine ce_op (okAl1 (k := 0) (by decide +kernel) rfl) ?_
  refine ce_op (okIl1 (k := 1) (by decide +kernel) rfl) ?_
  refine ce_op (okIl1 (k := 3) (by decide +kernel) rfl) ?_
  refine ce_op (okCI miX4_nextOf (rV clX4 (x := 52) miX4_nextOf rfl (by decide +kernel) wd827 wd829 wd38)) ?_
  refine ce_op (okIs2 (by decide +kernel) (by decide)) ?_
  refine ce_op (okIl2 (by decide +kernel)) ?_
  refine ce_op (okIfLt (off := 22) (by decide +kernel) (by decide)) ?_
  refine ce_op (okAl1 (k := 0) (by decide +kernel) rfl) ?_
  refine ce_op (okGetR clX4 (k := 0) (x := 9) (by decide +kernel) (by decide) rfl wd285 rfl (by decide +kernel)) ?_
  refine ce_op (okIl2 (by decide +kernel)) ?_
  refine ce_op (okIald (by decide +kernel)) ?_
  refine ce_op (okAl1 (k := 0) (by decide +kernel) rfl) ?_
  refine ce_op (okGetR clX4 (k := 1) (x := 15) (by decide +kernel) (by decide) rfl wd290 rfl (by decide +kernel)) ?_
  refine ce_op (okIl1 (k := 3) (by decide +kernel) rfl) ?_
  refine ce_op (okIald (by decide +kernel)) ?_
  refine ce_op (okCmEq (off := 6) (by decide +kernel) (by decide)) ?_
  refine ce_op (okInc (n := 1) (by decide +kernel) (by decide)) ?_
  refine ce_op (okIl2 (by decide +kernel)) ?_
  refine ce_op (okIs1 (k := 3) (by decide +kernel) rfl (by decide)) ?_
  refine ce_op (okInc (n := 1) (by decide +kernel) (by decide)) ?_
  refine ce_op (okGoto (off := (-51)) (by decide +kernel) (by decide)) ?_
  refine ce_op (okIl1 (k := 2) (by decide +kernel) rfl) ?_
  refine ce_op (okIret (by decide +kernel) rfl) ?_
  exact ce_nil
set_option maxRecDepth 100000 in
def cdX4_nextOf : List CE := (0, 1, some (oIc (-1))) :: (1, 1, some (oIs 3)) :: (2, 1, some (oIc 0)) :: (3, 2, some (oIs 4)) :: (5, 0, none) :: (5, 2, some (oIl 4)) ::
  (7, 1, some (oAl 0)) :: (8, 3, some (oGetI 4 7)) :: (11, 3, some (oCmGe 74)) :: (14, 1, some (oIl 2)) :: (15, 3, some (oIfLt 28)) :: (18, 1, some (oAl 0)) ::
  (19, 1, some (oIl 2)) :: (20, 2, some (oIl 4)) :: (22, 3, some (oCI 4 mX4_isBefore 3)) :: (25, 3, some (oIfEq 32)) :: (28, 1, some (oIc 1)) :: (29, 3, some (oGoto 33)) ::
  (32, 1, some (oIc 0)) :: (33, 2, some (oIs 5)) :: (35, 1, some (oAl 0)) :: (36, 3, some (oGetR [(452, 164408), (836, 164792)])) :: (39, 2, some (oIl 4)) :: (41, 1, some oIald) ::
  (42, 1, some (oIl 1)) :: (43, 3, some (oCmNe 68)) :: (46, 2, some (oIl 5)) :: (48, 3, some (oIfEq 68)) :: (51, 1, some (oIl 3)) :: (52, 3, some (oIfLt 65)) ::
  (55, 1, some (oAl 0)) :: (56, 2, some (oIl 4)) :: (58, 1, some (oIl 3)) :: (59, 3, some (oCI 4 mX4_isBefore 3)) :: (62, 3, some (oIfEq 68)) :: (65, 2, some (oIl 4)) ::
  (67, 1, some (oIs 3)) :: (68, 3, some (oInc 4 1)) :: (71, 3, some (oGoto 5)) :: (74, 1, some (oIl 3)) :: (75, 1, some oIret) :: []
set_option maxRecDepth 100000 in
set_option maxHeartbeats 4000000 in
theorem okX4_nextOf : CodeOk mX4_nextOf cdX4_nextOf := by
  refine ⟨by rfl, ?_⟩
  show CodeAll mX4_nextOf cdX4_nextOf
  refine ce_op (okIc1 (n := (-1)) (by decide +kernel) (by decide)) ?_
  refine ce_op (okIs1 (k := 3) (by decide +kernel) rfl (by decide)) ?_
  refine ce_op (okIc1 (n := 0) (by decide +kernel) (by decide)) ?_
  refine ce_op (okIs2 (by decide +kernel) (by decide)) ?_
  refine ce_st ?_
  refine ce_op (okIl2 (by decide +kernel)) ?_
  refine ce_op (okAl1 (k := 0) (by decide +kernel) rfl) ?_
  refine ce_op (okGetI clX4 (k := 7) (x := 33) (by decide +kernel) (by decide) rfl wd313 (Or.inl rfl)) ?_
  refine ce_op (okCmGe (off := 63) (by decide +kernel) (by decide)) ?_
  refine ce_op (okIl1 (k := 2) (by decide +kernel) rfl) ?_
  refine ce_op (okIfLt (off := 13) (by decide +kernel) (by decide)) ?_
  refine ce_op (okAl1 (k := 0) (by decide +kernel) rfl) ?_
  refine ce_op (okIl1 (k := 2) (by decide +kernel) rfl) ?_
  refine ce_op (okIl2 (by decide +kernel)) ?_
  refine ce_op (okCI miX4_isBefore (rV clX4 (x := 56) miX4_isBefore rfl (by decide +kernel) wd831 wd833 wd39)) ?_
  refine ce_op (okIfEq (off := 7) (by decide +kernel) (by decide)) ?_
  refine ce_op (okIc1 (n := 1) (by decide +kernel) (by decide)) ?_
  refine ce_op (okGoto (off := 4) (by decide +kernel) (by decide)) ?_
  refine ce_op (okIc1 (n := 0) (by decide +kernel) (by decide)) ?_
  refine ce_op (okIs2 (by decide +kernel) (by decide)) ?_
  refine ce_op (okAl1 (k := 0) (by decide +kernel) rfl) ?_
  refine ce_op (okGetR clX4 (k := 6) (x := 30) (by decide +kernel) (by decide) rfl wd310 rfl (by decide +kernel)) ?_
  refine ce_op (okIl2 (by decide +kernel)) ?_
  refine ce_op (okIald (by decide +kernel)) ?_
  refine ce_op (okIl1 (k := 1) (by decide +kernel) rfl) ?_
  refine ce_op (okCmNe (off := 25) (by decide +kernel) (by decide)) ?_
  refine ce_op (okIl2 (by decide +kernel)) ?_
  refine ce_op (okIfEq (off := 20) (by decide +kernel) (by decide)) ?_
  refine ce_op (okIl1 (k := 3) (by decide +kernel) rfl) ?_
  refine ce_op (okIfLt (off := 13) (by decide +kernel) (by decide)) ?_
  refine ce_op (okAl1 (k := 0) (by decide +kernel) rfl) ?_
  refine ce_op (okIl2 (by decide +kernel)) ?_
  refine ce_op (okIl1 (k := 3) (by decide +kernel) rfl) ?_
  refine ce_op (okCI miX4_isBefore (rV clX4 (x := 56) miX4_isBefore rfl (by decide +kernel) wd831 wd833 wd39)) ?_
  refine ce_op (okIfEq (off := 6) (by decide +kernel) (by decide)) ?_
  refine ce_op (okIl2 (by decide +kernel)) ?_
  refine ce_op (okIs1 (k := 3) (by decide +kernel) rfl (by decide)) ?_
  refine ce_op (okInc (n := 1) (by decide +kernel) (by decide)) ?_
  refine ce_op (okGoto (off := (-66)) (by decide +kernel) (by decide)) ?_
  refine ce_op (okIl1 (k := 3) (by decide +kernel) rfl) ?_
  refine ce_op (okIret (by decide +kernel) rfl) ?_
  exact ce_nil
set_option maxRecDepth 100000 in
def cdX4_isBefore : List CE := (0, 1, some (oAl 0)) :: (1, 3, some (oGetR [(452, 164392), (836, 164776)])) :: (4, 1, some (oIl 1)) :: (5, 1, some oIald) :: (6, 1, some (oAl 0)) :: (7, 3, some (oGetR [(452, 164392), (836, 164776)])) ::
  (10, 1, some (oIl 2)) :: (11, 1, some oIald) :: (12, 3, some (oCmEq 38)) :: (15, 1, some (oAl 0)) :: (16, 3, some (oGetR [(452, 164392), (836, 164776)])) :: (19, 1, some (oIl 1)) ::
  (20, 1, some oIald) :: (21, 1, some (oAl 0)) :: (22, 3, some (oGetR [(452, 164392), (836, 164776)])) :: (25, 1, some (oIl 2)) :: (26, 1, some oIald) :: (27, 3, some (oCmGe 34)) ::
  (30, 1, some (oIc 1)) :: (31, 3, some (oGoto 48)) :: (34, 1, some (oIc 0)) :: (35, 3, some (oGoto 48)) :: (38, 1, some (oIl 1)) :: (39, 1, some (oIl 2)) ::
  (40, 3, some (oCmGe 47)) :: (43, 1, some (oIc 1)) :: (44, 3, some (oGoto 48)) :: (47, 1, some (oIc 0)) :: (48, 1, some oZret) :: []
set_option maxRecDepth 100000 in
set_option maxHeartbeats 4000000 in
theorem okX4_isBefore : CodeOk mX4_isBefore cdX4_isBefore := by
  refine ⟨by rfl, ?_⟩
  show CodeAll mX4_isBefore cdX4_isBefore
  refine ce_op (okAl1 (k := 0) (by decide +kernel) rfl) ?_
  refine ce_op (okGetR clX4 (k := 5) (x := 27) (by decide +kernel) (by decide) rfl wd306 rfl (by decide +kernel)) ?_
  refine ce_op (okIl1 (k := 1) (by decide +kernel) rfl) ?_
  refine ce_op (okIald (by decide +kernel)) ?_
  refine ce_op (okAl1 (k := 0) (by decide +kernel) rfl) ?_
  refine ce_op (okGetR clX4 (k := 5) (x := 27) (by decide +kernel) (by decide) rfl wd306 rfl (by decide +kernel)) ?_
  refine ce_op (okIl1 (k := 2) (by decide +kernel) rfl) ?_
  refine ce_op (okIald (by decide +kernel)) ?_
  refine ce_op (okCmEq (off := 26) (by decide +kernel) (by decide)) ?_
  refine ce_op (okAl1 (k := 0) (by decide +kernel) rfl) ?_
  refine ce_op (okGetR clX4 (k := 5) (x := 27) (by decide +kernel) (by decide) rfl wd306 rfl (by decide +kernel)) ?_
  refine ce_op (okIl1 (k := 1) (by decide +kernel) rfl) ?_
  refine ce_op (okIald (by decide +kernel)) ?_
  refine ce_op (okAl1 (k := 0) (by decide +kernel) rfl) ?_
  refine ce_op (okGetR clX4 (k := 5) (x := 27) (by decide +kernel) (by decide) rfl wd306 rfl (by decide +kernel)) ?_
  refine ce_op (okIl1 (k := 2) (by decide +kernel) rfl) ?_
  refine ce_op (okIald (by decide +kernel)) ?_
  refine ce_op (okCmGe (off := 7) (by decide +kernel) (by decide)) ?_
  refine ce_op (okIc1 (n := 1) (by decide +kernel) (by decide)) ?_
  refine ce_op (okGoto (off := 17) (by decide +kernel) (by decide)) ?_
  refine ce_op (okIc1 (n := 0) (by decide +kernel) (by decide)) ?_
  refine ce_op (okGoto (off := 13) (by decide +kernel) (by decide)) ?_
  refine ce_op (okIl1 (k := 1) (by decide +kernel) rfl) ?_
  refine ce_op (okIl1 (k := 2) (by decide +kernel) rfl) ?_
  refine ce_op (okCmGe (off := 7) (by decide +kernel) (by decide)) ?_
  refine ce_op (okIc1 (n := 1) (by decide +kernel) (by decide)) ?_
  refine ce_op (okGoto (off := 4) (by decide +kernel) (by decide)) ?_
  refine ce_op (okIc1 (n := 0) (by decide +kernel) (by decide)) ?_
  refine ce_op (okZret (by decide +kernel) rfl) ?_
  exact ce_nil
set_option maxRecDepth 100000 in
def cdX5_most : List CE := (0, 1, some (oAl 0)) :: (1, 1, some (oAl 1)) :: (2, 1, some (oIl 3)) :: (3, 2, some (oIl 4)) :: (5, 3, some (oCV 5 mX5_load 4)) :: (8, 1, some (oAl 0)) ::
  (9, 1, some (oIl 2)) :: (10, 3, some (oPutI 5 10)) :: (13, 1, some (oIc 0)) :: (14, 2, some (oIs 5)) :: (16, 1, some (oIc 0)) :: (17, 2, some (oIs 6)) ::
  (19, 0, none) :: (19, 2, some (oIl 6)) :: (21, 2, some (oIc 39960)) :: (23, 3, some (oCmGe 69)) :: (26, 1, some (oAl 0)) :: (27, 3, some (oCI 5 mX5_seekHome 1)) ::
  (30, 2, some (oIs 7)) :: (32, 2, some (oIl 7)) :: (34, 3, some (oIfGe 40)) :: (37, 2, some (oIl 5)) :: (39, 1, some oIret) :: (40, 1, some (oAl 0)) ::
  (41, 2, some (oIl 7)) :: (43, 3, some (oCI 5 mX5_narrowest 2)) :: (46, 2, some (oIs 8)) :: (48, 1, some (oAl 0)) :: (49, 2, some (oIl 7)) :: (51, 2, some (oIl 8)) ::
  (53, 3, some (oCV 5 mX5_send 3)) :: (56, 2, some (oIl 5)) :: (58, 2, some (oIl 8)) :: (60, 1, some oIadd) :: (61, 2, some (oIs 5)) :: (63, 3, some (oInc 6 1)) ::
  (66, 3, some (oGoto 19)) :: (69, 2, some (oIl 5)) :: (71, 1, some oIret) :: []
set_option maxRecDepth 100000 in
set_option maxHeartbeats 4000000 in
theorem okX5_most : CodeOk mX5_most cdX5_most := by
  refine ⟨by rfl, ?_⟩
  show CodeAll mX5_most cdX5_most
  refine ce_op (okAl1 (k := 0) (by decide +kernel) rfl) ?_
  refine ce_op (okAl1 (k := 1) (by decide +kernel) rfl) ?_
  refine ce_op (okIl1 (k := 3) (by decide +kernel) rfl) ?_
  refine ce_op (okIl2 (by decide +kernel)) ?_
  refine ce_op (okCV miX5_load (rV clX5 (x := 46) miX5_load rfl (by decide +kernel) wd727 wd729 wd26)) ?_
  refine ce_op (okAl1 (k := 0) (by decide +kernel) rfl) ?_
  refine ce_op (okIl1 (k := 2) (by decide +kernel) rfl) ?_
  refine ce_op (okPutI clX5 (k := 10) (x := 43) (by decide +kernel) (by decide) rfl wd233 rfl rfl (by decide +kernel)) ?_
  refine ce_op (okIc1 (n := 0) (by decide +kernel) (by decide)) ?_
  refine ce_op (okIs2 (by decide +kernel) (by decide)) ?_
  refine ce_op (okIc1 (n := 0) (by decide +kernel) (by decide)) ?_
  refine ce_op (okIs2 (by decide +kernel) (by decide)) ?_
  refine ce_st ?_
  refine ce_op (okIl2 (by decide +kernel)) ?_
  refine ce_op (okIcL (k := 50) (by decide +kernel) wd731) ?_
  refine ce_op (okCmGe (off := 46) (by decide +kernel) (by decide)) ?_
  refine ce_op (okAl1 (k := 0) (by decide +kernel) rfl) ?_
  refine ce_op (okCI miX5_seekHome (rV clX5 (x := 51) miX5_seekHome rfl (by decide +kernel) wd732 wd734 wd27)) ?_
  refine ce_op (okIs2 (by decide +kernel) (by decide)) ?_
  refine ce_op (okIl2 (by decide +kernel)) ?_
  refine ce_op (okIfGe (off := 6) (by decide +kernel) (by decide)) ?_
  refine ce_op (okIl2 (by decide +kernel)) ?_
  refine ce_op (okIret (by decide +kernel) rfl) ?_
  refine ce_op (okAl1 (k := 0) (by decide +kernel) rfl) ?_
  refine ce_op (okIl2 (by decide +kernel)) ?_
  refine ce_op (okCI miX5_narrowest (rV clX5 (x := 55) miX5_narrowest rfl (by decide +kernel) wd748 wd750 wd31)) ?_
  refine ce_op (okIs2 (by decide +kernel) (by decide)) ?_
  refine ce_op (okAl1 (k := 0) (by decide +kernel) rfl) ?_
  refine ce_op (okIl2 (by decide +kernel)) ?_
  refine ce_op (okIl2 (by decide +kernel)) ?_
  refine ce_op (okCV miX5_send (rV clX5 (x := 59) miX5_send rfl (by decide +kernel) wd757 wd759 wd33)) ?_
  refine ce_op (okIl2 (by decide +kernel)) ?_
  refine ce_op (okIl2 (by decide +kernel)) ?_
  refine ce_op (okIadd (by decide +kernel)) ?_
  refine ce_op (okIs2 (by decide +kernel) (by decide)) ?_
  refine ce_op (okInc (n := 1) (by decide +kernel) (by decide)) ?_
  refine ce_op (okGoto (off := (-47)) (by decide +kernel) (by decide)) ?_
  refine ce_op (okIl2 (by decide +kernel)) ?_
  refine ce_op (okIret (by decide +kernel) rfl) ?_
  exact ce_nil
set_option maxRecDepth 100000 in
def cdX5_load : List CE := (0, 1, some (oAl 0)) :: (1, 1, some (oIc 0)) :: (2, 3, some (oPutI 5 8)) :: (5, 1, some (oIc 0)) :: (6, 2, some (oIs 4)) :: (8, 0, none) ::
  (8, 2, some (oIl 4)) :: (10, 1, some (oAl 1)) :: (11, 3, some (oGetI 4 7)) :: (14, 3, some (oCmGe 146)) :: (17, 1, some (oIc 1)) :: (18, 1, some (oAl 1)) ::
  (19, 3, some (oGetR [(452, 164312), (836, 164696)])) :: (22, 2, some (oIl 4)) :: (24, 1, some oIald) :: (25, 1, some oIshl) :: (26, 1, some (oIc 1)) :: (27, 1, some (oAl 1)) ::
  (28, 3, some (oGetR [(452, 164328), (836, 164712)])) :: (31, 2, some (oIl 4)) :: (33, 1, some oIald) :: (34, 1, some oIshl) :: (35, 1, some oIor) :: (36, 2, some (oIs 5)) ::
  (38, 1, some (oAl 1)) :: (39, 3, some (oGetR [(452, 164360), (836, 164744)])) :: (42, 2, some (oIl 4)) :: (44, 1, some oIald) :: (45, 1, some (oIl 2)) :: (46, 3, some (oCmNe 140)) ::
  (49, 2, some (oIl 5)) :: (51, 1, some (oIl 3)) :: (52, 1, some oIand) :: (53, 3, some (oIfNe 140)) :: (56, 1, some (oAl 0)) :: (57, 3, some (oGetR [(197, 164056)])) ::
  (60, 1, some (oAl 0)) :: (61, 3, some (oGetI 5 8)) :: (64, 1, some (oAl 1)) :: (65, 3, some (oGetR [(452, 164312), (836, 164696)])) :: (68, 2, some (oIl 4)) :: (70, 1, some oIald) ::
  (71, 1, some oIast) :: (72, 1, some (oAl 0)) :: (73, 3, some (oGetR [(197, 164072)])) :: (76, 1, some (oAl 0)) :: (77, 3, some (oGetI 5 8)) :: (80, 1, some (oAl 1)) ::
  (81, 3, some (oGetR [(452, 164328), (836, 164712)])) :: (84, 2, some (oIl 4)) :: (86, 1, some oIald) :: (87, 1, some oIast) :: (88, 1, some (oAl 0)) :: (89, 3, some (oGetR [(197, 164088)])) ::
  (92, 1, some (oAl 0)) :: (93, 3, some (oGetI 5 8)) :: (96, 1, some (oAl 1)) :: (97, 3, some (oGetR [(452, 164392), (836, 164776)])) :: (100, 2, some (oIl 4)) :: (102, 1, some oIald) ::
  (103, 1, some oIast) :: (104, 1, some (oAl 0)) :: (105, 3, some (oGetR [(197, 164104)])) :: (108, 1, some (oAl 0)) :: (109, 3, some (oGetI 5 8)) :: (112, 1, some (oAl 1)) ::
  (113, 3, some (oGetR [(452, 164344), (836, 164728)])) :: (116, 2, some (oIl 4)) :: (118, 1, some oIald) :: (119, 1, some oIast) :: (120, 1, some (oAl 0)) :: (121, 3, some (oGetR [(197, 164120)])) ::
  (124, 1, some (oAl 0)) :: (125, 3, some (oGetI 5 8)) :: (128, 1, some (oIc 0)) :: (129, 1, some oIast) :: (130, 1, some (oAl 0)) :: (131, 1, some oDup) ::
  (132, 3, some (oGetI 5 8)) :: (135, 1, some (oIc 1)) :: (136, 1, some oIadd) :: (137, 3, some (oPutI 5 8)) :: (140, 3, some (oInc 4 1)) :: (143, 3, some (oGoto 8)) ::
  (146, 1, some (oIc 0)) :: (147, 2, some (oIs 4)) :: (149, 0, none) :: (149, 2, some (oIl 4)) :: (151, 1, some (oAl 0)) :: (152, 3, some (oGetI 5 8)) ::
  (155, 1, some (oAl 0)) :: (156, 3, some (oGetI 5 8)) :: (159, 1, some oImul) :: (160, 3, some (oCmGe 177)) :: (163, 1, some (oAl 0)) :: (164, 3, some (oGetR [(197, 6553896)])) ::
  (167, 2, some (oIl 4)) :: (169, 1, some (oIc 0)) :: (170, 1, some oIast) :: (171, 3, some (oInc 4 1)) :: (174, 3, some (oGoto 149)) :: (177, 1, some oVret) :: []
set_option maxRecDepth 100000 in
set_option maxHeartbeats 4000000 in
theorem okX5_load : CodeOk mX5_load cdX5_load := by
  refine ⟨by rfl, ?_⟩
  show CodeAll mX5_load cdX5_load
  refine ce_op (okAl1 (k := 0) (by decide +kernel) rfl) ?_
  refine ce_op (okIc1 (n := 0) (by decide +kernel) (by decide)) ?_
  refine ce_op (okPutI clX5 (k := 8) (x := 36) (by decide +kernel) (by decide) rfl wd231 rfl rfl (by decide +kernel)) ?_
  refine ce_op (okIc1 (n := 0) (by decide +kernel) (by decide)) ?_
  refine ce_op (okIs2 (by decide +kernel) (by decide)) ?_
  refine ce_st ?_
  refine ce_op (okIl2 (by decide +kernel)) ?_
  refine ce_op (okAl1 (k := 1) (by decide +kernel) rfl) ?_
  refine ce_op (okGetI clX4 (k := 7) (x := 63) (by decide +kernel) (by decide) rfl wd315 (Or.inl rfl)) ?_
  refine ce_op (okCmGe (off := 132) (by decide +kernel) (by decide)) ?_
  refine ce_op (okIc1 (n := 1) (by decide +kernel) (by decide)) ?_
  refine ce_op (okAl1 (k := 1) (by decide +kernel) rfl) ?_
  refine ce_op (okGetR clX4 (k := 0) (x := 66) (by decide +kernel) (by decide) rfl wd286 rfl (by decide +kernel)) ?_
  refine ce_op (okIl2 (by decide +kernel)) ?_
  refine ce_op (okIald (by decide +kernel)) ?_
  refine ce_op (okIshl (by decide +kernel)) ?_
  refine ce_op (okIc1 (n := 1) (by decide +kernel) (by decide)) ?_
  refine ce_op (okAl1 (k := 1) (by decide +kernel) rfl) ?_
  refine ce_op (okGetR clX4 (k := 1) (x := 67) (by decide +kernel) (by decide) rfl wd291 rfl (by decide +kernel)) ?_
  refine ce_op (okIl2 (by decide +kernel)) ?_
  refine ce_op (okIald (by decide +kernel)) ?_
  refine ce_op (okIshl (by decide +kernel)) ?_
  refine ce_op (okIor (by decide +kernel)) ?_
  refine ce_op (okIs2 (by decide +kernel) (by decide)) ?_
  refine ce_op (okAl1 (k := 1) (by decide +kernel) rfl) ?_
  refine ce_op (okGetR clX4 (k := 3) (x := 68) (by decide +kernel) (by decide) rfl wd300 rfl (by decide +kernel)) ?_
  refine ce_op (okIl2 (by decide +kernel)) ?_
  refine ce_op (okIald (by decide +kernel)) ?_
  refine ce_op (okIl1 (k := 2) (by decide +kernel) rfl) ?_
  refine ce_op (okCmNe (off := 94) (by decide +kernel) (by decide)) ?_
  refine ce_op (okIl2 (by decide +kernel)) ?_
  refine ce_op (okIl1 (k := 3) (by decide +kernel) rfl) ?_
  refine ce_op (okIand (by decide +kernel)) ?_
  refine ce_op (okIfNe (off := 87) (by decide +kernel) (by decide)) ?_
  refine ce_op (okAl1 (k := 0) (by decide +kernel) rfl) ?_
  refine ce_op (okGetR clX5 (k := 0) (x := 9) (by decide +kernel) (by decide) rfl wd223 rfl (by decide +kernel)) ?_
  refine ce_op (okAl1 (k := 0) (by decide +kernel) rfl) ?_
  refine ce_op (okGetI clX5 (k := 8) (x := 36) (by decide +kernel) (by decide) rfl wd231 (Or.inl rfl)) ?_
  refine ce_op (okAl1 (k := 1) (by decide +kernel) rfl) ?_
  refine ce_op (okGetR clX4 (k := 0) (x := 66) (by decide +kernel) (by decide) rfl wd286 rfl (by decide +kernel)) ?_
  refine ce_op (okIl2 (by decide +kernel)) ?_
  refine ce_op (okIald (by decide +kernel)) ?_
  refine ce_op (okIast (by decide +kernel)) ?_
  refine ce_op (okAl1 (k := 0) (by decide +kernel) rfl) ?_
  refine ce_op (okGetR clX5 (k := 1) (x := 15) (by decide +kernel) (by decide) rfl wd224 rfl (by decide +kernel)) ?_
  refine ce_op (okAl1 (k := 0) (by decide +kernel) rfl) ?_
  refine ce_op (okGetI clX5 (k := 8) (x := 36) (by decide +kernel) (by decide) rfl wd231 (Or.inl rfl)) ?_
  refine ce_op (okAl1 (k := 1) (by decide +kernel) rfl) ?_
  refine ce_op (okGetR clX4 (k := 1) (x := 67) (by decide +kernel) (by decide) rfl wd291 rfl (by decide +kernel)) ?_
  refine ce_op (okIl2 (by decide +kernel)) ?_
  refine ce_op (okIald (by decide +kernel)) ?_
  refine ce_op (okIast (by decide +kernel)) ?_
  refine ce_op (okAl1 (k := 0) (by decide +kernel) rfl) ?_
  refine ce_op (okGetR clX5 (k := 2) (x := 18) (by decide +kernel) (by decide) rfl wd225 rfl (by decide +kernel)) ?_
  refine ce_op (okAl1 (k := 0) (by decide +kernel) rfl) ?_
  refine ce_op (okGetI clX5 (k := 8) (x := 36) (by decide +kernel) (by decide) rfl wd231 (Or.inl rfl)) ?_
  refine ce_op (okAl1 (k := 1) (by decide +kernel) rfl) ?_
  refine ce_op (okGetR clX4 (k := 5) (x := 71) (by decide +kernel) (by decide) rfl wd307 rfl (by decide +kernel)) ?_
  refine ce_op (okIl2 (by decide +kernel)) ?_
  refine ce_op (okIald (by decide +kernel)) ?_
  refine ce_op (okIast (by decide +kernel)) ?_
  refine ce_op (okAl1 (k := 0) (by decide +kernel) rfl) ?_
  refine ce_op (okGetR clX5 (k := 3) (x := 21) (by decide +kernel) (by decide) rfl wd226 rfl (by decide +kernel)) ?_
  refine ce_op (okAl1 (k := 0) (by decide +kernel) rfl) ?_
  refine ce_op (okGetI clX5 (k := 8) (x := 36) (by decide +kernel) (by decide) rfl wd231 (Or.inl rfl)) ?_
  refine ce_op (okAl1 (k := 1) (by decide +kernel) rfl) ?_
  refine ce_op (okGetR clX4 (k := 2) (x := 72) (by decide +kernel) (by decide) rfl wd296 rfl (by decide +kernel)) ?_
  refine ce_op (okIl2 (by decide +kernel)) ?_
  refine ce_op (okIald (by decide +kernel)) ?_
  refine ce_op (okIast (by decide +kernel)) ?_
  refine ce_op (okAl1 (k := 0) (by decide +kernel) rfl) ?_
  refine ce_op (okGetR clX5 (k := 4) (x := 24) (by decide +kernel) (by decide) rfl wd227 rfl (by decide +kernel)) ?_
  refine ce_op (okAl1 (k := 0) (by decide +kernel) rfl) ?_
  refine ce_op (okGetI clX5 (k := 8) (x := 36) (by decide +kernel) (by decide) rfl wd231 (Or.inl rfl)) ?_
  refine ce_op (okIc1 (n := 0) (by decide +kernel) (by decide)) ?_
  refine ce_op (okIast (by decide +kernel)) ?_
  refine ce_op (okAl1 (k := 0) (by decide +kernel) rfl) ?_
  refine ce_op (okDup (by decide +kernel)) ?_
  refine ce_op (okGetI clX5 (k := 8) (x := 36) (by decide +kernel) (by decide) rfl wd231 (Or.inl rfl)) ?_
  refine ce_op (okIc1 (n := 1) (by decide +kernel) (by decide)) ?_
  refine ce_op (okIadd (by decide +kernel)) ?_
  refine ce_op (okPutI clX5 (k := 8) (x := 36) (by decide +kernel) (by decide) rfl wd231 rfl rfl (by decide +kernel)) ?_
  refine ce_op (okInc (n := 1) (by decide +kernel) (by decide)) ?_
  refine ce_op (okGoto (off := (-135)) (by decide +kernel) (by decide)) ?_
  refine ce_op (okIc1 (n := 0) (by decide +kernel) (by decide)) ?_
  refine ce_op (okIs2 (by decide +kernel) (by decide)) ?_
  refine ce_st ?_
  refine ce_op (okIl2 (by decide +kernel)) ?_
  refine ce_op (okAl1 (k := 0) (by decide +kernel) rfl) ?_
  refine ce_op (okGetI clX5 (k := 8) (x := 36) (by decide +kernel) (by decide) rfl wd231 (Or.inl rfl)) ?_
  refine ce_op (okAl1 (k := 0) (by decide +kernel) rfl) ?_
  refine ce_op (okGetI clX5 (k := 8) (x := 36) (by decide +kernel) (by decide) rfl wd231 (Or.inl rfl)) ?_
  refine ce_op (okImul (by decide +kernel)) ?_
  refine ce_op (okCmGe (off := 17) (by decide +kernel) (by decide)) ?_
  refine ce_op (okAl1 (k := 0) (by decide +kernel) rfl) ?_
  refine ce_op (okGetR clX5 (k := 5) (x := 27) (by decide +kernel) (by decide) rfl wd228 rfl (by decide +kernel)) ?_
  refine ce_op (okIl2 (by decide +kernel)) ?_
  refine ce_op (okIc1 (n := 0) (by decide +kernel) (by decide)) ?_
  refine ce_op (okIast (by decide +kernel)) ?_
  refine ce_op (okInc (n := 1) (by decide +kernel) (by decide)) ?_
  refine ce_op (okGoto (off := (-25)) (by decide +kernel) (by decide)) ?_
  refine ce_op (okVret (by decide +kernel) rfl) ?_
  exact ce_nil
set_option maxRecDepth 100000 in
def cdX5_seekHome : List CE := (0, 1, some (oAl 0)) :: (1, 1, some (oIc 0)) :: (2, 3, some (oPutI 5 9)) :: (5, 1, some (oIc 0)) :: (6, 1, some (oIs 1)) :: (7, 0, none) ::
  (7, 1, some (oIl 1)) :: (8, 1, some (oAl 0)) :: (9, 3, some (oGetI 5 8)) :: (12, 3, some (oCmGe 63)) :: (15, 1, some (oAl 0)) :: (16, 3, some (oGetR [(197, 327992)])) ::
  (19, 1, some (oIc 2)) :: (20, 1, some (oIl 1)) :: (21, 1, some oImul) :: (22, 1, some (oIc (-1))) :: (23, 1, some oIast) :: (24, 1, some (oAl 0)) ::
  (25, 3, some (oGetR [(197, 327992)])) :: (28, 1, some (oIc 2)) :: (29, 1, some (oIl 1)) :: (30, 1, some oImul) :: (31, 1, some (oIc 1)) :: (32, 1, some oIadd) ::
  (33, 1, some (oIc (-1))) :: (34, 1, some oIast) :: (35, 1, some (oAl 0)) :: (36, 3, some (oGetR [(197, 164056)])) :: (39, 1, some (oIl 1)) :: (40, 1, some oIald) ::
  (41, 1, some (oAl 0)) :: (42, 3, some (oGetI 5 10)) :: (45, 3, some (oCmNe 57)) :: (48, 1, some (oAl 0)) :: (49, 1, some (oIc 2)) :: (50, 1, some (oIl 1)) ::
  (51, 1, some oImul) :: (52, 2, some (oIc (-2))) :: (54, 3, some (oCV 5 mX5_visit 3)) :: (57, 3, some (oInc 1 1)) :: (60, 3, some (oGoto 7)) :: (63, 1, some (oIc 0)) ::
  (64, 1, some (oIs 1)) :: (65, 0, none) :: (65, 1, some (oIl 1)) :: (66, 1, some (oAl 0)) :: (67, 3, some (oGetI 5 9)) :: (70, 3, some (oCmGe 133)) ::
  (73, 1, some (oIl 1)) :: (74, 1, some (oAl 0)) :: (75, 3, some (oGetR [(197, 328008)])) :: (78, 1, some oLen) :: (79, 3, some (oCmGe 133)) :: (82, 1, some (oAl 0)) ::
  (83, 3, some (oGetR [(197, 328008)])) :: (86, 1, some (oIl 1)) :: (87, 1, some oIald) :: (88, 1, some (oIs 2)) :: (89, 1, some (oIl 2)) :: (90, 1, some (oIc 2)) ::
  (91, 1, some oIdiv) :: (92, 1, some (oIs 3)) :: (93, 1, some (oIl 2)) :: (94, 1, some (oIc 2)) :: (95, 1, some oIrem) :: (96, 3, some (oIfNe 107)) ::
  (99, 1, some (oAl 0)) :: (100, 1, some (oIl 3)) :: (101, 3, some (oCV 5 mX5_spreadIn 2)) :: (104, 3, some (oGoto 127)) :: (107, 1, some (oAl 0)) :: (108, 3, some (oGetR [(197, 164072)])) ::
  (111, 1, some (oIl 3)) :: (112, 1, some oIald) :: (113, 1, some (oAl 0)) :: (114, 3, some (oGetI 5 10)) :: (117, 3, some (oCmNe 122)) :: (120, 1, some (oIl 2)) ::
  (121, 1, some oIret) :: (122, 1, some (oAl 0)) :: (123, 1, some (oIl 3)) :: (124, 3, some (oCV 5 mX5_spreadOut 2)) :: (127, 3, some (oInc 1 1)) :: (130, 3, some (oGoto 65)) ::
  (133, 1, some (oIc (-1))) :: (134, 1, some oIret) :: []
set_option maxRecDepth 100000 in
set_option maxHeartbeats 4000000 in
theorem okX5_seekHome : CodeOk mX5_seekHome cdX5_seekHome := by
  refine ⟨by rfl, ?_⟩
  show CodeAll mX5_seekHome cdX5_seekHome
  refine ce_op (okAl1 (k := 0) (by decide +kernel) rfl) ?_
  refine ce_op (okIc1 (n := 0) (by decide +kernel) (by decide)) ?_
  refine ce_op (okPutI clX5 (k := 9) (x := 40) (by decide +kernel) (by decide) rfl wd232 rfl rfl (by decide +kernel)) ?_
  refine ce_op (okIc1 (n := 0) (by decide +kernel) (by decide)) ?_
  refine ce_op (okIs1 (k := 1) (by decide +kernel) rfl (by decide)) ?_
  refine ce_st ?_
  refine ce_op (okIl1 (k := 1) (by decide +kernel) rfl) ?_
  refine ce_op (okAl1 (k := 0) (by decide +kernel) rfl) ?_
  refine ce_op (okGetI clX5 (k := 8) (x := 36) (by decide +kernel) (by decide) rfl wd231 (Or.inl rfl)) ?_
  refine ce_op (okCmGe (off := 51) (by decide +kernel) (by decide)) ?_
  refine ce_op (okAl1 (k := 0) (by decide +kernel) rfl) ?_
  refine ce_op (okGetR clX5 (k := 6) (x := 30) (by decide +kernel) (by decide) rfl wd229 rfl (by decide +kernel)) ?_
  refine ce_op (okIc1 (n := 2) (by decide +kernel) (by decide)) ?_
  refine ce_op (okIl1 (k := 1) (by decide +kernel) rfl) ?_
  refine ce_op (okImul (by decide +kernel)) ?_
  refine ce_op (okIc1 (n := (-1)) (by decide +kernel) (by decide)) ?_
  refine ce_op (okIast (by decide +kernel)) ?_
  refine ce_op (okAl1 (k := 0) (by decide +kernel) rfl) ?_
  refine ce_op (okGetR clX5 (k := 6) (x := 30) (by decide +kernel) (by decide) rfl wd229 rfl (by decide +kernel)) ?_
  refine ce_op (okIc1 (n := 2) (by decide +kernel) (by decide)) ?_
  refine ce_op (okIl1 (k := 1) (by decide +kernel) rfl) ?_
  refine ce_op (okImul (by decide +kernel)) ?_
  refine ce_op (okIc1 (n := 1) (by decide +kernel) (by decide)) ?_
  refine ce_op (okIadd (by decide +kernel)) ?_
  refine ce_op (okIc1 (n := (-1)) (by decide +kernel) (by decide)) ?_
  refine ce_op (okIast (by decide +kernel)) ?_
  refine ce_op (okAl1 (k := 0) (by decide +kernel) rfl) ?_
  refine ce_op (okGetR clX5 (k := 0) (x := 9) (by decide +kernel) (by decide) rfl wd223 rfl (by decide +kernel)) ?_
  refine ce_op (okIl1 (k := 1) (by decide +kernel) rfl) ?_
  refine ce_op (okIald (by decide +kernel)) ?_
  refine ce_op (okAl1 (k := 0) (by decide +kernel) rfl) ?_
  refine ce_op (okGetI clX5 (k := 10) (x := 43) (by decide +kernel) (by decide) rfl wd233 (Or.inl rfl)) ?_
  refine ce_op (okCmNe (off := 12) (by decide +kernel) (by decide)) ?_
  refine ce_op (okAl1 (k := 0) (by decide +kernel) rfl) ?_
  refine ce_op (okIc1 (n := 2) (by decide +kernel) (by decide)) ?_
  refine ce_op (okIl1 (k := 1) (by decide +kernel) rfl) ?_
  refine ce_op (okImul (by decide +kernel)) ?_
  refine ce_op (okIc2 (n := (-2)) (by decide +kernel) (by decide)) ?_
  refine ce_op (okCV miX5_visit (rV clX5 (x := 73) miX5_visit rfl (by decide +kernel) wd736 wd738 wd28)) ?_
  refine ce_op (okInc (n := 1) (by decide +kernel) (by decide)) ?_
  refine ce_op (okGoto (off := (-53)) (by decide +kernel) (by decide)) ?_
  refine ce_op (okIc1 (n := 0) (by decide +kernel) (by decide)) ?_
  refine ce_op (okIs1 (k := 1) (by decide +kernel) rfl (by decide)) ?_
  refine ce_st ?_
  refine ce_op (okIl1 (k := 1) (by decide +kernel) rfl) ?_
  refine ce_op (okAl1 (k := 0) (by decide +kernel) rfl) ?_
  refine ce_op (okGetI clX5 (k := 9) (x := 40) (by decide +kernel) (by decide) rfl wd232 (Or.inl rfl)) ?_
  refine ce_op (okCmGe (off := 63) (by decide +kernel) (by decide)) ?_
  refine ce_op (okIl1 (k := 1) (by decide +kernel) rfl) ?_
  refine ce_op (okAl1 (k := 0) (by decide +kernel) rfl) ?_
  refine ce_op (okGetR clX5 (k := 7) (x := 33) (by decide +kernel) (by decide) rfl wd230 rfl (by decide +kernel)) ?_
  refine ce_op (okLen (by decide +kernel)) ?_
  refine ce_op (okCmGe (off := 54) (by decide +kernel) (by decide)) ?_
  refine ce_op (okAl1 (k := 0) (by decide +kernel) rfl) ?_
  refine ce_op (okGetR clX5 (k := 7) (x := 33) (by decide +kernel) (by decide) rfl wd230 rfl (by decide +kernel)) ?_
  refine ce_op (okIl1 (k := 1) (by decide +kernel) rfl) ?_
  refine ce_op (okIald (by decide +kernel)) ?_
  refine ce_op (okIs1 (k := 2) (by decide +kernel) rfl (by decide)) ?_
  refine ce_op (okIl1 (k := 2) (by decide +kernel) rfl) ?_
  refine ce_op (okIc1 (n := 2) (by decide +kernel) (by decide)) ?_
  refine ce_op (okIdiv (by decide +kernel)) ?_
  refine ce_op (okIs1 (k := 3) (by decide +kernel) rfl (by decide)) ?_
  refine ce_op (okIl1 (k := 2) (by decide +kernel) rfl) ?_
  refine ce_op (okIc1 (n := 2) (by decide +kernel) (by decide)) ?_
  refine ce_op (okIrem (by decide +kernel)) ?_
  refine ce_op (okIfNe (off := 11) (by decide +kernel) (by decide)) ?_
  refine ce_op (okAl1 (k := 0) (by decide +kernel) rfl) ?_
  refine ce_op (okIl1 (k := 3) (by decide +kernel) rfl) ?_
  refine ce_op (okCV miX5_spreadIn (rV clX5 (x := 76) miX5_spreadIn rfl (by decide +kernel) wd740 wd742 wd29)) ?_
  refine ce_op (okGoto (off := 23) (by decide +kernel) (by decide)) ?_
  refine ce_op (okAl1 (k := 0) (by decide +kernel) rfl) ?_
  refine ce_op (okGetR clX5 (k := 1) (x := 15) (by decide +kernel) (by decide) rfl wd224 rfl (by decide +kernel)) ?_
  refine ce_op (okIl1 (k := 3) (by decide +kernel) rfl) ?_
  refine ce_op (okIald (by decide +kernel)) ?_
  refine ce_op (okAl1 (k := 0) (by decide +kernel) rfl) ?_
  refine ce_op (okGetI clX5 (k := 10) (x := 43) (by decide +kernel) (by decide) rfl wd233 (Or.inl rfl)) ?_
  refine ce_op (okCmNe (off := 5) (by decide +kernel) (by decide)) ?_
  refine ce_op (okIl1 (k := 2) (by decide +kernel) rfl) ?_
  refine ce_op (okIret (by decide +kernel) rfl) ?_
  refine ce_op (okAl1 (k := 0) (by decide +kernel) rfl) ?_
  refine ce_op (okIl1 (k := 3) (by decide +kernel) rfl) ?_
  refine ce_op (okCV miX5_spreadOut (rV clX5 (x := 80) miX5_spreadOut rfl (by decide +kernel) wd744 wd746 wd30)) ?_
  refine ce_op (okInc (n := 1) (by decide +kernel) (by decide)) ?_
  refine ce_op (okGoto (off := (-65)) (by decide +kernel) (by decide)) ?_
  refine ce_op (okIc1 (n := (-1)) (by decide +kernel) (by decide)) ?_
  refine ce_op (okIret (by decide +kernel) rfl) ?_
  exact ce_nil
set_option maxRecDepth 100000 in
def cdX5_visit : List CE := (0, 1, some (oAl 0)) :: (1, 3, some (oGetR [(197, 327992)])) :: (4, 1, some (oIl 1)) :: (5, 1, some oIald) :: (6, 1, some (oIc (-1))) :: (7, 3, some (oCmNe 49)) ::
  (10, 1, some (oAl 0)) :: (11, 3, some (oGetI 5 9)) :: (14, 1, some (oAl 0)) :: (15, 3, some (oGetR [(197, 328008)])) :: (18, 1, some oLen) :: (19, 3, some (oCmGe 49)) ::
  (22, 1, some (oAl 0)) :: (23, 3, some (oGetR [(197, 327992)])) :: (26, 1, some (oIl 1)) :: (27, 1, some (oIl 2)) :: (28, 1, some oIast) :: (29, 1, some (oAl 0)) ::
  (30, 3, some (oGetR [(197, 328008)])) :: (33, 1, some (oAl 0)) :: (34, 3, some (oGetI 5 9)) :: (37, 1, some (oIl 1)) :: (38, 1, some oIast) :: (39, 1, some (oAl 0)) ::
  (40, 1, some oDup) :: (41, 3, some (oGetI 5 9)) :: (44, 1, some (oIc 1)) :: (45, 1, some oIadd) :: (46, 3, some (oPutI 5 9)) :: (49, 1, some oVret) :: []
set_option maxRecDepth 100000 in
set_option maxHeartbeats 4000000 in
theorem okX5_visit : CodeOk mX5_visit cdX5_visit := by
  refine ⟨by rfl, ?_⟩
  show CodeAll mX5_visit cdX5_visit
  refine ce_op (okAl1 (k := 0) (by decide +kernel) rfl) ?_
  refine ce_op (okGetR clX5 (k := 6) (x := 30) (by decide +kernel) (by decide) rfl wd229 rfl (by decide +kernel)) ?_
  refine ce_op (okIl1 (k := 1) (by decide +kernel) rfl) ?_
  refine ce_op (okIald (by decide +kernel)) ?_
  refine ce_op (okIc1 (n := (-1)) (by decide +kernel) (by decide)) ?_
  refine ce_op (okCmNe (off := 42) (by decide +kernel) (by decide)) ?_
  refine ce_op (okAl1 (k := 0) (by decide +kernel) rfl) ?_
  refine ce_op (okGetI clX5 (k := 9) (x := 40) (by decide +kernel) (by decide) rfl wd232 (Or.inl rfl)) ?_
  refine ce_op (okAl1 (k := 0) (by decide +kernel) rfl) ?_
  refine ce_op (okGetR clX5 (k := 7) (x := 33) (by decide +kernel) (by decide) rfl wd230 rfl (by decide +kernel)) ?_
  refine ce_op (okLen (by decide +kernel)) ?_
  refine ce_op (okCmGe (off := 30) (by decide +kernel) (by decide)) ?_
  refine ce_op (okAl1 (k := 0) (by decide +kernel) rfl) ?_
  refine ce_op (okGetR clX5 (k := 6) (x := 30) (by decide +kernel) (by decide) rfl wd229 rfl (by decide +kernel)) ?_
  refine ce_op (okIl1 (k := 1) (by decide +kernel) rfl) ?_
  refine ce_op (okIl1 (k := 2) (by decide +kernel) rfl) ?_
  refine ce_op (okIast (by decide +kernel)) ?_
  refine ce_op (okAl1 (k := 0) (by decide +kernel) rfl) ?_
  refine ce_op (okGetR clX5 (k := 7) (x := 33) (by decide +kernel) (by decide) rfl wd230 rfl (by decide +kernel)) ?_
  refine ce_op (okAl1 (k := 0) (by decide +kernel) rfl) ?_
  refine ce_op (okGetI clX5 (k := 9) (x := 40) (by decide +kernel) (by decide) rfl wd232 (Or.inl rfl)) ?_
  refine ce_op (okIl1 (k := 1) (by decide +kernel) rfl) ?_
  refine ce_op (okIast (by decide +kernel)) ?_
  refine ce_op (okAl1 (k := 0) (by decide +kernel) rfl) ?_
  refine ce_op (okDup (by decide +kernel)) ?_
  refine ce_op (okGetI clX5 (k := 9) (x := 40) (by decide +kernel) (by decide) rfl wd232 (Or.inl rfl)) ?_
  refine ce_op (okIc1 (n := 1) (by decide +kernel) (by decide)) ?_
  refine ce_op (okIadd (by decide +kernel)) ?_
  refine ce_op (okPutI clX5 (k := 9) (x := 40) (by decide +kernel) (by decide) rfl wd232 rfl rfl (by decide +kernel)) ?_
  refine ce_op (okVret (by decide +kernel) rfl) ?_
  exact ce_nil
set_option maxRecDepth 100000 in
def cdX5_spreadIn : List CE := (0, 1, some (oAl 0)) :: (1, 3, some (oGetR [(197, 164120)])) :: (4, 1, some (oIl 1)) :: (5, 1, some oIald) :: (6, 1, some (oAl 0)) :: (7, 3, some (oGetR [(197, 164104)])) ::
  (10, 1, some (oIl 1)) :: (11, 1, some oIald) :: (12, 3, some (oCmGe 27)) :: (15, 1, some (oAl 0)) :: (16, 1, some (oIc 2)) :: (17, 1, some (oIl 1)) ::
  (18, 1, some oImul) :: (19, 1, some (oIc 1)) :: (20, 1, some oIadd) :: (21, 1, some (oIc 2)) :: (22, 1, some (oIl 1)) :: (23, 1, some oImul) ::
  (24, 3, some (oCV 5 mX5_visit 3)) :: (27, 1, some (oIc 0)) :: (28, 1, some (oIs 2)) :: (29, 0, none) :: (29, 1, some (oIl 2)) :: (30, 1, some (oAl 0)) ::
  (31, 3, some (oGetI 5 8)) :: (34, 3, some (oCmGe 71)) :: (37, 1, some (oAl 0)) :: (38, 3, some (oGetR [(197, 6553896)])) :: (41, 1, some (oIl 2)) :: (42, 1, some (oAl 0)) ::
  (43, 3, some (oGetI 5 8)) :: (46, 1, some oImul) :: (47, 1, some (oIl 1)) :: (48, 1, some oIadd) :: (49, 1, some oIald) :: (50, 3, some (oIfLe 65)) ::
  (53, 1, some (oAl 0)) :: (54, 1, some (oIc 2)) :: (55, 1, some (oIl 2)) :: (56, 1, some oImul) :: (57, 1, some (oIc 1)) :: (58, 1, some oIadd) ::
  (59, 1, some (oIc 2)) :: (60, 1, some (oIl 1)) :: (61, 1, some oImul) :: (62, 3, some (oCV 5 mX5_visit 3)) :: (65, 3, some (oInc 2 1)) :: (68, 3, some (oGoto 29)) ::
  (71, 1, some oVret) :: []
set_option maxRecDepth 100000 in
set_option maxHeartbeats 4000000 in
theorem okX5_spreadIn : CodeOk mX5_spreadIn cdX5_spreadIn := by
  refine ⟨by rfl, ?_⟩
  show CodeAll mX5_spreadIn cdX5_spreadIn
  refine ce_op (okAl1 (k := 0) (by decide +kernel) rfl) ?_
  refine ce_op (okGetR clX5 (k := 4) (x := 24) (by decide +kernel) (by decide) rfl wd227 rfl (by decide +kernel)) ?_
  refine ce_op (okIl1 (k := 1) (by decide +kernel) rfl) ?_
  refine ce_op (okIald (by decide +kernel)) ?_
  refine ce_op (okAl1 (k := 0) (by decide +kernel) rfl) ?_
  refine ce_op (okGetR clX5 (k := 3) (x := 21) (by decide +kernel) (by decide) rfl wd226 rfl (by decide +kernel)) ?_
  refine ce_op (okIl1 (k := 1) (by decide +kernel) rfl) ?_
  refine ce_op (okIald (by decide +kernel)) ?_
  refine ce_op (okCmGe (off := 15) (by decide +kernel) (by decide)) ?_
  refine ce_op (okAl1 (k := 0) (by decide +kernel) rfl) ?_
  refine ce_op (okIc1 (n := 2) (by decide +kernel) (by decide)) ?_
  refine ce_op (okIl1 (k := 1) (by decide +kernel) rfl) ?_
  refine ce_op (okImul (by decide +kernel)) ?_
  refine ce_op (okIc1 (n := 1) (by decide +kernel) (by decide)) ?_
  refine ce_op (okIadd (by decide +kernel)) ?_
  refine ce_op (okIc1 (n := 2) (by decide +kernel) (by decide)) ?_
  refine ce_op (okIl1 (k := 1) (by decide +kernel) rfl) ?_
  refine ce_op (okImul (by decide +kernel)) ?_
  refine ce_op (okCV miX5_visit (rV clX5 (x := 73) miX5_visit rfl (by decide +kernel) wd736 wd738 wd28)) ?_
  refine ce_op (okIc1 (n := 0) (by decide +kernel) (by decide)) ?_
  refine ce_op (okIs1 (k := 2) (by decide +kernel) rfl (by decide)) ?_
  refine ce_st ?_
  refine ce_op (okIl1 (k := 2) (by decide +kernel) rfl) ?_
  refine ce_op (okAl1 (k := 0) (by decide +kernel) rfl) ?_
  refine ce_op (okGetI clX5 (k := 8) (x := 36) (by decide +kernel) (by decide) rfl wd231 (Or.inl rfl)) ?_
  refine ce_op (okCmGe (off := 37) (by decide +kernel) (by decide)) ?_
  refine ce_op (okAl1 (k := 0) (by decide +kernel) rfl) ?_
  refine ce_op (okGetR clX5 (k := 5) (x := 27) (by decide +kernel) (by decide) rfl wd228 rfl (by decide +kernel)) ?_
  refine ce_op (okIl1 (k := 2) (by decide +kernel) rfl) ?_
  refine ce_op (okAl1 (k := 0) (by decide +kernel) rfl) ?_
  refine ce_op (okGetI clX5 (k := 8) (x := 36) (by decide +kernel) (by decide) rfl wd231 (Or.inl rfl)) ?_
  refine ce_op (okImul (by decide +kernel)) ?_
  refine ce_op (okIl1 (k := 1) (by decide +kernel) rfl) ?_
  refine ce_op (okIadd (by decide +kernel)) ?_
  refine ce_op (okIald (by decide +kernel)) ?_
  refine ce_op (okIfLe (off := 15) (by decide +kernel) (by decide)) ?_
  refine ce_op (okAl1 (k := 0) (by decide +kernel) rfl) ?_
  refine ce_op (okIc1 (n := 2) (by decide +kernel) (by decide)) ?_
  refine ce_op (okIl1 (k := 2) (by decide +kernel) rfl) ?_
  refine ce_op (okImul (by decide +kernel)) ?_
  refine ce_op (okIc1 (n := 1) (by decide +kernel) (by decide)) ?_
  refine ce_op (okIadd (by decide +kernel)) ?_
  refine ce_op (okIc1 (n := 2) (by decide +kernel) (by decide)) ?_
  refine ce_op (okIl1 (k := 1) (by decide +kernel) rfl) ?_
  refine ce_op (okImul (by decide +kernel)) ?_
  refine ce_op (okCV miX5_visit (rV clX5 (x := 73) miX5_visit rfl (by decide +kernel) wd736 wd738 wd28)) ?_
  refine ce_op (okInc (n := 1) (by decide +kernel) (by decide)) ?_
  refine ce_op (okGoto (off := (-39)) (by decide +kernel) (by decide)) ?_
  refine ce_op (okVret (by decide +kernel) rfl) ?_
  exact ce_nil
set_option maxRecDepth 100000 in
def cdX5_spreadOut : List CE := (0, 1, some (oAl 0)) :: (1, 3, some (oGetR [(197, 164120)])) :: (4, 1, some (oIl 1)) :: (5, 1, some oIald) :: (6, 3, some (oIfLe 21)) :: (9, 1, some (oAl 0)) ::
  (10, 1, some (oIc 2)) :: (11, 1, some (oIl 1)) :: (12, 1, some oImul) :: (13, 1, some (oIc 2)) :: (14, 1, some (oIl 1)) :: (15, 1, some oImul) ::
  (16, 1, some (oIc 1)) :: (17, 1, some oIadd) :: (18, 3, some (oCV 5 mX5_visit 3)) :: (21, 1, some (oIc 0)) :: (22, 1, some (oIs 2)) :: (23, 0, none) ::
  (23, 1, some (oIl 2)) :: (24, 1, some (oAl 0)) :: (25, 3, some (oGetI 5 8)) :: (28, 3, some (oCmGe 79)) :: (31, 1, some (oAl 0)) :: (32, 3, some (oGetR [(197, 164056)])) ::
  (35, 1, some (oIl 2)) :: (36, 1, some oIald) :: (37, 1, some (oAl 0)) :: (38, 3, some (oGetR [(197, 164072)])) :: (41, 1, some (oIl 1)) :: (42, 1, some oIald) ::
  (43, 3, some (oCmNe 73)) :: (46, 1, some (oAl 0)) :: (47, 3, some (oGetR [(197, 164088)])) :: (50, 1, some (oIl 2)) :: (51, 1, some oIald) :: (52, 1, some (oAl 0)) ::
  (53, 3, some (oGetR [(197, 164088)])) :: (56, 1, some (oIl 1)) :: (57, 1, some oIald) :: (58, 3, some (oCmLt 73)) :: (61, 1, some (oAl 0)) :: (62, 1, some (oIc 2)) ::
  (63, 1, some (oIl 2)) :: (64, 1, some oImul) :: (65, 1, some (oIc 2)) :: (66, 1, some (oIl 1)) :: (67, 1, some oImul) :: (68, 1, some (oIc 1)) ::
  (69, 1, some oIadd) :: (70, 3, some (oCV 5 mX5_visit 3)) :: (73, 3, some (oInc 2 1)) :: (76, 3, some (oGoto 23)) :: (79, 1, some oVret) :: []
set_option maxRecDepth 100000 in
set_option maxHeartbeats 4000000 in
theorem okX5_spreadOut : CodeOk mX5_spreadOut cdX5_spreadOut := by
  refine ⟨by rfl, ?_⟩
  show CodeAll mX5_spreadOut cdX5_spreadOut
  refine ce_op (okAl1 (k := 0) (by decide +kernel) rfl) ?_
  refine ce_op (okGetR clX5 (k := 4) (x := 24) (by decide +kernel) (by decide) rfl wd227 rfl (by decide +kernel)) ?_
  refine ce_op (okIl1 (k := 1) (by decide +kernel) rfl) ?_
  refine ce_op (okIald (by decide +kernel)) ?_
  refine ce_op (okIfLe (off := 15) (by decide +kernel) (by decide)) ?_
  refine ce_op (okAl1 (k := 0) (by decide +kernel) rfl) ?_
  refine ce_op (okIc1 (n := 2) (by decide +kernel) (by decide)) ?_
  refine ce_op (okIl1 (k := 1) (by decide +kernel) rfl) ?_
  refine ce_op (okImul (by decide +kernel)) ?_
  refine ce_op (okIc1 (n := 2) (by decide +kernel) (by decide)) ?_
  refine ce_op (okIl1 (k := 1) (by decide +kernel) rfl) ?_
  refine ce_op (okImul (by decide +kernel)) ?_
  refine ce_op (okIc1 (n := 1) (by decide +kernel) (by decide)) ?_
  refine ce_op (okIadd (by decide +kernel)) ?_
  refine ce_op (okCV miX5_visit (rV clX5 (x := 73) miX5_visit rfl (by decide +kernel) wd736 wd738 wd28)) ?_
  refine ce_op (okIc1 (n := 0) (by decide +kernel) (by decide)) ?_
  refine ce_op (okIs1 (k := 2) (by decide +kernel) rfl (by decide)) ?_
  refine ce_st ?_
  refine ce_op (okIl1 (k := 2) (by decide +kernel) rfl) ?_
  refine ce_op (okAl1 (k := 0) (by decide +kernel) rfl) ?_
  refine ce_op (okGetI clX5 (k := 8) (x := 36) (by decide +kernel) (by decide) rfl wd231 (Or.inl rfl)) ?_
  refine ce_op (okCmGe (off := 51) (by decide +kernel) (by decide)) ?_
  refine ce_op (okAl1 (k := 0) (by decide +kernel) rfl) ?_
  refine ce_op (okGetR clX5 (k := 0) (x := 9) (by decide +kernel) (by decide) rfl wd223 rfl (by decide +kernel)) ?_
  refine ce_op (okIl1 (k := 2) (by decide +kernel) rfl) ?_
  refine ce_op (okIald (by decide +kernel)) ?_
  refine ce_op (okAl1 (k := 0) (by decide +kernel) rfl) ?_
  refine ce_op (okGetR clX5 (k := 1) (x := 15) (by decide +kernel) (by decide) rfl wd224 rfl (by decide +kernel)) ?_
  refine ce_op (okIl1 (k := 1) (by decide +kernel) rfl) ?_
  refine ce_op (okIald (by decide +kernel)) ?_
  refine ce_op (okCmNe (off := 30) (by decide +kernel) (by decide)) ?_
  refine ce_op (okAl1 (k := 0) (by decide +kernel) rfl) ?_
  refine ce_op (okGetR clX5 (k := 2) (x := 18) (by decide +kernel) (by decide) rfl wd225 rfl (by decide +kernel)) ?_
  refine ce_op (okIl1 (k := 2) (by decide +kernel) rfl) ?_
  refine ce_op (okIald (by decide +kernel)) ?_
  refine ce_op (okAl1 (k := 0) (by decide +kernel) rfl) ?_
  refine ce_op (okGetR clX5 (k := 2) (x := 18) (by decide +kernel) (by decide) rfl wd225 rfl (by decide +kernel)) ?_
  refine ce_op (okIl1 (k := 1) (by decide +kernel) rfl) ?_
  refine ce_op (okIald (by decide +kernel)) ?_
  refine ce_op (okCmLt (off := 15) (by decide +kernel) (by decide)) ?_
  refine ce_op (okAl1 (k := 0) (by decide +kernel) rfl) ?_
  refine ce_op (okIc1 (n := 2) (by decide +kernel) (by decide)) ?_
  refine ce_op (okIl1 (k := 2) (by decide +kernel) rfl) ?_
  refine ce_op (okImul (by decide +kernel)) ?_
  refine ce_op (okIc1 (n := 2) (by decide +kernel) (by decide)) ?_
  refine ce_op (okIl1 (k := 1) (by decide +kernel) rfl) ?_
  refine ce_op (okImul (by decide +kernel)) ?_
  refine ce_op (okIc1 (n := 1) (by decide +kernel) (by decide)) ?_
  refine ce_op (okIadd (by decide +kernel)) ?_
  refine ce_op (okCV miX5_visit (rV clX5 (x := 73) miX5_visit rfl (by decide +kernel) wd736 wd738 wd28)) ?_
  refine ce_op (okInc (n := 1) (by decide +kernel) (by decide)) ?_
  refine ce_op (okGoto (off := (-53)) (by decide +kernel) (by decide)) ?_
  refine ce_op (okVret (by decide +kernel) rfl) ?_
  exact ce_nil
set_option maxRecDepth 100000 in
def cdX5_narrowest : List CE := (0, 3, some (oIc 999)) :: (3, 1, some (oIs 2)) :: (4, 1, some (oIl 1)) :: (5, 1, some (oIs 3)) :: (6, 1, some (oIc 0)) :: (7, 2, some (oIs 4)) ::
  (9, 0, none) :: (9, 2, some (oIl 4)) :: (11, 1, some (oAl 0)) :: (12, 3, some (oGetR [(197, 328008)])) :: (15, 1, some oLen) :: (16, 3, some (oCmGe 57)) ::
  (19, 1, some (oAl 0)) :: (20, 3, some (oGetR [(197, 327992)])) :: (23, 1, some (oIl 3)) :: (24, 1, some oIald) :: (25, 3, some (oIfLt 57)) :: (28, 1, some (oIl 2)) ::
  (29, 1, some (oAl 0)) :: (30, 1, some (oAl 0)) :: (31, 3, some (oGetR [(197, 327992)])) :: (34, 1, some (oIl 3)) :: (35, 1, some oIald) :: (36, 1, some (oIl 3)) ::
  (37, 3, some (oCI 5 mX5_space 3)) :: (40, 3, some oMin) :: (43, 1, some (oIs 2)) :: (44, 1, some (oAl 0)) :: (45, 3, some (oGetR [(197, 327992)])) :: (48, 1, some (oIl 3)) ::
  (49, 1, some oIald) :: (50, 1, some (oIs 3)) :: (51, 3, some (oInc 4 1)) :: (54, 3, some (oGoto 9)) :: (57, 1, some (oIl 2)) :: (58, 1, some oIret) :: []
set_option maxRecDepth 100000 in
set_option maxHeartbeats 4000000 in
theorem okX5_narrowest : CodeOk mX5_narrowest cdX5_narrowest := by
  refine ⟨by rfl, ?_⟩
  show CodeAll mX5_narrowest cdX5_narrowest
  refine ce_op (okIc3 (n := 999) (by decide +kernel) (by decide)) ?_
  refine ce_op (okIs1 (k := 2) (by decide +kernel) rfl (by decide)) ?_
  refine ce_op (okIl1 (k := 1) (by decide +kernel) rfl) ?_
  refine ce_op (okIs1 (k := 3) (by decide +kernel) rfl (by decide)) ?_
  refine ce_op (okIc1 (n := 0) (by decide +kernel) (by decide)) ?_
  refine ce_op (okIs2 (by decide +kernel) (by decide)) ?_
  refine ce_st ?_
  refine ce_op (okIl2 (by decide +kernel)) ?_
  refine ce_op (okAl1 (k := 0) (by decide +kernel) rfl) ?_
  refine ce_op (okGetR clX5 (k := 7) (x := 33) (by decide +kernel) (by decide) rfl wd230 rfl (by decide +kernel)) ?_
  refine ce_op (okLen (by decide +kernel)) ?_
  refine ce_op (okCmGe (off := 41) (by decide +kernel) (by decide)) ?_
  refine ce_op (okAl1 (k := 0) (by decide +kernel) rfl) ?_
  refine ce_op (okGetR clX5 (k := 6) (x := 30) (by decide +kernel) (by decide) rfl wd229 rfl (by decide +kernel)) ?_
  refine ce_op (okIl1 (k := 3) (by decide +kernel) rfl) ?_
  refine ce_op (okIald (by decide +kernel)) ?_
  refine ce_op (okIfLt (off := 32) (by decide +kernel) (by decide)) ?_
  refine ce_op (okIl1 (k := 2) (by decide +kernel) rfl) ?_
  refine ce_op (okAl1 (k := 0) (by decide +kernel) rfl) ?_
  refine ce_op (okAl1 (k := 0) (by decide +kernel) rfl) ?_
  refine ce_op (okGetR clX5 (k := 6) (x := 30) (by decide +kernel) (by decide) rfl wd229 rfl (by decide +kernel)) ?_
  refine ce_op (okIl1 (k := 3) (by decide +kernel) rfl) ?_
  refine ce_op (okIald (by decide +kernel)) ?_
  refine ce_op (okIl1 (k := 3) (by decide +kernel) rfl) ?_
  refine ce_op (okCI miX5_space (rV clX5 (x := 83) miX5_space rfl (by decide +kernel) wd752 wd754 wd32)) ?_
  refine ce_op (okMin (x := 87) (by decide +kernel) wd756 wd461 wd98 wd462) ?_
  refine ce_op (okIs1 (k := 2) (by decide +kernel) rfl (by decide)) ?_
  refine ce_op (okAl1 (k := 0) (by decide +kernel) rfl) ?_
  refine ce_op (okGetR clX5 (k := 6) (x := 30) (by decide +kernel) (by decide) rfl wd229 rfl (by decide +kernel)) ?_
  refine ce_op (okIl1 (k := 3) (by decide +kernel) rfl) ?_
  refine ce_op (okIald (by decide +kernel)) ?_
  refine ce_op (okIs1 (k := 3) (by decide +kernel) rfl (by decide)) ?_
  refine ce_op (okInc (n := 1) (by decide +kernel) (by decide)) ?_
  refine ce_op (okGoto (off := (-45)) (by decide +kernel) (by decide)) ?_
  refine ce_op (okIl1 (k := 2) (by decide +kernel) rfl) ?_
  refine ce_op (okIret (by decide +kernel) rfl) ?_
  exact ce_nil
set_option maxRecDepth 100000 in
def cdX5_space : List CE := (0, 1, some (oIl 1)) :: (1, 1, some (oIc 2)) :: (2, 1, some oIdiv) :: (3, 1, some (oIs 3)) :: (4, 1, some (oIl 2)) :: (5, 1, some (oIc 2)) ::
  (6, 1, some oIdiv) :: (7, 2, some (oIs 4)) :: (9, 1, some (oIl 3)) :: (10, 2, some (oIl 4)) :: (12, 3, some (oCmNe 43)) :: (15, 1, some (oIl 1)) ::
  (16, 1, some (oIl 2)) :: (17, 3, some (oCmGe 36)) :: (20, 1, some (oAl 0)) :: (21, 3, some (oGetR [(197, 164104)])) :: (24, 1, some (oIl 3)) :: (25, 1, some oIald) ::
  (26, 1, some (oAl 0)) :: (27, 3, some (oGetR [(197, 164120)])) :: (30, 1, some (oIl 3)) :: (31, 1, some oIald) :: (32, 1, some oIsub) :: (33, 3, some (oGoto 42)) ::
  (36, 1, some (oAl 0)) :: (37, 3, some (oGetR [(197, 164120)])) :: (40, 1, some (oIl 3)) :: (41, 1, some oIald) :: (42, 1, some oIret) :: (43, 1, some (oIl 1)) ::
  (44, 1, some (oIc 2)) :: (45, 1, some oIrem) :: (46, 3, some (oIfNe 66)) :: (49, 1, some (oAl 0)) :: (50, 3, some (oGetR [(197, 6553896)])) :: (53, 2, some (oIl 4)) ::
  (55, 1, some (oAl 0)) :: (56, 3, some (oGetI 5 8)) :: (59, 1, some oImul) :: (60, 1, some (oIl 3)) :: (61, 1, some oIadd) :: (62, 1, some oIald) ::
  (63, 3, some (oGoto 69)) :: (66, 3, some (oIc 999)) :: (69, 1, some oIret) :: []
set_option maxRecDepth 100000 in
set_option maxHeartbeats 4000000 in
theorem okX5_space : CodeOk mX5_space cdX5_space := by
  refine ⟨by rfl, ?_⟩
  show CodeAll mX5_space cdX5_space
  refine ce_op (okIl1 (k := 1) (by decide +kernel) rfl) ?_
  refine ce_op (okIc1 (n := 2) (by decide +kernel) (by decide)) ?_
  refine ce_op (okIdiv (by decide +kernel)) ?_
  refine ce_op (okIs1 (k := 3) (by decide +kernel) rfl (by decide)) ?_
  refine ce_op (okIl1 (k := 2) (by decide +kernel) rfl) ?_
  refine ce_op (okIc1 (n := 2) (by decide +kernel) (by decide)) ?_
  refine ce_op (okIdiv (by decide +kernel)) ?_
  refine ce_op (okIs2 (by decide +kernel) (by decide)) ?_
  refine ce_op (okIl1 (k := 3) (by decide +kernel) rfl) ?_
  refine ce_op (okIl2 (by decide +kernel)) ?_
  refine ce_op (okCmNe (off := 31) (by decide +kernel) (by decide)) ?_
  refine ce_op (okIl1 (k := 1) (by decide +kernel) rfl) ?_
  refine ce_op (okIl1 (k := 2) (by decide +kernel) rfl) ?_
  refine ce_op (okCmGe (off := 19) (by decide +kernel) (by decide)) ?_
  refine ce_op (okAl1 (k := 0) (by decide +kernel) rfl) ?_
  refine ce_op (okGetR clX5 (k := 3) (x := 21) (by decide +kernel) (by decide) rfl wd226 rfl (by decide +kernel)) ?_
  refine ce_op (okIl1 (k := 3) (by decide +kernel) rfl) ?_
  refine ce_op (okIald (by decide +kernel)) ?_
  refine ce_op (okAl1 (k := 0) (by decide +kernel) rfl) ?_
  refine ce_op (okGetR clX5 (k := 4) (x := 24) (by decide +kernel) (by decide) rfl wd227 rfl (by decide +kernel)) ?_
  refine ce_op (okIl1 (k := 3) (by decide +kernel) rfl) ?_
  refine ce_op (okIald (by decide +kernel)) ?_
  refine ce_op (okIsub (by decide +kernel)) ?_
  refine ce_op (okGoto (off := 9) (by decide +kernel) (by decide)) ?_
  refine ce_op (okAl1 (k := 0) (by decide +kernel) rfl) ?_
  refine ce_op (okGetR clX5 (k := 4) (x := 24) (by decide +kernel) (by decide) rfl wd227 rfl (by decide +kernel)) ?_
  refine ce_op (okIl1 (k := 3) (by decide +kernel) rfl) ?_
  refine ce_op (okIald (by decide +kernel)) ?_
  refine ce_op (okIret (by decide +kernel) rfl) ?_
  refine ce_op (okIl1 (k := 1) (by decide +kernel) rfl) ?_
  refine ce_op (okIc1 (n := 2) (by decide +kernel) (by decide)) ?_
  refine ce_op (okIrem (by decide +kernel)) ?_
  refine ce_op (okIfNe (off := 20) (by decide +kernel) (by decide)) ?_
  refine ce_op (okAl1 (k := 0) (by decide +kernel) rfl) ?_
  refine ce_op (okGetR clX5 (k := 5) (x := 27) (by decide +kernel) (by decide) rfl wd228 rfl (by decide +kernel)) ?_
  refine ce_op (okIl2 (by decide +kernel)) ?_
  refine ce_op (okAl1 (k := 0) (by decide +kernel) rfl) ?_
  refine ce_op (okGetI clX5 (k := 8) (x := 36) (by decide +kernel) (by decide) rfl wd231 (Or.inl rfl)) ?_
  refine ce_op (okImul (by decide +kernel)) ?_
  refine ce_op (okIl1 (k := 3) (by decide +kernel) rfl) ?_
  refine ce_op (okIadd (by decide +kernel)) ?_
  refine ce_op (okIald (by decide +kernel)) ?_
  refine ce_op (okGoto (off := 6) (by decide +kernel) (by decide)) ?_
  refine ce_op (okIc3 (n := 999) (by decide +kernel) (by decide)) ?_
  refine ce_op (okIret (by decide +kernel) rfl) ?_
  exact ce_nil
set_option maxRecDepth 100000 in
def cdX5_send : List CE := (0, 1, some (oIl 1)) :: (1, 1, some (oIs 3)) :: (2, 1, some (oIc 0)) :: (3, 2, some (oIs 4)) :: (5, 0, none) :: (5, 2, some (oIl 4)) ::
  (7, 1, some (oAl 0)) :: (8, 3, some (oGetR [(197, 328008)])) :: (11, 1, some oLen) :: (12, 3, some (oCmGe 49)) :: (15, 1, some (oAl 0)) :: (16, 3, some (oGetR [(197, 327992)])) ::
  (19, 1, some (oIl 3)) :: (20, 1, some oIald) :: (21, 3, some (oIfLt 49)) :: (24, 1, some (oAl 0)) :: (25, 1, some (oAl 0)) :: (26, 3, some (oGetR [(197, 327992)])) ::
  (29, 1, some (oIl 3)) :: (30, 1, some oIald) :: (31, 1, some (oIl 3)) :: (32, 1, some (oIl 2)) :: (33, 3, some (oCV 5 mX5_addBetween 4)) :: (36, 1, some (oAl 0)) ::
  (37, 3, some (oGetR [(197, 327992)])) :: (40, 1, some (oIl 3)) :: (41, 1, some oIald) :: (42, 1, some (oIs 3)) :: (43, 3, some (oInc 4 1)) :: (46, 3, some (oGoto 5)) ::
  (49, 1, some oVret) :: []
set_option maxRecDepth 100000 in
set_option maxHeartbeats 4000000 in
theorem okX5_send : CodeOk mX5_send cdX5_send := by
  refine ⟨by rfl, ?_⟩
  show CodeAll mX5_send cdX5_send
  refine ce_op (okIl1 (k := 1) (by decide +kernel) rfl) ?_
  refine ce_op (okIs1 (k := 3) (by decide +kernel) rfl (by decide)) ?_
  refine ce_op (okIc1 (n := 0) (by decide +kernel) (by decide)) ?_
  refine ce_op (okIs2 (by decide +kernel) (by decide)) ?_
  refine ce_st ?_
  refine ce_op (okIl2 (by decide +kernel)) ?_
  refine ce_op (okAl1 (k := 0) (by decide +kernel) rfl) ?_
  refine ce_op (okGetR clX5 (k := 7) (x := 33) (by decide +kernel) (by decide) rfl wd230 rfl (by decide +kernel)) ?_
  refine ce_op (okLen (by decide +kernel)) ?_
  refine ce_op (okCmGe (off := 37) (by decide +kernel) (by decide)) ?_
  refine ce_op (okAl1 (k := 0) (by decide +kernel) rfl) ?_
  refine ce_op (okGetR clX5 (k := 6) (x := 30) (by decide +kernel) (by decide) rfl wd229 rfl (by decide +kernel)) ?_
  refine ce_op (okIl1 (k := 3) (by decide +kernel) rfl) ?_
  refine ce_op (okIald (by decide +kernel)) ?_
  refine ce_op (okIfLt (off := 28) (by decide +kernel) (by decide)) ?_
  refine ce_op (okAl1 (k := 0) (by decide +kernel) rfl) ?_
  refine ce_op (okAl1 (k := 0) (by decide +kernel) rfl) ?_
  refine ce_op (okGetR clX5 (k := 6) (x := 30) (by decide +kernel) (by decide) rfl wd229 rfl (by decide +kernel)) ?_
  refine ce_op (okIl1 (k := 3) (by decide +kernel) rfl) ?_
  refine ce_op (okIald (by decide +kernel)) ?_
  refine ce_op (okIl1 (k := 3) (by decide +kernel) rfl) ?_
  refine ce_op (okIl1 (k := 2) (by decide +kernel) rfl) ?_
  refine ce_op (okCV miX5_addBetween (rV clX5 (x := 92) miX5_addBetween rfl (by decide +kernel) wd761 wd763 wd34)) ?_
  refine ce_op (okAl1 (k := 0) (by decide +kernel) rfl) ?_
  refine ce_op (okGetR clX5 (k := 6) (x := 30) (by decide +kernel) (by decide) rfl wd229 rfl (by decide +kernel)) ?_
  refine ce_op (okIl1 (k := 3) (by decide +kernel) rfl) ?_
  refine ce_op (okIald (by decide +kernel)) ?_
  refine ce_op (okIs1 (k := 3) (by decide +kernel) rfl (by decide)) ?_
  refine ce_op (okInc (n := 1) (by decide +kernel) (by decide)) ?_
  refine ce_op (okGoto (off := (-41)) (by decide +kernel) (by decide)) ?_
  refine ce_op (okVret (by decide +kernel) rfl) ?_
  exact ce_nil
set_option maxRecDepth 100000 in
def cdX5_addBetween : List CE := (0, 1, some (oIl 1)) :: (1, 1, some (oIc 2)) :: (2, 1, some oIdiv) :: (3, 2, some (oIs 4)) :: (5, 1, some (oIl 2)) :: (6, 1, some (oIc 2)) ::
  (7, 1, some oIdiv) :: (8, 2, some (oIs 5)) :: (10, 2, some (oIl 4)) :: (12, 2, some (oIl 5)) :: (14, 3, some (oCmNe 41)) :: (17, 1, some (oAl 0)) ::
  (18, 3, some (oGetR [(197, 164120)])) :: (21, 2, some (oIl 4)) :: (23, 1, some oDup2) :: (24, 1, some oIald) :: (25, 1, some (oIl 1)) :: (26, 1, some (oIl 2)) ::
  (27, 3, some (oCmGe 34)) :: (30, 1, some (oIl 3)) :: (31, 3, some (oGoto 36)) :: (34, 1, some (oIl 3)) :: (35, 1, some oIneg) :: (36, 1, some oIadd) ::
  (37, 1, some oIast) :: (38, 3, some (oGoto 88)) :: (41, 1, some (oIl 1)) :: (42, 1, some (oIc 2)) :: (43, 1, some oIrem) :: (44, 3, some (oIfNe 69)) ::
  (47, 1, some (oAl 0)) :: (48, 3, some (oGetR [(197, 6553896)])) :: (51, 2, some (oIl 5)) :: (53, 1, some (oAl 0)) :: (54, 3, some (oGetI 5 8)) :: (57, 1, some oImul) ::
  (58, 2, some (oIl 4)) :: (60, 1, some oIadd) :: (61, 1, some oDup2) :: (62, 1, some oIald) :: (63, 1, some (oIl 3)) :: (64, 1, some oIsub) ::
  (65, 1, some oIast) :: (66, 3, some (oGoto 88)) :: (69, 1, some (oAl 0)) :: (70, 3, some (oGetR [(197, 6553896)])) :: (73, 2, some (oIl 4)) :: (75, 1, some (oAl 0)) ::
  (76, 3, some (oGetI 5 8)) :: (79, 1, some oImul) :: (80, 2, some (oIl 5)) :: (82, 1, some oIadd) :: (83, 1, some oDup2) :: (84, 1, some oIald) ::
  (85, 1, some (oIl 3)) :: (86, 1, some oIadd) :: (87, 1, some oIast) :: (88, 1, some oVret) :: []
set_option maxRecDepth 100000 in
set_option maxHeartbeats 4000000 in
theorem okX5_addBetween : CodeOk mX5_addBetween cdX5_addBetween := by
  refine ⟨by rfl, ?_⟩
  show CodeAll mX5_addBetween cdX5_addBetween
  refine ce_op (okIl1 (k := 1) (by decide +kernel) rfl) ?_
  refine ce_op (okIc1 (n := 2) (by decide +kernel) (by decide)) ?_
  refine ce_op (okIdiv (by decide +kernel)) ?_
  refine ce_op (okIs2 (by decide +kernel) (by decide)) ?_
  refine ce_op (okIl1 (k := 2) (by decide +kernel) rfl) ?_
  refine ce_op (okIc1 (n := 2) (by decide +kernel) (by decide)) ?_
  refine ce_op (okIdiv (by decide +kernel)) ?_
  refine ce_op (okIs2 (by decide +kernel) (by decide)) ?_
  refine ce_op (okIl2 (by decide +kernel)) ?_
  refine ce_op (okIl2 (by decide +kernel)) ?_
  refine ce_op (okCmNe (off := 27) (by decide +kernel) (by decide)) ?_
  refine ce_op (okAl1 (k := 0) (by decide +kernel) rfl) ?_
  refine ce_op (okGetR clX5 (k := 4) (x := 24) (by decide +kernel) (by decide) rfl wd227 rfl (by decide +kernel)) ?_
  refine ce_op (okIl2 (by decide +kernel)) ?_
  refine ce_op (okDup2 (by decide +kernel)) ?_
  refine ce_op (okIald (by decide +kernel)) ?_
  refine ce_op (okIl1 (k := 1) (by decide +kernel) rfl) ?_
  refine ce_op (okIl1 (k := 2) (by decide +kernel) rfl) ?_
  refine ce_op (okCmGe (off := 7) (by decide +kernel) (by decide)) ?_
  refine ce_op (okIl1 (k := 3) (by decide +kernel) rfl) ?_
  refine ce_op (okGoto (off := 5) (by decide +kernel) (by decide)) ?_
  refine ce_op (okIl1 (k := 3) (by decide +kernel) rfl) ?_
  refine ce_op (okIneg (by decide +kernel)) ?_
  refine ce_op (okIadd (by decide +kernel)) ?_
  refine ce_op (okIast (by decide +kernel)) ?_
  refine ce_op (okGoto (off := 50) (by decide +kernel) (by decide)) ?_
  refine ce_op (okIl1 (k := 1) (by decide +kernel) rfl) ?_
  refine ce_op (okIc1 (n := 2) (by decide +kernel) (by decide)) ?_
  refine ce_op (okIrem (by decide +kernel)) ?_
  refine ce_op (okIfNe (off := 25) (by decide +kernel) (by decide)) ?_
  refine ce_op (okAl1 (k := 0) (by decide +kernel) rfl) ?_
  refine ce_op (okGetR clX5 (k := 5) (x := 27) (by decide +kernel) (by decide) rfl wd228 rfl (by decide +kernel)) ?_
  refine ce_op (okIl2 (by decide +kernel)) ?_
  refine ce_op (okAl1 (k := 0) (by decide +kernel) rfl) ?_
  refine ce_op (okGetI clX5 (k := 8) (x := 36) (by decide +kernel) (by decide) rfl wd231 (Or.inl rfl)) ?_
  refine ce_op (okImul (by decide +kernel)) ?_
  refine ce_op (okIl2 (by decide +kernel)) ?_
  refine ce_op (okIadd (by decide +kernel)) ?_
  refine ce_op (okDup2 (by decide +kernel)) ?_
  refine ce_op (okIald (by decide +kernel)) ?_
  refine ce_op (okIl1 (k := 3) (by decide +kernel) rfl) ?_
  refine ce_op (okIsub (by decide +kernel)) ?_
  refine ce_op (okIast (by decide +kernel)) ?_
  refine ce_op (okGoto (off := 22) (by decide +kernel) (by decide)) ?_
  refine ce_op (okAl1 (k := 0) (by decide +kernel) rfl) ?_
  refine ce_op (okGetR clX5 (k := 5) (x := 27) (by decide +kernel) (by decide) rfl wd228 rfl (by decide +kernel)) ?_
  refine ce_op (okIl2 (by decide +kernel)) ?_
  refine ce_op (okAl1 (k := 0) (by decide +kernel) rfl) ?_
  refine ce_op (okGetI clX5 (k := 8) (x := 36) (by decide +kernel) (by decide) rfl wd231 (Or.inl rfl)) ?_
  refine ce_op (okImul (by decide +kernel)) ?_
  refine ce_op (okIl2 (by decide +kernel)) ?_
  refine ce_op (okIadd (by decide +kernel)) ?_
  refine ce_op (okDup2 (by decide +kernel)) ?_
  refine ce_op (okIald (by decide +kernel)) ?_
  refine ce_op (okIl1 (k := 3) (by decide +kernel) rfl) ?_
  refine ce_op (okIadd (by decide +kernel)) ?_
  refine ce_op (okIast (by decide +kernel)) ?_
  refine ce_op (okVret (by decide +kernel) rfl) ?_
  exact ce_nil
set_option maxRecDepth 100000 in
def cdJ6_bitCount_0f7a4 : List CE := (0, 1, some (oIl 0)) :: (1, 1, some (oIl 0)) :: (2, 1, some (oIc 1)) :: (3, 1, some oIushr) :: (4, 3, some (oIc 1431655765)) :: (7, 1, some oIand) ::
  (8, 1, some oIsub) :: (9, 1, some (oIs 0)) :: (10, 1, some (oIl 0)) :: (11, 3, some (oIc 858993459)) :: (14, 1, some oIand) :: (15, 1, some (oIl 0)) ::
  (16, 1, some (oIc 2)) :: (17, 1, some oIushr) :: (18, 3, some (oIc 858993459)) :: (21, 1, some oIand) :: (22, 1, some oIadd) :: (23, 1, some (oIs 0)) ::
  (24, 1, some (oIl 0)) :: (25, 1, some (oIl 0)) :: (26, 1, some (oIc 4)) :: (27, 1, some oIushr) :: (28, 1, some oIadd) :: (29, 3, some (oIc 252645135)) ::
  (32, 1, some oIand) :: (33, 1, some (oIs 0)) :: (34, 1, some (oIl 0)) :: (35, 1, some (oIl 0)) :: (36, 2, some (oIc 8)) :: (38, 1, some oIushr) ::
  (39, 1, some oIadd) :: (40, 1, some (oIs 0)) :: (41, 1, some (oIl 0)) :: (42, 1, some (oIl 0)) :: (43, 2, some (oIc 16)) :: (45, 1, some oIushr) ::
  (46, 1, some oIadd) :: (47, 1, some (oIs 0)) :: (48, 1, some (oIl 0)) :: (49, 2, some (oIc 63)) :: (51, 1, some oIand) :: (52, 1, some oIret) :: []
set_option maxRecDepth 100000 in
set_option maxHeartbeats 4000000 in
theorem okJ6_bitCount_0f7a4 : CodeOk mJ6_bitCount_0f7a4 cdJ6_bitCount_0f7a4 := by
  refine ⟨by rfl, ?_⟩
  show CodeAll mJ6_bitCount_0f7a4 cdJ6_bitCount_0f7a4
  refine ce_op (okIl1 (k := 0) (by decide +kernel) rfl) ?_
  refine ce_op (okIl1 (k := 0) (by decide +kernel) rfl) ?_
  refine ce_op (okIc1 (n := 1) (by decide +kernel) (by decide)) ?_
  refine ce_op (okIushr (by decide +kernel)) ?_
  refine ce_op (okIcW (k := 265) (by decide +kernel) wd845) ?_
  refine ce_op (okIand (by decide +kernel)) ?_
  refine ce_op (okIsub (by decide +kernel)) ?_
  refine ce_op (okIs1 (k := 0) (by decide +kernel) rfl (by decide)) ?_
  refine ce_op (okIl1 (k := 0) (by decide +kernel) rfl) ?_
  refine ce_op (okIcW (k := 266) (by decide +kernel) wd846) ?_
  refine ce_op (okIand (by decide +kernel)) ?_
  refine ce_op (okIl1 (k := 0) (by decide +kernel) rfl) ?_
  refine ce_op (okIc1 (n := 2) (by decide +kernel) (by decide)) ?_
  refine ce_op (okIushr (by decide +kernel)) ?_
  refine ce_op (okIcW (k := 266) (by decide +kernel) wd846) ?_
  refine ce_op (okIand (by decide +kernel)) ?_
  refine ce_op (okIadd (by decide +kernel)) ?_
  refine ce_op (okIs1 (k := 0) (by decide +kernel) rfl (by decide)) ?_
  refine ce_op (okIl1 (k := 0) (by decide +kernel) rfl) ?_
  refine ce_op (okIl1 (k := 0) (by decide +kernel) rfl) ?_
  refine ce_op (okIc1 (n := 4) (by decide +kernel) (by decide)) ?_
  refine ce_op (okIushr (by decide +kernel)) ?_
  refine ce_op (okIadd (by decide +kernel)) ?_
  refine ce_op (okIcW (k := 267) (by decide +kernel) wd847) ?_
  refine ce_op (okIand (by decide +kernel)) ?_
  refine ce_op (okIs1 (k := 0) (by decide +kernel) rfl (by decide)) ?_
  refine ce_op (okIl1 (k := 0) (by decide +kernel) rfl) ?_
  refine ce_op (okIl1 (k := 0) (by decide +kernel) rfl) ?_
  refine ce_op (okIc2 (n := 8) (by decide +kernel) (by decide)) ?_
  refine ce_op (okIushr (by decide +kernel)) ?_
  refine ce_op (okIadd (by decide +kernel)) ?_
  refine ce_op (okIs1 (k := 0) (by decide +kernel) rfl (by decide)) ?_
  refine ce_op (okIl1 (k := 0) (by decide +kernel) rfl) ?_
  refine ce_op (okIl1 (k := 0) (by decide +kernel) rfl) ?_
  refine ce_op (okIc2 (n := 16) (by decide +kernel) (by decide)) ?_
  refine ce_op (okIushr (by decide +kernel)) ?_
  refine ce_op (okIadd (by decide +kernel)) ?_
  refine ce_op (okIs1 (k := 0) (by decide +kernel) rfl (by decide)) ?_
  refine ce_op (okIl1 (k := 0) (by decide +kernel) rfl) ?_
  refine ce_op (okIc2 (n := 63) (by decide +kernel) (by decide)) ?_
  refine ce_op (okIand (by decide +kernel)) ?_
  refine ce_op (okIret (by decide +kernel) rfl) ?_
  exact ce_nil
set_option maxRecDepth 100000 in
def cdX6_feed : List CE := (0, 1, some (oAl 0)) :: (1, 3, some (oGetR [(6, 19)])) :: (4, 2, some (oIc 20)) :: (6, 3, some (oCI 3 mX3_hasSpace 2)) :: (9, 3, some (oIfNe 14)) :: (12, 1, some (oIc (-1))) ::
  (13, 1, some oIret) :: (14, 1, some (oAl 0)) :: (15, 3, some (oGetR [(6, 19)])) :: (18, 1, some (oIl 1)) :: (19, 3, some (oCV 3 mX3_push 2)) :: (22, 1, some (oAl 0)) ::
  (23, 3, some (oGetR [(6, 19)])) :: (26, 1, some (oIl 2)) :: (27, 3, some (oCV 3 mX3_push 2)) :: (30, 1, some (oAl 0)) :: (31, 3, some (oGetR [(6, 19)])) :: (34, 1, some (oIl 3)) ::
  (35, 3, some (oCV 3 mX3_push 2)) :: (38, 1, some (oAl 0)) :: (39, 3, some (oGetR [(6, 19)])) :: (42, 2, some (oIl 4)) :: (44, 3, some (oCV 3 mX3_push 2)) :: (47, 1, some (oAl 0)) ::
  (48, 3, some (oGetR [(6, 19)])) :: (51, 2, some (oIl 5)) :: (53, 3, some (oCV 3 mX3_push 2)) :: (56, 1, some (oAl 0)) :: (57, 3, some (oGetR [(6, 19)])) :: (60, 3, some (oGetI 3 1)) ::
  (63, 1, some oIret) :: []
set_option maxRecDepth 100000 in
set_option maxHeartbeats 4000000 in
theorem okX6_feed : CodeOk mX6_feed cdX6_feed := by
  refine ⟨by rfl, ?_⟩
  show CodeAll mX6_feed cdX6_feed
  refine ce_op (okAl1 (k := 0) (by decide +kernel) rfl) ?_
  refine ce_op (okGetR clX6 (k := 0) (x := 12) (by decide +kernel) (by decide) rfl wd401 rfl (by decide +kernel)) ?_
  refine ce_op (okIc2 (n := 20) (by decide +kernel) (by decide)) ?_
  refine ce_op (okCI miX3_hasSpace (rV clX3 (x := 63) miX3_hasSpace rfl (by decide +kernel) wd439 wd440 wd441)) ?_
  refine ce_op (okIfNe (off := 5) (by decide +kernel) (by decide)) ?_
  refine ce_op (okIc1 (n := (-1)) (by decide +kernel) (by decide)) ?_
  refine ce_op (okIret (by decide +kernel) rfl) ?_
  refine ce_op (okAl1 (k := 0) (by decide +kernel) rfl) ?_
  refine ce_op (okGetR clX6 (k := 0) (x := 12) (by decide +kernel) (by decide) rfl wd401 rfl (by decide +kernel)) ?_
  refine ce_op (okIl1 (k := 1) (by decide +kernel) rfl) ?_
  refine ce_op (okCV miX3_push (rV clX3 (x := 67) miX3_push rfl (by decide +kernel) wd443 wd444 wd445)) ?_
  refine ce_op (okAl1 (k := 0) (by decide +kernel) rfl) ?_
  refine ce_op (okGetR clX6 (k := 0) (x := 12) (by decide +kernel) (by decide) rfl wd401 rfl (by decide +kernel)) ?_
  refine ce_op (okIl1 (k := 2) (by decide +kernel) rfl) ?_
  refine ce_op (okCV miX3_push (rV clX3 (x := 67) miX3_push rfl (by decide +kernel) wd443 wd444 wd445)) ?_
  refine ce_op (okAl1 (k := 0) (by decide +kernel) rfl) ?_
  refine ce_op (okGetR clX6 (k := 0) (x := 12) (by decide +kernel) (by decide) rfl wd401 rfl (by decide +kernel)) ?_
  refine ce_op (okIl1 (k := 3) (by decide +kernel) rfl) ?_
  refine ce_op (okCV miX3_push (rV clX3 (x := 67) miX3_push rfl (by decide +kernel) wd443 wd444 wd445)) ?_
  refine ce_op (okAl1 (k := 0) (by decide +kernel) rfl) ?_
  refine ce_op (okGetR clX6 (k := 0) (x := 12) (by decide +kernel) (by decide) rfl wd401 rfl (by decide +kernel)) ?_
  refine ce_op (okIl2 (by decide +kernel)) ?_
  refine ce_op (okCV miX3_push (rV clX3 (x := 67) miX3_push rfl (by decide +kernel) wd443 wd444 wd445)) ?_
  refine ce_op (okAl1 (k := 0) (by decide +kernel) rfl) ?_
  refine ce_op (okGetR clX6 (k := 0) (x := 12) (by decide +kernel) (by decide) rfl wd401 rfl (by decide +kernel)) ?_
  refine ce_op (okIl2 (by decide +kernel)) ?_
  refine ce_op (okCV miX3_push (rV clX3 (x := 67) miX3_push rfl (by decide +kernel) wd443 wd444 wd445)) ?_
  refine ce_op (okAl1 (k := 0) (by decide +kernel) rfl) ?_
  refine ce_op (okGetR clX6 (k := 0) (x := 12) (by decide +kernel) (by decide) rfl wd401 rfl (by decide +kernel)) ?_
  refine ce_op (okGetI clX3 (k := 1) (x := 71) (by decide +kernel) (by decide) rfl wd125 (Or.inl rfl)) ?_
  refine ce_op (okIret (by decide +kernel) rfl) ?_
  exact ce_nil
set_option maxRecDepth 100000 in
def cdX6_book : List CE := (0, 1, some (oIl 1)) :: (1, 3, some (oIfLt 15)) :: (4, 1, some (oIl 1)) :: (5, 1, some (oAl 0)) :: (6, 3, some (oGetR [(6, 19)])) :: (9, 3, some (oGetI 3 1)) ::
  (12, 3, some (oCmLe 18)) :: (15, 2, some (oIc (-2))) :: (17, 1, some oIret) :: (18, 1, some (oAl 0)) :: (19, 3, some oGetSp) :: (22, 3, some (oCV 0 mX0_clear 1)) ::
  (25, 1, some (oAl 0)) :: (26, 3, some (oGetR [(6, 19)])) :: (29, 1, some (oIl 1)) :: (30, 1, some (oAl 0)) :: (31, 3, some oGetSp) :: (34, 3, some (oCI 3 mX3_read 3)) ::
  (37, 1, some (oIs 2)) :: (38, 1, some (oIl 2)) :: (39, 3, some (oIfLt 84)) :: (42, 1, some (oAl 0)) :: (43, 3, some oGetNw) :: (46, 1, some (oAs 3)) ::
  (47, 1, some (oAl 0)) :: (48, 1, some (oAl 0)) :: (49, 3, some oGetSp) :: (52, 3, some oPutNw) :: (55, 1, some (oAl 0)) :: (56, 1, some (oAl 3)) ::
  (57, 3, some oPutSp) :: (60, 1, some (oAl 0)) :: (61, 3, some oGetNw) :: (64, 3, some (oCV 0 mX0_joinParties 1)) :: (67, 1, some (oAl 0)) :: (68, 1, some (oIc 0)) ::
  (69, 3, some (oPutI 6 5)) :: (72, 1, some (oAl 0)) :: (73, 1, some (oIc 0)) :: (74, 3, some (oPutI 6 6)) :: (77, 1, some (oAl 0)) :: (78, 3, some (oGetR [(6, 49)])) ::
  (81, 3, some (oCV 1 mX1_forget 1)) :: (84, 1, some (oIl 2)) :: (85, 1, some oIret) :: []
set_option maxRecDepth 100000 in
set_option maxHeartbeats 4000000 in
theorem okX6_book : CodeOk mX6_book cdX6_book := by
  refine ⟨by rfl, ?_⟩
  show CodeAll mX6_book cdX6_book
  refine ce_op (okIl1 (k := 1) (by decide +kernel) rfl) ?_
  refine ce_op (okIfLt (off := 14) (by decide +kernel) (by decide)) ?_
  refine ce_op (okIl1 (k := 1) (by decide +kernel) rfl) ?_
  refine ce_op (okAl1 (k := 0) (by decide +kernel) rfl) ?_
  refine ce_op (okGetR clX6 (k := 0) (x := 12) (by decide +kernel) (by decide) rfl wd401 rfl (by decide +kernel)) ?_
  refine ce_op (okGetI clX3 (k := 1) (x := 71) (by decide +kernel) (by decide) rfl wd125 (Or.inl rfl)) ?_
  refine ce_op (okCmLe (off := 6) (by decide +kernel) (by decide)) ?_
  refine ce_op (okIc2 (n := (-2)) (by decide +kernel) (by decide)) ?_
  refine ce_op (okIret (by decide +kernel) rfl) ?_
  refine ce_op (okAl1 (k := 0) (by decide +kernel) rfl) ?_
  refine ce_op (okGetSp (x := 39) (by decide +kernel) wd405) ?_
  refine ce_op (okCV miX0_clear (rV clX0 (x := 74) miX0_clear rfl (by decide +kernel) wd452 wd453 wd454)) ?_
  refine ce_op (okAl1 (k := 0) (by decide +kernel) rfl) ?_
  refine ce_op (okGetR clX6 (k := 0) (x := 12) (by decide +kernel) (by decide) rfl wd401 rfl (by decide +kernel)) ?_
  refine ce_op (okIl1 (k := 1) (by decide +kernel) rfl) ?_
  refine ce_op (okAl1 (k := 0) (by decide +kernel) rfl) ?_
  refine ce_op (okGetSp (x := 39) (by decide +kernel) wd405) ?_
  refine ce_op (okCI miX3_read (rV clX3 (x := 77) miX3_read rfl (by decide +kernel) wd456 wd457 wd458)) ?_
  refine ce_op (okIs1 (k := 2) (by decide +kernel) rfl (by decide)) ?_
  refine ce_op (okIl1 (k := 2) (by decide +kernel) rfl) ?_
  refine ce_op (okIfLt (off := 45) (by decide +kernel) (by decide)) ?_
  refine ce_op (okAl1 (k := 0) (by decide +kernel) rfl) ?_
  refine ce_op (okGetNw (x := 35) (by decide +kernel) wd404) ?_
  refine ce_op (okAs1 (k := 3) (by decide +kernel) rfl (by decide)) ?_
  refine ce_op (okAl1 (k := 0) (by decide +kernel) rfl) ?_
  refine ce_op (okAl1 (k := 0) (by decide +kernel) rfl) ?_
  refine ce_op (okGetSp (x := 39) (by decide +kernel) wd405) ?_
  refine ce_op (okPutNw (x := 35) (by decide +kernel) wd404) ?_
  refine ce_op (okAl1 (k := 0) (by decide +kernel) rfl) ?_
  refine ce_op (okAl1 (k := 3) (by decide +kernel) rfl) ?_
  refine ce_op (okPutSp (x := 39) (by decide +kernel) wd405) ?_
  refine ce_op (okAl1 (k := 0) (by decide +kernel) rfl) ?_
  refine ce_op (okGetNw (x := 35) (by decide +kernel) wd404) ?_
  refine ce_op (okCV miX0_joinParties (rV clX0 (x := 81) miX0_joinParties rfl (by decide +kernel) wd569 wd570 wd571)) ?_
  refine ce_op (okAl1 (k := 0) (by decide +kernel) rfl) ?_
  refine ce_op (okIc1 (n := 0) (by decide +kernel) (by decide)) ?_
  refine ce_op (okPutI clX6 (k := 5) (x := 42) (by decide +kernel) (by decide) rfl wd406 rfl rfl (by decide +kernel)) ?_
  refine ce_op (okAl1 (k := 0) (by decide +kernel) rfl) ?_
  refine ce_op (okIc1 (n := 0) (by decide +kernel) (by decide)) ?_
  refine ce_op (okPutI clX6 (k := 6) (x := 46) (by decide +kernel) (by decide) rfl wd407 rfl rfl (by decide +kernel)) ?_
  refine ce_op (okAl1 (k := 0) (by decide +kernel) rfl) ?_
  refine ce_op (okGetR clX6 (k := 1) (x := 21) (by decide +kernel) (by decide) rfl wd402 rfl (by decide +kernel)) ?_
  refine ce_op (okCV miX1_forget (rV clX1 (x := 84) miX1_forget rfl (by decide +kernel) wd582 wd583 wd584)) ?_
  refine ce_op (okIl1 (k := 2) (by decide +kernel) rfl) ?_
  refine ce_op (okIret (by decide +kernel) rfl) ?_
  exact ce_nil
set_option maxRecDepth 100000 in
def cdX6_fault : List CE := (0, 1, some (oIl 1)) :: (1, 27, some (oSw [(0, 28), (1, 36)] 44)) :: (28, 1, some (oAl 0)) :: (29, 3, some (oGetR [(6, 19)])) :: (32, 3, some (oGetI 3 2)) :: (35, 1, some oIret) ::
  (36, 1, some (oAl 0)) :: (37, 3, some (oGetR [(6, 19)])) :: (40, 3, some (oGetI 3 3)) :: (43, 1, some oIret) :: (44, 1, some (oIc (-1))) :: (45, 1, some oIret) :: []
set_option maxRecDepth 100000 in
set_option maxHeartbeats 4000000 in
theorem okX6_fault : CodeOk mX6_fault cdX6_fault := by
  refine ⟨by rfl, ?_⟩
  show CodeAll mX6_fault cdX6_fault
  refine ce_op (okIl1 (k := 1) (by decide +kernel) rfl) ?_
  refine ce_op (okLsw (dO := 43) (ps := #[(0, 27), (1, 35)]) (by decide +kernel) (by decide) (by decide +kernel) (by decide +kernel)) ?_
  refine ce_op (okAl1 (k := 0) (by decide +kernel) rfl) ?_
  refine ce_op (okGetR clX6 (k := 0) (x := 12) (by decide +kernel) (by decide) rfl wd401 rfl (by decide +kernel)) ?_
  refine ce_op (okGetI clX3 (k := 2) (x := 87) (by decide +kernel) (by decide) rfl wd127 (Or.inl rfl)) ?_
  refine ce_op (okIret (by decide +kernel) rfl) ?_
  refine ce_op (okAl1 (k := 0) (by decide +kernel) rfl) ?_
  refine ce_op (okGetR clX6 (k := 0) (x := 12) (by decide +kernel) (by decide) rfl wd401 rfl (by decide +kernel)) ?_
  refine ce_op (okGetI clX3 (k := 3) (x := 90) (by decide +kernel) (by decide) rfl wd129 (Or.inl rfl)) ?_
  refine ce_op (okIret (by decide +kernel) rfl) ?_
  refine ce_op (okIc1 (n := (-1)) (by decide +kernel) (by decide)) ?_
  refine ce_op (okIret (by decide +kernel) rfl) ?_
  exact ce_nil
set_option maxRecDepth 100000 in
def cdX6_named : List CE := (0, 1, some (oIl 1)) :: (1, 27, some (oSw [(0, 28), (1, 40), (2, 52)] 64)) :: (28, 1, some (oAl 0)) :: (29, 3, some oGetNw) :: (32, 3, some (oGetR [(336, 354), (720, 738)])) :: (35, 1, some (oIl 2)) ::
  (36, 3, some (oCI 2 mX2_find 2)) :: (39, 1, some oIret) :: (40, 1, some (oAl 0)) :: (41, 3, some oGetNw) :: (44, 3, some (oGetR [(336, 386), (720, 770)])) :: (47, 1, some (oIl 2)) ::
  (48, 3, some (oCI 2 mX2_find 2)) :: (51, 1, some oIret) :: (52, 1, some (oAl 0)) :: (53, 3, some oGetNw) :: (56, 3, some (oGetR [(336, 418), (720, 802)])) :: (59, 1, some (oIl 2)) ::
  (60, 3, some (oCI 2 mX2_find 2)) :: (63, 1, some oIret) :: (64, 1, some (oIc (-1))) :: (65, 1, some oIret) :: []
set_option maxRecDepth 100000 in
set_option maxHeartbeats 4000000 in
theorem okX6_named : CodeOk mX6_named cdX6_named := by
  refine ⟨by rfl, ?_⟩
  show CodeAll mX6_named cdX6_named
  refine ce_op (okIl1 (k := 1) (by decide +kernel) rfl) ?_
  refine ce_op (okTsw (dO := 63) (lo := 0) (hi := 2) (offs := #[27, 39, 51]) (by decide +kernel) (by decide) (by decide +kernel) (by decide +kernel) (sw_all (by decide +kernel))) ?_
  refine ce_op (okAl1 (k := 0) (by decide +kernel) rfl) ?_
  refine ce_op (okGetNw (x := 35) (by decide +kernel) wd404) ?_
  refine ce_op (okGetR clX0 (k := 0) (x := 93) (by decide +kernel) (by decide) rfl wd343 rfl (by decide +kernel)) ?_
  refine ce_op (okIl1 (k := 2) (by decide +kernel) rfl) ?_
  refine ce_op (okCI miX2_find (rV clX2 (x := 97) miX2_find rfl (by decide +kernel) wd594 wd498 wd499)) ?_
  refine ce_op (okIret (by decide +kernel) rfl) ?_
  refine ce_op (okAl1 (k := 0) (by decide +kernel) rfl) ?_
  refine ce_op (okGetNw (x := 35) (by decide +kernel) wd404) ?_
  refine ce_op (okGetR clX0 (k := 1) (x := 103) (by decide +kernel) (by decide) rfl wd345 rfl (by decide +kernel)) ?_
  refine ce_op (okIl1 (k := 2) (by decide +kernel) rfl) ?_
  refine ce_op (okCI miX2_find (rV clX2 (x := 97) miX2_find rfl (by decide +kernel) wd594 wd498 wd499)) ?_
  refine ce_op (okIret (by decide +kernel) rfl) ?_
  refine ce_op (okAl1 (k := 0) (by decide +kernel) rfl) ?_
  refine ce_op (okGetNw (x := 35) (by decide +kernel) wd404) ?_
  refine ce_op (okGetR clX0 (k := 2) (x := 106) (by decide +kernel) (by decide) rfl wd348 rfl (by decide +kernel)) ?_
  refine ce_op (okIl1 (k := 2) (by decide +kernel) rfl) ?_
  refine ce_op (okCI miX2_find (rV clX2 (x := 97) miX2_find rfl (by decide +kernel) wd594 wd498 wd499)) ?_
  refine ce_op (okIret (by decide +kernel) rfl) ?_
  refine ce_op (okIc1 (n := (-1)) (by decide +kernel) (by decide)) ?_
  refine ce_op (okIret (by decide +kernel) rfl) ?_
  exact ce_nil
set_option maxRecDepth 100000 in
def cdX6_look : List CE := (0, 1, some (oAl 0)) :: (1, 3, some oGetNw) :: (4, 3, some (oGetR [(336, 452), (720, 836)])) :: (7, 1, some (oAs 3)) :: (8, 1, some (oAl 3)) :: (9, 1, some (oIl 1)) ::
  (10, 3, some (oCI 4 mX4_has 2)) :: (13, 3, some (oIfNe 26)) :: (16, 3, some oNo) :: (19, 1, some oDup) :: (20, 2, some oNo) :: (22, 3, some oNo) ::
  (25, 1, some oNo) :: (26, 1, some (oIl 2)) :: (27, 45, some (oSw [(0, 72), (1, 79), (2, 86), (3, 93), (4, 100), (5, 107), (6, 114), (7, 121)] 134)) :: (72, 1, some (oAl 3)) :: (73, 3, some (oGetR [(452, 164312), (836, 164696)])) :: (76, 1, some (oIl 1)) ::
  (77, 1, some oIald) :: (78, 1, some oIret) :: (79, 1, some (oAl 3)) :: (80, 3, some (oGetR [(452, 164328), (836, 164712)])) :: (83, 1, some (oIl 1)) :: (84, 1, some oIald) ::
  (85, 1, some oIret) :: (86, 1, some (oAl 3)) :: (87, 3, some (oGetR [(452, 164344), (836, 164728)])) :: (90, 1, some (oIl 1)) :: (91, 1, some oIald) :: (92, 1, some oIret) ::
  (93, 1, some (oAl 3)) :: (94, 3, some (oGetR [(452, 164360), (836, 164744)])) :: (97, 1, some (oIl 1)) :: (98, 1, some oIald) :: (99, 1, some oIret) :: (100, 1, some (oAl 3)) ::
  (101, 3, some (oGetR [(452, 164376), (836, 164760)])) :: (104, 1, some (oIl 1)) :: (105, 1, some oIald) :: (106, 1, some oIret) :: (107, 1, some (oAl 3)) :: (108, 3, some (oGetR [(452, 164392), (836, 164776)])) ::
  (111, 1, some (oIl 1)) :: (112, 1, some oIald) :: (113, 1, some oIret) :: (114, 1, some (oAl 3)) :: (115, 3, some (oGetR [(452, 164408), (836, 164792)])) :: (118, 1, some (oIl 1)) ::
  (119, 1, some oIald) :: (120, 1, some oIret) :: (121, 1, some (oAl 0)) :: (122, 3, some oGetNw) :: (125, 1, some (oIl 1)) :: (126, 1, some (oAl 0)) ::
  (127, 3, some (oGetI 6 6)) :: (130, 3, some (oCI 0 mX0_taxOf 3)) :: (133, 1, some oIret) :: (134, 3, some oNo) :: (137, 1, some oDup) :: (138, 2, some oNo) ::
  (140, 3, some oNo) :: (143, 1, some oNo) :: []
set_option maxRecDepth 100000 in
set_option maxHeartbeats 4000000 in
theorem okX6_look : CodeOk mX6_look cdX6_look := by
  refine ⟨by rfl, ?_⟩
  show CodeAll mX6_look cdX6_look
  refine ce_op (okAl1 (k := 0) (by decide +kernel) rfl) ?_
  refine ce_op (okGetNw (x := 35) (by decide +kernel) wd404) ?_
  refine ce_op (okGetR clX0 (k := 3) (x := 109) (by decide +kernel) (by decide) rfl wd351 rfl (by decide +kernel)) ?_
  refine ce_op (okAs1 (k := 3) (by decide +kernel) rfl (by decide)) ?_
  refine ce_op (okAl1 (k := 3) (by decide +kernel) rfl) ?_
  refine ce_op (okIl1 (k := 1) (by decide +kernel) rfl) ?_
  refine ce_op (okCI miX4_has (rV clX4 (x := 113) miX4_has rfl (by decide +kernel) wd702 wd703 wd704)) ?_
  refine ce_op (okIfNe (off := 13) (by decide +kernel) (by decide)) ?_
  refine ce_op (okNo) ?_
  refine ce_op (okDup (by decide +kernel)) ?_
  refine ce_op (okNo) ?_
  refine ce_op (okNo) ?_
  refine ce_op (okNo) ?_
  refine ce_op (okIl1 (k := 2) (by decide +kernel) rfl) ?_
  refine ce_op (okTsw (dO := 107) (lo := 0) (hi := 7) (offs := #[45, 52, 59, 66, 73, 80, 87, 94]) (by decide +kernel) (by decide) (by decide +kernel) (by decide +kernel) (sw_all (by decide +kernel))) ?_
  refine ce_op (okAl1 (k := 3) (by decide +kernel) rfl) ?_
  refine ce_op (okGetR clX4 (k := 0) (x := 125) (by decide +kernel) (by decide) rfl wd288 rfl (by decide +kernel)) ?_
  refine ce_op (okIl1 (k := 1) (by decide +kernel) rfl) ?_
  refine ce_op (okIald (by decide +kernel)) ?_
  refine ce_op (okIret (by decide +kernel) rfl) ?_
  refine ce_op (okAl1 (k := 3) (by decide +kernel) rfl) ?_
  refine ce_op (okGetR clX4 (k := 1) (x := 128) (by decide +kernel) (by decide) rfl wd293 rfl (by decide +kernel)) ?_
  refine ce_op (okIl1 (k := 1) (by decide +kernel) rfl) ?_
  refine ce_op (okIald (by decide +kernel)) ?_
  refine ce_op (okIret (by decide +kernel) rfl) ?_
  refine ce_op (okAl1 (k := 3) (by decide +kernel) rfl) ?_
  refine ce_op (okGetR clX4 (k := 2) (x := 131) (by decide +kernel) (by decide) rfl wd297 rfl (by decide +kernel)) ?_
  refine ce_op (okIl1 (k := 1) (by decide +kernel) rfl) ?_
  refine ce_op (okIald (by decide +kernel)) ?_
  refine ce_op (okIret (by decide +kernel) rfl) ?_
  refine ce_op (okAl1 (k := 3) (by decide +kernel) rfl) ?_
  refine ce_op (okGetR clX4 (k := 3) (x := 134) (by decide +kernel) (by decide) rfl wd302 rfl (by decide +kernel)) ?_
  refine ce_op (okIl1 (k := 1) (by decide +kernel) rfl) ?_
  refine ce_op (okIald (by decide +kernel)) ?_
  refine ce_op (okIret (by decide +kernel) rfl) ?_
  refine ce_op (okAl1 (k := 3) (by decide +kernel) rfl) ?_
  refine ce_op (okGetR clX4 (k := 4) (x := 137) (by decide +kernel) (by decide) rfl wd304 rfl (by decide +kernel)) ?_
  refine ce_op (okIl1 (k := 1) (by decide +kernel) rfl) ?_
  refine ce_op (okIald (by decide +kernel)) ?_
  refine ce_op (okIret (by decide +kernel) rfl) ?_
  refine ce_op (okAl1 (k := 3) (by decide +kernel) rfl) ?_
  refine ce_op (okGetR clX4 (k := 5) (x := 140) (by decide +kernel) (by decide) rfl wd309 rfl (by decide +kernel)) ?_
  refine ce_op (okIl1 (k := 1) (by decide +kernel) rfl) ?_
  refine ce_op (okIald (by decide +kernel)) ?_
  refine ce_op (okIret (by decide +kernel) rfl) ?_
  refine ce_op (okAl1 (k := 3) (by decide +kernel) rfl) ?_
  refine ce_op (okGetR clX4 (k := 6) (x := 143) (by decide +kernel) (by decide) rfl wd312 rfl (by decide +kernel)) ?_
  refine ce_op (okIl1 (k := 1) (by decide +kernel) rfl) ?_
  refine ce_op (okIald (by decide +kernel)) ?_
  refine ce_op (okIret (by decide +kernel) rfl) ?_
  refine ce_op (okAl1 (k := 0) (by decide +kernel) rfl) ?_
  refine ce_op (okGetNw (x := 35) (by decide +kernel) wd404) ?_
  refine ce_op (okIl1 (k := 1) (by decide +kernel) rfl) ?_
  refine ce_op (okAl1 (k := 0) (by decide +kernel) rfl) ?_
  refine ce_op (okGetI clX6 (k := 6) (x := 46) (by decide +kernel) (by decide) rfl wd407 (Or.inl rfl)) ?_
  refine ce_op (okCI miX0_taxOf (rV clX0 (x := 146) miX0_taxOf rfl (by decide +kernel) wd977 wd613 wd614)) ?_
  refine ce_op (okIret (by decide +kernel) rfl) ?_
  refine ce_op (okNo) ?_
  refine ce_op (okDup (by decide +kernel)) ?_
  refine ce_op (okNo) ?_
  refine ce_op (okNo) ?_
  refine ce_op (okNo) ?_
  exact ce_nil
set_option maxRecDepth 100000 in
def cdX6_firm : List CE := (0, 1, some (oAl 0)) :: (1, 3, some oGetNw) :: (4, 3, some (oGetR [(336, 418), (720, 802)])) :: (7, 1, some (oIl 1)) :: (8, 3, some (oCI 2 mX2_has 2)) :: (11, 3, some (oIfNe 17)) ::
  (14, 2, some (oIc (-2147483648))) :: (16, 1, some oIret) :: (17, 1, some (oIl 2)) :: (18, 46, some (oSw [(0, 64), (1, 74), (2, 84), (3, 94), (4, 104), (5, 117), (6, 130), (7, 146)] 156)) :: (64, 1, some (oAl 0)) :: (65, 3, some oGetNw) ::
  (68, 3, some (oGetR [(336, 49752), (720, 50136)])) :: (71, 1, some (oIl 1)) :: (72, 1, some oIald) :: (73, 1, some oIret) :: (74, 1, some (oAl 0)) :: (75, 3, some oGetNw) ::
  (78, 3, some (oGetR [(336, 49768), (720, 50152)])) :: (81, 1, some (oIl 1)) :: (82, 1, some oIald) :: (83, 1, some oIret) :: (84, 1, some (oAl 0)) :: (85, 3, some oGetNw) ::
  (88, 3, some (oGetR [(336, 49784), (720, 50168)])) :: (91, 1, some (oIl 1)) :: (92, 1, some oIald) :: (93, 1, some oIret) :: (94, 1, some (oAl 0)) :: (95, 3, some oGetNw) ::
  (98, 3, some (oGetR [(336, 49800), (720, 50184)])) :: (101, 1, some (oIl 1)) :: (102, 1, some oIald) :: (103, 1, some oIret) :: (104, 1, some (oAl 0)) :: (105, 3, some oGetNw) ::
  (108, 1, some (oIl 1)) :: (109, 1, some (oAl 0)) :: (110, 3, some (oGetI 6 6)) :: (113, 3, some (oCI 0 mX0_owed 3)) :: (116, 1, some oIret) :: (117, 2, some (oIc 100)) ::
  (119, 1, some (oAl 0)) :: (120, 3, some oGetNw) :: (123, 3, some (oGetR [(336, 49816), (720, 50200)])) :: (126, 1, some (oIl 1)) :: (127, 1, some oIald) :: (128, 1, some oImul) ::
  (129, 1, some oIret) :: (130, 1, some (oAl 0)) :: (131, 3, some oGetNw) :: (134, 1, some (oAl 0)) :: (135, 3, some (oGetI 6 6)) :: (138, 3, some (oCI 0 mX0_missing 2)) ::
  (141, 1, some (oIl 1)) :: (142, 1, some oIshr) :: (143, 1, some (oIc 1)) :: (144, 1, some oIand) :: (145, 1, some oIret) :: (146, 1, some (oAl 0)) ::
  (147, 3, some oGetNw) :: (150, 3, some (oGetR [(336, 49848), (720, 50232)])) :: (153, 1, some (oIl 1)) :: (154, 1, some oIald) :: (155, 1, some oIret) :: (156, 2, some (oIc (-2147483648))) ::
  (158, 1, some oIret) :: []
set_option maxRecDepth 100000 in
set_option maxHeartbeats 4000000 in
theorem okX6_firm : CodeOk mX6_firm cdX6_firm := by
  refine ⟨by rfl, ?_⟩
  show CodeAll mX6_firm cdX6_firm
  refine ce_op (okAl1 (k := 0) (by decide +kernel) rfl) ?_
  refine ce_op (okGetNw (x := 35) (by decide +kernel) wd404) ?_
  refine ce_op (okGetR clX0 (k := 2) (x := 106) (by decide +kernel) (by decide) rfl wd348 rfl (by decide +kernel)) ?_
  refine ce_op (okIl1 (k := 1) (by decide +kernel) rfl) ?_
  refine ce_op (okCI miX2_has (rV clX2 (x := 155) miX2_has rfl (by decide +kernel) wd599 wd600 wd601)) ?_
  refine ce_op (okIfNe (off := 6) (by decide +kernel) (by decide)) ?_
  refine ce_op (okIcL (k := 156) (by decide +kernel) wd603) ?_
  refine ce_op (okIret (by decide +kernel) rfl) ?_
  refine ce_op (okIl1 (k := 2) (by decide +kernel) rfl) ?_
  refine ce_op (okTsw (dO := 138) (lo := 0) (hi := 7) (offs := #[46, 56, 66, 76, 86, 99, 112, 128]) (by decide +kernel) (by decide) (by decide +kernel) (by decide +kernel) (sw_all (by decide +kernel))) ?_
  refine ce_op (okAl1 (k := 0) (by decide +kernel) rfl) ?_
  refine ce_op (okGetNw (x := 35) (by decide +kernel) wd404) ?_
  refine ce_op (okGetR clX0 (k := 5) (x := 157) (by decide +kernel) (by decide) rfl wd356 rfl (by decide +kernel)) ?_
  refine ce_op (okIl1 (k := 1) (by decide +kernel) rfl) ?_
  refine ce_op (okIald (by decide +kernel)) ?_
  refine ce_op (okIret (by decide +kernel) rfl) ?_
  refine ce_op (okAl1 (k := 0) (by decide +kernel) rfl) ?_
  refine ce_op (okGetNw (x := 35) (by decide +kernel) wd404) ?_
  refine ce_op (okGetR clX0 (k := 6) (x := 160) (by decide +kernel) (by decide) rfl wd358 rfl (by decide +kernel)) ?_
  refine ce_op (okIl1 (k := 1) (by decide +kernel) rfl) ?_
  refine ce_op (okIald (by decide +kernel)) ?_
  refine ce_op (okIret (by decide +kernel) rfl) ?_
  refine ce_op (okAl1 (k := 0) (by decide +kernel) rfl) ?_
  refine ce_op (okGetNw (x := 35) (by decide +kernel) wd404) ?_
  refine ce_op (okGetR clX0 (k := 7) (x := 163) (by decide +kernel) (by decide) rfl wd360 rfl (by decide +kernel)) ?_
  refine ce_op (okIl1 (k := 1) (by decide +kernel) rfl) ?_
  refine ce_op (okIald (by decide +kernel)) ?_
  refine ce_op (okIret (by decide +kernel) rfl) ?_
  refine ce_op (okAl1 (k := 0) (by decide +kernel) rfl) ?_
  refine ce_op (okGetNw (x := 35) (by decide +kernel) wd404) ?_
  refine ce_op (okGetR clX0 (k := 8) (x := 166) (by decide +kernel) (by decide) rfl wd363 rfl (by decide +kernel)) ?_
  refine ce_op (okIl1 (k := 1) (by decide +kernel) rfl) ?_
  refine ce_op (okIald (by decide +kernel)) ?_
  refine ce_op (okIret (by decide +kernel) rfl) ?_
  refine ce_op (okAl1 (k := 0) (by decide +kernel) rfl) ?_
  refine ce_op (okGetNw (x := 35) (by decide +kernel) wd404) ?_
  refine ce_op (okIl1 (k := 1) (by decide +kernel) rfl) ?_
  refine ce_op (okAl1 (k := 0) (by decide +kernel) rfl) ?_
  refine ce_op (okGetI clX6 (k := 6) (x := 46) (by decide +kernel) (by decide) rfl wd407 (Or.inl rfl)) ?_
  refine ce_op (okCI miX0_owed (rV clX0 (x := 169) miX0_owed rfl (by decide +kernel) wd604 wd605 wd606)) ?_
  refine ce_op (okIret (by decide +kernel) rfl) ?_
  refine ce_op (okIc2 (n := 100) (by decide +kernel) (by decide)) ?_
  refine ce_op (okAl1 (k := 0) (by decide +kernel) rfl) ?_
  refine ce_op (okGetNw (x := 35) (by decide +kernel) wd404) ?_
  refine ce_op (okGetR clX0 (k := 9) (x := 172) (by decide +kernel) (by decide) rfl wd366 rfl (by decide +kernel)) ?_
  refine ce_op (okIl1 (k := 1) (by decide +kernel) rfl) ?_
  refine ce_op (okIald (by decide +kernel)) ?_
  refine ce_op (okImul (by decide +kernel)) ?_
  refine ce_op (okIret (by decide +kernel) rfl) ?_
  refine ce_op (okAl1 (k := 0) (by decide +kernel) rfl) ?_
  refine ce_op (okGetNw (x := 35) (by decide +kernel) wd404) ?_
  refine ce_op (okAl1 (k := 0) (by decide +kernel) rfl) ?_
  refine ce_op (okGetI clX6 (k := 6) (x := 46) (by decide +kernel) (by decide) rfl wd407 (Or.inl rfl)) ?_
  refine ce_op (okCI miX0_missing (rV clX0 (x := 175) miX0_missing rfl (by decide +kernel) wd620 wd621 wd622)) ?_
  refine ce_op (okIl1 (k := 1) (by decide +kernel) rfl) ?_
  refine ce_op (okIshr (by decide +kernel)) ?_
  refine ce_op (okIc1 (n := 1) (by decide +kernel) (by decide)) ?_
  refine ce_op (okIand (by decide +kernel)) ?_
  refine ce_op (okIret (by decide +kernel) rfl) ?_
  refine ce_op (okAl1 (k := 0) (by decide +kernel) rfl) ?_
  refine ce_op (okGetNw (x := 35) (by decide +kernel) wd404) ?_
  refine ce_op (okGetR clX0 (k := 11) (x := 178) (by decide +kernel) (by decide) rfl wd371 rfl (by decide +kernel)) ?_
  refine ce_op (okIl1 (k := 1) (by decide +kernel) rfl) ?_
  refine ce_op (okIald (by decide +kernel)) ?_
  refine ce_op (okIret (by decide +kernel) rfl) ?_
  refine ce_op (okIcL (k := 156) (by decide +kernel) wd603) ?_
  refine ce_op (okIret (by decide +kernel) rfl) ?_
  exact ce_nil
set_option maxRecDepth 100000 in
def cdX6_sell : List CE := (0, 1, some (oAl 0)) :: (1, 3, some oGetNw) :: (4, 3, some (oGetR [(336, 418), (720, 802)])) :: (7, 1, some (oIl 1)) :: (8, 3, some (oCI 2 mX2_has 2)) :: (11, 3, some (oIfEq 37)) ::
  (14, 1, some (oAl 0)) :: (15, 3, some oGetNw) :: (18, 3, some (oGetR [(336, 418), (720, 802)])) :: (21, 1, some (oIl 2)) :: (22, 3, some (oCI 2 mX2_has 2)) :: (25, 3, some (oIfEq 37)) ::
  (28, 1, some (oIl 1)) :: (29, 1, some (oIl 2)) :: (30, 3, some (oCmEq 37)) :: (33, 1, some (oIc 1)) :: (34, 3, some (oGoto 38)) :: (37, 1, some (oIc 0)) ::
  (38, 2, some (oIs 8)) :: (40, 1, some (oAl 0)) :: (41, 3, some oGetNw) :: (44, 3, some (oGetR [(336, 386), (720, 770)])) :: (47, 2, some (oIl 4)) :: (49, 3, some (oCI 2 mX2_has 2)) ::
  (52, 3, some (oIfEq 82)) :: (55, 1, some (oIl 3)) :: (56, 1, some (oIc 1)) :: (57, 3, some (oIc 999)) :: (60, 3, some (oCI 16 mX6_within 3)) :: (63, 3, some (oIfEq 82)) ::
  (66, 2, some (oIl 5)) :: (68, 1, some (oIc 1)) :: (69, 3, some (oIc 999)) :: (72, 3, some (oCI 16 mX6_within 3)) :: (75, 3, some (oIfEq 82)) :: (78, 1, some (oIc 1)) ::
  (79, 3, some (oGoto 83)) :: (82, 1, some (oIc 0)) :: (83, 2, some (oIs 9)) :: (85, 2, some (oIl 8)) :: (87, 3, some (oIfEq 118)) :: (90, 2, some (oIl 9)) ::
  (92, 3, some (oIfEq 118)) :: (95, 2, some (oIl 7)) :: (97, 1, some (oIc 0)) :: (98, 2, some (oIc 99)) :: (100, 3, some (oCI 16 mX6_within 3)) :: (103, 3, some (oIfEq 118)) ::
  (106, 2, some (oIl 6)) :: (108, 1, some (oIc 0)) :: (109, 3, some (oIc 400)) :: (112, 3, some (oCI 16 mX6_within 3)) :: (115, 3, some (oIfNe 120)) :: (118, 1, some (oIc (-1))) ::
  (119, 1, some oIret) :: (120, 2, some (oIl 6)) :: (122, 1, some (oAl 0)) :: (123, 3, some oGetNw) :: (126, 1, some (oIl 1)) :: (127, 1, some (oIl 2)) ::
  (128, 3, some (oCI 0 mX0_sinceBoth 3)) :: (131, 3, some (oCmLt 158)) :: (134, 1, some (oAl 0)) :: (135, 3, some oGetNw) :: (138, 3, some (oGetR [(336, 452), (720, 836)])) :: (141, 1, some (oIl 1)) ::
  (142, 1, some (oIl 2)) :: (143, 1, some (oIl 3)) :: (144, 2, some (oIl 4)) :: (146, 2, some (oIl 5)) :: (148, 2, some (oIl 6)) :: (150, 2, some (oIl 7)) ::
  (152, 3, some (oCI 4 mX4_add 8)) :: (155, 3, some (oIfNe 160)) :: (158, 1, some (oIc (-1))) :: (159, 1, some oIret) :: (160, 1, some (oAl 0)) :: (161, 3, some oGetNw) ::
  (164, 3, some (oGetR [(336, 452), (720, 836)])) :: (167, 1, some oDup) :: (168, 3, some (oGetI 4 8)) :: (171, 1, some (oIc 1)) :: (172, 1, some oIadd) :: (173, 3, some (oPutI 4 8)) ::
  (176, 1, some (oAl 0)) :: (177, 3, some (oGetR [(6, 49)])) :: (180, 3, some (oCV 1 mX1_forget 1)) :: (183, 1, some (oAl 0)) :: (184, 3, some oGetNw) :: (187, 3, some (oGetR [(336, 452), (720, 836)])) ::
  (190, 3, some (oGetI 4 7)) :: (193, 1, some (oIc 1)) :: (194, 1, some oIsub) :: (195, 1, some oIret) :: []
set_option maxRecDepth 100000 in
set_option maxHeartbeats 4000000 in
theorem okX6_sell : CodeOk mX6_sell cdX6_sell := by
  refine ⟨by rfl, ?_⟩
  show CodeAll mX6_sell cdX6_sell
  refine ce_op (okAl1 (k := 0) (by decide +kernel) rfl) ?_
  refine ce_op (okGetNw (x := 35) (by decide +kernel) wd404) ?_
  refine ce_op (okGetR clX0 (k := 2) (x := 106) (by decide +kernel) (by decide) rfl wd348 rfl (by decide +kernel)) ?_
  refine ce_op (okIl1 (k := 1) (by decide +kernel) rfl) ?_
  refine ce_op (okCI miX2_has (rV clX2 (x := 155) miX2_has rfl (by decide +kernel) wd599 wd600 wd601)) ?_
  refine ce_op (okIfEq (off := 26) (by decide +kernel) (by decide)) ?_
  refine ce_op (okAl1 (k := 0) (by decide +kernel) rfl) ?_
  refine ce_op (okGetNw (x := 35) (by decide +kernel) wd404) ?_
  refine ce_op (okGetR clX0 (k := 2) (x := 106) (by decide +kernel) (by decide) rfl wd348 rfl (by decide +kernel)) ?_
  refine ce_op (okIl1 (k := 2) (by decide +kernel) rfl) ?_
  refine ce_op (okCI miX2_has (rV clX2 (x := 155) miX2_has rfl (by decide +kernel) wd599 wd600 wd601)) ?_
  refine ce_op (okIfEq (off := 12) (by decide +kernel) (by decide)) ?_
  refine ce_op (okIl1 (k := 1) (by decide +kernel) rfl) ?_
  refine ce_op (okIl1 (k := 2) (by decide +kernel) rfl) ?_
  refine ce_op (okCmEq (off := 7) (by decide +kernel) (by decide)) ?_
  refine ce_op (okIc1 (n := 1) (by decide +kernel) (by decide)) ?_
  refine ce_op (okGoto (off := 4) (by decide +kernel) (by decide)) ?_
  refine ce_op (okIc1 (n := 0) (by decide +kernel) (by decide)) ?_
  refine ce_op (okIs2 (by decide +kernel) (by decide)) ?_
  refine ce_op (okAl1 (k := 0) (by decide +kernel) rfl) ?_
  refine ce_op (okGetNw (x := 35) (by decide +kernel) wd404) ?_
  refine ce_op (okGetR clX0 (k := 1) (x := 103) (by decide +kernel) (by decide) rfl wd345 rfl (by decide +kernel)) ?_
  refine ce_op (okIl2 (by decide +kernel)) ?_
  refine ce_op (okCI miX2_has (rV clX2 (x := 155) miX2_has rfl (by decide +kernel) wd599 wd600 wd601)) ?_
  refine ce_op (okIfEq (off := 30) (by decide +kernel) (by decide)) ?_
  refine ce_op (okIl1 (k := 3) (by decide +kernel) rfl) ?_
  refine ce_op (okIc1 (n := 1) (by decide +kernel) (by decide)) ?_
  refine ce_op (okIc3 (n := 999) (by decide +kernel) (by decide)) ?_
  refine ce_op (okCI miX6_within (rS (x := 181) miX6_within (by decide +kernel) wd628 wd506)) ?_
  refine ce_op (okIfEq (off := 19) (by decide +kernel) (by decide)) ?_
  refine ce_op (okIl2 (by decide +kernel)) ?_
  refine ce_op (okIc1 (n := 1) (by decide +kernel) (by decide)) ?_
  refine ce_op (okIc3 (n := 999) (by decide +kernel) (by decide)) ?_
  refine ce_op (okCI miX6_within (rS (x := 181) miX6_within (by decide +kernel) wd628 wd506)) ?_
  refine ce_op (okIfEq (off := 7) (by decide +kernel) (by decide)) ?_
  refine ce_op (okIc1 (n := 1) (by decide +kernel) (by decide)) ?_
  refine ce_op (okGoto (off := 4) (by decide +kernel) (by decide)) ?_
  refine ce_op (okIc1 (n := 0) (by decide +kernel) (by decide)) ?_
  refine ce_op (okIs2 (by decide +kernel) (by decide)) ?_
  refine ce_op (okIl2 (by decide +kernel)) ?_
  refine ce_op (okIfEq (off := 31) (by decide +kernel) (by decide)) ?_
  refine ce_op (okIl2 (by decide +kernel)) ?_
  refine ce_op (okIfEq (off := 26) (by decide +kernel) (by decide)) ?_
  refine ce_op (okIl2 (by decide +kernel)) ?_
  refine ce_op (okIc1 (n := 0) (by decide +kernel) (by decide)) ?_
  refine ce_op (okIc2 (n := 99) (by decide +kernel) (by decide)) ?_
  refine ce_op (okCI miX6_within (rS (x := 181) miX6_within (by decide +kernel) wd628 wd506)) ?_
  refine ce_op (okIfEq (off := 15) (by decide +kernel) (by decide)) ?_
  refine ce_op (okIl2 (by decide +kernel)) ?_
  refine ce_op (okIc1 (n := 0) (by decide +kernel) (by decide)) ?_
  refine ce_op (okIc3 (n := 400) (by decide +kernel) (by decide)) ?_
  refine ce_op (okCI miX6_within (rS (x := 181) miX6_within (by decide +kernel) wd628 wd506)) ?_
  refine ce_op (okIfNe (off := 5) (by decide +kernel) (by decide)) ?_
  refine ce_op (okIc1 (n := (-1)) (by decide +kernel) (by decide)) ?_
  refine ce_op (okIret (by decide +kernel) rfl) ?_
  refine ce_op (okIl2 (by decide +kernel)) ?_
  refine ce_op (okAl1 (k := 0) (by decide +kernel) rfl) ?_
  refine ce_op (okGetNw (x := 35) (by decide +kernel) wd404) ?_
  refine ce_op (okIl1 (k := 1) (by decide +kernel) rfl) ?_
  refine ce_op (okIl1 (k := 2) (by decide +kernel) rfl) ?_
  refine ce_op (okCI miX0_sinceBoth (rV clX0 (x := 185) miX0_sinceBoth rfl (by decide +kernel) wd629 wd544 wd545)) ?_
  refine ce_op (okCmLt (off := 27) (by decide +kernel) (by decide)) ?_
  refine ce_op (okAl1 (k := 0) (by decide +kernel) rfl) ?_
  refine ce_op (okGetNw (x := 35) (by decide +kernel) wd404) ?_
  refine ce_op (okGetR clX0 (k := 3) (x := 109) (by decide +kernel) (by decide) rfl wd351 rfl (by decide +kernel)) ?_
  refine ce_op (okIl1 (k := 1) (by decide +kernel) rfl) ?_
  refine ce_op (okIl1 (k := 2) (by decide +kernel) rfl) ?_
  refine ce_op (okIl1 (k := 3) (by decide +kernel) rfl) ?_
  refine ce_op (okIl2 (by decide +kernel)) ?_
  refine ce_op (okIl2 (by decide +kernel)) ?_
  refine ce_op (okIl2 (by decide +kernel)) ?_
  refine ce_op (okIl2 (by decide +kernel)) ?_
  refine ce_op (okCI miX4_add (rV clX4 (x := 188) miX4_add rfl (by decide +kernel) wd630 wd561 wd562)) ?_
  refine ce_op (okIfNe (off := 5) (by decide +kernel) (by decide)) ?_
  refine ce_op (okIc1 (n := (-1)) (by decide +kernel) (by decide)) ?_
  refine ce_op (okIret (by decide +kernel) rfl) ?_
  refine ce_op (okAl1 (k := 0) (by decide +kernel) rfl) ?_
  refine ce_op (okGetNw (x := 35) (by decide +kernel) wd404) ?_
  refine ce_op (okGetR clX0 (k := 3) (x := 109) (by decide +kernel) (by decide) rfl wd351 rfl (by decide +kernel)) ?_
  refine ce_op (okDup (by decide +kernel)) ?_
  refine ce_op (okGetI clX4 (k := 8) (x := 192) (by decide +kernel) (by decide) rfl wd321 (Or.inl rfl)) ?_
  refine ce_op (okIc1 (n := 1) (by decide +kernel) (by decide)) ?_
  refine ce_op (okIadd (by decide +kernel)) ?_
  refine ce_op (okPutI clX4 (k := 8) (x := 192) (by decide +kernel) (by decide) rfl wd321 rfl rfl (by decide +kernel)) ?_
  refine ce_op (okAl1 (k := 0) (by decide +kernel) rfl) ?_
  refine ce_op (okGetR clX6 (k := 1) (x := 21) (by decide +kernel) (by decide) rfl wd402 rfl (by decide +kernel)) ?_
  refine ce_op (okCV miX1_forget (rV clX1 (x := 84) miX1_forget rfl (by decide +kernel) wd582 wd583 wd584)) ?_
  refine ce_op (okAl1 (k := 0) (by decide +kernel) rfl) ?_
  refine ce_op (okGetNw (x := 35) (by decide +kernel) wd404) ?_
  refine ce_op (okGetR clX0 (k := 3) (x := 109) (by decide +kernel) (by decide) rfl wd351 rfl (by decide +kernel)) ?_
  refine ce_op (okGetI clX4 (k := 7) (x := 195) (by decide +kernel) (by decide) rfl wd317 (Or.inl rfl)) ?_
  refine ce_op (okIc1 (n := 1) (by decide +kernel) (by decide)) ?_
  refine ce_op (okIsub (by decide +kernel)) ?_
  refine ce_op (okIret (by decide +kernel) rfl) ?_
  exact ce_nil
set_option maxRecDepth 100000 in
def cdX6_undo : List CE := (0, 1, some (oAl 0)) :: (1, 3, some oGetNw) :: (4, 3, some (oGetR [(336, 452), (720, 836)])) :: (7, 1, some (oAs 1)) :: (8, 1, some (oAl 1)) :: (9, 3, some (oGetI 4 8)) ::
  (12, 3, some (oIfLe 22)) :: (15, 1, some (oAl 1)) :: (16, 3, some (oGetI 4 7)) :: (19, 3, some (oIfGt 24)) :: (22, 1, some (oIc (-1))) :: (23, 1, some oIret) ::
  (24, 1, some (oAl 1)) :: (25, 1, some oDup) :: (26, 3, some (oGetI 4 7)) :: (29, 1, some (oIc 1)) :: (30, 1, some oIsub) :: (31, 3, some (oPutI 4 7)) ::
  (34, 1, some (oAl 1)) :: (35, 1, some oDup) :: (36, 3, some (oGetI 4 8)) :: (39, 1, some (oIc 1)) :: (40, 1, some oIsub) :: (41, 3, some (oPutI 4 8)) ::
  (44, 1, some (oAl 0)) :: (45, 3, some (oGetR [(6, 49)])) :: (48, 3, some (oCV 1 mX1_forget 1)) :: (51, 1, some (oAl 1)) :: (52, 3, some (oGetI 4 8)) :: (55, 1, some oIret) :: []
set_option maxRecDepth 100000 in
set_option maxHeartbeats 4000000 in
theorem okX6_undo : CodeOk mX6_undo cdX6_undo := by
  refine ⟨by rfl, ?_⟩
  show CodeAll mX6_undo cdX6_undo
  refine ce_op (okAl1 (k := 0) (by decide +kernel) rfl) ?_
  refine ce_op (okGetNw (x := 35) (by decide +kernel) wd404) ?_
  refine ce_op (okGetR clX0 (k := 3) (x := 109) (by decide +kernel) (by decide) rfl wd351 rfl (by decide +kernel)) ?_
  refine ce_op (okAs1 (k := 1) (by decide +kernel) rfl (by decide)) ?_
  refine ce_op (okAl1 (k := 1) (by decide +kernel) rfl) ?_
  refine ce_op (okGetI clX4 (k := 8) (x := 192) (by decide +kernel) (by decide) rfl wd321 (Or.inl rfl)) ?_
  refine ce_op (okIfLe (off := 10) (by decide +kernel) (by decide)) ?_
  refine ce_op (okAl1 (k := 1) (by decide +kernel) rfl) ?_
  refine ce_op (okGetI clX4 (k := 7) (x := 195) (by decide +kernel) (by decide) rfl wd317 (Or.inl rfl)) ?_
  refine ce_op (okIfGt (off := 5) (by decide +kernel) (by decide)) ?_
  refine ce_op (okIc1 (n := (-1)) (by decide +kernel) (by decide)) ?_
  refine ce_op (okIret (by decide +kernel) rfl) ?_
  refine ce_op (okAl1 (k := 1) (by decide +kernel) rfl) ?_
  refine ce_op (okDup (by decide +kernel)) ?_
  refine ce_op (okGetI clX4 (k := 7) (x := 195) (by decide +kernel) (by decide) rfl wd317 (Or.inl rfl)) ?_
  refine ce_op (okIc1 (n := 1) (by decide +kernel) (by decide)) ?_
  refine ce_op (okIsub (by decide +kernel)) ?_
  refine ce_op (okPutI clX4 (k := 7) (x := 195) (by decide +kernel) (by decide) rfl wd317 rfl rfl (by decide +kernel)) ?_
  refine ce_op (okAl1 (k := 1) (by decide +kernel) rfl) ?_
  refine ce_op (okDup (by decide +kernel)) ?_
  refine ce_op (okGetI clX4 (k := 8) (x := 192) (by decide +kernel) (by decide) rfl wd321 (Or.inl rfl)) ?_
  refine ce_op (okIc1 (n := 1) (by decide +kernel) (by decide)) ?_
  refine ce_op (okIsub (by decide +kernel)) ?_
  refine ce_op (okPutI clX4 (k := 8) (x := 192) (by decide +kernel) (by decide) rfl wd321 rfl rfl (by decide +kernel)) ?_
  refine ce_op (okAl1 (k := 0) (by decide +kernel) rfl) ?_
  refine ce_op (okGetR clX6 (k := 1) (x := 21) (by decide +kernel) (by decide) rfl wd402 rfl (by decide +kernel)) ?_
  refine ce_op (okCV miX1_forget (rV clX1 (x := 84) miX1_forget rfl (by decide +kernel) wd582 wd583 wd584)) ?_
  refine ce_op (okAl1 (k := 1) (by decide +kernel) rfl) ?_
  refine ce_op (okGetI clX4 (k := 8) (x := 192) (by decide +kernel) (by decide) rfl wd321 (Or.inl rfl)) ?_
  refine ce_op (okIret (by decide +kernel) rfl) ?_
  exact ce_nil
set_option maxRecDepth 100000 in
def cdX6_pay : List CE := (0, 1, some (oAl 0)) :: (1, 3, some oGetNw) :: (4, 3, some (oGetR [(336, 418), (720, 802)])) :: (7, 1, some (oIl 1)) :: (8, 3, some (oCI 2 mX2_has 2)) :: (11, 3, some (oIfEq 34)) ::
  (14, 1, some (oIl 2)) :: (15, 1, some (oIc 0)) :: (16, 2, some (oIc 999999)) :: (18, 1, some (oAl 0)) :: (19, 3, some oGetNw) :: (22, 3, some (oGetR [(336, 49816), (720, 50200)])) ::
  (25, 1, some (oIl 1)) :: (26, 1, some oIald) :: (27, 1, some oIsub) :: (28, 3, some (oCI 16 mX6_within 3)) :: (31, 3, some (oIfNe 36)) :: (34, 1, some (oIc (-1))) ::
  (35, 1, some oIret) :: (36, 1, some (oAl 0)) :: (37, 3, some oGetNw) :: (40, 3, some (oGetR [(336, 49816), (720, 50200)])) :: (43, 1, some (oIl 1)) :: (44, 1, some oDup2) ::
  (45, 1, some oIald) :: (46, 1, some (oIl 2)) :: (47, 1, some oIadd) :: (48, 1, some oIast) :: (49, 1, some (oAl 0)) :: (50, 3, some oGetNw) ::
  (53, 3, some (oGetR [(336, 49816), (720, 50200)])) :: (56, 1, some (oIl 1)) :: (57, 1, some oIald) :: (58, 1, some oIret) :: []
set_option maxRecDepth 100000 in
set_option maxHeartbeats 4000000 in
theorem okX6_pay : CodeOk mX6_pay cdX6_pay := by
  refine ⟨by rfl, ?_⟩
  show CodeAll mX6_pay cdX6_pay
  refine ce_op (okAl1 (k := 0) (by decide +kernel) rfl) ?_
  refine ce_op (okGetNw (x := 35) (by decide +kernel) wd404) ?_
  refine ce_op (okGetR clX0 (k := 2) (x := 106) (by decide +kernel) (by decide) rfl wd348 rfl (by decide +kernel)) ?_
  refine ce_op (okIl1 (k := 1) (by decide +kernel) rfl) ?_
  refine ce_op (okCI miX2_has (rV clX2 (x := 155) miX2_has rfl (by decide +kernel) wd599 wd600 wd601)) ?_
  refine ce_op (okIfEq (off := 23) (by decide +kernel) (by decide)) ?_
  refine ce_op (okIl1 (k := 2) (by decide +kernel) rfl) ?_
  refine ce_op (okIc1 (n := 0) (by decide +kernel) (by decide)) ?_
  refine ce_op (okIcL (k := 196) (by decide +kernel) wd639) ?_
  refine ce_op (okAl1 (k := 0) (by decide +kernel) rfl) ?_
  refine ce_op (okGetNw (x := 35) (by decide +kernel) wd404) ?_
  refine ce_op (okGetR clX0 (k := 9) (x := 172) (by decide +kernel) (by decide) rfl wd366 rfl (by decide +kernel)) ?_
  refine ce_op (okIl1 (k := 1) (by decide +kernel) rfl) ?_
  refine ce_op (okIald (by decide +kernel)) ?_
  refine ce_op (okIsub (by decide +kernel)) ?_
  refine ce_op (okCI miX6_within (rS (x := 181) miX6_within (by decide +kernel) wd628 wd506)) ?_
  refine ce_op (okIfNe (off := 5) (by decide +kernel) (by decide)) ?_
  refine ce_op (okIc1 (n := (-1)) (by decide +kernel) (by decide)) ?_
  refine ce_op (okIret (by decide +kernel) rfl) ?_
  refine ce_op (okAl1 (k := 0) (by decide +kernel) rfl) ?_
  refine ce_op (okGetNw (x := 35) (by decide +kernel) wd404) ?_
  refine ce_op (okGetR clX0 (k := 9) (x := 172) (by decide +kernel) (by decide) rfl wd366 rfl (by decide +kernel)) ?_
  refine ce_op (okIl1 (k := 1) (by decide +kernel) rfl) ?_
  refine ce_op (okDup2 (by decide +kernel)) ?_
  refine ce_op (okIald (by decide +kernel)) ?_
  refine ce_op (okIl1 (k := 2) (by decide +kernel) rfl) ?_
  refine ce_op (okIadd (by decide +kernel)) ?_
  refine ce_op (okIast (by decide +kernel)) ?_
  refine ce_op (okAl1 (k := 0) (by decide +kernel) rfl) ?_
  refine ce_op (okGetNw (x := 35) (by decide +kernel) wd404) ?_
  refine ce_op (okGetR clX0 (k := 9) (x := 172) (by decide +kernel) (by decide) rfl wd366 rfl (by decide +kernel)) ?_
  refine ce_op (okIl1 (k := 1) (by decide +kernel) rfl) ?_
  refine ce_op (okIald (by decide +kernel)) ?_
  refine ce_op (okIret (by decide +kernel) rfl) ?_
  exact ce_nil
set_option maxRecDepth 100000 in
def cdX6_rounds : List CE := (0, 1, some (oAl 0)) :: (1, 1, some (oIl 1)) :: (2, 1, some (oIl 2)) :: (3, 1, some (oIl 3)) :: (4, 3, some (oCI 6 mX6_gather 4)) :: (7, 1, some oIret) :: []
set_option maxRecDepth 100000 in
set_option maxHeartbeats 4000000 in
theorem okX6_rounds : CodeOk mX6_rounds cdX6_rounds := by
  refine ⟨by rfl, ?_⟩
  show CodeAll mX6_rounds cdX6_rounds
  refine ce_op (okAl1 (k := 0) (by decide +kernel) rfl) ?_
  refine ce_op (okIl1 (k := 1) (by decide +kernel) rfl) ?_
  refine ce_op (okIl1 (k := 2) (by decide +kernel) rfl) ?_
  refine ce_op (okIl1 (k := 3) (by decide +kernel) rfl) ?_
  refine ce_op (okCI miX6_gather (rV clX6 (x := 197) miX6_gather rfl (by decide +kernel) wd644 wd646 wd20)) ?_
  refine ce_op (okIret (by decide +kernel) rfl) ?_
  exact ce_nil
set_option maxRecDepth 100000 in
def cdX6_round : List CE := (0, 1, some (oAl 0)) :: (1, 1, some (oIl 1)) :: (2, 1, some (oIl 2)) :: (3, 1, some (oIl 3)) :: (4, 3, some (oCI 6 mX6_gather 4)) :: (7, 2, some (oIs 6)) ::
  (9, 2, some (oIl 6)) :: (11, 3, some (oIfGe 17)) :: (14, 2, some (oIl 6)) :: (16, 1, some oIret) :: (17, 2, some (oIl 4)) :: (19, 3, some (oIfLt 34)) ::
  (22, 2, some (oIl 4)) :: (24, 2, some (oIl 6)) :: (26, 3, some (oCmGe 34)) :: (29, 2, some (oIl 5)) :: (31, 3, some (oIfGe 36)) :: (34, 1, some (oIc (-1))) ::
  (35, 1, some oIret) :: (36, 1, some (oAl 0)) :: (37, 3, some (oGetR [(6, 49)])) :: (40, 3, some (oGetR [(49, 819273)])) :: (43, 2, some (oIl 4)) :: (45, 1, some oJald) ::
  (46, 2, some (oJs 7)) :: (48, 1, some (oAl 0)) :: (49, 3, some (oGetR [(6, 49)])) :: (52, 3, some (oGetR [(49, 819288)])) :: (55, 2, some (oIl 4)) :: (57, 1, some oIald) ::
  (58, 2, some (oIs 9)) :: (60, 2, some (oIl 5)) :: (62, 30, some (oSw [(0, 92), (1, 95), (2, 107), (3, 134)] 146)) :: (92, 2, some (oIl 9)) :: (94, 1, some oIret) :: (95, 1, some (oAl 0)) ::
  (96, 3, some oGetNw) :: (99, 2, some (oJl 7)) :: (101, 2, some (oIl 9)) :: (103, 3, some (oCI 0 mX0_carriedBy 3)) :: (106, 1, some oIret) :: (107, 1, some (oAl 0)) ::
  (108, 3, some oGetNw) :: (111, 2, some (oJl 7)) :: (113, 2, some (oIl 9)) :: (115, 1, some (oAl 0)) :: (116, 3, some oGetNw) :: (119, 1, some (oAl 0)) ::
  (120, 3, some (oGetI 6 6)) :: (123, 3, some (oCI 0 mX0_missing 2)) :: (126, 1, some (oAl 0)) :: (127, 3, some (oGetI 6 6)) :: (130, 3, some (oCI 0 mX0_takenBy 5)) :: (133, 1, some oIret) ::
  (134, 1, some (oAl 0)) :: (135, 3, some oGetNw) :: (138, 2, some (oJl 7)) :: (140, 2, some (oIl 9)) :: (142, 3, some (oCI 0 mX0_firmsOf 3)) :: (145, 1, some oIret) ::
  (146, 2, some (oIl 5)) :: (148, 1, some (oIc 4)) :: (149, 1, some oIsub) :: (150, 2, some (oIl 9)) :: (152, 3, some (oCmGe 167)) :: (155, 2, some (oJl 7)) ::
  (157, 2, some (oIl 5)) :: (159, 1, some (oIc 4)) :: (160, 1, some oIsub) :: (161, 3, some (oCI 16 mX6_saleAt 2)) :: (164, 3, some (oGoto 168)) :: (167, 1, some (oIc (-1))) ::
  (168, 1, some oIret) :: []
set_option maxRecDepth 100000 in
set_option maxHeartbeats 4000000 in
theorem okX6_round : CodeOk mX6_round cdX6_round := by
  refine ⟨by rfl, ?_⟩
  show CodeAll mX6_round cdX6_round
  refine ce_op (okAl1 (k := 0) (by decide +kernel) rfl) ?_
  refine ce_op (okIl1 (k := 1) (by decide +kernel) rfl) ?_
  refine ce_op (okIl1 (k := 2) (by decide +kernel) rfl) ?_
  refine ce_op (okIl1 (k := 3) (by decide +kernel) rfl) ?_
  refine ce_op (okCI miX6_gather (rV clX6 (x := 197) miX6_gather rfl (by decide +kernel) wd644 wd646 wd20)) ?_
  refine ce_op (okIs2 (by decide +kernel) (by decide)) ?_
  refine ce_op (okIl2 (by decide +kernel)) ?_
  refine ce_op (okIfGe (off := 6) (by decide +kernel) (by decide)) ?_
  refine ce_op (okIl2 (by decide +kernel)) ?_
  refine ce_op (okIret (by decide +kernel) rfl) ?_
  refine ce_op (okIl2 (by decide +kernel)) ?_
  refine ce_op (okIfLt (off := 15) (by decide +kernel) (by decide)) ?_
  refine ce_op (okIl2 (by decide +kernel)) ?_
  refine ce_op (okIl2 (by decide +kernel)) ?_
  refine ce_op (okCmGe (off := 8) (by decide +kernel) (by decide)) ?_
  refine ce_op (okIl2 (by decide +kernel)) ?_
  refine ce_op (okIfGe (off := 5) (by decide +kernel) (by decide)) ?_
  refine ce_op (okIc1 (n := (-1)) (by decide +kernel) (by decide)) ?_
  refine ce_op (okIret (by decide +kernel) rfl) ?_
  refine ce_op (okAl1 (k := 0) (by decide +kernel) rfl) ?_
  refine ce_op (okGetR clX6 (k := 1) (x := 21) (by decide +kernel) (by decide) rfl wd402 rfl (by decide +kernel)) ?_
  refine ce_op (okGetR clX1 (k := 0) (x := 201) (by decide +kernel) (by decide) rfl wd162 rfl (by decide +kernel)) ?_
  refine ce_op (okIl2 (by decide +kernel)) ?_
  refine ce_op (okJald (by decide +kernel)) ?_
  refine ce_op (okJs2 (by decide +kernel) (by decide)) ?_
  refine ce_op (okAl1 (k := 0) (by decide +kernel) rfl) ?_
  refine ce_op (okGetR clX6 (k := 1) (x := 21) (by decide +kernel) (by decide) rfl wd402 rfl (by decide +kernel)) ?_
  refine ce_op (okGetR clX1 (k := 1) (x := 204) (by decide +kernel) (by decide) rfl wd164 rfl (by decide +kernel)) ?_
  refine ce_op (okIl2 (by decide +kernel)) ?_
  refine ce_op (okIald (by decide +kernel)) ?_
  refine ce_op (okIs2 (by decide +kernel) (by decide)) ?_
  refine ce_op (okIl2 (by decide +kernel)) ?_
  refine ce_op (okTsw (dO := 84) (lo := 0) (hi := 3) (offs := #[30, 33, 45, 72]) (by decide +kernel) (by decide) (by decide +kernel) (by decide +kernel) (sw_all (by decide +kernel))) ?_
  refine ce_op (okIl2 (by decide +kernel)) ?_
  refine ce_op (okIret (by decide +kernel) rfl) ?_
  refine ce_op (okAl1 (k := 0) (by decide +kernel) rfl) ?_
  refine ce_op (okGetNw (x := 35) (by decide +kernel) wd404) ?_
  refine ce_op (okJl2 (by decide +kernel)) ?_
  refine ce_op (okIl2 (by decide +kernel)) ?_
  refine ce_op (okCI miX0_carriedBy (rV clX0 (x := 207) miX0_carriedBy rfl (by decide +kernel) wd680 wd681 wd682)) ?_
  refine ce_op (okIret (by decide +kernel) rfl) ?_
  refine ce_op (okAl1 (k := 0) (by decide +kernel) rfl) ?_
  refine ce_op (okGetNw (x := 35) (by decide +kernel) wd404) ?_
  refine ce_op (okJl2 (by decide +kernel)) ?_
  refine ce_op (okIl2 (by decide +kernel)) ?_
  refine ce_op (okAl1 (k := 0) (by decide +kernel) rfl) ?_
  refine ce_op (okGetNw (x := 35) (by decide +kernel) wd404) ?_
  refine ce_op (okAl1 (k := 0) (by decide +kernel) rfl) ?_
  refine ce_op (okGetI clX6 (k := 6) (x := 46) (by decide +kernel) (by decide) rfl wd407 (Or.inl rfl)) ?_
  refine ce_op (okCI miX0_missing (rV clX0 (x := 175) miX0_missing rfl (by decide +kernel) wd620 wd621 wd622)) ?_
  refine ce_op (okAl1 (k := 0) (by decide +kernel) rfl) ?_
  refine ce_op (okGetI clX6 (k := 6) (x := 46) (by decide +kernel) (by decide) rfl wd407 (Or.inl rfl)) ?_
  refine ce_op (okCI miX0_takenBy (rV clX0 (x := 211) miX0_takenBy rfl (by decide +kernel) wd688 wd689 wd690)) ?_
  refine ce_op (okIret (by decide +kernel) rfl) ?_
  refine ce_op (okAl1 (k := 0) (by decide +kernel) rfl) ?_
  refine ce_op (okGetNw (x := 35) (by decide +kernel) wd404) ?_
  refine ce_op (okJl2 (by decide +kernel)) ?_
  refine ce_op (okIl2 (by decide +kernel)) ?_
  refine ce_op (okCI miX0_firmsOf (rV clX0 (x := 215) miX0_firmsOf rfl (by decide +kernel) wd693 wd694 wd695)) ?_
  refine ce_op (okIret (by decide +kernel) rfl) ?_
  refine ce_op (okIl2 (by decide +kernel)) ?_
  refine ce_op (okIc1 (n := 4) (by decide +kernel) (by decide)) ?_
  refine ce_op (okIsub (by decide +kernel)) ?_
  refine ce_op (okIl2 (by decide +kernel)) ?_
  refine ce_op (okCmGe (off := 15) (by decide +kernel) (by decide)) ?_
  refine ce_op (okJl2 (by decide +kernel)) ?_
  refine ce_op (okIl2 (by decide +kernel)) ?_
  refine ce_op (okIc1 (n := 4) (by decide +kernel) (by decide)) ?_
  refine ce_op (okIsub (by decide +kernel)) ?_
  refine ce_op (okCI miX6_saleAt (rS (x := 218) miX6_saleAt (by decide +kernel) wd697 wd685)) ?_
  refine ce_op (okGoto (off := 4) (by decide +kernel) (by decide)) ?_
  refine ce_op (okIc1 (n := (-1)) (by decide +kernel) (by decide)) ?_
  refine ce_op (okIret (by decide +kernel) rfl) ?_
  exact ce_nil
set_option maxRecDepth 100000 in
def cdX6_judge : List CE := (0, 1, some (oIl 2)) :: (1, 1, some (oIc 2)) :: (2, 2, some (oIc 6)) :: (4, 3, some (oCI 16 mX6_within 3)) :: (7, 3, some (oIfEq 19)) :: (10, 1, some (oIl 1)) ::
  (11, 1, some (oIc 0)) :: (12, 1, some (oIc 1)) :: (13, 3, some (oCI 16 mX6_within 3)) :: (16, 3, some (oIfNe 21)) :: (19, 1, some (oIc (-1))) :: (20, 1, some oIret) ::
  (21, 1, some (oIc 0)) :: (22, 2, some (oIs 5)) :: (24, 0, none) :: (24, 2, some (oIl 5)) :: (26, 1, some (oIl 2)) :: (27, 3, some (oCmGe 57)) ::
  (30, 1, some (oAl 0)) :: (31, 3, some oGetNw) :: (34, 3, some (oGetR [(336, 452), (720, 836)])) :: (37, 1, some (oJl 3)) :: (38, 2, some (oIl 5)) :: (40, 3, some (oCI 16 mX6_saleAt 2)) ::
  (43, 3, some (oCI 4 mX4_has 2)) :: (46, 3, some (oIfNe 51)) :: (49, 1, some (oIc (-1))) :: (50, 1, some oIret) :: (51, 3, some (oInc 5 1)) :: (54, 3, some (oGoto 24)) ::
  (57, 1, some (oAl 0)) :: (58, 3, some oGetNw) :: (61, 3, some (oGetR [(336, 452), (720, 836)])) :: (64, 1, some (oIl 1)) :: (65, 1, some (oIl 2)) :: (66, 1, some (oJl 3)) ::
  (67, 1, some (oAl 0)) :: (68, 3, some (oGetI 6 5)) :: (71, 3, some (oCI 4 mX4_goRound 5)) :: (74, 3, some (oIfEq 81)) :: (77, 1, some (oIc 1)) :: (78, 3, some (oGoto 82)) ::
  (81, 1, some (oIc 0)) :: (82, 1, some oIret) :: []
set_option maxRecDepth 100000 in
set_option maxHeartbeats 4000000 in
theorem okX6_judge : CodeOk mX6_judge cdX6_judge := by
  refine ⟨by rfl, ?_⟩
  show CodeAll mX6_judge cdX6_judge
  refine ce_op (okIl1 (k := 2) (by decide +kernel) rfl) ?_
  refine ce_op (okIc1 (n := 2) (by decide +kernel) (by decide)) ?_
  refine ce_op (okIc2 (n := 6) (by decide +kernel) (by decide)) ?_
  refine ce_op (okCI miX6_within (rS (x := 181) miX6_within (by decide +kernel) wd628 wd506)) ?_
  refine ce_op (okIfEq (off := 12) (by decide +kernel) (by decide)) ?_
  refine ce_op (okIl1 (k := 1) (by decide +kernel) rfl) ?_
  refine ce_op (okIc1 (n := 0) (by decide +kernel) (by decide)) ?_
  refine ce_op (okIc1 (n := 1) (by decide +kernel) (by decide)) ?_
  refine ce_op (okCI miX6_within (rS (x := 181) miX6_within (by decide +kernel) wd628 wd506)) ?_
  refine ce_op (okIfNe (off := 5) (by decide +kernel) (by decide)) ?_
  refine ce_op (okIc1 (n := (-1)) (by decide +kernel) (by decide)) ?_
  refine ce_op (okIret (by decide +kernel) rfl) ?_
  refine ce_op (okIc1 (n := 0) (by decide +kernel) (by decide)) ?_
  refine ce_op (okIs2 (by decide +kernel) (by decide)) ?_
  refine ce_st ?_
  refine ce_op (okIl2 (by decide +kernel)) ?_
  refine ce_op (okIl1 (k := 2) (by decide +kernel) rfl) ?_
  refine ce_op (okCmGe (off := 30) (by decide +kernel) (by decide)) ?_
  refine ce_op (okAl1 (k := 0) (by decide +kernel) rfl) ?_
  refine ce_op (okGetNw (x := 35) (by decide +kernel) wd404) ?_
  refine ce_op (okGetR clX0 (k := 3) (x := 109) (by decide +kernel) (by decide) rfl wd351 rfl (by decide +kernel)) ?_
  refine ce_op (okJl1 (k := 3) (by decide +kernel) rfl) ?_
  refine ce_op (okIl2 (by decide +kernel)) ?_
  refine ce_op (okCI miX6_saleAt (rS (x := 218) miX6_saleAt (by decide +kernel) wd697 wd685)) ?_
  refine ce_op (okCI miX4_has (rV clX4 (x := 113) miX4_has rfl (by decide +kernel) wd702 wd703 wd704)) ?_
  refine ce_op (okIfNe (off := 5) (by decide +kernel) (by decide)) ?_
  refine ce_op (okIc1 (n := (-1)) (by decide +kernel) (by decide)) ?_
  refine ce_op (okIret (by decide +kernel) rfl) ?_
  refine ce_op (okInc (n := 1) (by decide +kernel) (by decide)) ?_
  refine ce_op (okGoto (off := (-30)) (by decide +kernel) (by decide)) ?_
  refine ce_op (okAl1 (k := 0) (by decide +kernel) rfl) ?_
  refine ce_op (okGetNw (x := 35) (by decide +kernel) wd404) ?_
  refine ce_op (okGetR clX0 (k := 3) (x := 109) (by decide +kernel) (by decide) rfl wd351 rfl (by decide +kernel)) ?_
  refine ce_op (okIl1 (k := 1) (by decide +kernel) rfl) ?_
  refine ce_op (okIl1 (k := 2) (by decide +kernel) rfl) ?_
  refine ce_op (okJl1 (k := 3) (by decide +kernel) rfl) ?_
  refine ce_op (okAl1 (k := 0) (by decide +kernel) rfl) ?_
  refine ce_op (okGetI clX6 (k := 5) (x := 42) (by decide +kernel) (by decide) rfl wd406 (Or.inl rfl)) ?_
  refine ce_op (okCI miX4_goRound (rV clX4 (x := 221) miX4_goRound rfl (by decide +kernel) wd706 wd707 wd708)) ?_
  refine ce_op (okIfEq (off := 7) (by decide +kernel) (by decide)) ?_
  refine ce_op (okIc1 (n := 1) (by decide +kernel) (by decide)) ?_
  refine ce_op (okGoto (off := 4) (by decide +kernel) (by decide)) ?_
  refine ce_op (okIc1 (n := 0) (by decide +kernel) (by decide)) ?_
  refine ce_op (okIret (by decide +kernel) rfl) ?_
  exact ce_nil
set_option maxRecDepth 100000 in
def cdX6_takes : List CE := (0, 1, some (oAl 0)) :: (1, 1, some (oIl 1)) :: (2, 1, some (oIl 2)) :: (3, 1, some (oIl 3)) :: (4, 3, some (oCI 6 mX6_gather 4)) :: (7, 2, some (oIs 4)) ::
  (9, 2, some (oIl 4)) :: (11, 3, some (oIfGe 18)) :: (14, 2, some (oIl 4)) :: (16, 1, some oI2l) :: (17, 1, some oJret) :: (18, 1, some (oAl 0)) ::
  (19, 3, some oGetNw) :: (22, 1, some (oAl 0)) :: (23, 3, some (oGetI 6 6)) :: (26, 3, some (oCI 0 mX0_missing 2)) :: (29, 2, some (oIs 5)) :: (31, 1, some (oJc 0)) ::
  (32, 2, some (oJs 6)) :: (34, 1, some (oIc 0)) :: (35, 2, some (oIs 8)) :: (37, 0, none) :: (37, 2, some (oIl 8)) :: (39, 2, some (oIl 4)) ::
  (41, 3, some (oCmGe 89)) :: (44, 2, some (oJl 6)) :: (46, 1, some (oAl 0)) :: (47, 3, some oGetNw) :: (50, 1, some (oAl 0)) :: (51, 3, some (oGetR [(6, 49)])) ::
  (54, 3, some (oGetR [(49, 819273)])) :: (57, 2, some (oIl 8)) :: (59, 1, some oJald) :: (60, 1, some (oAl 0)) :: (61, 3, some (oGetR [(6, 49)])) :: (64, 3, some (oGetR [(49, 819288)])) ::
  (67, 2, some (oIl 8)) :: (69, 1, some oIald) :: (70, 2, some (oIl 5)) :: (72, 1, some (oAl 0)) :: (73, 3, some (oGetI 6 6)) :: (76, 3, some (oCI 0 mX0_takenBy 5)) ::
  (79, 1, some oI2l) :: (80, 1, some oLadd) :: (81, 2, some (oJs 6)) :: (83, 3, some (oInc 8 1)) :: (86, 3, some (oGoto 37)) :: (89, 2, some (oJl 6)) ::
  (91, 1, some oJret) :: []
set_option maxRecDepth 100000 in
set_option maxHeartbeats 4000000 in
theorem okX6_takes : CodeOk mX6_takes cdX6_takes := by
  refine ⟨by rfl, ?_⟩
  show CodeAll mX6_takes cdX6_takes
  refine ce_op (okAl1 (k := 0) (by decide +kernel) rfl) ?_
  refine ce_op (okIl1 (k := 1) (by decide +kernel) rfl) ?_
  refine ce_op (okIl1 (k := 2) (by decide +kernel) rfl) ?_
  refine ce_op (okIl1 (k := 3) (by decide +kernel) rfl) ?_
  refine ce_op (okCI miX6_gather (rV clX6 (x := 197) miX6_gather rfl (by decide +kernel) wd644 wd646 wd20)) ?_
  refine ce_op (okIs2 (by decide +kernel) (by decide)) ?_
  refine ce_op (okIl2 (by decide +kernel)) ?_
  refine ce_op (okIfGe (off := 7) (by decide +kernel) (by decide)) ?_
  refine ce_op (okIl2 (by decide +kernel)) ?_
  refine ce_op (okI2l (by decide +kernel)) ?_
  refine ce_op (okJret (by decide +kernel) rfl) ?_
  refine ce_op (okAl1 (k := 0) (by decide +kernel) rfl) ?_
  refine ce_op (okGetNw (x := 35) (by decide +kernel) wd404) ?_
  refine ce_op (okAl1 (k := 0) (by decide +kernel) rfl) ?_
  refine ce_op (okGetI clX6 (k := 6) (x := 46) (by decide +kernel) (by decide) rfl wd407 (Or.inl rfl)) ?_
  refine ce_op (okCI miX0_missing (rV clX0 (x := 175) miX0_missing rfl (by decide +kernel) wd620 wd621 wd622)) ?_
  refine ce_op (okIs2 (by decide +kernel) (by decide)) ?_
  refine ce_op (okJc1 (n := 0) (by decide +kernel) (by decide)) ?_
  refine ce_op (okJs2 (by decide +kernel) (by decide)) ?_
  refine ce_op (okIc1 (n := 0) (by decide +kernel) (by decide)) ?_
  refine ce_op (okIs2 (by decide +kernel) (by decide)) ?_
  refine ce_st ?_
  refine ce_op (okIl2 (by decide +kernel)) ?_
  refine ce_op (okIl2 (by decide +kernel)) ?_
  refine ce_op (okCmGe (off := 48) (by decide +kernel) (by decide)) ?_
  refine ce_op (okJl2 (by decide +kernel)) ?_
  refine ce_op (okAl1 (k := 0) (by decide +kernel) rfl) ?_
  refine ce_op (okGetNw (x := 35) (by decide +kernel) wd404) ?_
  refine ce_op (okAl1 (k := 0) (by decide +kernel) rfl) ?_
  refine ce_op (okGetR clX6 (k := 1) (x := 21) (by decide +kernel) (by decide) rfl wd402 rfl (by decide +kernel)) ?_
  refine ce_op (okGetR clX1 (k := 0) (x := 201) (by decide +kernel) (by decide) rfl wd162 rfl (by decide +kernel)) ?_
  refine ce_op (okIl2 (by decide +kernel)) ?_
  refine ce_op (okJald (by decide +kernel)) ?_
  refine ce_op (okAl1 (k := 0) (by decide +kernel) rfl) ?_
  refine ce_op (okGetR clX6 (k := 1) (x := 21) (by decide +kernel) (by decide) rfl wd402 rfl (by decide +kernel)) ?_
  refine ce_op (okGetR clX1 (k := 1) (x := 204) (by decide +kernel) (by decide) rfl wd164 rfl (by decide +kernel)) ?_
  refine ce_op (okIl2 (by decide +kernel)) ?_
  refine ce_op (okIald (by decide +kernel)) ?_
  refine ce_op (okIl2 (by decide +kernel)) ?_
  refine ce_op (okAl1 (k := 0) (by decide +kernel) rfl) ?_
  refine ce_op (okGetI clX6 (k := 6) (x := 46) (by decide +kernel) (by decide) rfl wd407 (Or.inl rfl)) ?_
  refine ce_op (okCI miX0_takenBy (rV clX0 (x := 211) miX0_takenBy rfl (by decide +kernel) wd688 wd689 wd690)) ?_
  refine ce_op (okI2l (by decide +kernel)) ?_
  refine ce_op (okLadd (by decide +kernel)) ?_
  refine ce_op (okJs2 (by decide +kernel) (by decide)) ?_
  refine ce_op (okInc (n := 1) (by decide +kernel) (by decide)) ?_
  refine ce_op (okGoto (off := (-49)) (by decide +kernel) (by decide)) ?_
  refine ce_op (okJl2 (by decide +kernel)) ?_
  refine ce_op (okJret (by decide +kernel) rfl) ?_
  exact ce_nil
set_option maxRecDepth 100000 in
def cdX6_flow : List CE := (0, 1, some (oAl 0)) :: (1, 3, some oGetNw) :: (4, 3, some (oGetR [(336, 418), (720, 802)])) :: (7, 1, some (oIl 1)) :: (8, 3, some (oCI 2 mX2_has 2)) :: (11, 3, some (oIfEq 28)) ::
  (14, 1, some (oAl 0)) :: (15, 3, some oGetNw) :: (18, 3, some (oGetR [(336, 386), (720, 770)])) :: (21, 1, some (oIl 2)) :: (22, 3, some (oCI 2 mX2_has 2)) :: (25, 3, some (oIfNe 30)) ::
  (28, 1, some (oIc (-1))) :: (29, 1, some oIret) :: (30, 1, some (oAl 0)) :: (31, 3, some (oGetR [(6, 197)])) :: (34, 1, some (oAl 0)) :: (35, 3, some oGetNw) ::
  (38, 3, some (oGetR [(336, 452), (720, 836)])) :: (41, 1, some (oIl 1)) :: (42, 1, some (oIl 2)) :: (43, 1, some (oAl 0)) :: (44, 3, some (oGetI 6 5)) :: (47, 3, some (oCI 5 mX5_most 5)) ::
  (50, 1, some oIret) :: []
set_option maxRecDepth 100000 in
set_option maxHeartbeats 4000000 in
theorem okX6_flow : CodeOk mX6_flow cdX6_flow := by
  refine ⟨by rfl, ?_⟩
  show CodeAll mX6_flow cdX6_flow
  refine ce_op (okAl1 (k := 0) (by decide +kernel) rfl) ?_
  refine ce_op (okGetNw (x := 35) (by decide +kernel) wd404) ?_
  refine ce_op (okGetR clX0 (k := 2) (x := 106) (by decide +kernel) (by decide) rfl wd348 rfl (by decide +kernel)) ?_
  refine ce_op (okIl1 (k := 1) (by decide +kernel) rfl) ?_
  refine ce_op (okCI miX2_has (rV clX2 (x := 155) miX2_has rfl (by decide +kernel) wd599 wd600 wd601)) ?_
  refine ce_op (okIfEq (off := 17) (by decide +kernel) (by decide)) ?_
  refine ce_op (okAl1 (k := 0) (by decide +kernel) rfl) ?_
  refine ce_op (okGetNw (x := 35) (by decide +kernel) wd404) ?_
  refine ce_op (okGetR clX0 (k := 1) (x := 103) (by decide +kernel) (by decide) rfl wd345 rfl (by decide +kernel)) ?_
  refine ce_op (okIl1 (k := 2) (by decide +kernel) rfl) ?_
  refine ce_op (okCI miX2_has (rV clX2 (x := 155) miX2_has rfl (by decide +kernel) wd599 wd600 wd601)) ?_
  refine ce_op (okIfNe (off := 5) (by decide +kernel) (by decide)) ?_
  refine ce_op (okIc1 (n := (-1)) (by decide +kernel) (by decide)) ?_
  refine ce_op (okIret (by decide +kernel) rfl) ?_
  refine ce_op (okAl1 (k := 0) (by decide +kernel) rfl) ?_
  refine ce_op (okGetR clX6 (k := 2) (x := 28) (by decide +kernel) (by decide) rfl wd403 rfl (by decide +kernel)) ?_
  refine ce_op (okAl1 (k := 0) (by decide +kernel) rfl) ?_
  refine ce_op (okGetNw (x := 35) (by decide +kernel) wd404) ?_
  refine ce_op (okGetR clX0 (k := 3) (x := 109) (by decide +kernel) (by decide) rfl wd351 rfl (by decide +kernel)) ?_
  refine ce_op (okIl1 (k := 1) (by decide +kernel) rfl) ?_
  refine ce_op (okIl1 (k := 2) (by decide +kernel) rfl) ?_
  refine ce_op (okAl1 (k := 0) (by decide +kernel) rfl) ?_
  refine ce_op (okGetI clX6 (k := 5) (x := 42) (by decide +kernel) (by decide) rfl wd406 (Or.inl rfl)) ?_
  refine ce_op (okCI miX5_most (rV clX5 (x := 225) miX5_most rfl (by decide +kernel) wd723 wd724 wd725)) ?_
  refine ce_op (okIret (by decide +kernel) rfl) ?_
  exact ce_nil
set_option maxRecDepth 100000 in
def cdX6_luck : List CE := (0, 2, some (oIl 4)) :: (2, 3, some (oIfLt 16)) :: (5, 2, some (oIl 5)) :: (7, 1, some (oIc 1)) :: (8, 2, some (oIc 10)) :: (10, 3, some (oCI 16 mX6_within 3)) ::
  (13, 3, some (oIfNe 18)) :: (16, 1, some (oIc (-1))) :: (17, 1, some oIret) :: (18, 1, some (oAl 0)) :: (19, 1, some (oIl 1)) :: (20, 1, some (oIl 2)) ::
  (21, 1, some (oIl 3)) :: (22, 3, some (oCI 6 mX6_gather 4)) :: (25, 2, some (oIs 6)) :: (27, 2, some (oIl 6)) :: (29, 3, some (oIfGe 35)) :: (32, 2, some (oIl 6)) ::
  (34, 1, some oIret) :: (35, 1, some (oAl 0)) :: (36, 3, some (oGetR [(6, 49)])) :: (39, 3, some (oCV 1 mX1_forget 1)) :: (42, 2, some (oIl 4)) :: (44, 1, some oI2l) ::
  (45, 2, some (oJs 7)) :: (47, 1, some (oIc 0)) :: (48, 2, some (oIs 9)) :: (50, 1, some (oIc 0)) :: (51, 2, some (oIs 10)) :: (53, 0, none) ::
  (53, 2, some (oIl 10)) :: (55, 2, some (oIl 5)) :: (57, 3, some (oCmGe 132)) :: (60, 1, some (oAl 0)) :: (61, 3, some (oGetR [(6, 49)])) :: (64, 1, some (oAl 0)) ::
  (65, 3, some oGetNw) :: (68, 3, some (oGetR [(336, 452), (720, 836)])) :: (71, 1, some (oIl 1)) :: (72, 1, some (oAl 0)) :: (73, 3, some (oGetI 6 5)) :: (76, 3, some (oCV 1 mX1_load 4)) ::
  (79, 1, some (oAl 0)) :: (80, 3, some (oGetR [(6, 49)])) :: (83, 2, some (oJl 7)) :: (85, 3, some (oCJ 1 mX1_shuffle 2)) :: (88, 2, some (oJs 7)) :: (90, 1, some (oAl 0)) ::
  (91, 3, some (oGetR [(6, 49)])) :: (94, 1, some (oIl 2)) :: (95, 1, some (oIl 3)) :: (96, 3, some (oCI 1 mX1_search 3)) :: (99, 2, some (oIs 11)) :: (101, 2, some (oIl 11)) ::
  (103, 3, some (oIfGe 109)) :: (106, 2, some (oIc (-2))) :: (108, 1, some oIret) :: (109, 2, some (oIl 9)) :: (111, 2, some (oIl 11)) :: (113, 2, some (oIl 6)) ::
  (115, 3, some (oCmLt 122)) :: (118, 1, some (oIc 1)) :: (119, 3, some (oGoto 123)) :: (122, 1, some (oIc 0)) :: (123, 1, some oIadd) :: (124, 2, some (oIs 9)) ::
  (126, 3, some (oInc 10 1)) :: (129, 3, some (oGoto 53)) :: (132, 2, some (oIl 9)) :: (134, 1, some oIret) :: []
set_option maxRecDepth 100000 in
set_option maxHeartbeats 4000000 in
theorem okX6_luck : CodeOk mX6_luck cdX6_luck := by
  refine ⟨by rfl, ?_⟩
  show CodeAll mX6_luck cdX6_luck
  refine ce_op (okIl2 (by decide +kernel)) ?_
  refine ce_op (okIfLt (off := 14) (by decide +kernel) (by decide)) ?_
  refine ce_op (okIl2 (by decide +kernel)) ?_
  refine ce_op (okIc1 (n := 1) (by decide +kernel) (by decide)) ?_
  refine ce_op (okIc2 (n := 10) (by decide +kernel) (by decide)) ?_
  refine ce_op (okCI miX6_within (rS (x := 181) miX6_within (by decide +kernel) wd628 wd506)) ?_
  refine ce_op (okIfNe (off := 5) (by decide +kernel) (by decide)) ?_
  refine ce_op (okIc1 (n := (-1)) (by decide +kernel) (by decide)) ?_
  refine ce_op (okIret (by decide +kernel) rfl) ?_
  refine ce_op (okAl1 (k := 0) (by decide +kernel) rfl) ?_
  refine ce_op (okIl1 (k := 1) (by decide +kernel) rfl) ?_
  refine ce_op (okIl1 (k := 2) (by decide +kernel) rfl) ?_
  refine ce_op (okIl1 (k := 3) (by decide +kernel) rfl) ?_
  refine ce_op (okCI miX6_gather (rV clX6 (x := 197) miX6_gather rfl (by decide +kernel) wd644 wd646 wd20)) ?_
  refine ce_op (okIs2 (by decide +kernel) (by decide)) ?_
  refine ce_op (okIl2 (by decide +kernel)) ?_
  refine ce_op (okIfGe (off := 6) (by decide +kernel) (by decide)) ?_
  refine ce_op (okIl2 (by decide +kernel)) ?_
  refine ce_op (okIret (by decide +kernel) rfl) ?_
  refine ce_op (okAl1 (k := 0) (by decide +kernel) rfl) ?_
  refine ce_op (okGetR clX6 (k := 1) (x := 21) (by decide +kernel) (by decide) rfl wd402 rfl (by decide +kernel)) ?_
  refine ce_op (okCV miX1_forget (rV clX1 (x := 84) miX1_forget rfl (by decide +kernel) wd582 wd583 wd584)) ?_
  refine ce_op (okIl2 (by decide +kernel)) ?_
  refine ce_op (okI2l (by decide +kernel)) ?_
  refine ce_op (okJs2 (by decide +kernel) (by decide)) ?_
  refine ce_op (okIc1 (n := 0) (by decide +kernel) (by decide)) ?_
  refine ce_op (okIs2 (by decide +kernel) (by decide)) ?_
  refine ce_op (okIc1 (n := 0) (by decide +kernel) (by decide)) ?_
  refine ce_op (okIs2 (by decide +kernel) (by decide)) ?_
  refine ce_st ?_
  refine ce_op (okIl2 (by decide +kernel)) ?_
  refine ce_op (okIl2 (by decide +kernel)) ?_
  refine ce_op (okCmGe (off := 75) (by decide +kernel) (by decide)) ?_
  refine ce_op (okAl1 (k := 0) (by decide +kernel) rfl) ?_
  refine ce_op (okGetR clX6 (k := 1) (x := 21) (by decide +kernel) (by decide) rfl wd402 rfl (by decide +kernel)) ?_
  refine ce_op (okAl1 (k := 0) (by decide +kernel) rfl) ?_
  refine ce_op (okGetNw (x := 35) (by decide +kernel) wd404) ?_
  refine ce_op (okGetR clX0 (k := 3) (x := 109) (by decide +kernel) (by decide) rfl wd351 rfl (by decide +kernel)) ?_
  refine ce_op (okIl1 (k := 1) (by decide +kernel) rfl) ?_
  refine ce_op (okAl1 (k := 0) (by decide +kernel) rfl) ?_
  refine ce_op (okGetI clX6 (k := 5) (x := 42) (by decide +kernel) (by decide) rfl wd406 (Or.inl rfl)) ?_
  refine ce_op (okCV miX1_load (rV clX1 (x := 229) miX1_load rfl (by decide +kernel) wd769 wd653 wd654)) ?_
  refine ce_op (okAl1 (k := 0) (by decide +kernel) rfl) ?_
  refine ce_op (okGetR clX6 (k := 1) (x := 21) (by decide +kernel) (by decide) rfl wd402 rfl (by decide +kernel)) ?_
  refine ce_op (okJl2 (by decide +kernel)) ?_
  refine ce_op (okCJ miX1_shuffle (rV clX1 (x := 233) miX1_shuffle rfl (by decide +kernel) wd770 wd771 wd772)) ?_
  refine ce_op (okJs2 (by decide +kernel) (by decide)) ?_
  refine ce_op (okAl1 (k := 0) (by decide +kernel) rfl) ?_
  refine ce_op (okGetR clX6 (k := 1) (x := 21) (by decide +kernel) (by decide) rfl wd402 rfl (by decide +kernel)) ?_
  refine ce_op (okIl1 (k := 2) (by decide +kernel) rfl) ?_
  refine ce_op (okIl1 (k := 3) (by decide +kernel) rfl) ?_
  refine ce_op (okCI miX1_search (rV clX1 (x := 237) miX1_search rfl (by decide +kernel) wd778 wd657 wd658)) ?_
  refine ce_op (okIs2 (by decide +kernel) (by decide)) ?_
  refine ce_op (okIl2 (by decide +kernel)) ?_
  refine ce_op (okIfGe (off := 6) (by decide +kernel) (by decide)) ?_
  refine ce_op (okIc2 (n := (-2)) (by decide +kernel) (by decide)) ?_
  refine ce_op (okIret (by decide +kernel) rfl) ?_
  refine ce_op (okIl2 (by decide +kernel)) ?_
  refine ce_op (okIl2 (by decide +kernel)) ?_
  refine ce_op (okIl2 (by decide +kernel)) ?_
  refine ce_op (okCmLt (off := 7) (by decide +kernel) (by decide)) ?_
  refine ce_op (okIc1 (n := 1) (by decide +kernel) (by decide)) ?_
  refine ce_op (okGoto (off := 4) (by decide +kernel) (by decide)) ?_
  refine ce_op (okIc1 (n := 0) (by decide +kernel) (by decide)) ?_
  refine ce_op (okIadd (by decide +kernel)) ?_
  refine ce_op (okIs2 (by decide +kernel) (by decide)) ?_
  refine ce_op (okInc (n := 1) (by decide +kernel) (by decide)) ?_
  refine ce_op (okGoto (off := (-76)) (by decide +kernel) (by decide)) ?_
  refine ce_op (okIl2 (by decide +kernel)) ?_
  refine ce_op (okIret (by decide +kernel) rfl) ?_
  exact ce_nil
set_option maxRecDepth 100000 in
def cdX6_signs : List CE := (0, 1, some (oAl 0)) :: (1, 3, some oGetNw) :: (4, 3, some (oGetR [(336, 418), (720, 802)])) :: (7, 1, some (oIl 1)) :: (8, 3, some (oCI 2 mX2_has 2)) :: (11, 3, some (oIfNe 16)) ::
  (14, 1, some (oIc (-1))) :: (15, 1, some oIret) :: (16, 1, some (oAl 0)) :: (17, 1, some (oIl 2)) :: (18, 1, some (oIl 3)) :: (19, 2, some (oIl 4)) ::
  (21, 3, some (oCI 6 mX6_gather 4)) :: (24, 2, some (oIs 5)) :: (26, 2, some (oIl 5)) :: (28, 3, some (oIfGe 36)) :: (31, 2, some (oIl 5)) :: (33, 3, some (oGoto 54)) ::
  (36, 1, some (oAl 0)) :: (37, 1, some (oIl 1)) :: (38, 1, some (oAl 0)) :: (39, 3, some oGetNw) :: (42, 1, some (oAl 0)) :: (43, 3, some (oGetI 6 6)) ::
  (46, 3, some (oCI 0 mX0_missing 2)) :: (49, 2, some (oIl 5)) :: (51, 3, some (oCI 6 mX6_signBits 4)) :: (54, 1, some oIret) :: []
set_option maxRecDepth 100000 in
set_option maxHeartbeats 4000000 in
theorem okX6_signs : CodeOk mX6_signs cdX6_signs := by
  refine ⟨by rfl, ?_⟩
  show CodeAll mX6_signs cdX6_signs
  refine ce_op (okAl1 (k := 0) (by decide +kernel) rfl) ?_
  refine ce_op (okGetNw (x := 35) (by decide +kernel) wd404) ?_
  refine ce_op (okGetR clX0 (k := 2) (x := 106) (by decide +kernel) (by decide) rfl wd348 rfl (by decide +kernel)) ?_
  refine ce_op (okIl1 (k := 1) (by decide +kernel) rfl) ?_
  refine ce_op (okCI miX2_has (rV clX2 (x := 155) miX2_has rfl (by decide +kernel) wd599 wd600 wd601)) ?_
  refine ce_op (okIfNe (off := 5) (by decide +kernel) (by decide)) ?_
  refine ce_op (okIc1 (n := (-1)) (by decide +kernel) (by decide)) ?_
  refine ce_op (okIret (by decide +kernel) rfl) ?_
  refine ce_op (okAl1 (k := 0) (by decide +kernel) rfl) ?_
  refine ce_op (okIl1 (k := 2) (by decide +kernel) rfl) ?_
  refine ce_op (okIl1 (k := 3) (by decide +kernel) rfl) ?_
  refine ce_op (okIl2 (by decide +kernel)) ?_
  refine ce_op (okCI miX6_gather (rV clX6 (x := 197) miX6_gather rfl (by decide +kernel) wd644 wd646 wd20)) ?_
  refine ce_op (okIs2 (by decide +kernel) (by decide)) ?_
  refine ce_op (okIl2 (by decide +kernel)) ?_
  refine ce_op (okIfGe (off := 8) (by decide +kernel) (by decide)) ?_
  refine ce_op (okIl2 (by decide +kernel)) ?_
  refine ce_op (okGoto (off := 21) (by decide +kernel) (by decide)) ?_
  refine ce_op (okAl1 (k := 0) (by decide +kernel) rfl) ?_
  refine ce_op (okIl1 (k := 1) (by decide +kernel) rfl) ?_
  refine ce_op (okAl1 (k := 0) (by decide +kernel) rfl) ?_
  refine ce_op (okGetNw (x := 35) (by decide +kernel) wd404) ?_
  refine ce_op (okAl1 (k := 0) (by decide +kernel) rfl) ?_
  refine ce_op (okGetI clX6 (k := 6) (x := 46) (by decide +kernel) (by decide) rfl wd407 (Or.inl rfl)) ?_
  refine ce_op (okCI miX0_missing (rV clX0 (x := 175) miX0_missing rfl (by decide +kernel) wd620 wd621 wd622)) ?_
  refine ce_op (okIl2 (by decide +kernel)) ?_
  refine ce_op (okCI miX6_signBits (rV clX6 (x := 240) miX6_signBits rfl (by decide +kernel) wd783 wd785 wd35)) ?_
  refine ce_op (okIret (by decide +kernel) rfl) ?_
  exact ce_nil
set_option maxRecDepth 100000 in
def cdX6_knew : List CE := (0, 1, some (oIl 1)) :: (1, 1, some (oIc 1)) :: (2, 2, some (oIc 15)) :: (4, 3, some (oCI 16 mX6_within 3)) :: (7, 3, some (oIfEq 20)) :: (10, 2, some (oIl 5)) ::
  (12, 1, some (oIc 0)) :: (13, 1, some (oIc 1)) :: (14, 3, some (oCI 16 mX6_within 3)) :: (17, 3, some (oIfNe 22)) :: (20, 1, some (oIc (-1))) :: (21, 1, some oIret) ::
  (22, 1, some (oAl 0)) :: (23, 1, some (oIl 2)) :: (24, 1, some (oIl 3)) :: (25, 2, some (oIl 4)) :: (27, 3, some (oCI 6 mX6_gather 4)) :: (30, 2, some (oIs 6)) ::
  (32, 2, some (oIl 6)) :: (34, 3, some (oIfGe 40)) :: (37, 2, some (oIl 6)) :: (39, 1, some oIret) :: (40, 1, some (oAl 0)) :: (41, 3, some oGetNw) ::
  (44, 1, some (oAl 0)) :: (45, 3, some (oGetI 6 6)) :: (48, 3, some (oCI 0 mX0_missing 2)) :: (51, 2, some (oIs 7)) :: (53, 1, some (oIc 0)) :: (54, 2, some (oIs 8)) ::
  (56, 1, some (oIc 0)) :: (57, 2, some (oIs 9)) :: (59, 0, none) :: (59, 2, some (oIl 9)) :: (61, 1, some (oAl 0)) :: (62, 3, some oGetNw) ::
  (65, 3, some (oGetR [(336, 418), (720, 802)])) :: (68, 3, some (oGetI 2 1)) :: (71, 3, some (oCmGe 149)) :: (74, 1, some (oAl 0)) :: (75, 2, some (oIl 9)) :: (77, 2, some (oIl 7)) ::
  (79, 2, some (oIl 6)) :: (81, 3, some (oCI 6 mX6_signBits 4)) :: (84, 1, some (oIl 1)) :: (85, 1, some oIand) :: (86, 2, some (oIs 10)) :: (88, 2, some (oIl 5)) ::
  (90, 3, some (oIfNe 107)) :: (93, 2, some (oIl 10)) :: (95, 1, some (oIl 1)) :: (96, 3, some (oCmNe 103)) :: (99, 1, some (oIc 1)) :: (100, 3, some (oGoto 117)) ::
  (103, 1, some (oIc 0)) :: (104, 3, some (oGoto 117)) :: (107, 2, some (oIl 10)) :: (109, 3, some (oIfEq 116)) :: (112, 1, some (oIc 1)) :: (113, 3, some (oGoto 117)) ::
  (116, 1, some (oIc 0)) :: (117, 2, some (oIs 11)) :: (119, 2, some (oIl 11)) :: (121, 3, some (oIfEq 143)) :: (124, 2, some (oIl 7)) :: (126, 2, some (oIl 9)) ::
  (128, 1, some oIshr) :: (129, 1, some (oIc 1)) :: (130, 1, some oIand) :: (131, 3, some (oIfNe 143)) :: (134, 2, some (oIl 8)) :: (136, 1, some (oIc 1)) ::
  (137, 2, some (oIl 9)) :: (139, 1, some oIshl) :: (140, 1, some oIor) :: (141, 2, some (oIs 8)) :: (143, 3, some (oInc 9 1)) :: (146, 3, some (oGoto 59)) ::
  (149, 2, some (oIl 8)) :: (151, 1, some oIret) :: []
set_option maxRecDepth 100000 in
set_option maxHeartbeats 4000000 in
theorem okX6_knew : CodeOk mX6_knew cdX6_knew := by
  refine ⟨by rfl, ?_⟩
  show CodeAll mX6_knew cdX6_knew
  refine ce_op (okIl1 (k := 1) (by decide +kernel) rfl) ?_
  refine ce_op (okIc1 (n := 1) (by decide +kernel) (by decide)) ?_
  refine ce_op (okIc2 (n := 15) (by decide +kernel) (by decide)) ?_
  refine ce_op (okCI miX6_within (rS (x := 181) miX6_within (by decide +kernel) wd628 wd506)) ?_
  refine ce_op (okIfEq (off := 13) (by decide +kernel) (by decide)) ?_
  refine ce_op (okIl2 (by decide +kernel)) ?_
  refine ce_op (okIc1 (n := 0) (by decide +kernel) (by decide)) ?_
  refine ce_op (okIc1 (n := 1) (by decide +kernel) (by decide)) ?_
  refine ce_op (okCI miX6_within (rS (x := 181) miX6_within (by decide +kernel) wd628 wd506)) ?_
  refine ce_op (okIfNe (off := 5) (by decide +kernel) (by decide)) ?_
  refine ce_op (okIc1 (n := (-1)) (by decide +kernel) (by decide)) ?_
  refine ce_op (okIret (by decide +kernel) rfl) ?_
  refine ce_op (okAl1 (k := 0) (by decide +kernel) rfl) ?_
  refine ce_op (okIl1 (k := 2) (by decide +kernel) rfl) ?_
  refine ce_op (okIl1 (k := 3) (by decide +kernel) rfl) ?_
  refine ce_op (okIl2 (by decide +kernel)) ?_
  refine ce_op (okCI miX6_gather (rV clX6 (x := 197) miX6_gather rfl (by decide +kernel) wd644 wd646 wd20)) ?_
  refine ce_op (okIs2 (by decide +kernel) (by decide)) ?_
  refine ce_op (okIl2 (by decide +kernel)) ?_
  refine ce_op (okIfGe (off := 6) (by decide +kernel) (by decide)) ?_
  refine ce_op (okIl2 (by decide +kernel)) ?_
  refine ce_op (okIret (by decide +kernel) rfl) ?_
  refine ce_op (okAl1 (k := 0) (by decide +kernel) rfl) ?_
  refine ce_op (okGetNw (x := 35) (by decide +kernel) wd404) ?_
  refine ce_op (okAl1 (k := 0) (by decide +kernel) rfl) ?_
  refine ce_op (okGetI clX6 (k := 6) (x := 46) (by decide +kernel) (by decide) rfl wd407 (Or.inl rfl)) ?_
  refine ce_op (okCI miX0_missing (rV clX0 (x := 175) miX0_missing rfl (by decide +kernel) wd620 wd621 wd622)) ?_
  refine ce_op (okIs2 (by decide +kernel) (by decide)) ?_
  refine ce_op (okIc1 (n := 0) (by decide +kernel) (by decide)) ?_
  refine ce_op (okIs2 (by decide +kernel) (by decide)) ?_
  refine ce_op (okIc1 (n := 0) (by decide +kernel) (by decide)) ?_
  refine ce_op (okIs2 (by decide +kernel) (by decide)) ?_
  refine ce_st ?_
  refine ce_op (okIl2 (by decide +kernel)) ?_
  refine ce_op (okAl1 (k := 0) (by decide +kernel) rfl) ?_
  refine ce_op (okGetNw (x := 35) (by decide +kernel) wd404) ?_
  refine ce_op (okGetR clX0 (k := 2) (x := 106) (by decide +kernel) (by decide) rfl wd348 rfl (by decide +kernel)) ?_
  refine ce_op (okGetI clX2 (k := 1) (x := 243) (by decide +kernel) (by decide) rfl wd273 (Or.inl rfl)) ?_
  refine ce_op (okCmGe (off := 78) (by decide +kernel) (by decide)) ?_
  refine ce_op (okAl1 (k := 0) (by decide +kernel) rfl) ?_
  refine ce_op (okIl2 (by decide +kernel)) ?_
  refine ce_op (okIl2 (by decide +kernel)) ?_
  refine ce_op (okIl2 (by decide +kernel)) ?_
  refine ce_op (okCI miX6_signBits (rV clX6 (x := 240) miX6_signBits rfl (by decide +kernel) wd783 wd785 wd35)) ?_
  refine ce_op (okIl1 (k := 1) (by decide +kernel) rfl) ?_
  refine ce_op (okIand (by decide +kernel)) ?_
  refine ce_op (okIs2 (by decide +kernel) (by decide)) ?_
  refine ce_op (okIl2 (by decide +kernel)) ?_
  refine ce_op (okIfNe (off := 17) (by decide +kernel) (by decide)) ?_
  refine ce_op (okIl2 (by decide +kernel)) ?_
  refine ce_op (okIl1 (k := 1) (by decide +kernel) rfl) ?_
  refine ce_op (okCmNe (off := 7) (by decide +kernel) (by decide)) ?_
  refine ce_op (okIc1 (n := 1) (by decide +kernel) (by decide)) ?_
  refine ce_op (okGoto (off := 17) (by decide +kernel) (by decide)) ?_
  refine ce_op (okIc1 (n := 0) (by decide +kernel) (by decide)) ?_
  refine ce_op (okGoto (off := 13) (by decide +kernel) (by decide)) ?_
  refine ce_op (okIl2 (by decide +kernel)) ?_
  refine ce_op (okIfEq (off := 7) (by decide +kernel) (by decide)) ?_
  refine ce_op (okIc1 (n := 1) (by decide +kernel) (by decide)) ?_
  refine ce_op (okGoto (off := 4) (by decide +kernel) (by decide)) ?_
  refine ce_op (okIc1 (n := 0) (by decide +kernel) (by decide)) ?_
  refine ce_op (okIs2 (by decide +kernel) (by decide)) ?_
  refine ce_op (okIl2 (by decide +kernel)) ?_
  refine ce_op (okIfEq (off := 22) (by decide +kernel) (by decide)) ?_
  refine ce_op (okIl2 (by decide +kernel)) ?_
  refine ce_op (okIl2 (by decide +kernel)) ?_
  refine ce_op (okIshr (by decide +kernel)) ?_
  refine ce_op (okIc1 (n := 1) (by decide +kernel) (by decide)) ?_
  refine ce_op (okIand (by decide +kernel)) ?_
  refine ce_op (okIfNe (off := 12) (by decide +kernel) (by decide)) ?_
  refine ce_op (okIl2 (by decide +kernel)) ?_
  refine ce_op (okIc1 (n := 1) (by decide +kernel) (by decide)) ?_
  refine ce_op (okIl2 (by decide +kernel)) ?_
  refine ce_op (okIshl (by decide +kernel)) ?_
  refine ce_op (okIor (by decide +kernel)) ?_
  refine ce_op (okIs2 (by decide +kernel) (by decide)) ?_
  refine ce_op (okInc (n := 1) (by decide +kernel) (by decide)) ?_
  refine ce_op (okGoto (off := (-87)) (by decide +kernel) (by decide)) ?_
  refine ce_op (okIl2 (by decide +kernel)) ?_
  refine ce_op (okIret (by decide +kernel) rfl) ?_
  exact ce_nil
set_option maxRecDepth 100000 in
def cdX6_hands : List CE := (0, 1, some (oIc 0)) :: (1, 1, some (oIs 1)) :: (2, 1, some (oIc 0)) :: (3, 1, some (oIs 2)) :: (4, 0, none) :: (4, 1, some (oIl 2)) ::
  (5, 1, some (oAl 0)) :: (6, 3, some oGetNw) :: (9, 3, some (oGetR [(336, 418), (720, 802)])) :: (12, 3, some (oGetI 2 1)) :: (15, 3, some (oCmGe 45)) :: (18, 1, some (oIl 1)) ::
  (19, 1, some (oAl 0)) :: (20, 3, some oGetNw) :: (23, 3, some (oGetR [(336, 49848), (720, 50232)])) :: (26, 1, some (oIl 2)) :: (27, 1, some oIald) :: (28, 1, some (oIl 2)) ::
  (29, 3, some (oCmNe 36)) :: (32, 1, some (oIc 1)) :: (33, 3, some (oGoto 37)) :: (36, 1, some (oIc 0)) :: (37, 1, some oIadd) :: (38, 1, some (oIs 1)) ::
  (39, 3, some (oInc 2 1)) :: (42, 3, some (oGoto 4)) :: (45, 1, some (oIl 1)) :: (46, 1, some oIret) :: []
set_option maxRecDepth 100000 in
set_option maxHeartbeats 4000000 in
theorem okX6_hands : CodeOk mX6_hands cdX6_hands := by
  refine ⟨by rfl, ?_⟩
  show CodeAll mX6_hands cdX6_hands
  refine ce_op (okIc1 (n := 0) (by decide +kernel) (by decide)) ?_
  refine ce_op (okIs1 (k := 1) (by decide +kernel) rfl (by decide)) ?_
  refine ce_op (okIc1 (n := 0) (by decide +kernel) (by decide)) ?_
  refine ce_op (okIs1 (k := 2) (by decide +kernel) rfl (by decide)) ?_
  refine ce_st ?_
  refine ce_op (okIl1 (k := 2) (by decide +kernel) rfl) ?_
  refine ce_op (okAl1 (k := 0) (by decide +kernel) rfl) ?_
  refine ce_op (okGetNw (x := 35) (by decide +kernel) wd404) ?_
  refine ce_op (okGetR clX0 (k := 2) (x := 106) (by decide +kernel) (by decide) rfl wd348 rfl (by decide +kernel)) ?_
  refine ce_op (okGetI clX2 (k := 1) (x := 243) (by decide +kernel) (by decide) rfl wd273 (Or.inl rfl)) ?_
  refine ce_op (okCmGe (off := 30) (by decide +kernel) (by decide)) ?_
  refine ce_op (okIl1 (k := 1) (by decide +kernel) rfl) ?_
  refine ce_op (okAl1 (k := 0) (by decide +kernel) rfl) ?_
  refine ce_op (okGetNw (x := 35) (by decide +kernel) wd404) ?_
  refine ce_op (okGetR clX0 (k := 11) (x := 178) (by decide +kernel) (by decide) rfl wd371 rfl (by decide +kernel)) ?_
  refine ce_op (okIl1 (k := 2) (by decide +kernel) rfl) ?_
  refine ce_op (okIald (by decide +kernel)) ?_
  refine ce_op (okIl1 (k := 2) (by decide +kernel) rfl) ?_
  refine ce_op (okCmNe (off := 7) (by decide +kernel) (by decide)) ?_
  refine ce_op (okIc1 (n := 1) (by decide +kernel) (by decide)) ?_
  refine ce_op (okGoto (off := 4) (by decide +kernel) (by decide)) ?_
  refine ce_op (okIc1 (n := 0) (by decide +kernel) (by decide)) ?_
  refine ce_op (okIadd (by decide +kernel)) ?_
  refine ce_op (okIs1 (k := 1) (by decide +kernel) rfl (by decide)) ?_
  refine ce_op (okInc (n := 1) (by decide +kernel) (by decide)) ?_
  refine ce_op (okGoto (off := (-38)) (by decide +kernel) (by decide)) ?_
  refine ce_op (okIl1 (k := 1) (by decide +kernel) rfl) ?_
  refine ce_op (okIret (by decide +kernel) rfl) ?_
  exact ce_nil
set_option maxRecDepth 100000 in
def cdX6_lacking : List CE := (0, 1, some (oIl 1)) :: (1, 1, some (oIc 1)) :: (2, 2, some (oIc 99)) :: (4, 3, some (oCI 16 mX6_within 3)) :: (7, 3, some (oIfNe 12)) :: (10, 1, some (oIc (-1))) ::
  (11, 1, some oIret) :: (12, 1, some (oAl 0)) :: (13, 3, some oGetNw) :: (16, 3, some (oGetR [(336, 452), (720, 836)])) :: (19, 1, some (oIl 1)) :: (20, 3, some (oCI 4 mX4_gapsOf 2)) ::
  (23, 1, some oIret) :: []
set_option maxRecDepth 100000 in
set_option maxHeartbeats 4000000 in
theorem okX6_lacking : CodeOk mX6_lacking cdX6_lacking := by
  refine ⟨by rfl, ?_⟩
  show CodeAll mX6_lacking cdX6_lacking
  refine ce_op (okIl1 (k := 1) (by decide +kernel) rfl) ?_
  refine ce_op (okIc1 (n := 1) (by decide +kernel) (by decide)) ?_
  refine ce_op (okIc2 (n := 99) (by decide +kernel) (by decide)) ?_
  refine ce_op (okCI miX6_within (rS (x := 181) miX6_within (by decide +kernel) wd628 wd506)) ?_
  refine ce_op (okIfNe (off := 5) (by decide +kernel) (by decide)) ?_
  refine ce_op (okIc1 (n := (-1)) (by decide +kernel) (by decide)) ?_
  refine ce_op (okIret (by decide +kernel) rfl) ?_
  refine ce_op (okAl1 (k := 0) (by decide +kernel) rfl) ?_
  refine ce_op (okGetNw (x := 35) (by decide +kernel) wd404) ?_
  refine ce_op (okGetR clX0 (k := 3) (x := 109) (by decide +kernel) (by decide) rfl wd351 rfl (by decide +kernel)) ?_
  refine ce_op (okIl1 (k := 1) (by decide +kernel) rfl) ?_
  refine ce_op (okCI miX4_gapsOf (rV clX4 (x := 244) miX4_gapsOf rfl (by decide +kernel) wd823 wd824 wd825)) ?_
  refine ce_op (okIret (by decide +kernel) rfl) ?_
  exact ce_nil
set_option maxRecDepth 100000 in
def cdX6_stop : List CE := (0, 1, some (oIl 1)) :: (1, 1, some (oAl 0)) :: (2, 3, some oGetNw) :: (5, 3, some (oGetR [(336, 418), (720, 802)])) :: (8, 3, some (oGetI 2 1)) :: (11, 3, some (oCI 16 mX6_areBits 2)) ::
  (14, 3, some (oIfNe 19)) :: (17, 1, some (oIc (-1))) :: (18, 1, some oIret) :: (19, 1, some (oAl 0)) :: (20, 1, some (oIl 1)) :: (21, 3, some (oPutI 6 5)) ::
  (24, 1, some (oIl 1)) :: (25, 3, some (oCI 16 mJ6_bitCount_0f7a4 1)) :: (28, 1, some oIret) :: []
set_option maxRecDepth 100000 in
set_option maxHeartbeats 4000000 in
theorem okX6_stop : CodeOk mX6_stop cdX6_stop := by
  refine ⟨by rfl, ?_⟩
  show CodeAll mX6_stop cdX6_stop
  refine ce_op (okIl1 (k := 1) (by decide +kernel) rfl) ?_
  refine ce_op (okAl1 (k := 0) (by decide +kernel) rfl) ?_
  refine ce_op (okGetNw (x := 35) (by decide +kernel) wd404) ?_
  refine ce_op (okGetR clX0 (k := 2) (x := 106) (by decide +kernel) (by decide) rfl wd348 rfl (by decide +kernel)) ?_
  refine ce_op (okGetI clX2 (k := 1) (x := 243) (by decide +kernel) (by decide) rfl wd273 (Or.inl rfl)) ?_
  refine ce_op (okCI miX6_areBits (rS (x := 247) miX6_areBits (by decide +kernel) wd839 wd840)) ?_
  refine ce_op (okIfNe (off := 5) (by decide +kernel) (by decide)) ?_
  refine ce_op (okIc1 (n := (-1)) (by decide +kernel) (by decide)) ?_
  refine ce_op (okIret (by decide +kernel) rfl) ?_
  refine ce_op (okAl1 (k := 0) (by decide +kernel) rfl) ?_
  refine ce_op (okIl1 (k := 1) (by decide +kernel) rfl) ?_
  refine ce_op (okPutI clX6 (k := 5) (x := 42) (by decide +kernel) (by decide) rfl wd406 rfl rfl (by decide +kernel)) ?_
  refine ce_op (okIl1 (k := 1) (by decide +kernel) rfl) ?_
  refine ce_op (okCI miJ6_bitCount_0f7a4 (rS (x := 251) miJ6_bitCount_0f7a4 (by decide +kernel) wd842 wd843)) ?_
  refine ce_op (okIret (by decide +kernel) rfl) ?_
  exact ce_nil
set_option maxRecDepth 100000 in
def cdX6_fewest : List CE := (0, 2, some (oJl 4)) :: (2, 1, some (oJc 0)) :: (3, 1, some oLcmp) :: (4, 3, some (oIfGe 9)) :: (7, 1, some (oIc (-1))) :: (8, 1, some oIret) ::
  (9, 1, some (oAl 0)) :: (10, 1, some (oIl 1)) :: (11, 1, some (oIl 2)) :: (12, 1, some (oIl 3)) :: (13, 3, some (oCI 6 mX6_gather 4)) :: (16, 2, some (oIs 6)) ::
  (18, 2, some (oIl 6)) :: (20, 3, some (oIfGe 26)) :: (23, 2, some (oIl 6)) :: (25, 1, some oIret) :: (26, 1, some (oAl 0)) :: (27, 2, some (oIl 6)) ::
  (29, 3, some (oCI 6 mX6_keepWorthy 2)) :: (32, 2, some (oIs 7)) :: (34, 1, some (oAl 0)) :: (35, 3, some oGetNw) :: (38, 3, some (oGetR [(336, 418), (720, 802)])) :: (41, 3, some (oGetI 2 1)) ::
  (44, 2, some (oIs 8)) :: (46, 1, some (oIc 0)) :: (47, 2, some (oIs 9)) :: (49, 0, none) :: (49, 2, some (oIl 9)) :: (51, 2, some (oIl 8)) ::
  (53, 3, some (oCmGe 106)) :: (56, 1, some (oIc 0)) :: (57, 2, some (oIs 10)) :: (59, 0, none) :: (59, 2, some (oIl 10)) :: (61, 1, some (oIc 1)) ::
  (62, 2, some (oIl 8)) :: (64, 1, some oIshl) :: (65, 3, some (oCmGe 100)) :: (68, 2, some (oIl 10)) :: (70, 3, some (oCI 16 mJ6_bitCount_0f7a4 1)) :: (73, 2, some (oIl 9)) ::
  (75, 3, some (oCmNe 94)) :: (78, 1, some (oAl 0)) :: (79, 2, some (oIl 10)) :: (81, 2, some (oIl 7)) :: (83, 2, some (oJl 4)) :: (85, 3, some (oCI 6 mX6_leftIsAtMost 4)) ::
  (88, 3, some (oIfEq 94)) :: (91, 2, some (oIl 10)) :: (93, 1, some oIret) :: (94, 3, some (oInc 10 1)) :: (97, 3, some (oGoto 59)) :: (100, 3, some (oInc 9 1)) ::
  (103, 3, some (oGoto 49)) :: (106, 1, some (oIc 1)) :: (107, 2, some (oIl 8)) :: (109, 1, some oIshl) :: (110, 1, some (oIc 1)) :: (111, 1, some oIsub) ::
  (112, 1, some oIret) :: []
set_option maxRecDepth 100000 in
set_option maxHeartbeats 4000000 in
theorem okX6_fewest : CodeOk mX6_fewest cdX6_fewest := by
  refine ⟨by rfl, ?_⟩
  show CodeAll mX6_fewest cdX6_fewest
  refine ce_op (okJl2 (by decide +kernel)) ?_
  refine ce_op (okJc1 (n := 0) (by decide +kernel) (by decide)) ?_
  refine ce_op (okLcmp (by decide +kernel)) ?_
  refine ce_op (okIfGe (off := 5) (by decide +kernel) (by decide)) ?_
  refine ce_op (okIc1 (n := (-1)) (by decide +kernel) (by decide)) ?_
  refine ce_op (okIret (by decide +kernel) rfl) ?_
  refine ce_op (okAl1 (k := 0) (by decide +kernel) rfl) ?_
  refine ce_op (okIl1 (k := 1) (by decide +kernel) rfl) ?_
  refine ce_op (okIl1 (k := 2) (by decide +kernel) rfl) ?_
  refine ce_op (okIl1 (k := 3) (by decide +kernel) rfl) ?_
  refine ce_op (okCI miX6_gather (rV clX6 (x := 197) miX6_gather rfl (by decide +kernel) wd644 wd646 wd20)) ?_
  refine ce_op (okIs2 (by decide +kernel) (by decide)) ?_
  refine ce_op (okIl2 (by decide +kernel)) ?_
  refine ce_op (okIfGe (off := 6) (by decide +kernel) (by decide)) ?_
  refine ce_op (okIl2 (by decide +kernel)) ?_
  refine ce_op (okIret (by decide +kernel) rfl) ?_
  refine ce_op (okAl1 (k := 0) (by decide +kernel) rfl) ?_
  refine ce_op (okIl2 (by decide +kernel)) ?_
  refine ce_op (okCI miX6_keepWorthy (rV clX6 (x := 254) miX6_keepWorthy rfl (by decide +kernel) wd852 wd854 wd40)) ?_
  refine ce_op (okIs2 (by decide +kernel) (by decide)) ?_
  refine ce_op (okAl1 (k := 0) (by decide +kernel) rfl) ?_
  refine ce_op (okGetNw (x := 35) (by decide +kernel) wd404) ?_
  refine ce_op (okGetR clX0 (k := 2) (x := 106) (by decide +kernel) (by decide) rfl wd348 rfl (by decide +kernel)) ?_
  refine ce_op (okGetI clX2 (k := 1) (x := 243) (by decide +kernel) (by decide) rfl wd273 (Or.inl rfl)) ?_
  refine ce_op (okIs2 (by decide +kernel) (by decide)) ?_
  refine ce_op (okIc1 (n := 0) (by decide +kernel) (by decide)) ?_
  refine ce_op (okIs2 (by decide +kernel) (by decide)) ?_
  refine ce_st ?_
  refine ce_op (okIl2 (by decide +kernel)) ?_
  refine ce_op (okIl2 (by decide +kernel)) ?_
  refine ce_op (okCmGe (off := 53) (by decide +kernel) (by decide)) ?_
  refine ce_op (okIc1 (n := 0) (by decide +kernel) (by decide)) ?_
  refine ce_op (okIs2 (by decide +kernel) (by decide)) ?_
  refine ce_st ?_
  refine ce_op (okIl2 (by decide +kernel)) ?_
  refine ce_op (okIc1 (n := 1) (by decide +kernel) (by decide)) ?_
  refine ce_op (okIl2 (by decide +kernel)) ?_
  refine ce_op (okIshl (by decide +kernel)) ?_
  refine ce_op (okCmGe (off := 35) (by decide +kernel) (by decide)) ?_
  refine ce_op (okIl2 (by decide +kernel)) ?_
  refine ce_op (okCI miJ6_bitCount_0f7a4 (rS (x := 251) miJ6_bitCount_0f7a4 (by decide +kernel) wd842 wd843)) ?_
  refine ce_op (okIl2 (by decide +kernel)) ?_
  refine ce_op (okCmNe (off := 19) (by decide +kernel) (by decide)) ?_
  refine ce_op (okAl1 (k := 0) (by decide +kernel) rfl) ?_
  refine ce_op (okIl2 (by decide +kernel)) ?_
  refine ce_op (okIl2 (by decide +kernel)) ?_
  refine ce_op (okJl2 (by decide +kernel)) ?_
  refine ce_op (okCI miX6_leftIsAtMost (rV clX6 (x := 257) miX6_leftIsAtMost rfl (by decide +kernel) wd856 wd858 wd41)) ?_
  refine ce_op (okIfEq (off := 6) (by decide +kernel) (by decide)) ?_
  refine ce_op (okIl2 (by decide +kernel)) ?_
  refine ce_op (okIret (by decide +kernel) rfl) ?_
  refine ce_op (okInc (n := 1) (by decide +kernel) (by decide)) ?_
  refine ce_op (okGoto (off := (-38)) (by decide +kernel) (by decide)) ?_
  refine ce_op (okInc (n := 1) (by decide +kernel) (by decide)) ?_
  refine ce_op (okGoto (off := (-54)) (by decide +kernel) (by decide)) ?_
  refine ce_op (okIc1 (n := 1) (by decide +kernel) (by decide)) ?_
  refine ce_op (okIl2 (by decide +kernel)) ?_
  refine ce_op (okIshl (by decide +kernel)) ?_
  refine ce_op (okIc1 (n := 1) (by decide +kernel) (by decide)) ?_
  refine ce_op (okIsub (by decide +kernel)) ?_
  refine ce_op (okIret (by decide +kernel) rfl) ?_
  exact ce_nil
set_option maxRecDepth 100000 in
def cdX6_rule : List CE := (0, 1, some (oIl 1)) :: (1, 1, some (oAl 0)) :: (2, 3, some oGetNw) :: (5, 3, some (oGetR [(336, 354), (720, 738)])) :: (8, 3, some (oGetI 2 1)) :: (11, 3, some (oCI 16 mX6_areBits 2)) ::
  (14, 3, some (oIfNe 19)) :: (17, 1, some (oIc (-1))) :: (18, 1, some oIret) :: (19, 1, some (oAl 0)) :: (20, 1, some (oIl 1)) :: (21, 3, some (oPutI 6 6)) ::
  (24, 1, some (oIl 1)) :: (25, 3, some (oCI 16 mJ6_bitCount_0f7a4 1)) :: (28, 1, some oIret) :: []
set_option maxRecDepth 100000 in
set_option maxHeartbeats 4000000 in
theorem okX6_rule : CodeOk mX6_rule cdX6_rule := by
  refine ⟨by rfl, ?_⟩
  show CodeAll mX6_rule cdX6_rule
  refine ce_op (okIl1 (k := 1) (by decide +kernel) rfl) ?_
  refine ce_op (okAl1 (k := 0) (by decide +kernel) rfl) ?_
  refine ce_op (okGetNw (x := 35) (by decide +kernel) wd404) ?_
  refine ce_op (okGetR clX0 (k := 0) (x := 93) (by decide +kernel) (by decide) rfl wd343 rfl (by decide +kernel)) ?_
  refine ce_op (okGetI clX2 (k := 1) (x := 243) (by decide +kernel) (by decide) rfl wd273 (Or.inl rfl)) ?_
  refine ce_op (okCI miX6_areBits (rS (x := 247) miX6_areBits (by decide +kernel) wd839 wd840)) ?_
  refine ce_op (okIfNe (off := 5) (by decide +kernel) (by decide)) ?_
  refine ce_op (okIc1 (n := (-1)) (by decide +kernel) (by decide)) ?_
  refine ce_op (okIret (by decide +kernel) rfl) ?_
  refine ce_op (okAl1 (k := 0) (by decide +kernel) rfl) ?_
  refine ce_op (okIl1 (k := 1) (by decide +kernel) rfl) ?_
  refine ce_op (okPutI clX6 (k := 6) (x := 46) (by decide +kernel) (by decide) rfl wd407 rfl rfl (by decide +kernel)) ?_
  refine ce_op (okIl1 (k := 1) (by decide +kernel) rfl) ?_
  refine ce_op (okCI miJ6_bitCount_0f7a4 (rS (x := 251) miJ6_bitCount_0f7a4 (by decide +kernel) wd842 wd843)) ?_
  refine ce_op (okIret (by decide +kernel) rfl) ?_
  exact ce_nil
set_option maxRecDepth 100000 in
def cdX6_burden : List CE := (0, 1, some (oAl 0)) :: (1, 3, some oGetNw) :: (4, 3, some (oGetR [(336, 354), (720, 738)])) :: (7, 1, some (oIl 1)) :: (8, 3, some (oCI 2 mX2_has 2)) :: (11, 3, some (oIfNe 16)) ::
  (14, 1, some (oIc (-1))) :: (15, 1, some oIret) :: (16, 1, some (oAl 0)) :: (17, 3, some oGetNw) :: (20, 1, some (oIl 1)) :: (21, 1, some (oAl 0)) ::
  (22, 3, some oGetNw) :: (25, 1, some (oIc 0)) :: (26, 3, some (oCI 0 mX0_missing 2)) :: (29, 3, some (oCI 0 mX0_honestSales 3)) :: (32, 1, some oIret) :: []
set_option maxRecDepth 100000 in
set_option maxHeartbeats 4000000 in
theorem okX6_burden : CodeOk mX6_burden cdX6_burden := by
  refine ⟨by rfl, ?_⟩
  show CodeAll mX6_burden cdX6_burden
  refine ce_op (okAl1 (k := 0) (by decide +kernel) rfl) ?_
  refine ce_op (okGetNw (x := 35) (by decide +kernel) wd404) ?_
  refine ce_op (okGetR clX0 (k := 0) (x := 93) (by decide +kernel) (by decide) rfl wd343 rfl (by decide +kernel)) ?_
  refine ce_op (okIl1 (k := 1) (by decide +kernel) rfl) ?_
  refine ce_op (okCI miX2_has (rV clX2 (x := 155) miX2_has rfl (by decide +kernel) wd599 wd600 wd601)) ?_
  refine ce_op (okIfNe (off := 5) (by decide +kernel) (by decide)) ?_
  refine ce_op (okIc1 (n := (-1)) (by decide +kernel) (by decide)) ?_
  refine ce_op (okIret (by decide +kernel) rfl) ?_
  refine ce_op (okAl1 (k := 0) (by decide +kernel) rfl) ?_
  refine ce_op (okGetNw (x := 35) (by decide +kernel) wd404) ?_
  refine ce_op (okIl1 (k := 1) (by decide +kernel) rfl) ?_
  refine ce_op (okAl1 (k := 0) (by decide +kernel) rfl) ?_
  refine ce_op (okGetNw (x := 35) (by decide +kernel) wd404) ?_
  refine ce_op (okIc1 (n := 0) (by decide +kernel) (by decide)) ?_
  refine ce_op (okCI miX0_missing (rV clX0 (x := 175) miX0_missing rfl (by decide +kernel) wd620 wd621 wd622)) ?_
  refine ce_op (okCI miX0_honestSales (rV clX0 (x := 261) miX0_honestSales rfl (by decide +kernel) wd868 wd869 wd870)) ?_
  refine ce_op (okIret (by decide +kernel) rfl) ?_
  exact ce_nil
set_option maxRecDepth 100000 in
def cdX6_starve : List CE := (0, 2, some (oIl 4)) :: (2, 3, some (oIfLt 15)) :: (5, 2, some (oIl 5)) :: (7, 1, some (oIc 0)) :: (8, 1, some (oIc 2)) :: (9, 3, some (oCI 16 mX6_within 3)) ::
  (12, 3, some (oIfNe 19)) :: (15, 3, some (oJc (-1))) :: (18, 1, some oJret) :: (19, 1, some (oAl 0)) :: (20, 1, some (oIl 1)) :: (21, 1, some (oIl 2)) ::
  (22, 1, some (oIl 3)) :: (23, 3, some (oCI 6 mX6_gather 4)) :: (26, 2, some (oIs 6)) :: (28, 2, some (oIl 6)) :: (30, 3, some (oIfGe 37)) :: (33, 2, some (oIl 6)) ::
  (35, 1, some oI2l) :: (36, 1, some oJret) :: (37, 1, some (oAl 0)) :: (38, 2, some (oIl 6)) :: (40, 3, some (oCV 6 mX6_weighLands 2)) :: (43, 1, some (oAl 0)) ::
  (44, 2, some (oIl 4)) :: (46, 3, some (oCI 6 mX6_bestLands 2)) :: (49, 2, some (oIs 7)) :: (51, 2, some (oIl 5)) :: (53, 27, some (oSw [(0, 80), (1, 84)] 91)) :: (80, 2, some (oIl 7)) ::
  (82, 1, some oI2l) :: (83, 1, some oJret) :: (84, 1, some (oAl 0)) :: (85, 2, some (oIl 7)) :: (87, 3, some (oCJ 6 mX6_takesOutside 2)) :: (90, 1, some oJret) ::
  (91, 1, some (oAl 0)) :: (92, 2, some (oIl 7)) :: (94, 3, some (oCI 6 mX6_burdenInside 2)) :: (97, 1, some oI2l) :: (98, 1, some oJret) :: []
set_option maxRecDepth 100000 in
set_option maxHeartbeats 4000000 in
theorem okX6_starve : CodeOk mX6_starve cdX6_starve := by
  refine ⟨by rfl, ?_⟩
  show CodeAll mX6_starve cdX6_starve
  refine ce_op (okIl2 (by decide +kernel)) ?_
  refine ce_op (okIfLt (off := 13) (by decide +kernel) (by decide)) ?_
  refine ce_op (okIl2 (by decide +kernel)) ?_
  refine ce_op (okIc1 (n := 0) (by decide +kernel) (by decide)) ?_
  refine ce_op (okIc1 (n := 2) (by decide +kernel) (by decide)) ?_
  refine ce_op (okCI miX6_within (rS (x := 181) miX6_within (by decide +kernel) wd628 wd506)) ?_
  refine ce_op (okIfNe (off := 7) (by decide +kernel) (by decide)) ?_
  refine ce_op (okJcL (k := 264) (by decide +kernel) wd880) ?_
  refine ce_op (okJret (by decide +kernel) rfl) ?_
  refine ce_op (okAl1 (k := 0) (by decide +kernel) rfl) ?_
  refine ce_op (okIl1 (k := 1) (by decide +kernel) rfl) ?_
  refine ce_op (okIl1 (k := 2) (by decide +kernel) rfl) ?_
  refine ce_op (okIl1 (k := 3) (by decide +kernel) rfl) ?_
  refine ce_op (okCI miX6_gather (rV clX6 (x := 197) miX6_gather rfl (by decide +kernel) wd644 wd646 wd20)) ?_
  refine ce_op (okIs2 (by decide +kernel) (by decide)) ?_
  refine ce_op (okIl2 (by decide +kernel)) ?_
  refine ce_op (okIfGe (off := 7) (by decide +kernel) (by decide)) ?_
  refine ce_op (okIl2 (by decide +kernel)) ?_
  refine ce_op (okI2l (by decide +kernel)) ?_
  refine ce_op (okJret (by decide +kernel) rfl) ?_
  refine ce_op (okAl1 (k := 0) (by decide +kernel) rfl) ?_
  refine ce_op (okIl2 (by decide +kernel)) ?_
  refine ce_op (okCV miX6_weighLands (rV clX6 (x := 266) miX6_weighLands rfl (by decide +kernel) wd881 wd883 wd42)) ?_
  refine ce_op (okAl1 (k := 0) (by decide +kernel) rfl) ?_
  refine ce_op (okIl2 (by decide +kernel)) ?_
  refine ce_op (okCI miX6_bestLands (rV clX6 (x := 269) miX6_bestLands rfl (by decide +kernel) wd886 wd888 wd43)) ?_
  refine ce_op (okIs2 (by decide +kernel) (by decide)) ?_
  refine ce_op (okIl2 (by decide +kernel)) ?_
  refine ce_op (okLsw (dO := 38) (ps := #[(0, 27), (1, 31)]) (by decide +kernel) (by decide) (by decide +kernel) (by decide +kernel)) ?_
  refine ce_op (okIl2 (by decide +kernel)) ?_
  refine ce_op (okI2l (by decide +kernel)) ?_
  refine ce_op (okJret (by decide +kernel) rfl) ?_
  refine ce_op (okAl1 (k := 0) (by decide +kernel) rfl) ?_
  refine ce_op (okIl2 (by decide +kernel)) ?_
  refine ce_op (okCJ miX6_takesOutside (rV clX6 (x := 272) miX6_takesOutside rfl (by decide +kernel) wd890 wd892 wd44)) ?_
  refine ce_op (okJret (by decide +kernel) rfl) ?_
  refine ce_op (okAl1 (k := 0) (by decide +kernel) rfl) ?_
  refine ce_op (okIl2 (by decide +kernel)) ?_
  refine ce_op (okCI miX6_burdenInside (rV clX6 (x := 276) miX6_burdenInside rfl (by decide +kernel) wd894 wd896 wd45)) ?_
  refine ce_op (okI2l (by decide +kernel)) ?_
  refine ce_op (okJret (by decide +kernel) rfl) ?_
  exact ce_nil
set_option maxRecDepth 100000 in
def cdX6_count : List CE := (0, 1, some (oIl 1)) :: (1, 47, some (oSw [(0, 48), (1, 59), (2, 70), (3, 81), (4, 92), (5, 103), (6, 111), (7, 119)] 134)) :: (48, 1, some (oAl 0)) :: (49, 3, some oGetNw) :: (52, 3, some (oGetR [(336, 354), (720, 738)])) :: (55, 3, some (oGetI 2 1)) ::
  (58, 1, some oIret) :: (59, 1, some (oAl 0)) :: (60, 3, some oGetNw) :: (63, 3, some (oGetR [(336, 386), (720, 770)])) :: (66, 3, some (oGetI 2 1)) :: (69, 1, some oIret) ::
  (70, 1, some (oAl 0)) :: (71, 3, some oGetNw) :: (74, 3, some (oGetR [(336, 418), (720, 802)])) :: (77, 3, some (oGetI 2 1)) :: (80, 1, some oIret) :: (81, 1, some (oAl 0)) ::
  (82, 3, some oGetNw) :: (85, 3, some (oGetR [(336, 452), (720, 836)])) :: (88, 3, some (oGetI 4 7)) :: (91, 1, some oIret) :: (92, 1, some (oAl 0)) :: (93, 3, some oGetNw) ::
  (96, 3, some (oGetR [(336, 452), (720, 836)])) :: (99, 3, some (oGetI 4 8)) :: (102, 1, some oIret) :: (103, 1, some (oAl 0)) :: (104, 3, some (oGetI 6 5)) :: (107, 3, some (oCI 16 mJ6_bitCount_0f7a4 1)) ::
  (110, 1, some oIret) :: (111, 1, some (oAl 0)) :: (112, 3, some (oGetI 6 6)) :: (115, 3, some (oCI 16 mJ6_bitCount_0f7a4 1)) :: (118, 1, some oIret) :: (119, 1, some (oAl 0)) ::
  (120, 3, some oGetNw) :: (123, 1, some (oAl 0)) :: (124, 3, some (oGetI 6 6)) :: (127, 3, some (oCI 0 mX0_missing 2)) :: (130, 3, some (oCI 16 mJ6_bitCount_0f7a4 1)) :: (133, 1, some oIret) ::
  (134, 1, some (oIc (-1))) :: (135, 1, some oIret) :: []
set_option maxRecDepth 100000 in
set_option maxHeartbeats 4000000 in
theorem okX6_count : CodeOk mX6_count cdX6_count := by
  refine ⟨by rfl, ?_⟩
  show CodeAll mX6_count cdX6_count
  refine ce_op (okIl1 (k := 1) (by decide +kernel) rfl) ?_
  refine ce_op (okTsw (dO := 133) (lo := 0) (hi := 7) (offs := #[47, 58, 69, 80, 91, 102, 110, 118]) (by decide +kernel) (by decide) (by decide +kernel) (by decide +kernel) (sw_all (by decide +kernel))) ?_
  refine ce_op (okAl1 (k := 0) (by decide +kernel) rfl) ?_
  refine ce_op (okGetNw (x := 35) (by decide +kernel) wd404) ?_
  refine ce_op (okGetR clX0 (k := 0) (x := 93) (by decide +kernel) (by decide) rfl wd343 rfl (by decide +kernel)) ?_
  refine ce_op (okGetI clX2 (k := 1) (x := 243) (by decide +kernel) (by decide) rfl wd273 (Or.inl rfl)) ?_
  refine ce_op (okIret (by decide +kernel) rfl) ?_
  refine ce_op (okAl1 (k := 0) (by decide +kernel) rfl) ?_
  refine ce_op (okGetNw (x := 35) (by decide +kernel) wd404) ?_
  refine ce_op (okGetR clX0 (k := 1) (x := 103) (by decide +kernel) (by decide) rfl wd345 rfl (by decide +kernel)) ?_
  refine ce_op (okGetI clX2 (k := 1) (x := 243) (by decide +kernel) (by decide) rfl wd273 (Or.inl rfl)) ?_
  refine ce_op (okIret (by decide +kernel) rfl) ?_
  refine ce_op (okAl1 (k := 0) (by decide +kernel) rfl) ?_
  refine ce_op (okGetNw (x := 35) (by decide +kernel) wd404) ?_
  refine ce_op (okGetR clX0 (k := 2) (x := 106) (by decide +kernel) (by decide) rfl wd348 rfl (by decide +kernel)) ?_
  refine ce_op (okGetI clX2 (k := 1) (x := 243) (by decide +kernel) (by decide) rfl wd273 (Or.inl rfl)) ?_
  refine ce_op (okIret (by decide +kernel) rfl) ?_
  refine ce_op (okAl1 (k := 0) (by decide +kernel) rfl) ?_
  refine ce_op (okGetNw (x := 35) (by decide +kernel) wd404) ?_
  refine ce_op (okGetR clX0 (k := 3) (x := 109) (by decide +kernel) (by decide) rfl wd351 rfl (by decide +kernel)) ?_
  refine ce_op (okGetI clX4 (k := 7) (x := 195) (by decide +kernel) (by decide) rfl wd317 (Or.inl rfl)) ?_
  refine ce_op (okIret (by decide +kernel) rfl) ?_
  refine ce_op (okAl1 (k := 0) (by decide +kernel) rfl) ?_
  refine ce_op (okGetNw (x := 35) (by decide +kernel) wd404) ?_
  refine ce_op (okGetR clX0 (k := 3) (x := 109) (by decide +kernel) (by decide) rfl wd351 rfl (by decide +kernel)) ?_
  refine ce_op (okGetI clX4 (k := 8) (x := 192) (by decide +kernel) (by decide) rfl wd321 (Or.inl rfl)) ?_
  refine ce_op (okIret (by decide +kernel) rfl) ?_
  refine ce_op (okAl1 (k := 0) (by decide +kernel) rfl) ?_
  refine ce_op (okGetI clX6 (k := 5) (x := 42) (by decide +kernel) (by decide) rfl wd406 (Or.inl rfl)) ?_
  refine ce_op (okCI miJ6_bitCount_0f7a4 (rS (x := 251) miJ6_bitCount_0f7a4 (by decide +kernel) wd842 wd843)) ?_
  refine ce_op (okIret (by decide +kernel) rfl) ?_
  refine ce_op (okAl1 (k := 0) (by decide +kernel) rfl) ?_
  refine ce_op (okGetI clX6 (k := 6) (x := 46) (by decide +kernel) (by decide) rfl wd407 (Or.inl rfl)) ?_
  refine ce_op (okCI miJ6_bitCount_0f7a4 (rS (x := 251) miJ6_bitCount_0f7a4 (by decide +kernel) wd842 wd843)) ?_
  refine ce_op (okIret (by decide +kernel) rfl) ?_
  refine ce_op (okAl1 (k := 0) (by decide +kernel) rfl) ?_
  refine ce_op (okGetNw (x := 35) (by decide +kernel) wd404) ?_
  refine ce_op (okAl1 (k := 0) (by decide +kernel) rfl) ?_
  refine ce_op (okGetI clX6 (k := 6) (x := 46) (by decide +kernel) (by decide) rfl wd407 (Or.inl rfl)) ?_
  refine ce_op (okCI miX0_missing (rV clX0 (x := 175) miX0_missing rfl (by decide +kernel) wd620 wd621 wd622)) ?_
  refine ce_op (okCI miJ6_bitCount_0f7a4 (rS (x := 251) miJ6_bitCount_0f7a4 (by decide +kernel) wd842 wd843)) ?_
  refine ce_op (okIret (by decide +kernel) rfl) ?_
  refine ce_op (okIc1 (n := (-1)) (by decide +kernel) (by decide)) ?_
  refine ce_op (okIret (by decide +kernel) rfl) ?_
  exact ce_nil
set_option maxRecDepth 100000 in
def cdX6_within : List CE := (0, 1, some (oIl 0)) :: (1, 1, some (oIl 1)) :: (2, 3, some (oCmLt 14)) :: (5, 1, some (oIl 0)) :: (6, 1, some (oIl 2)) :: (7, 3, some (oCmGt 14)) ::
  (10, 1, some (oIc 1)) :: (11, 3, some (oGoto 15)) :: (14, 1, some (oIc 0)) :: (15, 1, some oZret) :: []
set_option maxRecDepth 100000 in
set_option maxHeartbeats 4000000 in
theorem okX6_within : CodeOk mX6_within cdX6_within := by
  refine ⟨by rfl, ?_⟩
  show CodeAll mX6_within cdX6_within
  refine ce_op (okIl1 (k := 0) (by decide +kernel) rfl) ?_
  refine ce_op (okIl1 (k := 1) (by decide +kernel) rfl) ?_
  refine ce_op (okCmLt (off := 12) (by decide +kernel) (by decide)) ?_
  refine ce_op (okIl1 (k := 0) (by decide +kernel) rfl) ?_
  refine ce_op (okIl1 (k := 2) (by decide +kernel) rfl) ?_
  refine ce_op (okCmGt (off := 7) (by decide +kernel) (by decide)) ?_
  refine ce_op (okIc1 (n := 1) (by decide +kernel) (by decide)) ?_
  refine ce_op (okGoto (off := 4) (by decide +kernel) (by decide)) ?_
  refine ce_op (okIc1 (n := 0) (by decide +kernel) (by decide)) ?_
  refine ce_op (okZret (by decide +kernel) rfl) ?_
  exact ce_nil
set_option maxRecDepth 100000 in
def cdX6_areBits : List CE := (0, 1, some (oIl 0)) :: (1, 1, some (oIc (-1))) :: (2, 1, some (oIl 1)) :: (3, 1, some oIshl) :: (4, 1, some oIand) :: (5, 3, some (oIfNe 12)) ::
  (8, 1, some (oIc 1)) :: (9, 3, some (oGoto 13)) :: (12, 1, some (oIc 0)) :: (13, 1, some oZret) :: []
set_option maxRecDepth 100000 in
set_option maxHeartbeats 4000000 in
theorem okX6_areBits : CodeOk mX6_areBits cdX6_areBits := by
  refine ⟨by rfl, ?_⟩
  show CodeAll mX6_areBits cdX6_areBits
  refine ce_op (okIl1 (k := 0) (by decide +kernel) rfl) ?_
  refine ce_op (okIc1 (n := (-1)) (by decide +kernel) (by decide)) ?_
  refine ce_op (okIl1 (k := 1) (by decide +kernel) rfl) ?_
  refine ce_op (okIshl (by decide +kernel)) ?_
  refine ce_op (okIand (by decide +kernel)) ?_
  refine ce_op (okIfNe (off := 7) (by decide +kernel) (by decide)) ?_
  refine ce_op (okIc1 (n := 1) (by decide +kernel) (by decide)) ?_
  refine ce_op (okGoto (off := 4) (by decide +kernel) (by decide)) ?_
  refine ce_op (okIc1 (n := 0) (by decide +kernel) (by decide)) ?_
  refine ce_op (okZret (by decide +kernel) rfl) ?_
  exact ce_nil
set_option maxRecDepth 100000 in
def cdX6_saleAt : List CE := (0, 1, some (oJl 0)) :: (1, 2, some (oIc 6)) :: (3, 1, some (oIl 2)) :: (4, 1, some oImul) :: (5, 1, some oLushr) :: (6, 3, some (oJc 63)) ::
  (9, 1, some oLand) :: (10, 1, some oL2i) :: (11, 1, some oIret) :: []
set_option maxRecDepth 100000 in
set_option maxHeartbeats 4000000 in
theorem okX6_saleAt : CodeOk mX6_saleAt cdX6_saleAt := by
  refine ⟨by rfl, ?_⟩
  show CodeAll mX6_saleAt cdX6_saleAt
  refine ce_op (okJl1 (k := 0) (by decide +kernel) rfl) ?_
  refine ce_op (okIc2 (n := 6) (by decide +kernel) (by decide)) ?_
  refine ce_op (okIl1 (k := 2) (by decide +kernel) rfl) ?_
  refine ce_op (okImul (by decide +kernel)) ?_
  refine ce_op (okLushr (by decide +kernel)) ?_
  refine ce_op (okJcL (k := 279) (by decide +kernel) wd687) ?_
  refine ce_op (okLand (by decide +kernel)) ?_
  refine ce_op (okL2i (by decide +kernel)) ?_
  refine ce_op (okIret (by decide +kernel) rfl) ?_
  exact ce_nil
set_option maxRecDepth 100000 in
def cdX6_gather : List CE := (0, 1, some (oIl 1)) :: (1, 1, some (oIc 0)) :: (2, 1, some (oIc 1)) :: (3, 3, some (oCI 16 mX6_within 3)) :: (6, 3, some (oIfEq 30)) :: (9, 1, some (oIl 2)) ::
  (10, 1, some (oIc 2)) :: (11, 2, some (oIc 6)) :: (13, 3, some (oCI 16 mX6_within 3)) :: (16, 3, some (oIfEq 30)) :: (19, 1, some (oIl 3)) :: (20, 1, some (oIc 0)) ::
  (21, 3, some (oIc 400)) :: (24, 3, some (oCI 16 mX6_within 3)) :: (27, 3, some (oIfNe 32)) :: (30, 1, some (oIc (-1))) :: (31, 1, some oIret) :: (32, 1, some (oAl 0)) ::
  (33, 3, some (oGetR [(6, 49)])) :: (36, 1, some (oAl 0)) :: (37, 3, some oGetNw) :: (40, 3, some (oGetR [(336, 452), (720, 836)])) :: (43, 1, some (oIl 1)) :: (44, 1, some (oIl 2)) ::
  (45, 1, some (oIl 3)) :: (46, 1, some (oAl 0)) :: (47, 3, some (oGetI 6 5)) :: (50, 3, some (oCI 1 mX1_find 6)) :: (53, 1, some oIret) :: []
set_option maxRecDepth 100000 in
set_option maxHeartbeats 4000000 in
theorem okX6_gather : CodeOk mX6_gather cdX6_gather := by
  refine ⟨by rfl, ?_⟩
  show CodeAll mX6_gather cdX6_gather
  refine ce_op (okIl1 (k := 1) (by decide +kernel) rfl) ?_
  refine ce_op (okIc1 (n := 0) (by decide +kernel) (by decide)) ?_
  refine ce_op (okIc1 (n := 1) (by decide +kernel) (by decide)) ?_
  refine ce_op (okCI miX6_within (rS (x := 181) miX6_within (by decide +kernel) wd628 wd506)) ?_
  refine ce_op (okIfEq (off := 24) (by decide +kernel) (by decide)) ?_
  refine ce_op (okIl1 (k := 2) (by decide +kernel) rfl) ?_
  refine ce_op (okIc1 (n := 2) (by decide +kernel) (by decide)) ?_
  refine ce_op (okIc2 (n := 6) (by decide +kernel) (by decide)) ?_
  refine ce_op (okCI miX6_within (rS (x := 181) miX6_within (by decide +kernel) wd628 wd506)) ?_
  refine ce_op (okIfEq (off := 14) (by decide +kernel) (by decide)) ?_
  refine ce_op (okIl1 (k := 3) (by decide +kernel) rfl) ?_
  refine ce_op (okIc1 (n := 0) (by decide +kernel) (by decide)) ?_
  refine ce_op (okIc3 (n := 400) (by decide +kernel) (by decide)) ?_
  refine ce_op (okCI miX6_within (rS (x := 181) miX6_within (by decide +kernel) wd628 wd506)) ?_
  refine ce_op (okIfNe (off := 5) (by decide +kernel) (by decide)) ?_
  refine ce_op (okIc1 (n := (-1)) (by decide +kernel) (by decide)) ?_
  refine ce_op (okIret (by decide +kernel) rfl) ?_
  refine ce_op (okAl1 (k := 0) (by decide +kernel) rfl) ?_
  refine ce_op (okGetR clX6 (k := 1) (x := 21) (by decide +kernel) (by decide) rfl wd402 rfl (by decide +kernel)) ?_
  refine ce_op (okAl1 (k := 0) (by decide +kernel) rfl) ?_
  refine ce_op (okGetNw (x := 35) (by decide +kernel) wd404) ?_
  refine ce_op (okGetR clX0 (k := 3) (x := 109) (by decide +kernel) (by decide) rfl wd351 rfl (by decide +kernel)) ?_
  refine ce_op (okIl1 (k := 1) (by decide +kernel) rfl) ?_
  refine ce_op (okIl1 (k := 2) (by decide +kernel) rfl) ?_
  refine ce_op (okIl1 (k := 3) (by decide +kernel) rfl) ?_
  refine ce_op (okAl1 (k := 0) (by decide +kernel) rfl) ?_
  refine ce_op (okGetI clX6 (k := 5) (x := 42) (by decide +kernel) (by decide) rfl wd406 (Or.inl rfl)) ?_
  refine ce_op (okCI miX1_find (rV clX1 (x := 281) miX1_find rfl (by decide +kernel) wd648 wd649 wd650)) ?_
  refine ce_op (okIret (by decide +kernel) rfl) ?_
  exact ce_nil
set_option maxRecDepth 100000 in
def cdX6_signBits : List CE := (0, 1, some (oIc 0)) :: (1, 2, some (oIs 4)) :: (3, 1, some (oAl 0)) :: (4, 3, some oGetNw) :: (7, 3, some (oGetR [(336, 452), (720, 836)])) :: (10, 1, some (oIl 1)) ::
  (11, 3, some (oCI 4 mX4_soldBelow 2)) :: (14, 3, some (oIfEq 23)) :: (17, 2, some (oIl 4)) :: (19, 1, some (oIc 1)) :: (20, 1, some oIor) :: (21, 2, some (oIs 4)) ::
  (23, 1, some (oAl 0)) :: (24, 3, some oGetNw) :: (27, 3, some (oGetR [(336, 452), (720, 836)])) :: (30, 1, some (oIl 1)) :: (31, 1, some (oIl 2)) :: (32, 1, some (oAl 0)) ::
  (33, 3, some oGetNw) :: (36, 3, some (oGetR [(336, 452), (720, 836)])) :: (39, 1, some (oIl 2)) :: (40, 3, some (oCI 4 mX4_buyersFrom 2)) :: (43, 1, some oIor) :: (44, 3, some (oCI 4 mX4_boughtOnlyFrom 3)) ::
  (47, 3, some (oIfEq 56)) :: (50, 2, some (oIl 4)) :: (52, 1, some (oIc 2)) :: (53, 1, some oIor) :: (54, 2, some (oIs 4)) :: (56, 1, some (oAl 0)) ::
  (57, 1, some (oIl 1)) :: (58, 1, some (oIl 3)) :: (59, 3, some (oCI 6 mX6_roundsWith 3)) :: (62, 1, some (oIc 2)) :: (63, 3, some (oCmLt 72)) :: (66, 2, some (oIl 4)) ::
  (68, 1, some (oIc 4)) :: (69, 1, some oIor) :: (70, 2, some (oIs 4)) :: (72, 1, some (oIl 2)) :: (73, 1, some (oAl 0)) :: (74, 3, some oGetNw) ::
  (77, 1, some (oIl 1)) :: (78, 3, some (oCI 0 mX0_partners 2)) :: (81, 1, some oIand) :: (82, 3, some (oIfEq 92)) :: (85, 2, some (oIl 4)) :: (87, 2, some (oIc 8)) ::
  (89, 1, some oIor) :: (90, 2, some (oIs 4)) :: (92, 2, some (oIl 4)) :: (94, 1, some oIret) :: []
set_option maxRecDepth 100000 in
set_option maxHeartbeats 4000000 in
theorem okX6_signBits : CodeOk mX6_signBits cdX6_signBits := by
  refine ⟨by rfl, ?_⟩
  show CodeAll mX6_signBits cdX6_signBits
  refine ce_op (okIc1 (n := 0) (by decide +kernel) (by decide)) ?_
  refine ce_op (okIs2 (by decide +kernel) (by decide)) ?_
  refine ce_op (okAl1 (k := 0) (by decide +kernel) rfl) ?_
  refine ce_op (okGetNw (x := 35) (by decide +kernel) wd404) ?_
  refine ce_op (okGetR clX0 (k := 3) (x := 109) (by decide +kernel) (by decide) rfl wd351 rfl (by decide +kernel)) ?_
  refine ce_op (okIl1 (k := 1) (by decide +kernel) rfl) ?_
  refine ce_op (okCI miX4_soldBelow (rV clX4 (x := 284) miX4_soldBelow rfl (by decide +kernel) wd787 wd788 wd789)) ?_
  refine ce_op (okIfEq (off := 9) (by decide +kernel) (by decide)) ?_
  refine ce_op (okIl2 (by decide +kernel)) ?_
  refine ce_op (okIc1 (n := 1) (by decide +kernel) (by decide)) ?_
  refine ce_op (okIor (by decide +kernel)) ?_
  refine ce_op (okIs2 (by decide +kernel) (by decide)) ?_
  refine ce_op (okAl1 (k := 0) (by decide +kernel) rfl) ?_
  refine ce_op (okGetNw (x := 35) (by decide +kernel) wd404) ?_
  refine ce_op (okGetR clX0 (k := 3) (x := 109) (by decide +kernel) (by decide) rfl wd351 rfl (by decide +kernel)) ?_
  refine ce_op (okIl1 (k := 1) (by decide +kernel) rfl) ?_
  refine ce_op (okIl1 (k := 2) (by decide +kernel) rfl) ?_
  refine ce_op (okAl1 (k := 0) (by decide +kernel) rfl) ?_
  refine ce_op (okGetNw (x := 35) (by decide +kernel) wd404) ?_
  refine ce_op (okGetR clX0 (k := 3) (x := 109) (by decide +kernel) (by decide) rfl wd351 rfl (by decide +kernel)) ?_
  refine ce_op (okIl1 (k := 2) (by decide +kernel) rfl) ?_
  refine ce_op (okCI miX4_buyersFrom (rV clX4 (x := 287) miX4_buyersFrom rfl (by decide +kernel) wd795 wd796 wd797)) ?_
  refine ce_op (okIor (by decide +kernel)) ?_
  refine ce_op (okCI miX4_boughtOnlyFrom (rV clX4 (x := 290) miX4_boughtOnlyFrom rfl (by decide +kernel) wd799 wd800 wd801)) ?_
  refine ce_op (okIfEq (off := 9) (by decide +kernel) (by decide)) ?_
  refine ce_op (okIl2 (by decide +kernel)) ?_
  refine ce_op (okIc1 (n := 2) (by decide +kernel) (by decide)) ?_
  refine ce_op (okIor (by decide +kernel)) ?_
  refine ce_op (okIs2 (by decide +kernel) (by decide)) ?_
  refine ce_op (okAl1 (k := 0) (by decide +kernel) rfl) ?_
  refine ce_op (okIl1 (k := 1) (by decide +kernel) rfl) ?_
  refine ce_op (okIl1 (k := 3) (by decide +kernel) rfl) ?_
  refine ce_op (okCI miX6_roundsWith (rV clX6 (x := 293) miX6_roundsWith rfl (by decide +kernel) wd803 wd805 wd37)) ?_
  refine ce_op (okIc1 (n := 2) (by decide +kernel) (by decide)) ?_
  refine ce_op (okCmLt (off := 9) (by decide +kernel) (by decide)) ?_
  refine ce_op (okIl2 (by decide +kernel)) ?_
  refine ce_op (okIc1 (n := 4) (by decide +kernel) (by decide)) ?_
  refine ce_op (okIor (by decide +kernel)) ?_
  refine ce_op (okIs2 (by decide +kernel) (by decide)) ?_
  refine ce_op (okIl1 (k := 2) (by decide +kernel) rfl) ?_
  refine ce_op (okAl1 (k := 0) (by decide +kernel) rfl) ?_
  refine ce_op (okGetNw (x := 35) (by decide +kernel) wd404) ?_
  refine ce_op (okIl1 (k := 1) (by decide +kernel) rfl) ?_
  refine ce_op (okCI miX0_partners (rV clX0 (x := 296) miX0_partners rfl (by decide +kernel) wd807 wd808 wd809)) ?_
  refine ce_op (okIand (by decide +kernel)) ?_
  refine ce_op (okIfEq (off := 10) (by decide +kernel) (by decide)) ?_
  refine ce_op (okIl2 (by decide +kernel)) ?_
  refine ce_op (okIc2 (n := 8) (by decide +kernel) (by decide)) ?_
  refine ce_op (okIor (by decide +kernel)) ?_
  refine ce_op (okIs2 (by decide +kernel) (by decide)) ?_
  refine ce_op (okIl2 (by decide +kernel)) ?_
  refine ce_op (okIret (by decide +kernel) rfl) ?_
  exact ce_nil
set_option maxRecDepth 100000 in
def cdX6_roundsWith : List CE := (0, 1, some (oIc 0)) :: (1, 1, some (oIs 3)) :: (2, 1, some (oIc 0)) :: (3, 2, some (oIs 4)) :: (5, 0, none) :: (5, 2, some (oIl 4)) ::
  (7, 1, some (oIl 2)) :: (8, 3, some (oCmGe 51)) :: (11, 1, some (oIl 3)) :: (12, 1, some (oAl 0)) :: (13, 3, some oGetNw) :: (16, 1, some (oAl 0)) ::
  (17, 3, some (oGetR [(6, 49)])) :: (20, 3, some (oGetR [(49, 819273)])) :: (23, 2, some (oIl 4)) :: (25, 1, some oJald) :: (26, 1, some (oAl 0)) :: (27, 3, some (oGetR [(6, 49)])) ::
  (30, 3, some (oGetR [(49, 819288)])) :: (33, 2, some (oIl 4)) :: (35, 1, some oIald) :: (36, 3, some (oCI 0 mX0_firmsOf 3)) :: (39, 1, some (oIl 1)) :: (40, 1, some oIshr) ::
  (41, 1, some (oIc 1)) :: (42, 1, some oIand) :: (43, 1, some oIadd) :: (44, 1, some (oIs 3)) :: (45, 3, some (oInc 4 1)) :: (48, 3, some (oGoto 5)) ::
  (51, 1, some (oIl 3)) :: (52, 1, some oIret) :: []
set_option maxRecDepth 100000 in
set_option maxHeartbeats 4000000 in
theorem okX6_roundsWith : CodeOk mX6_roundsWith cdX6_roundsWith := by
  refine ⟨by rfl, ?_⟩
  show CodeAll mX6_roundsWith cdX6_roundsWith
  refine ce_op (okIc1 (n := 0) (by decide +kernel) (by decide)) ?_
  refine ce_op (okIs1 (k := 3) (by decide +kernel) rfl (by decide)) ?_
  refine ce_op (okIc1 (n := 0) (by decide +kernel) (by decide)) ?_
  refine ce_op (okIs2 (by decide +kernel) (by decide)) ?_
  refine ce_st ?_
  refine ce_op (okIl2 (by decide +kernel)) ?_
  refine ce_op (okIl1 (k := 2) (by decide +kernel) rfl) ?_
  refine ce_op (okCmGe (off := 43) (by decide +kernel) (by decide)) ?_
  refine ce_op (okIl1 (k := 3) (by decide +kernel) rfl) ?_
  refine ce_op (okAl1 (k := 0) (by decide +kernel) rfl) ?_
  refine ce_op (okGetNw (x := 35) (by decide +kernel) wd404) ?_
  refine ce_op (okAl1 (k := 0) (by decide +kernel) rfl) ?_
  refine ce_op (okGetR clX6 (k := 1) (x := 21) (by decide +kernel) (by decide) rfl wd402 rfl (by decide +kernel)) ?_
  refine ce_op (okGetR clX1 (k := 0) (x := 201) (by decide +kernel) (by decide) rfl wd162 rfl (by decide +kernel)) ?_
  refine ce_op (okIl2 (by decide +kernel)) ?_
  refine ce_op (okJald (by decide +kernel)) ?_
  refine ce_op (okAl1 (k := 0) (by decide +kernel) rfl) ?_
  refine ce_op (okGetR clX6 (k := 1) (x := 21) (by decide +kernel) (by decide) rfl wd402 rfl (by decide +kernel)) ?_
  refine ce_op (okGetR clX1 (k := 1) (x := 204) (by decide +kernel) (by decide) rfl wd164 rfl (by decide +kernel)) ?_
  refine ce_op (okIl2 (by decide +kernel)) ?_
  refine ce_op (okIald (by decide +kernel)) ?_
  refine ce_op (okCI miX0_firmsOf (rV clX0 (x := 215) miX0_firmsOf rfl (by decide +kernel) wd693 wd694 wd695)) ?_
  refine ce_op (okIl1 (k := 1) (by decide +kernel) rfl) ?_
  refine ce_op (okIshr (by decide +kernel)) ?_
  refine ce_op (okIc1 (n := 1) (by decide +kernel) (by decide)) ?_
  refine ce_op (okIand (by decide +kernel)) ?_
  refine ce_op (okIadd (by decide +kernel)) ?_
  refine ce_op (okIs1 (k := 3) (by decide +kernel) rfl (by decide)) ?_
  refine ce_op (okInc (n := 1) (by decide +kernel) (by decide)) ?_
  refine ce_op (okGoto (off := (-43)) (by decide +kernel) (by decide)) ?_
  refine ce_op (okIl1 (k := 3) (by decide +kernel) rfl) ?_
  refine ce_op (okIret (by decide +kernel) rfl) ?_
  exact ce_nil
set_option maxRecDepth 100000 in
def cdX6_keepWorthy : List CE := (0, 1, some (oAl 0)) :: (1, 3, some oGetNw) :: (4, 1, some (oAl 0)) :: (5, 3, some (oGetI 6 6)) :: (8, 3, some (oCI 0 mX0_missing 2)) :: (11, 1, some (oIs 2)) ::
  (12, 1, some (oIc 0)) :: (13, 1, some (oIs 3)) :: (14, 1, some (oIc 0)) :: (15, 2, some (oIs 4)) :: (17, 0, none) :: (17, 2, some (oIl 4)) ::
  (19, 1, some (oIl 1)) :: (20, 3, some (oCmGe 112)) :: (23, 1, some (oAl 0)) :: (24, 3, some oGetNw) :: (27, 1, some (oAl 0)) :: (28, 3, some (oGetR [(6, 49)])) ::
  (31, 3, some (oGetR [(49, 819273)])) :: (34, 2, some (oIl 4)) :: (36, 1, some oJald) :: (37, 1, some (oAl 0)) :: (38, 3, some (oGetR [(6, 49)])) :: (41, 3, some (oGetR [(49, 819288)])) ::
  (44, 2, some (oIl 4)) :: (46, 1, some oIald) :: (47, 1, some (oIl 2)) :: (48, 1, some (oAl 0)) :: (49, 3, some (oGetI 6 6)) :: (52, 3, some (oCI 0 mX0_takenBy 5)) ::
  (55, 2, some (oIs 5)) :: (57, 2, some (oIl 5)) :: (59, 3, some (oIfLe 106)) :: (62, 1, some (oAl 0)) :: (63, 3, some (oGetR [(6, 820328)])) :: (66, 1, some (oIl 3)) ::
  (67, 2, some (oIl 5)) :: (69, 1, some oIast) :: (70, 1, some (oAl 0)) :: (71, 3, some (oGetR [(6, 820312)])) :: (74, 1, some (oIl 3)) :: (75, 1, some (oAl 0)) ::
  (76, 3, some oGetNw) :: (79, 1, some (oAl 0)) :: (80, 3, some (oGetR [(6, 49)])) :: (83, 3, some (oGetR [(49, 819273)])) :: (86, 2, some (oIl 4)) :: (88, 1, some oJald) ::
  (89, 1, some (oAl 0)) :: (90, 3, some (oGetR [(6, 49)])) :: (93, 3, some (oGetR [(49, 819288)])) :: (96, 2, some (oIl 4)) :: (98, 1, some oIald) :: (99, 3, some (oCI 0 mX0_firmsOf 3)) ::
  (102, 1, some oIast) :: (103, 3, some (oInc 3 1)) :: (106, 3, some (oInc 4 1)) :: (109, 3, some (oGoto 17)) :: (112, 1, some (oIl 3)) :: (113, 1, some oIret) :: []
set_option maxRecDepth 100000 in
set_option maxHeartbeats 4000000 in
theorem okX6_keepWorthy : CodeOk mX6_keepWorthy cdX6_keepWorthy := by
  refine ⟨by rfl, ?_⟩
  show CodeAll mX6_keepWorthy cdX6_keepWorthy
  refine ce_op (okAl1 (k := 0) (by decide +kernel) rfl) ?_
  refine ce_op (okGetNw (x := 35) (by decide +kernel) wd404) ?_
  refine ce_op (okAl1 (k := 0) (by decide +kernel) rfl) ?_
  refine ce_op (okGetI clX6 (k := 6) (x := 46) (by decide +kernel) (by decide) rfl wd407 (Or.inl rfl)) ?_
  refine ce_op (okCI miX0_missing (rV clX0 (x := 175) miX0_missing rfl (by decide +kernel) wd620 wd621 wd622)) ?_
  refine ce_op (okIs1 (k := 2) (by decide +kernel) rfl (by decide)) ?_
  refine ce_op (okIc1 (n := 0) (by decide +kernel) (by decide)) ?_
  refine ce_op (okIs1 (k := 3) (by decide +kernel) rfl (by decide)) ?_
  refine ce_op (okIc1 (n := 0) (by decide +kernel) (by decide)) ?_
  refine ce_op (okIs2 (by decide +kernel) (by decide)) ?_
  refine ce_st ?_
  refine ce_op (okIl2 (by decide +kernel)) ?_
  refine ce_op (okIl1 (k := 1) (by decide +kernel) rfl) ?_
  refine ce_op (okCmGe (off := 92) (by decide +kernel) (by decide)) ?_
  refine ce_op (okAl1 (k := 0) (by decide +kernel) rfl) ?_
  refine ce_op (okGetNw (x := 35) (by decide +kernel) wd404) ?_
  refine ce_op (okAl1 (k := 0) (by decide +kernel) rfl) ?_
  refine ce_op (okGetR clX6 (k := 1) (x := 21) (by decide +kernel) (by decide) rfl wd402 rfl (by decide +kernel)) ?_
  refine ce_op (okGetR clX1 (k := 0) (x := 201) (by decide +kernel) (by decide) rfl wd162 rfl (by decide +kernel)) ?_
  refine ce_op (okIl2 (by decide +kernel)) ?_
  refine ce_op (okJald (by decide +kernel)) ?_
  refine ce_op (okAl1 (k := 0) (by decide +kernel) rfl) ?_
  refine ce_op (okGetR clX6 (k := 1) (x := 21) (by decide +kernel) (by decide) rfl wd402 rfl (by decide +kernel)) ?_
  refine ce_op (okGetR clX1 (k := 1) (x := 204) (by decide +kernel) (by decide) rfl wd164 rfl (by decide +kernel)) ?_
  refine ce_op (okIl2 (by decide +kernel)) ?_
  refine ce_op (okIald (by decide +kernel)) ?_
  refine ce_op (okIl1 (k := 2) (by decide +kernel) rfl) ?_
  refine ce_op (okAl1 (k := 0) (by decide +kernel) rfl) ?_
  refine ce_op (okGetI clX6 (k := 6) (x := 46) (by decide +kernel) (by decide) rfl wd407 (Or.inl rfl)) ?_
  refine ce_op (okCI miX0_takenBy (rV clX0 (x := 211) miX0_takenBy rfl (by decide +kernel) wd688 wd689 wd690)) ?_
  refine ce_op (okIs2 (by decide +kernel) (by decide)) ?_
  refine ce_op (okIl2 (by decide +kernel)) ?_
  refine ce_op (okIfLe (off := 47) (by decide +kernel) (by decide)) ?_
  refine ce_op (okAl1 (k := 0) (by decide +kernel) rfl) ?_
  refine ce_op (okGetR clX6 (k := 8) (x := 53) (by decide +kernel) (by decide) rfl wd409 rfl (by decide +kernel)) ?_
  refine ce_op (okIl1 (k := 3) (by decide +kernel) rfl) ?_
  refine ce_op (okIl2 (by decide +kernel)) ?_
  refine ce_op (okIast (by decide +kernel)) ?_
  refine ce_op (okAl1 (k := 0) (by decide +kernel) rfl) ?_
  refine ce_op (okGetR clX6 (k := 7) (x := 49) (by decide +kernel) (by decide) rfl wd408 rfl (by decide +kernel)) ?_
  refine ce_op (okIl1 (k := 3) (by decide +kernel) rfl) ?_
  refine ce_op (okAl1 (k := 0) (by decide +kernel) rfl) ?_
  refine ce_op (okGetNw (x := 35) (by decide +kernel) wd404) ?_
  refine ce_op (okAl1 (k := 0) (by decide +kernel) rfl) ?_
  refine ce_op (okGetR clX6 (k := 1) (x := 21) (by decide +kernel) (by decide) rfl wd402 rfl (by decide +kernel)) ?_
  refine ce_op (okGetR clX1 (k := 0) (x := 201) (by decide +kernel) (by decide) rfl wd162 rfl (by decide +kernel)) ?_
  refine ce_op (okIl2 (by decide +kernel)) ?_
  refine ce_op (okJald (by decide +kernel)) ?_
  refine ce_op (okAl1 (k := 0) (by decide +kernel) rfl) ?_
  refine ce_op (okGetR clX6 (k := 1) (x := 21) (by decide +kernel) (by decide) rfl wd402 rfl (by decide +kernel)) ?_
  refine ce_op (okGetR clX1 (k := 1) (x := 204) (by decide +kernel) (by decide) rfl wd164 rfl (by decide +kernel)) ?_
  refine ce_op (okIl2 (by decide +kernel)) ?_
  refine ce_op (okIald (by decide +kernel)) ?_
  refine ce_op (okCI miX0_firmsOf (rV clX0 (x := 215) miX0_firmsOf rfl (by decide +kernel) wd693 wd694 wd695)) ?_
  refine ce_op (okIast (by decide +kernel)) ?_
  refine ce_op (okInc (n := 1) (by decide +kernel) (by decide)) ?_
  refine ce_op (okInc (n := 1) (by decide +kernel) (by decide)) ?_
  refine ce_op (okGoto (off := (-92)) (by decide +kernel) (by decide)) ?_
  refine ce_op (okIl1 (k := 3) (by decide +kernel) rfl) ?_
  refine ce_op (okIret (by decide +kernel) rfl) ?_
  exact ce_nil
set_option maxRecDepth 100000 in
def cdX6_leftIsAtMost : List CE := (0, 1, some (oJc 0)) :: (1, 2, some (oJs 5)) :: (3, 1, some (oIc 0)) :: (4, 2, some (oIs 7)) :: (6, 0, none) :: (6, 2, some (oIl 7)) ::
  (8, 1, some (oIl 2)) :: (9, 3, some (oCmGe 52)) :: (12, 1, some (oAl 0)) :: (13, 3, some (oGetR [(6, 820312)])) :: (16, 2, some (oIl 7)) :: (18, 1, some oIald) ::
  (19, 1, some (oIl 1)) :: (20, 1, some oIand) :: (21, 3, some (oIfNe 46)) :: (24, 2, some (oJl 5)) :: (26, 1, some (oAl 0)) :: (27, 3, some (oGetR [(6, 820328)])) ::
  (30, 2, some (oIl 7)) :: (32, 1, some oIald) :: (33, 1, some oI2l) :: (34, 1, some oLadd) :: (35, 2, some (oJs 5)) :: (37, 2, some (oJl 5)) ::
  (39, 1, some (oJl 3)) :: (40, 1, some oLcmp) :: (41, 3, some (oIfLe 46)) :: (44, 1, some (oIc 0)) :: (45, 1, some oZret) :: (46, 3, some (oInc 7 1)) ::
  (49, 3, some (oGoto 6)) :: (52, 1, some (oIc 1)) :: (53, 1, some oZret) :: []
set_option maxRecDepth 100000 in
set_option maxHeartbeats 4000000 in
theorem okX6_leftIsAtMost : CodeOk mX6_leftIsAtMost cdX6_leftIsAtMost := by
  refine ⟨by rfl, ?_⟩
  show CodeAll mX6_leftIsAtMost cdX6_leftIsAtMost
  refine ce_op (okJc1 (n := 0) (by decide +kernel) (by decide)) ?_
  refine ce_op (okJs2 (by decide +kernel) (by decide)) ?_
  refine ce_op (okIc1 (n := 0) (by decide +kernel) (by decide)) ?_
  refine ce_op (okIs2 (by decide +kernel) (by decide)) ?_
  refine ce_st ?_
  refine ce_op (okIl2 (by decide +kernel)) ?_
  refine ce_op (okIl1 (k := 2) (by decide +kernel) rfl) ?_
  refine ce_op (okCmGe (off := 43) (by decide +kernel) (by decide)) ?_
  refine ce_op (okAl1 (k := 0) (by decide +kernel) rfl) ?_
  refine ce_op (okGetR clX6 (k := 7) (x := 49) (by decide +kernel) (by decide) rfl wd408 rfl (by decide +kernel)) ?_
  refine ce_op (okIl2 (by decide +kernel)) ?_
  refine ce_op (okIald (by decide +kernel)) ?_
  refine ce_op (okIl1 (k := 1) (by decide +kernel) rfl) ?_
  refine ce_op (okIand (by decide +kernel)) ?_
  refine ce_op (okIfNe (off := 25) (by decide +kernel) (by decide)) ?_
  refine ce_op (okJl2 (by decide +kernel)) ?_
  refine ce_op (okAl1 (k := 0) (by decide +kernel) rfl) ?_
  refine ce_op (okGetR clX6 (k := 8) (x := 53) (by decide +kernel) (by decide) rfl wd409 rfl (by decide +kernel)) ?_
  refine ce_op (okIl2 (by decide +kernel)) ?_
  refine ce_op (okIald (by decide +kernel)) ?_
  refine ce_op (okI2l (by decide +kernel)) ?_
  refine ce_op (okLadd (by decide +kernel)) ?_
  refine ce_op (okJs2 (by decide +kernel) (by decide)) ?_
  refine ce_op (okJl2 (by decide +kernel)) ?_
  refine ce_op (okJl1 (k := 3) (by decide +kernel) rfl) ?_
  refine ce_op (okLcmp (by decide +kernel)) ?_
  refine ce_op (okIfLe (off := 5) (by decide +kernel) (by decide)) ?_
  refine ce_op (okIc1 (n := 0) (by decide +kernel) (by decide)) ?_
  refine ce_op (okZret (by decide +kernel) rfl) ?_
  refine ce_op (okInc (n := 1) (by decide +kernel) (by decide)) ?_
  refine ce_op (okGoto (off := (-43)) (by decide +kernel) (by decide)) ?_
  refine ce_op (okIc1 (n := 1) (by decide +kernel) (by decide)) ?_
  refine ce_op (okZret (by decide +kernel) rfl) ?_
  exact ce_nil
set_option maxRecDepth 100000 in
def cdX6_weighLands : List CE := (0, 1, some (oAl 0)) :: (1, 3, some oGetNw) :: (4, 1, some (oIc 0)) :: (5, 3, some (oCI 0 mX0_missing 2)) :: (8, 1, some (oIs 2)) :: (9, 1, some (oIc 0)) ::
  (10, 1, some (oIs 3)) :: (11, 0, none) :: (11, 1, some (oIl 3)) :: (12, 1, some (oAl 0)) :: (13, 3, some oGetNw) :: (16, 3, some (oGetR [(336, 354), (720, 738)])) ::
  (19, 3, some (oGetI 2 1)) :: (22, 3, some (oCmGe 120)) :: (25, 1, some (oAl 0)) :: (26, 3, some (oGetR [(6, 21640)])) :: (29, 1, some (oIl 3)) :: (30, 1, some (oAl 0)) ::
  (31, 3, some oGetNw) :: (34, 1, some (oIl 3)) :: (35, 1, some (oIl 2)) :: (36, 3, some (oCI 0 mX0_honestSales 3)) :: (39, 1, some oIast) :: (40, 1, some (oAl 0)) ::
  (41, 3, some (oGetR [(6, 21625)])) :: (44, 1, some (oIl 3)) :: (45, 1, some (oJc 0)) :: (46, 1, some oJast) :: (47, 1, some (oIl 2)) :: (48, 1, some (oAl 0)) ::
  (49, 3, some oGetNw) :: (52, 1, some (oIl 3)) :: (53, 3, some (oCI 0 mX0_firmsIn 2)) :: (56, 1, some oIand) :: (57, 2, some (oIs 4)) :: (59, 1, some (oIc 0)) ::
  (60, 2, some (oIs 5)) :: (62, 0, none) :: (62, 2, some (oIl 5)) :: (64, 1, some (oIl 1)) :: (65, 3, some (oCmGe 114)) :: (68, 1, some (oAl 0)) ::
  (69, 3, some (oGetR [(6, 21625)])) :: (72, 1, some (oIl 3)) :: (73, 1, some oDup2) :: (74, 1, some oJald) :: (75, 1, some (oAl 0)) :: (76, 3, some oGetNw) ::
  (79, 1, some (oAl 0)) :: (80, 3, some (oGetR [(6, 49)])) :: (83, 3, some (oGetR [(49, 819273)])) :: (86, 2, some (oIl 5)) :: (88, 1, some oJald) :: (89, 1, some (oAl 0)) ::
  (90, 3, some (oGetR [(6, 49)])) :: (93, 3, some (oGetR [(49, 819288)])) :: (96, 2, some (oIl 5)) :: (98, 1, some oIald) :: (99, 2, some (oIl 4)) :: (101, 1, some (oIc 0)) ::
  (102, 3, some (oCI 0 mX0_takenBy 5)) :: (105, 1, some oI2l) :: (106, 1, some oLadd) :: (107, 1, some oJast) :: (108, 3, some (oInc 5 1)) :: (111, 3, some (oGoto 62)) ::
  (114, 3, some (oInc 3 1)) :: (117, 3, some (oGoto 11)) :: (120, 1, some oVret) :: []
set_option maxRecDepth 100000 in
set_option maxHeartbeats 4000000 in
theorem okX6_weighLands : CodeOk mX6_weighLands cdX6_weighLands := by
  refine ⟨by rfl, ?_⟩
  show CodeAll mX6_weighLands cdX6_weighLands
  refine ce_op (okAl1 (k := 0) (by decide +kernel) rfl) ?_
  refine ce_op (okGetNw (x := 35) (by decide +kernel) wd404) ?_
  refine ce_op (okIc1 (n := 0) (by decide +kernel) (by decide)) ?_
  refine ce_op (okCI miX0_missing (rV clX0 (x := 175) miX0_missing rfl (by decide +kernel) wd620 wd621 wd622)) ?_
  refine ce_op (okIs1 (k := 2) (by decide +kernel) rfl (by decide)) ?_
  refine ce_op (okIc1 (n := 0) (by decide +kernel) (by decide)) ?_
  refine ce_op (okIs1 (k := 3) (by decide +kernel) rfl (by decide)) ?_
  refine ce_st ?_
  refine ce_op (okIl1 (k := 3) (by decide +kernel) rfl) ?_
  refine ce_op (okAl1 (k := 0) (by decide +kernel) rfl) ?_
  refine ce_op (okGetNw (x := 35) (by decide +kernel) wd404) ?_
  refine ce_op (okGetR clX0 (k := 0) (x := 93) (by decide +kernel) (by decide) rfl wd343 rfl (by decide +kernel)) ?_
  refine ce_op (okGetI clX2 (k := 1) (x := 243) (by decide +kernel) (by decide) rfl wd273 (Or.inl rfl)) ?_
  refine ce_op (okCmGe (off := 98) (by decide +kernel) (by decide)) ?_
  refine ce_op (okAl1 (k := 0) (by decide +kernel) rfl) ?_
  refine ce_op (okGetR clX6 (k := 10) (x := 60) (by decide +kernel) (by decide) rfl wd411 rfl (by decide +kernel)) ?_
  refine ce_op (okIl1 (k := 3) (by decide +kernel) rfl) ?_
  refine ce_op (okAl1 (k := 0) (by decide +kernel) rfl) ?_
  refine ce_op (okGetNw (x := 35) (by decide +kernel) wd404) ?_
  refine ce_op (okIl1 (k := 3) (by decide +kernel) rfl) ?_
  refine ce_op (okIl1 (k := 2) (by decide +kernel) rfl) ?_
  refine ce_op (okCI miX0_honestSales (rV clX0 (x := 261) miX0_honestSales rfl (by decide +kernel) wd868 wd869 wd870)) ?_
  refine ce_op (okIast (by decide +kernel)) ?_
  refine ce_op (okAl1 (k := 0) (by decide +kernel) rfl) ?_
  refine ce_op (okGetR clX6 (k := 9) (x := 56) (by decide +kernel) (by decide) rfl wd410 rfl (by decide +kernel)) ?_
  refine ce_op (okIl1 (k := 3) (by decide +kernel) rfl) ?_
  refine ce_op (okJc1 (n := 0) (by decide +kernel) (by decide)) ?_
  refine ce_op (okJast (by decide +kernel)) ?_
  refine ce_op (okIl1 (k := 2) (by decide +kernel) rfl) ?_
  refine ce_op (okAl1 (k := 0) (by decide +kernel) rfl) ?_
  refine ce_op (okGetNw (x := 35) (by decide +kernel) wd404) ?_
  refine ce_op (okIl1 (k := 3) (by decide +kernel) rfl) ?_
  refine ce_op (okCI miX0_firmsIn (rV clX0 (x := 299) miX0_firmsIn rfl (by decide +kernel) wd885 wd873 wd874)) ?_
  refine ce_op (okIand (by decide +kernel)) ?_
  refine ce_op (okIs2 (by decide +kernel) (by decide)) ?_
  refine ce_op (okIc1 (n := 0) (by decide +kernel) (by decide)) ?_
  refine ce_op (okIs2 (by decide +kernel) (by decide)) ?_
  refine ce_st ?_
  refine ce_op (okIl2 (by decide +kernel)) ?_
  refine ce_op (okIl1 (k := 1) (by decide +kernel) rfl) ?_
  refine ce_op (okCmGe (off := 49) (by decide +kernel) (by decide)) ?_
  refine ce_op (okAl1 (k := 0) (by decide +kernel) rfl) ?_
  refine ce_op (okGetR clX6 (k := 9) (x := 56) (by decide +kernel) (by decide) rfl wd410 rfl (by decide +kernel)) ?_
  refine ce_op (okIl1 (k := 3) (by decide +kernel) rfl) ?_
  refine ce_op (okDup2 (by decide +kernel)) ?_
  refine ce_op (okJald (by decide +kernel)) ?_
  refine ce_op (okAl1 (k := 0) (by decide +kernel) rfl) ?_
  refine ce_op (okGetNw (x := 35) (by decide +kernel) wd404) ?_
  refine ce_op (okAl1 (k := 0) (by decide +kernel) rfl) ?_
  refine ce_op (okGetR clX6 (k := 1) (x := 21) (by decide +kernel) (by decide) rfl wd402 rfl (by decide +kernel)) ?_
  refine ce_op (okGetR clX1 (k := 0) (x := 201) (by decide +kernel) (by decide) rfl wd162 rfl (by decide +kernel)) ?_
  refine ce_op (okIl2 (by decide +kernel)) ?_
  refine ce_op (okJald (by decide +kernel)) ?_
  refine ce_op (okAl1 (k := 0) (by decide +kernel) rfl) ?_
  refine ce_op (okGetR clX6 (k := 1) (x := 21) (by decide +kernel) (by decide) rfl wd402 rfl (by decide +kernel)) ?_
  refine ce_op (okGetR clX1 (k := 1) (x := 204) (by decide +kernel) (by decide) rfl wd164 rfl (by decide +kernel)) ?_
  refine ce_op (okIl2 (by decide +kernel)) ?_
  refine ce_op (okIald (by decide +kernel)) ?_
  refine ce_op (okIl2 (by decide +kernel)) ?_
  refine ce_op (okIc1 (n := 0) (by decide +kernel) (by decide)) ?_
  refine ce_op (okCI miX0_takenBy (rV clX0 (x := 211) miX0_takenBy rfl (by decide +kernel) wd688 wd689 wd690)) ?_
  refine ce_op (okI2l (by decide +kernel)) ?_
  refine ce_op (okLadd (by decide +kernel)) ?_
  refine ce_op (okJast (by decide +kernel)) ?_
  refine ce_op (okInc (n := 1) (by decide +kernel) (by decide)) ?_
  refine ce_op (okGoto (off := (-49)) (by decide +kernel) (by decide)) ?_
  refine ce_op (okInc (n := 1) (by decide +kernel) (by decide)) ?_
  refine ce_op (okGoto (off := (-106)) (by decide +kernel) (by decide)) ?_
  refine ce_op (okVret (by decide +kernel) rfl) ?_
  exact ce_nil
set_option maxRecDepth 100000 in
def cdX6_bestLands : List CE := (0, 1, some (oIc 0)) :: (1, 1, some (oIs 2)) :: (2, 1, some (oAl 0)) :: (3, 1, some (oIc 0)) :: (4, 3, some (oCJ 6 mX6_takesOutside 2)) :: (7, 1, some (oJs 3)) ::
  (8, 1, some (oIc 0)) :: (9, 2, some (oIs 5)) :: (11, 1, some (oIc 1)) :: (12, 2, some (oIs 6)) :: (14, 0, none) :: (14, 2, some (oIl 6)) ::
  (16, 1, some (oIc 1)) :: (17, 1, some (oAl 0)) :: (18, 3, some oGetNw) :: (21, 3, some (oGetR [(336, 354), (720, 738)])) :: (24, 3, some (oGetI 2 1)) :: (27, 1, some oIshl) ::
  (28, 3, some (oCmGe 90)) :: (31, 1, some (oAl 0)) :: (32, 2, some (oIl 6)) :: (34, 3, some (oCI 6 mX6_burdenInside 2)) :: (37, 2, some (oIs 7)) :: (39, 1, some (oAl 0)) ::
  (40, 2, some (oIl 6)) :: (42, 3, some (oCJ 6 mX6_takesOutside 2)) :: (45, 2, some (oJs 8)) :: (47, 2, some (oIl 7)) :: (49, 1, some (oIl 1)) :: (50, 3, some (oCmGt 84)) ::
  (53, 2, some (oJl 8)) :: (55, 1, some (oJl 3)) :: (56, 1, some oLcmp) :: (57, 3, some (oIfLt 74)) :: (60, 2, some (oJl 8)) :: (62, 1, some (oJl 3)) ::
  (63, 1, some oLcmp) :: (64, 3, some (oIfNe 84)) :: (67, 2, some (oIl 7)) :: (69, 2, some (oIl 5)) :: (71, 3, some (oCmGe 84)) :: (74, 2, some (oIl 6)) ::
  (76, 1, some (oIs 2)) :: (77, 2, some (oJl 8)) :: (79, 1, some (oJs 3)) :: (80, 2, some (oIl 7)) :: (82, 2, some (oIs 5)) :: (84, 3, some (oInc 6 1)) ::
  (87, 3, some (oGoto 14)) :: (90, 1, some (oIl 2)) :: (91, 1, some oIret) :: []
set_option maxRecDepth 100000 in
set_option maxHeartbeats 4000000 in
theorem okX6_bestLands : CodeOk mX6_bestLands cdX6_bestLands := by
  refine ⟨by rfl, ?_⟩
  show CodeAll mX6_bestLands cdX6_bestLands
  refine ce_op (okIc1 (n := 0) (by decide +kernel) (by decide)) ?_
  refine ce_op (okIs1 (k := 2) (by decide +kernel) rfl (by decide)) ?_
  refine ce_op (okAl1 (k := 0) (by decide +kernel) rfl) ?_
  refine ce_op (okIc1 (n := 0) (by decide +kernel) (by decide)) ?_
  refine ce_op (okCJ miX6_takesOutside (rV clX6 (x := 272) miX6_takesOutside rfl (by decide +kernel) wd890 wd892 wd44)) ?_
  refine ce_op (okJs1 (k := 3) (by decide +kernel) rfl (by decide)) ?_
  refine ce_op (okIc1 (n := 0) (by decide +kernel) (by decide)) ?_
  refine ce_op (okIs2 (by decide +kernel) (by decide)) ?_
  refine ce_op (okIc1 (n := 1) (by decide +kernel) (by decide)) ?_
  refine ce_op (okIs2 (by decide +kernel) (by decide)) ?_
  refine ce_st ?_
  refine ce_op (okIl2 (by decide +kernel)) ?_
  refine ce_op (okIc1 (n := 1) (by decide +kernel) (by decide)) ?_
  refine ce_op (okAl1 (k := 0) (by decide +kernel) rfl) ?_
  refine ce_op (okGetNw (x := 35) (by decide +kernel) wd404) ?_
  refine ce_op (okGetR clX0 (k := 0) (x := 93) (by decide +kernel) (by decide) rfl wd343 rfl (by decide +kernel)) ?_
  refine ce_op (okGetI clX2 (k := 1) (x := 243) (by decide +kernel) (by decide) rfl wd273 (Or.inl rfl)) ?_
  refine ce_op (okIshl (by decide +kernel)) ?_
  refine ce_op (okCmGe (off := 62) (by decide +kernel) (by decide)) ?_
  refine ce_op (okAl1 (k := 0) (by decide +kernel) rfl) ?_
  refine ce_op (okIl2 (by decide +kernel)) ?_
  refine ce_op (okCI miX6_burdenInside (rV clX6 (x := 276) miX6_burdenInside rfl (by decide +kernel) wd894 wd896 wd45)) ?_
  refine ce_op (okIs2 (by decide +kernel) (by decide)) ?_
  refine ce_op (okAl1 (k := 0) (by decide +kernel) rfl) ?_
  refine ce_op (okIl2 (by decide +kernel)) ?_
  refine ce_op (okCJ miX6_takesOutside (rV clX6 (x := 272) miX6_takesOutside rfl (by decide +kernel) wd890 wd892 wd44)) ?_
  refine ce_op (okJs2 (by decide +kernel) (by decide)) ?_
  refine ce_op (okIl2 (by decide +kernel)) ?_
  refine ce_op (okIl1 (k := 1) (by decide +kernel) rfl) ?_
  refine ce_op (okCmGt (off := 34) (by decide +kernel) (by decide)) ?_
  refine ce_op (okJl2 (by decide +kernel)) ?_
  refine ce_op (okJl1 (k := 3) (by decide +kernel) rfl) ?_
  refine ce_op (okLcmp (by decide +kernel)) ?_
  refine ce_op (okIfLt (off := 17) (by decide +kernel) (by decide)) ?_
  refine ce_op (okJl2 (by decide +kernel)) ?_
  refine ce_op (okJl1 (k := 3) (by decide +kernel) rfl) ?_
  refine ce_op (okLcmp (by decide +kernel)) ?_
  refine ce_op (okIfNe (off := 20) (by decide +kernel) (by decide)) ?_
  refine ce_op (okIl2 (by decide +kernel)) ?_
  refine ce_op (okIl2 (by decide +kernel)) ?_
  refine ce_op (okCmGe (off := 13) (by decide +kernel) (by decide)) ?_
  refine ce_op (okIl2 (by decide +kernel)) ?_
  refine ce_op (okIs1 (k := 2) (by decide +kernel) rfl (by decide)) ?_
  refine ce_op (okJl2 (by decide +kernel)) ?_
  refine ce_op (okJs1 (k := 3) (by decide +kernel) rfl (by decide)) ?_
  refine ce_op (okIl2 (by decide +kernel)) ?_
  refine ce_op (okIs2 (by decide +kernel) (by decide)) ?_
  refine ce_op (okInc (n := 1) (by decide +kernel) (by decide)) ?_
  refine ce_op (okGoto (off := (-73)) (by decide +kernel) (by decide)) ?_
  refine ce_op (okIl1 (k := 2) (by decide +kernel) rfl) ?_
  refine ce_op (okIret (by decide +kernel) rfl) ?_
  exact ce_nil
set_option maxRecDepth 100000 in
def cdX6_takesOutside : List CE := (0, 1, some (oJc 0)) :: (1, 1, some (oJs 2)) :: (2, 1, some (oIc 0)) :: (3, 2, some (oIs 4)) :: (5, 0, none) :: (5, 2, some (oIl 4)) ::
  (7, 1, some (oAl 0)) :: (8, 3, some oGetNw) :: (11, 3, some (oGetR [(336, 354), (720, 738)])) :: (14, 3, some (oGetI 2 1)) :: (17, 3, some (oCmGe 49)) :: (20, 1, some (oJl 2)) ::
  (21, 1, some (oIl 1)) :: (22, 2, some (oIl 4)) :: (24, 1, some oIshr) :: (25, 1, some (oIc 1)) :: (26, 1, some oIand) :: (27, 3, some (oIfNe 40)) ::
  (30, 1, some (oAl 0)) :: (31, 3, some (oGetR [(6, 21625)])) :: (34, 2, some (oIl 4)) :: (36, 1, some oJald) :: (37, 3, some (oGoto 41)) :: (40, 1, some (oJc 0)) ::
  (41, 1, some oLadd) :: (42, 1, some (oJs 2)) :: (43, 3, some (oInc 4 1)) :: (46, 3, some (oGoto 5)) :: (49, 1, some (oJl 2)) :: (50, 1, some oJret) :: []
set_option maxRecDepth 100000 in
set_option maxHeartbeats 4000000 in
theorem okX6_takesOutside : CodeOk mX6_takesOutside cdX6_takesOutside := by
  refine ⟨by rfl, ?_⟩
  show CodeAll mX6_takesOutside cdX6_takesOutside
  refine ce_op (okJc1 (n := 0) (by decide +kernel) (by decide)) ?_
  refine ce_op (okJs1 (k := 2) (by decide +kernel) rfl (by decide)) ?_
  refine ce_op (okIc1 (n := 0) (by decide +kernel) (by decide)) ?_
  refine ce_op (okIs2 (by decide +kernel) (by decide)) ?_
  refine ce_st ?_
  refine ce_op (okIl2 (by decide +kernel)) ?_
  refine ce_op (okAl1 (k := 0) (by decide +kernel) rfl) ?_
  refine ce_op (okGetNw (x := 35) (by decide +kernel) wd404) ?_
  refine ce_op (okGetR clX0 (k := 0) (x := 93) (by decide +kernel) (by decide) rfl wd343 rfl (by decide +kernel)) ?_
  refine ce_op (okGetI clX2 (k := 1) (x := 243) (by decide +kernel) (by decide) rfl wd273 (Or.inl rfl)) ?_
  refine ce_op (okCmGe (off := 32) (by decide +kernel) (by decide)) ?_
  refine ce_op (okJl1 (k := 2) (by decide +kernel) rfl) ?_
  refine ce_op (okIl1 (k := 1) (by decide +kernel) rfl) ?_
  refine ce_op (okIl2 (by decide +kernel)) ?_
  refine ce_op (okIshr (by decide +kernel)) ?_
  refine ce_op (okIc1 (n := 1) (by decide +kernel) (by decide)) ?_
  refine ce_op (okIand (by decide +kernel)) ?_
  refine ce_op (okIfNe (off := 13) (by decide +kernel) (by decide)) ?_
  refine ce_op (okAl1 (k := 0) (by decide +kernel) rfl) ?_
  refine ce_op (okGetR clX6 (k := 9) (x := 56) (by decide +kernel) (by decide) rfl wd410 rfl (by decide +kernel)) ?_
  refine ce_op (okIl2 (by decide +kernel)) ?_
  refine ce_op (okJald (by decide +kernel)) ?_
  refine ce_op (okGoto (off := 4) (by decide +kernel) (by decide)) ?_
  refine ce_op (okJc1 (n := 0) (by decide +kernel) (by decide)) ?_
  refine ce_op (okLadd (by decide +kernel)) ?_
  refine ce_op (okJs1 (k := 2) (by decide +kernel) rfl (by decide)) ?_
  refine ce_op (okInc (n := 1) (by decide +kernel) (by decide)) ?_
  refine ce_op (okGoto (off := (-41)) (by decide +kernel) (by decide)) ?_
  refine ce_op (okJl1 (k := 2) (by decide +kernel) rfl) ?_
  refine ce_op (okJret (by decide +kernel) rfl) ?_
  exact ce_nil
set_option maxRecDepth 100000 in
def cdX6_burdenInside : List CE := (0, 1, some (oIc 0)) :: (1, 1, some (oIs 2)) :: (2, 1, some (oIc 0)) :: (3, 1, some (oIs 3)) :: (4, 0, none) :: (4, 1, some (oIl 3)) ::
  (5, 1, some (oAl 0)) :: (6, 3, some oGetNw) :: (9, 3, some (oGetR [(336, 354), (720, 738)])) :: (12, 3, some (oGetI 2 1)) :: (15, 3, some (oCmGe 45)) :: (18, 1, some (oIl 2)) ::
  (19, 1, some (oIl 1)) :: (20, 1, some (oIl 3)) :: (21, 1, some oIshr) :: (22, 1, some (oIc 1)) :: (23, 1, some oIand) :: (24, 3, some (oIfEq 36)) ::
  (27, 1, some (oAl 0)) :: (28, 3, some (oGetR [(6, 21640)])) :: (31, 1, some (oIl 3)) :: (32, 1, some oIald) :: (33, 3, some (oGoto 37)) :: (36, 1, some (oIc 0)) ::
  (37, 1, some oIadd) :: (38, 1, some (oIs 2)) :: (39, 3, some (oInc 3 1)) :: (42, 3, some (oGoto 4)) :: (45, 1, some (oIl 2)) :: (46, 1, some oIret) :: []
set_option maxRecDepth 100000 in
set_option maxHeartbeats 4000000 in
theorem okX6_burdenInside : CodeOk mX6_burdenInside cdX6_burdenInside := by
  refine ⟨by rfl, ?_⟩
  show CodeAll mX6_burdenInside cdX6_burdenInside
  refine ce_op (okIc1 (n := 0) (by decide +kernel) (by decide)) ?_
  refine ce_op (okIs1 (k := 2) (by decide +kernel) rfl (by decide)) ?_
  refine ce_op (okIc1 (n := 0) (by decide +kernel) (by decide)) ?_
  refine ce_op (okIs1 (k := 3) (by decide +kernel) rfl (by decide)) ?_
  refine ce_st ?_
  refine ce_op (okIl1 (k := 3) (by decide +kernel) rfl) ?_
  refine ce_op (okAl1 (k := 0) (by decide +kernel) rfl) ?_
  refine ce_op (okGetNw (x := 35) (by decide +kernel) wd404) ?_
  refine ce_op (okGetR clX0 (k := 0) (x := 93) (by decide +kernel) (by decide) rfl wd343 rfl (by decide +kernel)) ?_
  refine ce_op (okGetI clX2 (k := 1) (x := 243) (by decide +kernel) (by decide) rfl wd273 (Or.inl rfl)) ?_
  refine ce_op (okCmGe (off := 30) (by decide +kernel) (by decide)) ?_
  refine ce_op (okIl1 (k := 2) (by decide +kernel) rfl) ?_
  refine ce_op (okIl1 (k := 1) (by decide +kernel) rfl) ?_
  refine ce_op (okIl1 (k := 3) (by decide +kernel) rfl) ?_
  refine ce_op (okIshr (by decide +kernel)) ?_
  refine ce_op (okIc1 (n := 1) (by decide +kernel) (by decide)) ?_
  refine ce_op (okIand (by decide +kernel)) ?_
  refine ce_op (okIfEq (off := 12) (by decide +kernel) (by decide)) ?_
  refine ce_op (okAl1 (k := 0) (by decide +kernel) rfl) ?_
  refine ce_op (okGetR clX6 (k := 10) (x := 60) (by decide +kernel) (by decide) rfl wd411 rfl (by decide +kernel)) ?_
  refine ce_op (okIl1 (k := 3) (by decide +kernel) rfl) ?_
  refine ce_op (okIald (by decide +kernel)) ?_
  refine ce_op (okGoto (off := 4) (by decide +kernel) (by decide)) ?_
  refine ce_op (okIc1 (n := 0) (by decide +kernel) (by decide)) ?_
  refine ce_op (okIadd (by decide +kernel)) ?_
  refine ce_op (okIs1 (k := 2) (by decide +kernel) rfl (by decide)) ?_
  refine ce_op (okInc (n := 1) (by decide +kernel) (by decide)) ?_
  refine ce_op (okGoto (off := (-38)) (by decide +kernel) (by decide)) ?_
  refine ce_op (okIl1 (k := 2) (by decide +kernel) rfl) ?_
  refine ce_op (okIret (by decide +kernel) rfl) ?_
  exact ce_nil
