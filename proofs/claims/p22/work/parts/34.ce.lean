/-! contracts -/
set_option maxRecDepth 100000 in
def adX6_sell (D : KK) : List ACE := (0, 1, some (aAl 0)) :: (1, 3, some (aGetNw D)) :: (4, 3, some (aGetR [(336, 418), (720, 802)])) :: (7, 1, some (aIl 1)) :: (8, 3, some (aCall D 2 2 2 csX2_has)) :: (11, 3, some (aIf bEq bNe 37)) :: (14, 1, some (aAl 0)) :: (15, 3, some (aGetNw D)) :: (18, 3, some (aGetR [(336, 418), (720, 802)])) :: (21, 1, some (aIl 2)) :: (22, 3, some (aCall D 2 2 2 csX2_has)) :: (25, 3, some (aIf bEq bNe 37)) :: (28, 1, some (aIl 1)) :: (29, 1, some (aIl 2)) :: (30, 3, some (aCm bEq bNe 37)) :: (33, 1, some (aIc (1))) :: (34, 3, some (aGoto 38)) :: (37, 1, some (aIc (0))) :: (38, 2, some (aIs 8)) :: (40, 1, some (aAl 0)) :: (41, 3, some (aGetNw D)) :: (44, 3, some (aGetR [(336, 386), (720, 770)])) :: (47, 2, some (aIl 4)) :: (49, 3, some (aCall D 2 2 2 csX2_has)) :: (52, 3, some (aIf bEq bNe 82)) :: (55, 1, some (aIl 3)) :: (56, 1, some (aIc (1))) :: (57, 3, some (aIc (999))) :: (60, 3, some (aCall D 16 3 3 csX6_within)) :: (63, 3, some (aIf bEq bNe 82)) :: (66, 2, some (aIl 5)) :: (68, 1, some (aIc (1))) :: (69, 3, some (aIc (999))) :: (72, 3, some (aCall D 16 3 3 csX6_within)) :: (75, 3, some (aIf bEq bNe 82)) :: (78, 1, some (aIc (1))) :: (79, 3, some (aGoto 83)) :: (82, 1, some (aIc (0))) :: (83, 2, some (aIs 9)) :: (85, 2, some (aIl 8)) :: (87, 3, some (aIf bEq bNe 118)) :: (90, 2, some (aIl 9)) :: (92, 3, some (aIf bEq bNe 118)) :: (95, 2, some (aIl 7)) :: (97, 1, some (aIc (0))) :: (98, 2, some (aIc (99))) :: (100, 3, some (aCall D 16 3 3 csX6_within)) :: (103, 3, some (aIf bEq bNe 118)) :: (106, 2, some (aIl 6)) :: (108, 1, some (aIc (0))) :: (109, 3, some (aIc (400))) :: (112, 3, some (aCall D 16 3 3 csX6_within)) :: (115, 3, some (aIf bNe bEq 120)) :: (118, 1, some (aIc (-1))) :: (119, 1, some (aIret)) :: (120, 2, some (aIl 6)) :: (122, 1, some (aAl 0)) :: (123, 3, some (aGetNw D)) :: (126, 1, some (aIl 1)) :: (127, 1, some (aIl 2)) :: (128, 3, some (aCall D 0 3 3 csX0_sinceBoth)) :: (131, 3, some (aCm bLt (fun C x y => bLe C y x) 158)) :: (134, 1, some (aAl 0)) :: (135, 3, some (aGetNw D)) :: (138, 3, some (aGetR [(336, 452), (720, 836)])) :: (141, 1, some (aIl 1)) :: (142, 1, some (aIl 2)) :: (143, 1, some (aIl 3)) :: (144, 2, some (aIl 4)) :: (146, 2, some (aIl 5)) :: (148, 2, some (aIl 6)) :: (150, 2, some (aIl 7)) :: (152, 3, some (aCall D 4 8 8 csX4_add)) :: (155, 3, some (aIf bNe bEq 160)) :: (158, 1, some (aIc (-1))) :: (159, 1, some (aIret)) :: (160, 1, some (aAl 0)) :: (161, 3, some (aGetNw D)) :: (164, 3, some (aGetR [(336, 452), (720, 836)])) :: (167, 1, some (aDup)) :: (168, 3, some (aGetI D 4 8)) :: (171, 1, some (aIc (1))) :: (172, 1, some (aBin fAdd)) :: (173, 3, some (aPutI D 4 8)) :: (176, 1, some (aAl 0)) :: (177, 3, some (aGetR [(6, 49)])) :: (180, 3, some (aCall D 1 1 1 csX1_forget)) :: (183, 1, some (aAl 0)) :: (184, 3, some (aGetNw D)) :: (187, 3, some (aGetR [(336, 452), (720, 836)])) :: (190, 3, some (aGetI D 4 7)) :: (193, 1, some (aIc (1))) :: (194, 1, some (aBin fSub)) :: (195, 1, some (aIret)) :: []
set_option maxRecDepth 100000 in
set_option maxHeartbeats 4000000 in
theorem snX6_sell (d : Nat) (W : List Nat) (c : Nat × Nat) (hc : c = cA ∨ c = cB) : SndAll (d, TYg, c, W) cdX6_sell (adX6_sell (d, TYg, c, W)) := by
  unfold cdX6_sell adX6_sell
  refine sn_op sAl ?_
  refine sn_op sGetNw ?_
  refine sn_op sGetR ?_
  refine sn_op sIl ?_
  refine sn_op (sCI (sfX2_has c hc) (by decide) (by decide +kernel)) ?_
  refine sn_op sIfEq ?_
  refine sn_op sAl ?_
  refine sn_op sGetNw ?_
  refine sn_op sGetR ?_
  refine sn_op sIl ?_
  refine sn_op (sCI (sfX2_has c hc) (by decide) (by decide +kernel)) ?_
  refine sn_op sIfEq ?_
  refine sn_op sIl ?_
  refine sn_op sIl ?_
  refine sn_op sCmEq ?_
  refine sn_op (sIc (n := 1) (by decide)) ?_
  refine sn_op sGoto ?_
  refine sn_op (sIc (n := 0) (by decide)) ?_
  refine sn_op sIs ?_
  refine sn_op sAl ?_
  refine sn_op sGetNw ?_
  refine sn_op sGetR ?_
  refine sn_op sIl ?_
  refine sn_op (sCI (sfX2_has c hc) (by decide) (by decide +kernel)) ?_
  refine sn_op sIfEq ?_
  refine sn_op sIl ?_
  refine sn_op (sIc (n := 1) (by decide)) ?_
  refine sn_op (sIc (n := 999) (by decide)) ?_
  refine sn_op (sCI (sfX6_within c hc) (by decide) (by decide +kernel)) ?_
  refine sn_op sIfEq ?_
  refine sn_op sIl ?_
  refine sn_op (sIc (n := 1) (by decide)) ?_
  refine sn_op (sIc (n := 999) (by decide)) ?_
  refine sn_op (sCI (sfX6_within c hc) (by decide) (by decide +kernel)) ?_
  refine sn_op sIfEq ?_
  refine sn_op (sIc (n := 1) (by decide)) ?_
  refine sn_op sGoto ?_
  refine sn_op (sIc (n := 0) (by decide)) ?_
  refine sn_op sIs ?_
  refine sn_op sIl ?_
  refine sn_op sIfEq ?_
  refine sn_op sIl ?_
  refine sn_op sIfEq ?_
  refine sn_op sIl ?_
  refine sn_op (sIc (n := 0) (by decide)) ?_
  refine sn_op (sIc (n := 99) (by decide)) ?_
  refine sn_op (sCI (sfX6_within c hc) (by decide) (by decide +kernel)) ?_
  refine sn_op sIfEq ?_
  refine sn_op sIl ?_
  refine sn_op (sIc (n := 0) (by decide)) ?_
  refine sn_op (sIc (n := 400) (by decide)) ?_
  refine sn_op (sCI (sfX6_within c hc) (by decide) (by decide +kernel)) ?_
  refine sn_op sIfNe ?_
  refine sn_op (sIc (n := -1) (by decide)) ?_
  refine sn_op sIret ?_
  refine sn_op sIl ?_
  refine sn_op sAl ?_
  refine sn_op sGetNw ?_
  refine sn_op sIl ?_
  refine sn_op sIl ?_
  refine sn_op (sCI (sfX0_sinceBoth c hc) (by decide) (by decide +kernel)) ?_
  refine sn_op sCmLt ?_
  refine sn_op sAl ?_
  refine sn_op sGetNw ?_
  refine sn_op sGetR ?_
  refine sn_op sIl ?_
  refine sn_op sIl ?_
  refine sn_op sIl ?_
  refine sn_op sIl ?_
  refine sn_op sIl ?_
  refine sn_op sIl ?_
  refine sn_op sIl ?_
  refine sn_op (sCI (sfX4_add c hc) (by decide) (by decide +kernel)) ?_
  refine sn_op sIfNe ?_
  refine sn_op (sIc (n := -1) (by decide)) ?_
  refine sn_op sIret ?_
  refine sn_op sAl ?_
  refine sn_op sGetNw ?_
  refine sn_op sGetR ?_
  refine sn_op sDup ?_
  refine sn_op sGetI ?_
  refine sn_op (sIc (n := 1) (by decide)) ?_
  refine sn_op sIadd ?_
  refine sn_op sPutI ?_
  refine sn_op sAl ?_
  refine sn_op sGetR ?_
  refine sn_op (sCV (sfX1_forget c hc) (by decide) (by decide +kernel)) ?_
  refine sn_op sAl ?_
  refine sn_op sGetNw ?_
  refine sn_op sGetR ?_
  refine sn_op sGetI ?_
  refine sn_op (sIc (n := 1) (by decide)) ?_
  refine sn_op sIsub ?_
  refine sn_op sIret ?_
  exact sn_nil
def csX6_sell : List AC := [([(2, 6, 0), (0, -2147483648, 2147483647), (0, -2147483648, 2147483647), (0, -2147483648, 2147483647), (0, -2147483648, 2147483647), (0, -2147483648, 2147483647), (0, -2147483648, 2147483647), (0, -2147483648, 2147483647)], 2, [((0, -1, -1), [], []), ((0, 0, 39), [((49, 13), (0, 0))], [(1, (0, 11)), (2, (0, 11)), (3, (1, 999)), (4, (0, 11)), (5, (1, 999)), (6, (0, 400)), (7, (0, 99))])], [164312, 164328, 164344, 164360, 164376, 164392, 164408, 164696, 164712, 164728, 164744, 164760, 164776, 164792, 34359738820, 34359739204, 38654706116, 38654706500, 60129542193], [])]
set_option maxRecDepth 100000 in
set_option maxHeartbeats 4000000 in
theorem sfX6_sell (c : Nat × Nat) (hc : c = cA ∨ c = cB) : ∀ ac ∈ csX6_sell, SafeC TYg c mX6_sell ac := by
  intro ac hac
  simp only [csX6_sell, List.mem_cons, List.not_mem_nil, or_false] at hac
  rcases hac with rfl
  · rcases hc with rfl | rfl
    · exact safe_of (ann := []) (fuel := 600) okX6_sell (snX6_sell _ _ cA (Or.inl rfl)) (fun q hq => by cases hq) (by decide) (by decide +kernel)
    · exact safe_of (ann := []) (fuel := 600) okX6_sell (snX6_sell _ _ cB (Or.inr rfl)) (fun q hq => by cases hq) (by decide) (by decide +kernel)
set_option maxRecDepth 100000 in
def adX6_signs (D : KK) : List ACE := (0, 1, some (aAl 0)) :: (1, 3, some (aGetNw D)) :: (4, 3, some (aGetR [(336, 418), (720, 802)])) :: (7, 1, some (aIl 1)) :: (8, 3, some (aCall D 2 2 2 csX2_has)) :: (11, 3, some (aIf bNe bEq 16)) :: (14, 1, some (aIc (-1))) :: (15, 1, some (aIret)) :: (16, 1, some (aAl 0)) :: (17, 1, some (aIl 2)) :: (18, 1, some (aIl 3)) :: (19, 2, some (aIl 4)) :: (21, 3, some (aCall D 6 4 4 csX6_gather)) :: (24, 2, some (aIs 5)) :: (26, 2, some (aIl 5)) :: (28, 3, some (aIf (fun C x y => bLe C y x) bLt 36)) :: (31, 2, some (aIl 5)) :: (33, 3, some (aGoto 54)) :: (36, 1, some (aAl 0)) :: (37, 1, some (aIl 1)) :: (38, 1, some (aAl 0)) :: (39, 3, some (aGetNw D)) :: (42, 1, some (aAl 0)) :: (43, 3, some (aGetI D 6 6)) :: (46, 3, some (aCall D 0 2 4 csX0_missing)) :: (49, 2, some (aIl 5)) :: (51, 3, some (aCall D 6 4 5 csX6_signBits)) :: (54, 1, some (aIret)) :: []
set_option maxRecDepth 100000 in
set_option maxHeartbeats 4000000 in
theorem snX6_signs (d : Nat) (W : List Nat) (c : Nat × Nat) (hc : c = cA ∨ c = cB) : SndAll (d, TYg, c, W) cdX6_signs (adX6_signs (d, TYg, c, W)) := by
  unfold cdX6_signs adX6_signs
  refine sn_op sAl ?_
  refine sn_op sGetNw ?_
  refine sn_op sGetR ?_
  refine sn_op sIl ?_
  refine sn_op (sCI (sfX2_has c hc) (by decide) (by decide +kernel)) ?_
  refine sn_op sIfNe ?_
  refine sn_op (sIc (n := -1) (by decide)) ?_
  refine sn_op sIret ?_
  refine sn_op sAl ?_
  refine sn_op sIl ?_
  refine sn_op sIl ?_
  refine sn_op sIl ?_
  refine sn_op (sCI (sfX6_gather c hc) (by decide) (by decide +kernel)) ?_
  refine sn_op sIs ?_
  refine sn_op sIl ?_
  refine sn_op sIfGe ?_
  refine sn_op sIl ?_
  refine sn_op sGoto ?_
  refine sn_op sAl ?_
  refine sn_op sIl ?_
  refine sn_op sAl ?_
  refine sn_op sGetNw ?_
  refine sn_op sAl ?_
  refine sn_op sGetI ?_
  refine sn_op (sCI (sfX0_missing c hc) (by decide) (by decide +kernel)) ?_
  refine sn_op sIl ?_
  refine sn_op (sCI (sfX6_signBits c hc) (by decide) (by decide +kernel)) ?_
  refine sn_op sIret ?_
  exact sn_nil
def csX6_signs : List AC := [([(2, 6, 0), (0, -2147483648, 2147483647), (0, -2147483648, 2147483647), (0, -2147483648, 2147483647), (0, -2147483648, 2147483647)], 11, [((0, -2147483648, 2147483647), [((49, 9), (0, 200)), ((49, 13), (1, 1)), ((49, 14), (0, 1)), ((49, 15), (0, 400))], [(1, (0, 11)), (2, (0, 1)), (3, (2, 6)), (4, (0, 400))]), ((0, -2, -1), [], []), ((0, 0, 0), [((49, 9), (0, 200)), ((49, 13), (1, 1)), ((49, 14), (0, 1)), ((49, 15), (0, 400))], [(1, (0, 11)), (2, (0, 1)), (3, (2, 6)), (4, (0, 400))])], [49864, 50248, 163944, 163960, 163976, 163992, 164009, 295097, 819273, 819288, 38654705713, 42949673009, 47244640305, 51539607601, 55834574897, 60129542193, 64424509489, 68719476785, 73014444081], [])]
set_option maxRecDepth 100000 in
set_option maxHeartbeats 4000000 in
theorem sfX6_signs (c : Nat × Nat) (hc : c = cA ∨ c = cB) : ∀ ac ∈ csX6_signs, SafeC TYg c mX6_signs ac := by
  intro ac hac
  simp only [csX6_signs, List.mem_cons, List.not_mem_nil, or_false] at hac
  rcases hac with rfl
  · rcases hc with rfl | rfl
    · exact safe_of (ann := []) (fuel := 600) okX6_signs (snX6_signs _ _ cA (Or.inl rfl)) (fun q hq => by cases hq) (by decide) (by decide +kernel)
    · exact safe_of (ann := []) (fuel := 600) okX6_signs (snX6_signs _ _ cB (Or.inr rfl)) (fun q hq => by cases hq) (by decide) (by decide +kernel)
set_option maxRecDepth 100000 in
def adX6_weighLands (D : KK) : List ACE := (0, 1, some (aAl 0)) :: (1, 3, some (aGetNw D)) :: (4, 1, some (aIc (0))) :: (5, 3, some (aCall D 0 2 4 csX0_missing)) :: (8, 1, some (aIs 2)) :: (9, 1, some (aIc (0))) :: (10, 1, some (aIs 3)) :: (11, 0, none) :: (11, 1, some (aIl 3)) :: (12, 1, some (aAl 0)) :: (13, 3, some (aGetNw D)) :: (16, 3, some (aGetR [(336, 354), (720, 738)])) :: (19, 3, some (aGetI D 2 1)) :: (22, 3, some (aCm (fun C x y => bLe C y x) bLt 120)) :: (25, 1, some (aAl 0)) :: (26, 3, some (aGetR [(6, 21640)])) :: (29, 1, some (aIl 3)) :: (30, 1, some (aAl 0)) :: (31, 3, some (aGetNw D)) :: (34, 1, some (aIl 3)) :: (35, 1, some (aIl 2)) :: (36, 3, some (aCall D 0 3 6 csX0_honestSales)) :: (39, 1, some (aIast D)) :: (40, 1, some (aAl 0)) :: (41, 3, some (aGetR [(6, 21625)])) :: (44, 1, some (aIl 3)) :: (45, 1, some (aJc (0))) :: (46, 1, some (aJast D)) :: (47, 1, some (aIl 2)) :: (48, 1, some (aAl 0)) :: (49, 3, some (aGetNw D)) :: (52, 1, some (aIl 3)) :: (53, 3, some (aCall D 0 2 4 csX0_firmsIn)) :: (56, 1, some (aBin fAnd)) :: (57, 2, some (aIs 4)) :: (59, 1, some (aIc (0))) :: (60, 2, some (aIs 5)) :: (62, 0, none) :: (62, 2, some (aIl 5)) :: (64, 1, some (aIl 1)) :: (65, 3, some (aCm (fun C x y => bLe C y x) bLt 114)) :: (68, 1, some (aAl 0)) :: (69, 3, some (aGetR [(6, 21625)])) :: (72, 1, some (aIl 3)) :: (73, 1, some (aDup2)) :: (74, 1, some (aJald)) :: (75, 1, some (aAl 0)) :: (76, 3, some (aGetNw D)) :: (79, 1, some (aAl 0)) :: (80, 3, some (aGetR [(6, 49)])) :: (83, 3, some (aGetR [(49, 819273)])) :: (86, 2, some (aIl 5)) :: (88, 1, some (aJald)) :: (89, 1, some (aAl 0)) :: (90, 3, some (aGetR [(6, 49)])) :: (93, 3, some (aGetR [(49, 819288)])) :: (96, 2, some (aIl 5)) :: (98, 1, some (aIald D)) :: (99, 2, some (aIl 4)) :: (101, 1, some (aIc (0))) :: (102, 3, some (aCall D 0 5 10 csX0_takenBy)) :: (105, 1, some (aUn (fun C x => (6, rng C x)))) :: (106, 1, some (aLL)) :: (107, 1, some (aJast D)) :: (108, 3, some (aInc 5 (1))) :: (111, 3, some (aGoto 62)) :: (114, 3, some (aInc 3 (1))) :: (117, 3, some (aGoto 11)) :: (120, 1, some (aVret)) :: []
set_option maxRecDepth 100000 in
set_option maxHeartbeats 4000000 in
theorem snX6_weighLands (d : Nat) (W : List Nat) (c : Nat × Nat) (hc : c = cA ∨ c = cB) : SndAll (d, TYg, c, W) cdX6_weighLands (adX6_weighLands (d, TYg, c, W)) := by
  unfold cdX6_weighLands adX6_weighLands
  refine sn_op sAl ?_
  refine sn_op sGetNw ?_
  refine sn_op (sIc (n := 0) (by decide)) ?_
  refine sn_op (sCI (sfX0_missing c hc) (by decide) (by decide +kernel)) ?_
  refine sn_op sIs ?_
  refine sn_op (sIc (n := 0) (by decide)) ?_
  refine sn_op sIs ?_
  refine sn_st ?_
  refine sn_op sIl ?_
  refine sn_op sAl ?_
  refine sn_op sGetNw ?_
  refine sn_op sGetR ?_
  refine sn_op sGetI ?_
  refine sn_op sCmGe ?_
  refine sn_op sAl ?_
  refine sn_op sGetR ?_
  refine sn_op sIl ?_
  refine sn_op sAl ?_
  refine sn_op sGetNw ?_
  refine sn_op sIl ?_
  refine sn_op sIl ?_
  refine sn_op (sCI (sfX0_honestSales c hc) (by decide) (by decide +kernel)) ?_
  refine sn_op sIast ?_
  refine sn_op sAl ?_
  refine sn_op sGetR ?_
  refine sn_op sIl ?_
  refine sn_op (sJc (n := 0) (by decide)) ?_
  refine sn_op sJast ?_
  refine sn_op sIl ?_
  refine sn_op sAl ?_
  refine sn_op sGetNw ?_
  refine sn_op sIl ?_
  refine sn_op (sCI (sfX0_firmsIn c hc) (by decide) (by decide +kernel)) ?_
  refine sn_op sIand ?_
  refine sn_op sIs ?_
  refine sn_op (sIc (n := 0) (by decide)) ?_
  refine sn_op sIs ?_
  refine sn_st ?_
  refine sn_op sIl ?_
  refine sn_op sIl ?_
  refine sn_op sCmGe ?_
  refine sn_op sAl ?_
  refine sn_op sGetR ?_
  refine sn_op sIl ?_
  refine sn_op sDup2 ?_
  refine sn_op sJald ?_
  refine sn_op sAl ?_
  refine sn_op sGetNw ?_
  refine sn_op sAl ?_
  refine sn_op sGetR ?_
  refine sn_op sGetR ?_
  refine sn_op sIl ?_
  refine sn_op sJald ?_
  refine sn_op sAl ?_
  refine sn_op sGetR ?_
  refine sn_op sGetR ?_
  refine sn_op sIl ?_
  refine sn_op sIald ?_
  refine sn_op sIl ?_
  refine sn_op (sIc (n := 0) (by decide)) ?_
  refine sn_op (sCI (sfX0_takenBy c hc) (by decide) (by decide +kernel)) ?_
  refine sn_op sI2l ?_
  refine sn_op sLadd ?_
  refine sn_op sJast ?_
  refine sn_op (sInc (n := 1) (by decide)) ?_
  refine sn_op sGoto ?_
  refine sn_op (sInc (n := 1) (by decide)) ?_
  refine sn_op sGoto ?_
  refine sn_op sVret ?_
  exact sn_nil
def csX6_weighLands : List AC := [([(2, 6, 0), (0, 0, 200)], 5, [((9, 0, 0), [], [])], [21625, 21640, 49864, 50248], [])]
set_option maxRecDepth 100000 in
set_option maxHeartbeats 4000000 in
theorem sfX6_weighLands (c : Nat × Nat) (hc : c = cA ∨ c = cB) : ∀ ac ∈ csX6_weighLands, SafeC TYg c mX6_weighLands ac := by
  intro ac hac
  simp only [csX6_weighLands, List.mem_cons, List.not_mem_nil, or_false] at hac
  rcases hac with rfl
  · rcases hc with rfl | rfl
    · exact safe_of (ann := [(11, [(2, 6, 0), (0, 0, 200), (0, -2147483648, 2147483647), (0, 0, 5), (4, 0, 0), (4, 0, 0)], [(0, 3, 0, 4294967296), (3, 0, 0, 2)]), (62, [(2, 6, 0), (0, 0, 200), (0, -2147483648, 2147483647), (0, 0, 4), (0, -2147483648, 2147483647), (0, 0, 200)], [(0, 3, 0, 4294967296), (3, 0, 0, 1), (0, 5, 0, 4294967296)])]) (fuel := 600) okX6_weighLands (snX6_weighLands _ _ cA (Or.inl rfl)) (List.forall_mem_cons.mpr ⟨⟨_, _, rfl⟩, List.forall_mem_cons.mpr ⟨⟨_, _, rfl⟩, (fun q hq => by cases hq)⟩⟩) (by decide) (by decide +kernel)
    · exact safe_of (ann := [(11, [(2, 6, 0), (0, 0, 200), (0, -2147483648, 2147483647), (0, 0, 5), (4, 0, 0), (4, 0, 0)], [(0, 3, 0, 4294967296), (3, 0, 0, 2)]), (62, [(2, 6, 0), (0, 0, 200), (0, -2147483648, 2147483647), (0, 0, 4), (0, -2147483648, 2147483647), (0, 0, 200)], [(0, 3, 0, 4294967296), (3, 0, 0, 1), (0, 5, 0, 4294967296)])]) (fuel := 600) okX6_weighLands (snX6_weighLands _ _ cB (Or.inr rfl)) (List.forall_mem_cons.mpr ⟨⟨_, _, rfl⟩, List.forall_mem_cons.mpr ⟨⟨_, _, rfl⟩, (fun q hq => by cases hq)⟩⟩) (by decide) (by decide +kernel)
set_option maxRecDepth 100000 in
def adX6_starve (D : KK) : List ACE := (0, 2, some (aIl 4)) :: (2, 3, some (aIf bLt (fun C x y => bLe C y x) 15)) :: (5, 2, some (aIl 5)) :: (7, 1, some (aIc (0))) :: (8, 1, some (aIc (2))) :: (9, 3, some (aCall D 16 3 3 csX6_within)) :: (12, 3, some (aIf bNe bEq 19)) :: (15, 3, some (aJc (-1))) :: (18, 1, some (aJret)) :: (19, 1, some (aAl 0)) :: (20, 1, some (aIl 1)) :: (21, 1, some (aIl 2)) :: (22, 1, some (aIl 3)) :: (23, 3, some (aCall D 6 4 4 csX6_gather)) :: (26, 2, some (aIs 6)) :: (28, 2, some (aIl 6)) :: (30, 3, some (aIf (fun C x y => bLe C y x) bLt 37)) :: (33, 2, some (aIl 6)) :: (35, 1, some (aUn (fun C x => (6, rng C x)))) :: (36, 1, some (aJret)) :: (37, 1, some (aAl 0)) :: (38, 2, some (aIl 6)) :: (40, 3, some (aCall D 6 2 6 csX6_weighLands)) :: (43, 1, some (aAl 0)) :: (44, 2, some (aIl 4)) :: (46, 3, some (aCall D 6 2 10 csX6_bestLands)) :: (49, 2, some (aIs 7)) :: (51, 2, some (aIl 5)) :: (53, 27, some (aSw [(0, 80), (1, 84)] 91)) :: (80, 2, some (aIl 7)) :: (82, 1, some (aUn (fun C x => (6, rng C x)))) :: (83, 1, some (aJret)) :: (84, 1, some (aAl 0)) :: (85, 2, some (aIl 7)) :: (87, 3, some (aCall D 6 2 5 csX6_takesOutside)) :: (90, 1, some (aJret)) :: (91, 1, some (aAl 0)) :: (92, 2, some (aIl 7)) :: (94, 3, some (aCall D 6 2 4 csX6_burdenInside)) :: (97, 1, some (aUn (fun C x => (6, rng C x)))) :: (98, 1, some (aJret)) :: []
set_option maxRecDepth 100000 in
set_option maxHeartbeats 4000000 in
theorem snX6_starve (d : Nat) (W : List Nat) (c : Nat × Nat) (hc : c = cA ∨ c = cB) : SndAll (d, TYg, c, W) cdX6_starve (adX6_starve (d, TYg, c, W)) := by
  unfold cdX6_starve adX6_starve
  refine sn_op sIl ?_
  refine sn_op sIfLt ?_
  refine sn_op sIl ?_
  refine sn_op (sIc (n := 0) (by decide)) ?_
  refine sn_op (sIc (n := 2) (by decide)) ?_
  refine sn_op (sCI (sfX6_within c hc) (by decide) (by decide +kernel)) ?_
  refine sn_op sIfNe ?_
  refine sn_op (sJc (n := -1) (by decide)) ?_
  refine sn_op sJret ?_
  refine sn_op sAl ?_
  refine sn_op sIl ?_
  refine sn_op sIl ?_
  refine sn_op sIl ?_
  refine sn_op (sCI (sfX6_gather c hc) (by decide) (by decide +kernel)) ?_
  refine sn_op sIs ?_
  refine sn_op sIl ?_
  refine sn_op sIfGe ?_
  refine sn_op sIl ?_
  refine sn_op sI2l ?_
  refine sn_op sJret ?_
  refine sn_op sAl ?_
  refine sn_op sIl ?_
  refine sn_op (sCV (sfX6_weighLands c hc) (by decide) (by decide +kernel)) ?_
  refine sn_op sAl ?_
  refine sn_op sIl ?_
  refine sn_op (sCI (sfX6_bestLands c hc) (by decide) (by decide +kernel)) ?_
  refine sn_op sIs ?_
  refine sn_op sIl ?_
  refine sn_op (sSw (by decide)) ?_
  refine sn_op sIl ?_
  refine sn_op sI2l ?_
  refine sn_op sJret ?_
  refine sn_op sAl ?_
  refine sn_op sIl ?_
  refine sn_op (sCJ (sfX6_takesOutside c hc) (by decide) (by decide +kernel)) ?_
  refine sn_op sJret ?_
  refine sn_op sAl ?_
  refine sn_op sIl ?_
  refine sn_op (sCI (sfX6_burdenInside c hc) (by decide) (by decide +kernel)) ?_
  refine sn_op sI2l ?_
  refine sn_op sJret ?_
  exact sn_nil
def csX6_starve : List AC := [([(2, 6, 0), (0, -2147483648, 2147483647), (0, -2147483648, 2147483647), (0, -2147483648, 2147483647), (0, -2147483648, 2147483647), (0, -2147483648, 2147483647)], 11, [((8, 0, 0), [], [])], [21625, 21640, 49864, 50248, 163944, 163960, 163976, 163992, 164009, 295097, 819273, 819288, 38654705713, 42949673009, 47244640305, 51539607601, 55834574897, 60129542193, 64424509489, 68719476785, 73014444081], [])]
set_option maxRecDepth 100000 in
set_option maxHeartbeats 4000000 in
theorem sfX6_starve (c : Nat × Nat) (hc : c = cA ∨ c = cB) : ∀ ac ∈ csX6_starve, SafeC TYg c mX6_starve ac := by
  intro ac hac
  simp only [csX6_starve, List.mem_cons, List.not_mem_nil, or_false] at hac
  rcases hac with rfl
  · rcases hc with rfl | rfl
    · exact safe_of (ann := []) (fuel := 600) okX6_starve (snX6_starve _ _ cA (Or.inl rfl)) (fun q hq => by cases hq) (by decide) (by decide +kernel)
    · exact safe_of (ann := []) (fuel := 600) okX6_starve (snX6_starve _ _ cB (Or.inr rfl)) (fun q hq => by cases hq) (by decide) (by decide +kernel)
set_option maxRecDepth 100000 in
def adX6_stop (D : KK) : List ACE := (0, 1, some (aIl 1)) :: (1, 1, some (aAl 0)) :: (2, 3, some (aGetNw D)) :: (5, 3, some (aGetR [(336, 418), (720, 802)])) :: (8, 3, some (aGetI D 2 1)) :: (11, 3, some (aCall D 16 2 2 csX6_areBits)) :: (14, 3, some (aIf bNe bEq 19)) :: (17, 1, some (aIc (-1))) :: (18, 1, some (aIret)) :: (19, 1, some (aAl 0)) :: (20, 1, some (aIl 1)) :: (21, 3, some (aPutI D 6 5)) :: (24, 1, some (aIl 1)) :: (25, 3, some (aCall D 16 1 1 csJ6_bitCount_0f7a4)) :: (28, 1, some (aIret)) :: []
set_option maxRecDepth 100000 in
set_option maxHeartbeats 4000000 in
theorem snX6_stop (d : Nat) (W : List Nat) (c : Nat × Nat) (hc : c = cA ∨ c = cB) : SndAll (d, TYg, c, W) cdX6_stop (adX6_stop (d, TYg, c, W)) := by
  unfold cdX6_stop adX6_stop
  refine sn_op sIl ?_
  refine sn_op sAl ?_
  refine sn_op sGetNw ?_
  refine sn_op sGetR ?_
  refine sn_op sGetI ?_
  refine sn_op (sCI (sfX6_areBits c hc) (by decide) (by decide +kernel)) ?_
  refine sn_op sIfNe ?_
  refine sn_op (sIc (n := -1) (by decide)) ?_
  refine sn_op sIret ?_
  refine sn_op sAl ?_
  refine sn_op sIl ?_
  refine sn_op sPutI ?_
  refine sn_op sIl ?_
  refine sn_op (sCI (sfJ6_bitCount_0f7a4 c hc) (by decide) (by decide +kernel)) ?_
  refine sn_op sIret ?_
  exact sn_nil
def csX6_stop : List AC := [([(2, 6, 0), (0, -2147483648, 2147483647)], 2, [((0, -1, -1), [], []), ((0, 0, 63), [], [])], [25769803782], [])]
set_option maxRecDepth 100000 in
set_option maxHeartbeats 4000000 in
theorem sfX6_stop (c : Nat × Nat) (hc : c = cA ∨ c = cB) : ∀ ac ∈ csX6_stop, SafeC TYg c mX6_stop ac := by
  intro ac hac
  simp only [csX6_stop, List.mem_cons, List.not_mem_nil, or_false] at hac
  rcases hac with rfl
  · rcases hc with rfl | rfl
    · exact safe_of (ann := []) (fuel := 600) okX6_stop (snX6_stop _ _ cA (Or.inl rfl)) (fun q hq => by cases hq) (by decide) (by decide +kernel)
    · exact safe_of (ann := []) (fuel := 600) okX6_stop (snX6_stop _ _ cB (Or.inr rfl)) (fun q hq => by cases hq) (by decide) (by decide +kernel)
set_option maxRecDepth 100000 in
def adX6_takes (D : KK) : List ACE := (0, 1, some (aAl 0)) :: (1, 1, some (aIl 1)) :: (2, 1, some (aIl 2)) :: (3, 1, some (aIl 3)) :: (4, 3, some (aCall D 6 4 4 csX6_gather)) :: (7, 2, some (aIs 4)) :: (9, 2, some (aIl 4)) :: (11, 3, some (aIf (fun C x y => bLe C y x) bLt 18)) :: (14, 2, some (aIl 4)) :: (16, 1, some (aUn (fun C x => (6, rng C x)))) :: (17, 1, some (aJret)) :: (18, 1, some (aAl 0)) :: (19, 3, some (aGetNw D)) :: (22, 1, some (aAl 0)) :: (23, 3, some (aGetI D 6 6)) :: (26, 3, some (aCall D 0 2 4 csX0_missing)) :: (29, 2, some (aIs 5)) :: (31, 1, some (aJc (0))) :: (32, 2, some (aJs 6)) :: (34, 1, some (aIc (0))) :: (35, 2, some (aIs 8)) :: (37, 0, none) :: (37, 2, some (aIl 8)) :: (39, 2, some (aIl 4)) :: (41, 3, some (aCm (fun C x y => bLe C y x) bLt 89)) :: (44, 2, some (aJl 6)) :: (46, 1, some (aAl 0)) :: (47, 3, some (aGetNw D)) :: (50, 1, some (aAl 0)) :: (51, 3, some (aGetR [(6, 49)])) :: (54, 3, some (aGetR [(49, 819273)])) :: (57, 2, some (aIl 8)) :: (59, 1, some (aJald)) :: (60, 1, some (aAl 0)) :: (61, 3, some (aGetR [(6, 49)])) :: (64, 3, some (aGetR [(49, 819288)])) :: (67, 2, some (aIl 8)) :: (69, 1, some (aIald D)) :: (70, 2, some (aIl 5)) :: (72, 1, some (aAl 0)) :: (73, 3, some (aGetI D 6 6)) :: (76, 3, some (aCall D 0 5 10 csX0_takenBy)) :: (79, 1, some (aUn (fun C x => (6, rng C x)))) :: (80, 1, some (aLL)) :: (81, 2, some (aJs 6)) :: (83, 3, some (aInc 8 (1))) :: (86, 3, some (aGoto 37)) :: (89, 2, some (aJl 6)) :: (91, 1, some (aJret)) :: []
set_option maxRecDepth 100000 in
set_option maxHeartbeats 4000000 in
theorem snX6_takes (d : Nat) (W : List Nat) (c : Nat × Nat) (hc : c = cA ∨ c = cB) : SndAll (d, TYg, c, W) cdX6_takes (adX6_takes (d, TYg, c, W)) := by
  unfold cdX6_takes adX6_takes
  refine sn_op sAl ?_
  refine sn_op sIl ?_
  refine sn_op sIl ?_
  refine sn_op sIl ?_
  refine sn_op (sCI (sfX6_gather c hc) (by decide) (by decide +kernel)) ?_
  refine sn_op sIs ?_
  refine sn_op sIl ?_
  refine sn_op sIfGe ?_
  refine sn_op sIl ?_
  refine sn_op sI2l ?_
  refine sn_op sJret ?_
  refine sn_op sAl ?_
  refine sn_op sGetNw ?_
  refine sn_op sAl ?_
  refine sn_op sGetI ?_
  refine sn_op (sCI (sfX0_missing c hc) (by decide) (by decide +kernel)) ?_
  refine sn_op sIs ?_
  refine sn_op (sJc (n := 0) (by decide)) ?_
  refine sn_op sJs ?_
  refine sn_op (sIc (n := 0) (by decide)) ?_
  refine sn_op sIs ?_
  refine sn_st ?_
  refine sn_op sIl ?_
  refine sn_op sIl ?_
  refine sn_op sCmGe ?_
  refine sn_op sJl ?_
  refine sn_op sAl ?_
  refine sn_op sGetNw ?_
  refine sn_op sAl ?_
  refine sn_op sGetR ?_
  refine sn_op sGetR ?_
  refine sn_op sIl ?_
  refine sn_op sJald ?_
  refine sn_op sAl ?_
  refine sn_op sGetR ?_
  refine sn_op sGetR ?_
  refine sn_op sIl ?_
  refine sn_op sIald ?_
  refine sn_op sIl ?_
  refine sn_op sAl ?_
  refine sn_op sGetI ?_
  refine sn_op (sCI (sfX0_takenBy c hc) (by decide) (by decide +kernel)) ?_
  refine sn_op sI2l ?_
  refine sn_op sLadd ?_
  refine sn_op sJs ?_
  refine sn_op (sInc (n := 1) (by decide)) ?_
  refine sn_op sGoto ?_
  refine sn_op sJl ?_
  refine sn_op sJret ?_
  exact sn_nil
def csX6_takes : List AC := [([(2, 6, 0), (0, -2147483648, 2147483647), (0, -2147483648, 2147483647), (0, -2147483648, 2147483647)], 11, [((8, 0, 0), [], [])], [49864, 50248, 163944, 163960, 163976, 163992, 164009, 295097, 819273, 819288, 38654705713, 42949673009, 47244640305, 51539607601, 55834574897, 60129542193, 64424509489, 68719476785, 73014444081], [])]
set_option maxRecDepth 100000 in
set_option maxHeartbeats 4000000 in
theorem sfX6_takes (c : Nat × Nat) (hc : c = cA ∨ c = cB) : ∀ ac ∈ csX6_takes, SafeC TYg c mX6_takes ac := by
  intro ac hac
  simp only [csX6_takes, List.mem_cons, List.not_mem_nil, or_false] at hac
  rcases hac with rfl
  · rcases hc with rfl | rfl
    · exact safe_of (ann := [(37, [(2, 6, 0), (0, 0, 1), (0, 2, 6), (0, 0, 400), (0, 0, 200), (0, -2147483648, 2147483647), (8, 0, 0), (4, 0, 0), (0, 0, 200)], [(0, 8, 0, 4294967296)])]) (fuel := 600) okX6_takes (snX6_takes _ _ cA (Or.inl rfl)) (List.forall_mem_cons.mpr ⟨⟨_, _, rfl⟩, (fun q hq => by cases hq)⟩) (by decide) (by decide +kernel)
    · exact safe_of (ann := [(37, [(2, 6, 0), (0, 0, 1), (0, 2, 6), (0, 0, 400), (0, 0, 200), (0, -2147483648, 2147483647), (8, 0, 0), (4, 0, 0), (0, 0, 200)], [(0, 8, 0, 4294967296)])]) (fuel := 600) okX6_takes (snX6_takes _ _ cB (Or.inr rfl)) (List.forall_mem_cons.mpr ⟨⟨_, _, rfl⟩, (fun q hq => by cases hq)⟩) (by decide) (by decide +kernel)
set_option maxRecDepth 100000 in
def adX6_undo (D : KK) : List ACE := (0, 1, some (aAl 0)) :: (1, 3, some (aGetNw D)) :: (4, 3, some (aGetR [(336, 452), (720, 836)])) :: (7, 1, some (aAs 1)) :: (8, 1, some (aAl 1)) :: (9, 3, some (aGetI D 4 8)) :: (12, 3, some (aIf bLe (fun C x y => bLt C y x) 22)) :: (15, 1, some (aAl 1)) :: (16, 3, some (aGetI D 4 7)) :: (19, 3, some (aIf (fun C x y => bLt C y x) bLe 24)) :: (22, 1, some (aIc (-1))) :: (23, 1, some (aIret)) :: (24, 1, some (aAl 1)) :: (25, 1, some (aDup)) :: (26, 3, some (aGetI D 4 7)) :: (29, 1, some (aIc (1))) :: (30, 1, some (aBin fSub)) :: (31, 3, some (aPutI D 4 7)) :: (34, 1, some (aAl 1)) :: (35, 1, some (aDup)) :: (36, 3, some (aGetI D 4 8)) :: (39, 1, some (aIc (1))) :: (40, 1, some (aBin fSub)) :: (41, 3, some (aPutI D 4 8)) :: (44, 1, some (aAl 0)) :: (45, 3, some (aGetR [(6, 49)])) :: (48, 3, some (aCall D 1 1 1 csX1_forget)) :: (51, 1, some (aAl 1)) :: (52, 3, some (aGetI D 4 8)) :: (55, 1, some (aIret)) :: []
set_option maxRecDepth 100000 in
set_option maxHeartbeats 4000000 in
theorem snX6_undo (d : Nat) (W : List Nat) (c : Nat × Nat) (hc : c = cA ∨ c = cB) : SndAll (d, TYg, c, W) cdX6_undo (adX6_undo (d, TYg, c, W)) := by
  unfold cdX6_undo adX6_undo
  refine sn_op sAl ?_
  refine sn_op sGetNw ?_
  refine sn_op sGetR ?_
  refine sn_op sAs ?_
  refine sn_op sAl ?_
  refine sn_op sGetI ?_
  refine sn_op sIfLe ?_
  refine sn_op sAl ?_
  refine sn_op sGetI ?_
  refine sn_op sIfGt ?_
  refine sn_op (sIc (n := -1) (by decide)) ?_
  refine sn_op sIret ?_
  refine sn_op sAl ?_
  refine sn_op sDup ?_
  refine sn_op sGetI ?_
  refine sn_op (sIc (n := 1) (by decide)) ?_
  refine sn_op sIsub ?_
  refine sn_op sPutI ?_
  refine sn_op sAl ?_
  refine sn_op sDup ?_
  refine sn_op sGetI ?_
  refine sn_op (sIc (n := 1) (by decide)) ?_
  refine sn_op sIsub ?_
  refine sn_op sPutI ?_
  refine sn_op sAl ?_
  refine sn_op sGetR ?_
  refine sn_op (sCV (sfX1_forget c hc) (by decide) (by decide +kernel)) ?_
  refine sn_op sAl ?_
  refine sn_op sGetI ?_
  refine sn_op sIret ?_
  exact sn_nil
def csX6_undo : List AC := [([(2, 6, 0)], 2, [((0, -1, -1), [], []), ((0, 0, 2147483646), [((49, 13), (0, 0))], [])], [34359738820, 34359739204, 38654706116, 38654706500, 60129542193], [])]
set_option maxRecDepth 100000 in
set_option maxHeartbeats 4000000 in
theorem sfX6_undo (c : Nat × Nat) (hc : c = cA ∨ c = cB) : ∀ ac ∈ csX6_undo, SafeC TYg c mX6_undo ac := by
  intro ac hac
  simp only [csX6_undo, List.mem_cons, List.not_mem_nil, or_false] at hac
  rcases hac with rfl
  · rcases hc with rfl | rfl
    · exact safe_of (ann := []) (fuel := 600) okX6_undo (snX6_undo _ _ cA (Or.inl rfl)) (fun q hq => by cases hq) (by decide) (by decide +kernel)
    · exact safe_of (ann := []) (fuel := 600) okX6_undo (snX6_undo _ _ cB (Or.inr rfl)) (fun q hq => by cases hq) (by decide) (by decide +kernel)
set_option maxRecDepth 100000 in
def adX7_firmsOf (D : KK) : List ACE := (0, 1, some (aIc (0))) :: (1, 1, some (aIs 2)) :: (2, 1, some (aIc (0))) :: (3, 1, some (aIs 3)) :: (4, 0, none) :: (4, 1, some (aIl 3)) :: (5, 1, some (aAl 0)) :: (6, 3, some (aGetR [(1175, 820712)])) :: (9, 1, some (aIl 1)) :: (10, 1, some (aIald D)) :: (11, 3, some (aCm (fun C x y => bLe C y x) bLt 41)) :: (14, 1, some (aIl 2)) :: (15, 1, some (aIc (1))) :: (16, 1, some (aAl 0)) :: (17, 3, some (aGetR [(1175, 329048)])) :: (20, 1, some (aAl 0)) :: (21, 3, some (aGetR [(1175, 4916696)])) :: (24, 2, some (aIc (6))) :: (26, 1, some (aIl 1)) :: (27, 1, some (aBin fMul)) :: (28, 1, some (aIl 3)) :: (29, 1, some (aBin fAdd)) :: (30, 1, some (aIald D)) :: (31, 1, some (aIald D)) :: (32, 1, some (aBin fTop)) :: (33, 1, some (aBin fTop)) :: (34, 1, some (aIs 2)) :: (35, 3, some (aInc 3 (1))) :: (38, 3, some (aGoto 4)) :: (41, 1, some (aIl 2)) :: (42, 1, some (aIret)) :: []
set_option maxRecDepth 100000 in
set_option maxHeartbeats 4000000 in
theorem snX7_firmsOf (d : Nat) (W : List Nat) (c : Nat × Nat) (hc : c = cA ∨ c = cB) : SndAll (d, TYg, c, W) cdX7_firmsOf (adX7_firmsOf (d, TYg, c, W)) := by
  unfold cdX7_firmsOf adX7_firmsOf
  refine sn_op (sIc (n := 0) (by decide)) ?_
  refine sn_op sIs ?_
  refine sn_op (sIc (n := 0) (by decide)) ?_
  refine sn_op sIs ?_
  refine sn_st ?_
  refine sn_op sIl ?_
  refine sn_op sAl ?_
  refine sn_op sGetR ?_
  refine sn_op sIl ?_
  refine sn_op sIald ?_
  refine sn_op sCmGe ?_
  refine sn_op sIl ?_
  refine sn_op (sIc (n := 1) (by decide)) ?_
  refine sn_op sAl ?_
  refine sn_op sGetR ?_
  refine sn_op sAl ?_
  refine sn_op sGetR ?_
  refine sn_op (sIc (n := 6) (by decide)) ?_
  refine sn_op sIl ?_
  refine sn_op sImul ?_
  refine sn_op sIl ?_
  refine sn_op sIadd ?_
  refine sn_op sIald ?_
  refine sn_op sIald ?_
  refine sn_op sIshl ?_
  refine sn_op sIor ?_
  refine sn_op sIs ?_
  refine sn_op (sInc (n := 1) (by decide)) ?_
  refine sn_op sGoto ?_
  refine sn_op sIl ?_
  refine sn_op sIret ?_
  exact sn_nil
def csX7_firmsOf : List AC := [([(2, 1175, 0), (0, 0, 0)], 1, [((0, -2147483648, 2147483647), [], [])], [], []), ([(2, 1175, 0), (0, 0, 199)], 1, [((0, -2147483648, 2147483647), [], [])], [], [])]
set_option maxRecDepth 100000 in
set_option maxHeartbeats 4000000 in
theorem sfX7_firmsOf (c : Nat × Nat) (hc : c = cA ∨ c = cB) : ∀ ac ∈ csX7_firmsOf, SafeC TYg c mX7_firmsOf ac := by
  intro ac hac
  simp only [csX7_firmsOf, List.mem_cons, List.not_mem_nil, or_false] at hac
  rcases hac with rfl | rfl
  · rcases hc with rfl | rfl
    · exact safe_of (ann := [(4, [(2, 1175, 0), (0, 0, 0), (0, -2147483648, 2147483647), (0, 0, 6)], [(0, 3, 0, 4294967296)])]) (fuel := 600) okX7_firmsOf (snX7_firmsOf _ _ cA (Or.inl rfl)) (List.forall_mem_cons.mpr ⟨⟨_, _, rfl⟩, (fun q hq => by cases hq)⟩) (by decide) (by decide +kernel)
    · exact safe_of (ann := [(4, [(2, 1175, 0), (0, 0, 0), (0, -2147483648, 2147483647), (0, 0, 6)], [(0, 3, 0, 4294967296)])]) (fuel := 600) okX7_firmsOf (snX7_firmsOf _ _ cB (Or.inr rfl)) (List.forall_mem_cons.mpr ⟨⟨_, _, rfl⟩, (fun q hq => by cases hq)⟩) (by decide) (by decide +kernel)
  · rcases hc with rfl | rfl
    · exact safe_of (ann := [(4, [(2, 1175, 0), (0, 0, 199), (0, -2147483648, 2147483647), (0, 0, 6)], [(0, 3, 0, 4294967296)])]) (fuel := 600) okX7_firmsOf (snX7_firmsOf _ _ cA (Or.inl rfl)) (List.forall_mem_cons.mpr ⟨⟨_, _, rfl⟩, (fun q hq => by cases hq)⟩) (by decide) (by decide +kernel)
    · exact safe_of (ann := [(4, [(2, 1175, 0), (0, 0, 199), (0, -2147483648, 2147483647), (0, 0, 6)], [(0, 3, 0, 4294967296)])]) (fuel := 600) okX7_firmsOf (snX7_firmsOf _ _ cB (Or.inr rfl)) (List.forall_mem_cons.mpr ⟨⟨_, _, rfl⟩, (fun q hq => by cases hq)⟩) (by decide) (by decide +kernel)
set_option maxRecDepth 100000 in
def adX7_carries (D : KK) : List ACE := (0, 3, some (aIc (999))) :: (3, 1, some (aIs 2)) :: (4, 1, some (aIc (0))) :: (5, 1, some (aIs 3)) :: (6, 0, none) :: (6, 1, some (aIl 3)) :: (7, 1, some (aAl 0)) :: (8, 3, some (aGetR [(1175, 820712)])) :: (11, 1, some (aIl 1)) :: (12, 1, some (aIald D)) :: (13, 3, some (aCm (fun C x y => bLe C y x) bLt 43)) :: (16, 1, some (aIl 2)) :: (17, 1, some (aAl 0)) :: (18, 3, some (aGetR [(1175, 329080)])) :: (21, 1, some (aAl 0)) :: (22, 3, some (aGetR [(1175, 4916696)])) :: (25, 2, some (aIc (6))) :: (27, 1, some (aIl 1)) :: (28, 1, some (aBin fMul)) :: (29, 1, some (aIl 3)) :: (30, 1, some (aBin fAdd)) :: (31, 1, some (aIald D)) :: (32, 1, some (aIald D)) :: (33, 3, some (aMin D)) :: (36, 1, some (aIs 2)) :: (37, 3, some (aInc 3 (1))) :: (40, 3, some (aGoto 6)) :: (43, 1, some (aIl 2)) :: (44, 1, some (aIret)) :: []
set_option maxRecDepth 100000 in
set_option maxHeartbeats 4000000 in
theorem snX7_carries (d : Nat) (W : List Nat) (c : Nat × Nat) (hc : c = cA ∨ c = cB) : SndAll (d, TYg, c, W) cdX7_carries (adX7_carries (d, TYg, c, W)) := by
  unfold cdX7_carries adX7_carries
  refine sn_op (sIc (n := 999) (by decide)) ?_
  refine sn_op sIs ?_
  refine sn_op (sIc (n := 0) (by decide)) ?_
  refine sn_op sIs ?_
  refine sn_st ?_
  refine sn_op sIl ?_
  refine sn_op sAl ?_
  refine sn_op sGetR ?_
  refine sn_op sIl ?_
  refine sn_op sIald ?_
  refine sn_op sCmGe ?_
  refine sn_op sIl ?_
  refine sn_op sAl ?_
  refine sn_op sGetR ?_
  refine sn_op sAl ?_
  refine sn_op sGetR ?_
  refine sn_op (sIc (n := 6) (by decide)) ?_
  refine sn_op sIl ?_
  refine sn_op sImul ?_
  refine sn_op sIl ?_
  refine sn_op sIadd ?_
  refine sn_op sIald ?_
  refine sn_op sIald ?_
  refine sn_op sMin ?_
  refine sn_op sIs ?_
  refine sn_op (sInc (n := 1) (by decide)) ?_
  refine sn_op sGoto ?_
  refine sn_op sIl ?_
  refine sn_op sIret ?_
  exact sn_nil
def csX7_carries : List AC := [([(2, 1175, 0), (0, 0, 0)], 1, [((0, 0, 999), [], [])], [], []), ([(2, 1175, 0), (0, 0, 199)], 1, [((0, 0, 999), [], [])], [], [])]
set_option maxRecDepth 100000 in
set_option maxHeartbeats 4000000 in
theorem sfX7_carries (c : Nat × Nat) (hc : c = cA ∨ c = cB) : ∀ ac ∈ csX7_carries, SafeC TYg c mX7_carries ac := by
  intro ac hac
  simp only [csX7_carries, List.mem_cons, List.not_mem_nil, or_false] at hac
  rcases hac with rfl | rfl
  · rcases hc with rfl | rfl
    · exact safe_of (ann := [(6, [(2, 1175, 0), (0, 0, 0), (0, 0, 999), (0, 0, 6)], [(0, 3, 0, 4294967296)])]) (fuel := 600) okX7_carries (snX7_carries _ _ cA (Or.inl rfl)) (List.forall_mem_cons.mpr ⟨⟨_, _, rfl⟩, (fun q hq => by cases hq)⟩) (by decide) (by decide +kernel)
    · exact safe_of (ann := [(6, [(2, 1175, 0), (0, 0, 0), (0, 0, 999), (0, 0, 6)], [(0, 3, 0, 4294967296)])]) (fuel := 600) okX7_carries (snX7_carries _ _ cB (Or.inr rfl)) (List.forall_mem_cons.mpr ⟨⟨_, _, rfl⟩, (fun q hq => by cases hq)⟩) (by decide) (by decide +kernel)
  · rcases hc with rfl | rfl
    · exact safe_of (ann := [(6, [(2, 1175, 0), (0, 0, 199), (0, 0, 999), (0, 0, 6)], [(0, 3, 0, 4294967296)])]) (fuel := 600) okX7_carries (snX7_carries _ _ cA (Or.inl rfl)) (List.forall_mem_cons.mpr ⟨⟨_, _, rfl⟩, (fun q hq => by cases hq)⟩) (by decide) (by decide +kernel)
    · exact safe_of (ann := [(6, [(2, 1175, 0), (0, 0, 199), (0, 0, 999), (0, 0, 6)], [(0, 3, 0, 4294967296)])]) (fuel := 600) okX7_carries (snX7_carries _ _ cB (Or.inr rfl)) (List.forall_mem_cons.mpr ⟨⟨_, _, rfl⟩, (fun q hq => by cases hq)⟩) (by decide) (by decide +kernel)
set_option maxRecDepth 100000 in
def adX7_rate (D : KK) : List ACE := (0, 1, some (aAl 0)) :: (1, 3, some (aGetR [(1175, 99576)])) :: (4, 1, some (aAl 0)) :: (5, 3, some (aGetR [(1175, 329048)])) :: (8, 1, some (aIl 1)) :: (9, 1, some (aIald D)) :: (10, 1, some (aIald D)) :: (11, 1, some (aIs 3)) :: (12, 1, some (aIl 3)) :: (13, 1, some (aAl 0)) :: (14, 3, some (aGetR [(1175, 99576)])) :: (17, 1, some (aAl 0)) :: (18, 3, some (aGetR [(1175, 329064)])) :: (21, 1, some (aIl 1)) :: (22, 1, some (aIald D)) :: (23, 1, some (aIald D)) :: (24, 3, some (aCm bNe bEq 36)) :: (27, 1, some (aIl 2)) :: (28, 1, some (aIl 3)) :: (29, 1, some (aBin fShr)) :: (30, 1, some (aIc (1))) :: (31, 1, some (aBin fAnd)) :: (32, 1, some (aIc (1))) :: (33, 3, some (aCm bNe bEq 40)) :: (36, 1, some (aIc (0))) :: (37, 3, some (aGoto 46)) :: (40, 1, some (aAl 0)) :: (41, 3, some (aGetR [(1175, 42184)])) :: (44, 1, some (aIl 3)) :: (45, 1, some (aIald D)) :: (46, 1, some (aIret)) :: []
set_option maxRecDepth 100000 in
set_option maxHeartbeats 4000000 in
theorem snX7_rate (d : Nat) (W : List Nat) (c : Nat × Nat) (hc : c = cA ∨ c = cB) : SndAll (d, TYg, c, W) cdX7_rate (adX7_rate (d, TYg, c, W)) := by
  unfold cdX7_rate adX7_rate
  refine sn_op sAl ?_
  refine sn_op sGetR ?_
  refine sn_op sAl ?_
  refine sn_op sGetR ?_
  refine sn_op sIl ?_
  refine sn_op sIald ?_
  refine sn_op sIald ?_
  refine sn_op sIs ?_
  refine sn_op sIl ?_
  refine sn_op sAl ?_
  refine sn_op sGetR ?_
  refine sn_op sAl ?_
  refine sn_op sGetR ?_
  refine sn_op sIl ?_
  refine sn_op sIald ?_
  refine sn_op sIald ?_
  refine sn_op sCmNe ?_
  refine sn_op sIl ?_
  refine sn_op sIl ?_
  refine sn_op sIshr ?_
  refine sn_op (sIc (n := 1) (by decide)) ?_
  refine sn_op sIand ?_
  refine sn_op (sIc (n := 1) (by decide)) ?_
  refine sn_op sCmNe ?_
  refine sn_op (sIc (n := 0) (by decide)) ?_
  refine sn_op sGoto ?_
  refine sn_op sAl ?_
  refine sn_op sGetR ?_
  refine sn_op sIl ?_
  refine sn_op sIald ?_
  refine sn_op sIret ?_
  exact sn_nil
def csX7_rate : List AC := [([(2, 1175, 0), (0, 0, 0), (0, 0, 0)], 1, [((0, -2147483648, 2147483647), [], []), ((0, 0, 0), [], [])], [], []), ([(2, 1175, 0), (0, 0, 39), (0, 0, 0)], 1, [((0, -2147483648, 2147483647), [], []), ((0, 0, 0), [], [])], [], []), ([(2, 1175, 0), (0, 0, 0), (0, -2147483648, 2147483647)], 1, [((0, -2147483648, 2147483647), [], []), ((0, 0, 0), [], [])], [], []), ([(2, 1175, 0), (0, 0, 39), (0, -2147483648, 2147483647)], 1, [((0, -2147483648, 2147483647), [], []), ((0, 0, 0), [], [])], [], [])]
set_option maxRecDepth 100000 in
set_option maxHeartbeats 4000000 in
theorem sfX7_rate (c : Nat × Nat) (hc : c = cA ∨ c = cB) : ∀ ac ∈ csX7_rate, SafeC TYg c mX7_rate ac := by
  intro ac hac
  simp only [csX7_rate, List.mem_cons, List.not_mem_nil, or_false] at hac
  rcases hac with rfl | rfl | rfl | rfl
  · rcases hc with rfl | rfl
    · exact safe_of (ann := []) (fuel := 600) okX7_rate (snX7_rate _ _ cA (Or.inl rfl)) (fun q hq => by cases hq) (by decide) (by decide +kernel)
    · exact safe_of (ann := []) (fuel := 600) okX7_rate (snX7_rate _ _ cB (Or.inr rfl)) (fun q hq => by cases hq) (by decide) (by decide +kernel)
  · rcases hc with rfl | rfl
    · exact safe_of (ann := []) (fuel := 600) okX7_rate (snX7_rate _ _ cA (Or.inl rfl)) (fun q hq => by cases hq) (by decide) (by decide +kernel)
    · exact safe_of (ann := []) (fuel := 600) okX7_rate (snX7_rate _ _ cB (Or.inr rfl)) (fun q hq => by cases hq) (by decide) (by decide +kernel)
  · rcases hc with rfl | rfl
    · exact safe_of (ann := []) (fuel := 600) okX7_rate (snX7_rate _ _ cA (Or.inl rfl)) (fun q hq => by cases hq) (by decide) (by decide +kernel)
    · exact safe_of (ann := []) (fuel := 600) okX7_rate (snX7_rate _ _ cB (Or.inr rfl)) (fun q hq => by cases hq) (by decide) (by decide +kernel)
  · rcases hc with rfl | rfl
    · exact safe_of (ann := []) (fuel := 600) okX7_rate (snX7_rate _ _ cA (Or.inl rfl)) (fun q hq => by cases hq) (by decide) (by decide +kernel)
    · exact safe_of (ann := []) (fuel := 600) okX7_rate (snX7_rate _ _ cB (Or.inr rfl)) (fun q hq => by cases hq) (by decide) (by decide +kernel)
set_option maxRecDepth 100000 in
def adX7_taxOf (D : KK) : List ACE := (0, 1, some (aAl 0)) :: (1, 3, some (aGetR [(1175, 329080)])) :: (4, 1, some (aIl 1)) :: (5, 1, some (aIald D)) :: (6, 1, some (aAl 0)) :: (7, 3, some (aGetR [(1175, 329112)])) :: (10, 1, some (aIl 1)) :: (11, 1, some (aIald D)) :: (12, 1, some (aBin fMul)) :: (13, 1, some (aAl 0)) :: (14, 1, some (aIl 1)) :: (15, 1, some (aIl 2)) :: (16, 3, some (aCall D 7 3 4 csX7_rate)) :: (19, 1, some (aBin fMul)) :: (20, 1, some (aIret)) :: []
set_option maxRecDepth 100000 in
set_option maxHeartbeats 4000000 in
theorem snX7_taxOf (d : Nat) (W : List Nat) (c : Nat × Nat) (hc : c = cA ∨ c = cB) : SndAll (d, TYg, c, W) cdX7_taxOf (adX7_taxOf (d, TYg, c, W)) := by
  unfold cdX7_taxOf adX7_taxOf
  refine sn_op sAl ?_
  refine sn_op sGetR ?_
  refine sn_op sIl ?_
  refine sn_op sIald ?_
  refine sn_op sAl ?_
  refine sn_op sGetR ?_
  refine sn_op sIl ?_
  refine sn_op sIald ?_
  refine sn_op sImul ?_
  refine sn_op sAl ?_
  refine sn_op sIl ?_
  refine sn_op sIl ?_
  refine sn_op (sCI (sfX7_rate c hc) (by decide) (by decide +kernel)) ?_
  refine sn_op sImul ?_
  refine sn_op sIret ?_
  exact sn_nil
def csX7_taxOf : List AC := [([(2, 1175, 0), (0, 0, 0), (0, 0, 0)], 2, [((0, -2147483648, 2147483647), [], [])], [], []), ([(2, 1175, 0), (0, 0, 39), (0, 0, 0)], 2, [((0, -2147483648, 2147483647), [], [])], [], []), ([(2, 1175, 0), (0, 0, 0), (0, -2147483648, 2147483647)], 2, [((0, -2147483648, 2147483647), [], [])], [], []), ([(2, 1175, 0), (0, 0, 39), (0, -2147483648, 2147483647)], 2, [((0, -2147483648, 2147483647), [], [])], [], [])]
set_option maxRecDepth 100000 in
set_option maxHeartbeats 4000000 in
theorem sfX7_taxOf (c : Nat × Nat) (hc : c = cA ∨ c = cB) : ∀ ac ∈ csX7_taxOf, SafeC TYg c mX7_taxOf ac := by
  intro ac hac
  simp only [csX7_taxOf, List.mem_cons, List.not_mem_nil, or_false] at hac
  rcases hac with rfl | rfl | rfl | rfl
  · rcases hc with rfl | rfl
    · exact safe_of (ann := []) (fuel := 600) okX7_taxOf (snX7_taxOf _ _ cA (Or.inl rfl)) (fun q hq => by cases hq) (by decide) (by decide +kernel)
    · exact safe_of (ann := []) (fuel := 600) okX7_taxOf (snX7_taxOf _ _ cB (Or.inr rfl)) (fun q hq => by cases hq) (by decide) (by decide +kernel)
  · rcases hc with rfl | rfl
    · exact safe_of (ann := []) (fuel := 600) okX7_taxOf (snX7_taxOf _ _ cA (Or.inl rfl)) (fun q hq => by cases hq) (by decide) (by decide +kernel)
    · exact safe_of (ann := []) (fuel := 600) okX7_taxOf (snX7_taxOf _ _ cB (Or.inr rfl)) (fun q hq => by cases hq) (by decide) (by decide +kernel)
  · rcases hc with rfl | rfl
    · exact safe_of (ann := []) (fuel := 600) okX7_taxOf (snX7_taxOf _ _ cA (Or.inl rfl)) (fun q hq => by cases hq) (by decide) (by decide +kernel)
    · exact safe_of (ann := []) (fuel := 600) okX7_taxOf (snX7_taxOf _ _ cB (Or.inr rfl)) (fun q hq => by cases hq) (by decide) (by decide +kernel)
  · rcases hc with rfl | rfl
    · exact safe_of (ann := []) (fuel := 600) okX7_taxOf (snX7_taxOf _ _ cA (Or.inl rfl)) (fun q hq => by cases hq) (by decide) (by decide +kernel)
    · exact safe_of (ann := []) (fuel := 600) okX7_taxOf (snX7_taxOf _ _ cB (Or.inr rfl)) (fun q hq => by cases hq) (by decide) (by decide +kernel)
set_option maxRecDepth 100000 in
def adX7_owes (D : KK) : List ACE := (0, 1, some (aIc (0))) :: (1, 1, some (aIs 3)) :: (2, 1, some (aIc (0))) :: (3, 2, some (aIs 4)) :: (5, 0, none) :: (5, 2, some (aIl 4)) :: (7, 1, some (aAl 0)) :: (8, 3, some (aGetI D 7 6)) :: (11, 3, some (aCm (fun C x y => bLe C y x) bLt 67)) :: (14, 1, some (aIl 3)) :: (15, 1, some (aAl 0)) :: (16, 3, some (aGetR [(1175, 329048)])) :: (19, 2, some (aIl 4)) :: (21, 1, some (aIald D)) :: (22, 1, some (aIl 1)) :: (23, 3, some (aCm bNe bEq 36)) :: (26, 1, some (aAl 0)) :: (27, 2, some (aIl 4)) :: (29, 1, some (aIl 2)) :: (30, 3, some (aCall D 7 3 3 csX7_taxOf)) :: (33, 3, some (aGoto 59)) :: (36, 1, some (aAl 0)) :: (37, 3, some (aGetR [(1175, 329064)])) :: (40, 2, some (aIl 4)) :: (42, 1, some (aIald D)) :: (43, 1, some (aIl 1)) :: (44, 3, some (aCm bNe bEq 58)) :: (47, 1, some (aAl 0)) :: (48, 2, some (aIl 4)) :: (50, 1, some (aIl 2)) :: (51, 3, some (aCall D 7 3 3 csX7_taxOf)) :: (54, 1, some (aUn fNeg)) :: (55, 3, some (aGoto 59)) :: (58, 1, some (aIc (0))) :: (59, 1, some (aBin fAdd)) :: (60, 1, some (aIs 3)) :: (61, 3, some (aInc 4 (1))) :: (64, 3, some (aGoto 5)) :: (67, 1, some (aIl 3)) :: (68, 1, some (aIret)) :: []
set_option maxRecDepth 100000 in
set_option maxHeartbeats 4000000 in
theorem snX7_owes (d : Nat) (W : List Nat) (c : Nat × Nat) (hc : c = cA ∨ c = cB) : SndAll (d, TYg, c, W) cdX7_owes (adX7_owes (d, TYg, c, W)) := by
  unfold cdX7_owes adX7_owes
  refine sn_op (sIc (n := 0) (by decide)) ?_
  refine sn_op sIs ?_
  refine sn_op (sIc (n := 0) (by decide)) ?_
  refine sn_op sIs ?_
  refine sn_st ?_
  refine sn_op sIl ?_
  refine sn_op sAl ?_
  refine sn_op sGetI ?_
  refine sn_op sCmGe ?_
  refine sn_op sIl ?_
  refine sn_op sAl ?_
  refine sn_op sGetR ?_
  refine sn_op sIl ?_
  refine sn_op sIald ?_
  refine sn_op sIl ?_
  refine sn_op sCmNe ?_
  refine sn_op sAl ?_
  refine sn_op sIl ?_
  refine sn_op sIl ?_
  refine sn_op (sCI (sfX7_taxOf c hc) (by decide) (by decide +kernel)) ?_
  refine sn_op sGoto ?_
  refine sn_op sAl ?_
  refine sn_op sGetR ?_
  refine sn_op sIl ?_
  refine sn_op sIald ?_
  refine sn_op sIl ?_
  refine sn_op sCmNe ?_
  refine sn_op sAl ?_
  refine sn_op sIl ?_
  refine sn_op sIl ?_
  refine sn_op (sCI (sfX7_taxOf c hc) (by decide) (by decide +kernel)) ?_
  refine sn_op sIneg ?_
  refine sn_op sGoto ?_
  refine sn_op (sIc (n := 0) (by decide)) ?_
  refine sn_op sIadd ?_
  refine sn_op sIs ?_
  refine sn_op (sInc (n := 1) (by decide)) ?_
  refine sn_op sGoto ?_
  refine sn_op sIl ?_
  refine sn_op sIret ?_
  exact sn_nil
def csX7_owes : List AC := [([(2, 1175, 0), (0, 0, 11), (0, 0, 0)], 3, [((0, -2147483648, 2147483647), [], [])], [], []), ([(2, 1175, 0), (0, 0, 0), (0, -2147483648, 2147483647)], 3, [((0, -2147483648, 2147483647), [], [])], [], []), ([(2, 1175, 0), (0, 1, 1), (0, -2147483648, 2147483647)], 3, [((0, -2147483648, 2147483647), [], [])], [], []), ([(2, 1175, 0), (0, 0, 11), (0, -2147483648, 2147483647)], 3, [((0, -2147483648, 2147483647), [], [])], [], [])]
set_option maxRecDepth 100000 in
set_option maxHeartbeats 4000000 in
theorem sfX7_owes (c : Nat × Nat) (hc : c = cA ∨ c = cB) : ∀ ac ∈ csX7_owes, SafeC TYg c mX7_owes ac := by
  intro ac hac
  simp only [csX7_owes, List.mem_cons, List.not_mem_nil, or_false] at hac
  rcases hac with rfl | rfl | rfl | rfl
  · rcases hc with rfl | rfl
    · exact safe_of (ann := [(5, [(2, 1175, 0), (0, 0, 11), (0, 0, 0), (0, -2147483648, 2147483647), (0, 0, 40)], [(0, 4, 0, 4294967296)])]) (fuel := 600) okX7_owes (snX7_owes _ _ cA (Or.inl rfl)) (List.forall_mem_cons.mpr ⟨⟨_, _, rfl⟩, (fun q hq => by cases hq)⟩) (by decide) (by decide +kernel)
    · exact safe_of (ann := [(5, [(2, 1175, 0), (0, 0, 11), (0, 0, 0), (0, -2147483648, 2147483647), (0, 0, 40)], [(0, 4, 0, 4294967296)])]) (fuel := 600) okX7_owes (snX7_owes _ _ cB (Or.inr rfl)) (List.forall_mem_cons.mpr ⟨⟨_, _, rfl⟩, (fun q hq => by cases hq)⟩) (by decide) (by decide +kernel)
  · rcases hc with rfl | rfl
    · exact safe_of (ann := [(5, [(2, 1175, 0), (0, 0, 0), (0, -2147483648, 2147483647), (0, -2147483648, 2147483647), (0, 0, 40)], [(0, 4, 0, 4294967296)])]) (fuel := 600) okX7_owes (snX7_owes _ _ cA (Or.inl rfl)) (List.forall_mem_cons.mpr ⟨⟨_, _, rfl⟩, (fun q hq => by cases hq)⟩) (by decide) (by decide +kernel)
    · exact safe_of (ann := [(5, [(2, 1175, 0), (0, 0, 0), (0, -2147483648, 2147483647), (0, -2147483648, 2147483647), (0, 0, 40)], [(0, 4, 0, 4294967296)])]) (fuel := 600) okX7_owes (snX7_owes _ _ cB (Or.inr rfl)) (List.forall_mem_cons.mpr ⟨⟨_, _, rfl⟩, (fun q hq => by cases hq)⟩) (by decide) (by decide +kernel)
  · rcases hc with rfl | rfl
    · exact safe_of (ann := [(5, [(2, 1175, 0), (0, 1, 1), (0, -2147483648, 2147483647), (0, -2147483648, 2147483647), (0, 0, 40)], [(0, 4, 0, 4294967296)])]) (fuel := 600) okX7_owes (snX7_owes _ _ cA (Or.inl rfl)) (List.forall_mem_cons.mpr ⟨⟨_, _, rfl⟩, (fun q hq => by cases hq)⟩) (by decide) (by decide +kernel)
    · exact safe_of (ann := [(5, [(2, 1175, 0), (0, 1, 1), (0, -2147483648, 2147483647), (0, -2147483648, 2147483647), (0, 0, 40)], [(0, 4, 0, 4294967296)])]) (fuel := 600) okX7_owes (snX7_owes _ _ cB (Or.inr rfl)) (List.forall_mem_cons.mpr ⟨⟨_, _, rfl⟩, (fun q hq => by cases hq)⟩) (by decide) (by decide +kernel)
  · rcases hc with rfl | rfl
    · exact safe_of (ann := [(5, [(2, 1175, 0), (0, 0, 11), (0, -2147483648, 2147483647), (0, -2147483648, 2147483647), (0, 0, 40)], [(0, 4, 0, 4294967296)])]) (fuel := 600) okX7_owes (snX7_owes _ _ cA (Or.inl rfl)) (List.forall_mem_cons.mpr ⟨⟨_, _, rfl⟩, (fun q hq => by cases hq)⟩) (by decide) (by decide +kernel)
    · exact safe_of (ann := [(5, [(2, 1175, 0), (0, 0, 11), (0, -2147483648, 2147483647), (0, -2147483648, 2147483647), (0, 0, 40)], [(0, 4, 0, 4294967296)])]) (fuel := 600) okX7_owes (snX7_owes _ _ cB (Or.inr rfl)) (List.forall_mem_cons.mpr ⟨⟨_, _, rfl⟩, (fun q hq => by cases hq)⟩) (by decide) (by decide +kernel)
set_option maxRecDepth 100000 in
def adX7_isMissing (D : KK) : List ACE := (0, 1, some (aAl 0)) :: (1, 1, some (aIl 1)) :: (2, 1, some (aIl 2)) :: (3, 3, some (aCall D 7 3 5 csX7_owes)) :: (6, 2, some (aIc (100))) :: (8, 1, some (aAl 0)) :: (9, 3, some (aGetR [(1175, 99640)])) :: (12, 1, some (aIl 1)) :: (13, 1, some (aIald D)) :: (14, 1, some (aBin fMul)) :: (15, 3, some (aCm bLe (fun C x y => bLt C y x) 22)) :: (18, 1, some (aIc (1))) :: (19, 3, some (aGoto 23)) :: (22, 1, some (aIc (0))) :: (23, 1, some (aZret)) :: []
set_option maxRecDepth 100000 in
set_option maxHeartbeats 4000000 in
theorem snX7_isMissing (d : Nat) (W : List Nat) (c : Nat × Nat) (hc : c = cA ∨ c = cB) : SndAll (d, TYg, c, W) cdX7_isMissing (adX7_isMissing (d, TYg, c, W)) := by
  unfold cdX7_isMissing adX7_isMissing
  refine sn_op sAl ?_
  refine sn_op sIl ?_
  refine sn_op sIl ?_
  refine sn_op (sCI (sfX7_owes c hc) (by decide) (by decide +kernel)) ?_
  refine sn_op (sIc (n := 100) (by decide)) ?_
  refine sn_op sAl ?_
  refine sn_op sGetR ?_
  refine sn_op sIl ?_
  refine sn_op sIald ?_
  refine sn_op sImul ?_
  refine sn_op sCmLe ?_
  refine sn_op (sIc (n := 1) (by decide)) ?_
  refine sn_op sGoto ?_
  refine sn_op (sIc (n := 0) (by decide)) ?_
  refine sn_op sZret ?_
  exact sn_nil
def csX7_isMissing : List AC := [([(2, 1175, 0), (0, 0, 11), (0, 0, 0)], 4, [((0, 0, 0), [], []), ((0, 1, 1), [], [])], [], []), ([(2, 1175, 0), (0, 0, 0), (0, -2147483648, 2147483647)], 4, [((0, 0, 0), [], []), ((0, 1, 1), [], [])], [], []), ([(2, 1175, 0), (0, 1, 1), (0, -2147483648, 2147483647)], 4, [((0, 0, 0), [], []), ((0, 1, 1), [], [])], [], []), ([(2, 1175, 0), (0, 0, 11), (0, -2147483648, 2147483647)], 4, [((0, 0, 0), [], []), ((0, 1, 1), [], [])], [], [])]
set_option maxRecDepth 100000 in
set_option maxHeartbeats 4000000 in
theorem sfX7_isMissing (c : Nat × Nat) (hc : c = cA ∨ c = cB) : ∀ ac ∈ csX7_isMissing, SafeC TYg c mX7_isMissing ac := by
  intro ac hac
  simp only [csX7_isMissing, List.mem_cons, List.not_mem_nil, or_false] at hac
  rcases hac with rfl | rfl | rfl | rfl
  · rcases hc with rfl | rfl
    · exact safe_of (ann := []) (fuel := 600) okX7_isMissing (snX7_isMissing _ _ cA (Or.inl rfl)) (fun q hq => by cases hq) (by decide) (by decide +kernel)
    · exact safe_of (ann := []) (fuel := 600) okX7_isMissing (snX7_isMissing _ _ cB (Or.inr rfl)) (fun q hq => by cases hq) (by decide) (by decide +kernel)
  · rcases hc with rfl | rfl
    · exact safe_of (ann := []) (fuel := 600) okX7_isMissing (snX7_isMissing _ _ cA (Or.inl rfl)) (fun q hq => by cases hq) (by decide) (by decide +kernel)
    · exact safe_of (ann := []) (fuel := 600) okX7_isMissing (snX7_isMissing _ _ cB (Or.inr rfl)) (fun q hq => by cases hq) (by decide) (by decide +kernel)
  · rcases hc with rfl | rfl
    · exact safe_of (ann := []) (fuel := 600) okX7_isMissing (snX7_isMissing _ _ cA (Or.inl rfl)) (fun q hq => by cases hq) (by decide) (by decide +kernel)
    · exact safe_of (ann := []) (fuel := 600) okX7_isMissing (snX7_isMissing _ _ cB (Or.inr rfl)) (fun q hq => by cases hq) (by decide) (by decide +kernel)
  · rcases hc with rfl | rfl
    · exact safe_of (ann := []) (fuel := 600) okX7_isMissing (snX7_isMissing _ _ cA (Or.inl rfl)) (fun q hq => by cases hq) (by decide) (by decide +kernel)
    · exact safe_of (ann := []) (fuel := 600) okX7_isMissing (snX7_isMissing _ _ cB (Or.inr rfl)) (fun q hq => by cases hq) (by decide) (by decide +kernel)
set_option maxRecDepth 100000 in
def adX7_takesOf (D : KK) : List ACE := (0, 1, some (aIc (0))) :: (1, 2, some (aIs 4)) :: (3, 1, some (aIc (0))) :: (4, 2, some (aIs 5)) :: (6, 0, none) :: (6, 2, some (aIl 5)) :: (8, 1, some (aAl 0)) :: (9, 3, some (aGetR [(1175, 820712)])) :: (12, 1, some (aIl 1)) :: (13, 1, some (aIaldK D)) :: (14, 3, some (aCm (fun C x y => bLe C y x) bLt 125)) :: (17, 1, some (aAl 0)) :: (18, 3, some (aGetR [(1175, 4916696)])) :: (21, 2, some (aIc (6))) :: (23, 1, some (aIl 1)) :: (24, 1, some (aBin fMul)) :: (25, 2, some (aIl 5)) :: (27, 1, some (aBin fAdd)) :: (28, 1, some (aIaldK D)) :: (29, 2, some (aIs 6)) :: (31, 1, some (aAl 0)) :: (32, 3, some (aGetR [(1175, 4916696)])) :: (35, 2, some (aIc (6))) :: (37, 1, some (aIl 1)) :: (38, 1, some (aBin fMul)) :: (39, 2, some (aIl 5)) :: (41, 1, some (aAl 0)) :: (42, 3, some (aGetR [(1175, 820712)])) :: (45, 1, some (aIl 1)) :: (46, 1, some (aIaldK D)) :: (47, 1, some (aBin fAdd)) :: (48, 1, some (aIc (1))) :: (49, 1, some (aBin fSub)) :: (50, 1, some (aAl 0)) :: (51, 3, some (aGetR [(1175, 820712)])) :: (54, 1, some (aIl 1)) :: (55, 1, some (aIaldK D)) :: (56, 1, some (aDv fRem)) :: (57, 1, some (aBin fAdd)) :: (58, 1, some (aIaldK D)) :: (59, 2, some (aIs 7)) :: (61, 1, some (aAl 0)) :: (62, 1, some (aAl 0)) :: (63, 3, some (aGetR [(1175, 329048)])) :: (66, 2, some (aIl 6)) :: (68, 1, some (aIaldK D)) :: (69, 1, some (aIl 2)) :: (70, 3, some (aCall D 7 3 3 csX7_isMissing)) :: (73, 3, some (aIf bNe bEq 79)) :: (76, 3, some (aGoto 119)) :: (79, 2, some (aIl 4)) :: (81, 1, some (aIc (0))) :: (82, 1, some (aAl 0)) :: (83, 3, some (aGetR [(1175, 329112)])) :: (86, 2, some (aIl 6)) :: (88, 1, some (aIaldK D)) :: (89, 1, some (aAl 0)) :: (90, 2, some (aIl 6)) :: (92, 1, some (aIl 3)) :: (93, 3, some (aCall D 7 3 4 csX7_rate)) :: (96, 1, some (aBin fMul)) :: (97, 1, some (aAl 0)) :: (98, 3, some (aGetR [(1175, 329112)])) :: (101, 2, some (aIl 7)) :: (103, 1, some (aIaldK D)) :: (104, 1, some (aAl 0)) :: (105, 2, some (aIl 7)) :: (107, 1, some (aIl 3)) :: (108, 3, some (aCall D 7 3 4 csX7_rate)) :: (111, 1, some (aBin fMul)) :: (112, 1, some (aBin fSub)) :: (113, 3, some (aMax D)) :: (116, 1, some (aBin fAdd)) :: (117, 2, some (aIs 4)) :: (119, 3, some (aInc 5 (1))) :: (122, 3, some (aGoto 6)) :: (125, 2, some (aIl 4)) :: (127, 1, some (aAl 0)) :: (128, 1, some (aIl 1)) :: (129, 3, some (aCall D 7 2 4 csX7_carries)) :: (132, 1, some (aBin fMul)) :: (133, 1, some (aIret)) :: []
set_option maxRecDepth 100000 in
set_option maxHeartbeats 4000000 in
theorem snX7_takesOf (d : Nat) (W : List Nat) (c : Nat × Nat) (hc : c = cA ∨ c = cB) : SndAll (d, TYg, c, W) cdX7_takesOf (adX7_takesOf (d, TYg, c, W)) := by
  unfold cdX7_takesOf adX7_takesOf
  refine sn_op (sIc (n := 0) (by decide)) ?_
  refine sn_op sIs ?_
  refine sn_op (sIc (n := 0) (by decide)) ?_
  refine sn_op sIs ?_
  refine sn_st ?_
  refine sn_op sIl ?_
  refine sn_op sAl ?_
  refine sn_op sGetR ?_
  refine sn_op sIl ?_
  refine sn_op sIaldK ?_
  refine sn_op sCmGe ?_
  refine sn_op sAl ?_
  refine sn_op sGetR ?_
  refine sn_op (sIc (n := 6) (by decide)) ?_
  refine sn_op sIl ?_
  refine sn_op sImul ?_
  refine sn_op sIl ?_
  refine sn_op sIadd ?_
  refine sn_op sIaldK ?_
  refine sn_op sIs ?_
  refine sn_op sAl ?_
  refine sn_op sGetR ?_
  refine sn_op (sIc (n := 6) (by decide)) ?_
  refine sn_op sIl ?_
  refine sn_op sImul ?_
  refine sn_op sIl ?_
  refine sn_op sAl ?_
  refine sn_op sGetR ?_
  refine sn_op sIl ?_
  refine sn_op sIaldK ?_
  refine sn_op sIadd ?_
  refine sn_op (sIc (n := 1) (by decide)) ?_
  refine sn_op sIsub ?_
  refine sn_op sAl ?_
  refine sn_op sGetR ?_
  refine sn_op sIl ?_
  refine sn_op sIaldK ?_
  refine sn_op sIrem ?_
  refine sn_op sIadd ?_
  refine sn_op sIaldK ?_
  refine sn_op sIs ?_
  refine sn_op sAl ?_
  refine sn_op sAl ?_
  refine sn_op sGetR ?_
  refine sn_op sIl ?_
  refine sn_op sIaldK ?_
  refine sn_op sIl ?_
  refine sn_op (sCI (sfX7_isMissing c hc) (by decide) (by decide +kernel)) ?_
  refine sn_op sIfNe ?_
  refine sn_op sGoto ?_
  refine sn_op sIl ?_
  refine sn_op (sIc (n := 0) (by decide)) ?_
  refine sn_op sAl ?_
  refine sn_op sGetR ?_
  refine sn_op sIl ?_
  refine sn_op sIaldK ?_
  refine sn_op sAl ?_
  refine sn_op sIl ?_
  refine sn_op sIl ?_
  refine sn_op (sCI (sfX7_rate c hc) (by decide) (by decide +kernel)) ?_
  refine sn_op sImul ?_
  refine sn_op sAl ?_
  refine sn_op sGetR ?_
  refine sn_op sIl ?_
  refine sn_op sIaldK ?_
  refine sn_op sAl ?_
  refine sn_op sIl ?_
  refine sn_op sIl ?_
  refine sn_op (sCI (sfX7_rate c hc) (by decide) (by decide +kernel)) ?_
  refine sn_op sImul ?_
  refine sn_op sIsub ?_
  refine sn_op sMax ?_
  refine sn_op sIadd ?_
  refine sn_op sIs ?_
  refine sn_op (sInc (n := 1) (by decide)) ?_
  refine sn_op sGoto ?_
  refine sn_op sIl ?_
  refine sn_op sAl ?_
  refine sn_op sIl ?_
  refine sn_op (sCI (sfX7_carries c hc) (by decide) (by decide +kernel)) ?_
  refine sn_op sImul ?_
  refine sn_op sIret ?_
  exact sn_nil
def csX7_takesOf : List AC := [([(2, 1175, 0), (0, 0, 0), (0, 0, 0), (0, 0, 0)], 5, [((0, -2147483648, 2147483647), [], [])], [], []), ([(2, 1175, 0), (0, 0, 199), (0, 0, 0), (0, 0, 0)], 5, [((0, -2147483648, 2147483647), [], [])], [], []), ([(2, 1175, 0), (0, 0, 0), (0, 0, 0), (0, 0, 2147483646)], 5, [((0, -2147483648, 2147483647), [], [])], [], []), ([(2, 1175, 0), (0, 0, 199), (0, 0, 0), (0, 0, 2147483646)], 5, [((0, -2147483648, 2147483647), [], [])], [], []), ([(2, 1175, 0), (0, 0, 0), (0, -2147483648, 2147483647), (0, -2147483648, 2147483647)], 5, [((0, -2147483648, 2147483647), [], [])], [], []), ([(2, 1175, 0), (0, 0, 199), (0, -2147483648, 2147483647), (0, -2147483648, 2147483647)], 5, [((0, -2147483648, 2147483647), [], [])], [], [])]
set_option maxRecDepth 100000 in
set_option maxHeartbeats 4000000 in
theorem sfX7_takesOf (c : Nat × Nat) (hc : c = cA ∨ c = cB) : ∀ ac ∈ csX7_takesOf, SafeC TYg c mX7_takesOf ac := by
  intro ac hac
  simp only [csX7_takesOf, List.mem_cons, List.not_mem_nil, or_false] at hac
  rcases hac with rfl | rfl | rfl | rfl | rfl | rfl
  · rcases hc with rfl | rfl
    · exact safe_of (ann := [(6, [(2, 1175, 0), (0, 0, 0), (0, 0, 0), (0, 0, 0), (0, -2147483648, 2147483647), (0, 0, 6), (4, 0, 0), (4, 0, 0)], [(0, 5, 0, 4294967296)])]) (fuel := 600) okX7_takesOf (snX7_takesOf _ _ cA (Or.inl rfl)) (List.forall_mem_cons.mpr ⟨⟨_, _, rfl⟩, (fun q hq => by cases hq)⟩) (by decide) (by decide +kernel)
    · exact safe_of (ann := [(6, [(2, 1175, 0), (0, 0, 0), (0, 0, 0), (0, 0, 0), (0, -2147483648, 2147483647), (0, 0, 6), (4, 0, 0), (4, 0, 0)], [(0, 5, 0, 4294967296)])]) (fuel := 600) okX7_takesOf (snX7_takesOf _ _ cB (Or.inr rfl)) (List.forall_mem_cons.mpr ⟨⟨_, _, rfl⟩, (fun q hq => by cases hq)⟩) (by decide) (by decide +kernel)
  · rcases hc with rfl | rfl
    · exact safe_of (ann := [(6, [(2, 1175, 0), (0, 0, 199), (0, 0, 0), (0, 0, 0), (0, -2147483648, 2147483647), (0, 0, 6), (4, 0, 0), (4, 0, 0)], [(0, 5, 0, 4294967296)])]) (fuel := 600) okX7_takesOf (snX7_takesOf _ _ cA (Or.inl rfl)) (List.forall_mem_cons.mpr ⟨⟨_, _, rfl⟩, (fun q hq => by cases hq)⟩) (by decide) (by decide +kernel)
    · exact safe_of (ann := [(6, [(2, 1175, 0), (0, 0, 199), (0, 0, 0), (0, 0, 0), (0, -2147483648, 2147483647), (0, 0, 6), (4, 0, 0), (4, 0, 0)], [(0, 5, 0, 4294967296)])]) (fuel := 600) okX7_takesOf (snX7_takesOf _ _ cB (Or.inr rfl)) (List.forall_mem_cons.mpr ⟨⟨_, _, rfl⟩, (fun q hq => by cases hq)⟩) (by decide) (by decide +kernel)
  · rcases hc with rfl | rfl
    · exact safe_of (ann := [(6, [(2, 1175, 0), (0, 0, 0), (0, 0, 0), (0, 0, 2147483646), (0, -2147483648, 2147483647), (0, 0, 6), (4, 0, 0), (4, 0, 0)], [(0, 5, 0, 4294967296)])]) (fuel := 600) okX7_takesOf (snX7_takesOf _ _ cA (Or.inl rfl)) (List.forall_mem_cons.mpr ⟨⟨_, _, rfl⟩, (fun q hq => by cases hq)⟩) (by decide) (by decide +kernel)
    · exact safe_of (ann := [(6, [(2, 1175, 0), (0, 0, 0), (0, 0, 0), (0, 0, 2147483646), (0, -2147483648, 2147483647), (0, 0, 6), (4, 0, 0), (4, 0, 0)], [(0, 5, 0, 4294967296)])]) (fuel := 600) okX7_takesOf (snX7_takesOf _ _ cB (Or.inr rfl)) (List.forall_mem_cons.mpr ⟨⟨_, _, rfl⟩, (fun q hq => by cases hq)⟩) (by decide) (by decide +kernel)
  · rcases hc with rfl | rfl
    · exact safe_of (ann := [(6, [(2, 1175, 0), (0, 0, 199), (0, 0, 0), (0, 0, 2147483646), (0, -2147483648, 2147483647), (0, 0, 6), (4, 0, 0), (4, 0, 0)], [(0, 5, 0, 4294967296)])]) (fuel := 600) okX7_takesOf (snX7_takesOf _ _ cA (Or.inl rfl)) (List.forall_mem_cons.mpr ⟨⟨_, _, rfl⟩, (fun q hq => by cases hq)⟩) (by decide) (by decide +kernel)
    · exact safe_of (ann := [(6, [(2, 1175, 0), (0, 0, 199), (0, 0, 0), (0, 0, 2147483646), (0, -2147483648, 2147483647), (0, 0, 6), (4, 0, 0), (4, 0, 0)], [(0, 5, 0, 4294967296)])]) (fuel := 600) okX7_takesOf (snX7_takesOf _ _ cB (Or.inr rfl)) (List.forall_mem_cons.mpr ⟨⟨_, _, rfl⟩, (fun q hq => by cases hq)⟩) (by decide) (by decide +kernel)
  · rcases hc with rfl | rfl
    · exact safe_of (ann := [(6, [(2, 1175, 0), (0, 0, 0), (0, -2147483648, 2147483647), (0, -2147483648, 2147483647), (0, -2147483648, 2147483647), (0, 0, 6), (4, 0, 0), (4, 0, 0)], [(0, 5, 0, 4294967296)])]) (fuel := 600) okX7_takesOf (snX7_takesOf _ _ cA (Or.inl rfl)) (List.forall_mem_cons.mpr ⟨⟨_, _, rfl⟩, (fun q hq => by cases hq)⟩) (by decide) (by decide +kernel)
    · exact safe_of (ann := [(6, [(2, 1175, 0), (0, 0, 0), (0, -2147483648, 2147483647), (0, -2147483648, 2147483647), (0, -2147483648, 2147483647), (0, 0, 6), (4, 0, 0), (4, 0, 0)], [(0, 5, 0, 4294967296)])]) (fuel := 600) okX7_takesOf (snX7_takesOf _ _ cB (Or.inr rfl)) (List.forall_mem_cons.mpr ⟨⟨_, _, rfl⟩, (fun q hq => by cases hq)⟩) (by decide) (by decide +kernel)
  · rcases hc with rfl | rfl
    · exact safe_of (ann := [(6, [(2, 1175, 0), (0, 0, 199), (0, -2147483648, 2147483647), (0, -2147483648, 2147483647), (0, -2147483648, 2147483647), (0, 0, 6), (4, 0, 0), (4, 0, 0)], [(0, 5, 0, 4294967296)])]) (fuel := 600) okX7_takesOf (snX7_takesOf _ _ cA (Or.inl rfl)) (List.forall_mem_cons.mpr ⟨⟨_, _, rfl⟩, (fun q hq => by cases hq)⟩) (by decide) (by decide +kernel)
    · exact safe_of (ann := [(6, [(2, 1175, 0), (0, 0, 199), (0, -2147483648, 2147483647), (0, -2147483648, 2147483647), (0, -2147483648, 2147483647), (0, 0, 6), (4, 0, 0), (4, 0, 0)], [(0, 5, 0, 4294967296)])]) (fuel := 600) okX7_takesOf (snX7_takesOf _ _ cB (Or.inr rfl)) (List.forall_mem_cons.mpr ⟨⟨_, _, rfl⟩, (fun q hq => by cases hq)⟩) (by decide) (by decide +kernel)
set_option maxRecDepth 100000 in
def adX7_allTakes (D : KK) : List ACE := (0, 1, some (aJc (0))) :: (1, 2, some (aJs 4)) :: (3, 1, some (aIc (0))) :: (4, 2, some (aIs 6)) :: (6, 0, none) :: (6, 2, some (aIl 6)) :: (8, 1, some (aAl 0)) :: (9, 3, some (aGetI D 7 42)) :: (12, 3, some (aCm (fun C x y => bLe C y x) bLt 50)) :: (15, 2, some (aJl 4)) :: (17, 1, some (aAl 0)) :: (18, 2, some (aIl 6)) :: (20, 3, some (aCall D 7 2 4 csX7_firmsOf)) :: (23, 1, some (aIl 1)) :: (24, 1, some (aBin fAnd)) :: (25, 3, some (aIf bEq bNe 32)) :: (28, 1, some (aJc (0))) :: (29, 3, some (aGoto 41)) :: (32, 1, some (aAl 0)) :: (33, 2, some (aIl 6)) :: (35, 1, some (aIl 2)) :: (36, 1, some (aIl 3)) :: (37, 3, some (aCall D 7 4 8 csX7_takesOf)) :: (40, 1, some (aUn (fun C x => (6, rng C x)))) :: (41, 1, some (aLL)) :: (42, 2, some (aJs 4)) :: (44, 3, some (aInc 6 (1))) :: (47, 3, some (aGoto 6)) :: (50, 2, some (aJl 4)) :: (52, 1, some (aJret)) :: []
set_option maxRecDepth 100000 in
set_option maxHeartbeats 4000000 in
theorem snX7_allTakes (d : Nat) (W : List Nat) (c : Nat × Nat) (hc : c = cA ∨ c = cB) : SndAll (d, TYg, c, W) cdX7_allTakes (adX7_allTakes (d, TYg, c, W)) := by
  unfold cdX7_allTakes adX7_allTakes
  refine sn_op (sJc (n := 0) (by decide)) ?_
  refine sn_op sJs ?_
  refine sn_op (sIc (n := 0) (by decide)) ?_
  refine sn_op sIs ?_
  refine sn_st ?_
  refine sn_op sIl ?_
  refine sn_op sAl ?_
  refine sn_op sGetI ?_
  refine sn_op sCmGe ?_
  refine sn_op sJl ?_
  refine sn_op sAl ?_
  refine sn_op sIl ?_
  refine sn_op (sCI (sfX7_firmsOf c hc) (by decide) (by decide +kernel)) ?_
  refine sn_op sIl ?_
  refine sn_op sIand ?_
  refine sn_op sIfEq ?_
  refine sn_op (sJc (n := 0) (by decide)) ?_
  refine sn_op sGoto ?_
  refine sn_op sAl ?_
  refine sn_op sIl ?_
  refine sn_op sIl ?_
  refine sn_op sIl ?_
  refine sn_op (sCI (sfX7_takesOf c hc) (by decide) (by decide +kernel)) ?_
  refine sn_op sI2l ?_
  refine sn_op sLadd ?_
  refine sn_op sJs ?_
  refine sn_op (sInc (n := 1) (by decide)) ?_
  refine sn_op sGoto ?_
  refine sn_op sJl ?_
  refine sn_op sJret ?_
  exact sn_nil
def csX7_allTakes : List AC := [([(2, 1175, 0), (0, 0, 0), (0, 0, 0), (0, 0, 0)], 6, [((8, 0, 0), [], [])], [], []), ([(2, 1175, 0), (0, 0, 0), (0, 0, 0), (0, 0, 2147483646)], 6, [((8, 0, 0), [], [])], [], []), ([(2, 1175, 0), (0, 0, 0), (0, -2147483648, 2147483647), (0, -2147483648, 2147483647)], 6, [((8, 0, 0), [], [])], [], [])]
set_option maxRecDepth 100000 in
set_option maxHeartbeats 4000000 in
theorem sfX7_allTakes (c : Nat × Nat) (hc : c = cA ∨ c = cB) : ∀ ac ∈ csX7_allTakes, SafeC TYg c mX7_allTakes ac := by
  intro ac hac
  simp only [csX7_allTakes, List.mem_cons, List.not_mem_nil, or_false] at hac
  rcases hac with rfl | rfl | rfl
  · rcases hc with rfl | rfl
    · exact safe_of (ann := [(6, [(2, 1175, 0), (0, 0, 0), (0, 0, 0), (0, 0, 0), (8, 0, 0), (4, 0, 0), (0, 0, 200)], [(0, 6, 0, 4294967296)])]) (fuel := 600) okX7_allTakes (snX7_allTakes _ _ cA (Or.inl rfl)) (List.forall_mem_cons.mpr ⟨⟨_, _, rfl⟩, (fun q hq => by cases hq)⟩) (by decide) (by decide +kernel)
    · exact safe_of (ann := [(6, [(2, 1175, 0), (0, 0, 0), (0, 0, 0), (0, 0, 0), (8, 0, 0), (4, 0, 0), (0, 0, 200)], [(0, 6, 0, 4294967296)])]) (fuel := 600) okX7_allTakes (snX7_allTakes _ _ cB (Or.inr rfl)) (List.forall_mem_cons.mpr ⟨⟨_, _, rfl⟩, (fun q hq => by cases hq)⟩) (by decide) (by decide +kernel)
  · rcases hc with rfl | rfl
    · exact safe_of (ann := [(6, [(2, 1175, 0), (0, 0, 0), (0, 0, 0), (0, 0, 2147483646), (8, 0, 0), (4, 0, 0), (0, 0, 200)], [(0, 6, 0, 4294967296)])]) (fuel := 600) okX7_allTakes (snX7_allTakes _ _ cA (Or.inl rfl)) (List.forall_mem_cons.mpr ⟨⟨_, _, rfl⟩, (fun q hq => by cases hq)⟩) (by decide) (by decide +kernel)
    · exact safe_of (ann := [(6, [(2, 1175, 0), (0, 0, 0), (0, 0, 0), (0, 0, 2147483646), (8, 0, 0), (4, 0, 0), (0, 0, 200)], [(0, 6, 0, 4294967296)])]) (fuel := 600) okX7_allTakes (snX7_allTakes _ _ cB (Or.inr rfl)) (List.forall_mem_cons.mpr ⟨⟨_, _, rfl⟩, (fun q hq => by cases hq)⟩) (by decide) (by decide +kernel)
  · rcases hc with rfl | rfl
    · exact safe_of (ann := [(6, [(2, 1175, 0), (0, 0, 0), (0, -2147483648, 2147483647), (0, -2147483648, 2147483647), (8, 0, 0), (4, 0, 0), (0, 0, 200)], [(0, 6, 0, 4294967296)])]) (fuel := 600) okX7_allTakes (snX7_allTakes _ _ cA (Or.inl rfl)) (List.forall_mem_cons.mpr ⟨⟨_, _, rfl⟩, (fun q hq => by cases hq)⟩) (by decide) (by decide +kernel)
    · exact safe_of (ann := [(6, [(2, 1175, 0), (0, 0, 0), (0, -2147483648, 2147483647), (0, -2147483648, 2147483647), (8, 0, 0), (4, 0, 0), (0, 0, 200)], [(0, 6, 0, 4294967296)])]) (fuel := 600) okX7_allTakes (snX7_allTakes _ _ cB (Or.inr rfl)) (List.forall_mem_cons.mpr ⟨⟨_, _, rfl⟩, (fun q hq => by cases hq)⟩) (by decide) (by decide +kernel)
set_option maxRecDepth 100000 in
def adX7_bits (D : KK) : List ACE := (0, 1, some (aIc (0))) :: (1, 1, some (aIs 1)) :: (2, 1, some (aIc (0))) :: (3, 1, some (aIs 2)) :: (4, 0, none) :: (4, 1, some (aIl 2)) :: (5, 2, some (aIc (31))) :: (7, 3, some (aCm (fun C x y => bLe C y x) bLt 24)) :: (10, 1, some (aIl 1)) :: (11, 1, some (aIl 0)) :: (12, 1, some (aIl 2)) :: (13, 1, some (aBin fShr)) :: (14, 1, some (aIc (1))) :: (15, 1, some (aBin fAnd)) :: (16, 1, some (aBin fAdd)) :: (17, 1, some (aIs 1)) :: (18, 3, some (aInc 2 (1))) :: (21, 3, some (aGoto 4)) :: (24, 1, some (aIl 1)) :: (25, 1, some (aIret)) :: []
set_option maxRecDepth 100000 in
set_option maxHeartbeats 4000000 in
theorem snX7_bits (d : Nat) (W : List Nat) (c : Nat × Nat) (hc : c = cA ∨ c = cB) : SndAll (d, TYg, c, W) cdX7_bits (adX7_bits (d, TYg, c, W)) := by
  unfold cdX7_bits adX7_bits
  refine sn_op (sIc (n := 0) (by decide)) ?_
  refine sn_op sIs ?_
  refine sn_op (sIc (n := 0) (by decide)) ?_
  refine sn_op sIs ?_
  refine sn_st ?_
  refine sn_op sIl ?_
  refine sn_op (sIc (n := 31) (by decide)) ?_
  refine sn_op sCmGe ?_
  refine sn_op sIl ?_
  refine sn_op sIl ?_
  refine sn_op sIl ?_
  refine sn_op sIshr ?_
  refine sn_op (sIc (n := 1) (by decide)) ?_
  refine sn_op sIand ?_
  refine sn_op sIadd ?_
  refine sn_op sIs ?_
  refine sn_op (sInc (n := 1) (by decide)) ?_
  refine sn_op sGoto ?_
  refine sn_op sIl ?_
  refine sn_op sIret ?_
  exact sn_nil
def csX7_bits : List AC := [([(0, 0, 0)], 1, [((0, -2147483648, 2147483647), [], [])], [], []), ([(0, -2147483648, 2147483647)], 1, [((0, -2147483648, 2147483647), [], [])], [], [])]
set_option maxRecDepth 100000 in
set_option maxHeartbeats 4000000 in
theorem sfX7_bits (c : Nat × Nat) (hc : c = cA ∨ c = cB) : ∀ ac ∈ csX7_bits, SafeC TYg c mX7_bits ac := by
  intro ac hac
  simp only [csX7_bits, List.mem_cons, List.not_mem_nil, or_false] at hac
  rcases hac with rfl | rfl
  · rcases hc with rfl | rfl
    · exact safe_of (ann := [(4, [(0, 0, 0), (0, -2147483648, 2147483647), (0, 0, 31)], [(0, 2, 0, 4294967296)])]) (fuel := 600) okX7_bits (snX7_bits _ _ cA (Or.inl rfl)) (List.forall_mem_cons.mpr ⟨⟨_, _, rfl⟩, (fun q hq => by cases hq)⟩) (by decide) (by decide +kernel)
    · exact safe_of (ann := [(4, [(0, 0, 0), (0, -2147483648, 2147483647), (0, 0, 31)], [(0, 2, 0, 4294967296)])]) (fuel := 600) okX7_bits (snX7_bits _ _ cB (Or.inr rfl)) (List.forall_mem_cons.mpr ⟨⟨_, _, rfl⟩, (fun q hq => by cases hq)⟩) (by decide) (by decide +kernel)
  · rcases hc with rfl | rfl
    · exact safe_of (ann := [(4, [(0, -2147483648, 2147483647), (0, -2147483648, 2147483647), (0, 0, 31)], [(0, 2, 0, 4294967296)])]) (fuel := 600) okX7_bits (snX7_bits _ _ cA (Or.inl rfl)) (List.forall_mem_cons.mpr ⟨⟨_, _, rfl⟩, (fun q hq => by cases hq)⟩) (by decide) (by decide +kernel)
    · exact safe_of (ann := [(4, [(0, -2147483648, 2147483647), (0, -2147483648, 2147483647), (0, 0, 31)], [(0, 2, 0, 4294967296)])]) (fuel := 600) okX7_bits (snX7_bits _ _ cB (Or.inr rfl)) (List.forall_mem_cons.mpr ⟨⟨_, _, rfl⟩, (fun q hq => by cases hq)⟩) (by decide) (by decide +kernel)
set_option maxRecDepth 100000 in
def adX7_boughtFromMissing (D : KK) : List ACE := (0, 1, some (aIc (0))) :: (1, 1, some (aIs 2)) :: (2, 0, none) :: (2, 1, some (aIl 2)) :: (3, 1, some (aAl 0)) :: (4, 3, some (aGetI D 7 6)) :: (7, 3, some (aCm (fun C x y => bLe C y x) bLt 45)) :: (10, 1, some (aAl 0)) :: (11, 3, some (aGetR [(1175, 329064)])) :: (14, 1, some (aIl 2)) :: (15, 1, some (aIald D)) :: (16, 1, some (aIl 1)) :: (17, 3, some (aCm bNe bEq 39)) :: (20, 1, some (aAl 0)) :: (21, 1, some (aAl 0)) :: (22, 3, some (aGetR [(1175, 329048)])) :: (25, 1, some (aIl 2)) :: (26, 1, some (aIald D)) :: (27, 1, some (aAl 0)) :: (28, 3, some (aGetI D 7 40)) :: (31, 3, some (aCall D 7 3 3 csX7_isMissing)) :: (34, 3, some (aIf bEq bNe 39)) :: (37, 1, some (aIc (1))) :: (38, 1, some (aZret)) :: (39, 3, some (aInc 2 (1))) :: (42, 3, some (aGoto 2)) :: (45, 1, some (aIc (0))) :: (46, 1, some (aZret)) :: []
set_option maxRecDepth 100000 in
set_option maxHeartbeats 4000000 in
theorem snX7_boughtFromMissing (d : Nat) (W : List Nat) (c : Nat × Nat) (hc : c = cA ∨ c = cB) : SndAll (d, TYg, c, W) cdX7_boughtFromMissing (adX7_boughtFromMissing (d, TYg, c, W)) := by
  unfold cdX7_boughtFromMissing adX7_boughtFromMissing
  refine sn_op (sIc (n := 0) (by decide)) ?_
  refine sn_op sIs ?_
  refine sn_st ?_
  refine sn_op sIl ?_
  refine sn_op sAl ?_
  refine sn_op sGetI ?_
  refine sn_op sCmGe ?_
  refine sn_op sAl ?_
  refine sn_op sGetR ?_
  refine sn_op sIl ?_
  refine sn_op sIald ?_
  refine sn_op sIl ?_
  refine sn_op sCmNe ?_
  refine sn_op sAl ?_
  refine sn_op sAl ?_
  refine sn_op sGetR ?_
  refine sn_op sIl ?_
  refine sn_op sIald ?_
  refine sn_op sAl ?_
  refine sn_op sGetI ?_
  refine sn_op (sCI (sfX7_isMissing c hc) (by decide) (by decide +kernel)) ?_
  refine sn_op sIfEq ?_
  refine sn_op (sIc (n := 1) (by decide)) ?_
  refine sn_op sZret ?_
  refine sn_op (sInc (n := 1) (by decide)) ?_
  refine sn_op sGoto ?_
  refine sn_op (sIc (n := 0) (by decide)) ?_
  refine sn_op sZret ?_
  exact sn_nil
def csX7_boughtFromMissing : List AC := [([(2, 1175, 0), (0, 0, 11)], 5, [((0, 0, 0), [], []), ((0, 1, 1), [((1175, 6), (1, 40))], [])], [], [])]
set_option maxRecDepth 100000 in
set_option maxHeartbeats 4000000 in
theorem sfX7_boughtFromMissing (c : Nat × Nat) (hc : c = cA ∨ c = cB) : ∀ ac ∈ csX7_boughtFromMissing, SafeC TYg c mX7_boughtFromMissing ac := by
  intro ac hac
  simp only [csX7_boughtFromMissing, List.mem_cons, List.not_mem_nil, or_false] at hac
  rcases hac with rfl
  · rcases hc with rfl | rfl
    · exact safe_of (ann := [(2, [(2, 1175, 0), (0, 0, 11), (0, 0, 40)], [(0, 2, 0, 4294967296)])]) (fuel := 600) okX7_boughtFromMissing (snX7_boughtFromMissing _ _ cA (Or.inl rfl)) (List.forall_mem_cons.mpr ⟨⟨_, _, rfl⟩, (fun q hq => by cases hq)⟩) (by decide) (by decide +kernel)
    · exact safe_of (ann := [(2, [(2, 1175, 0), (0, 0, 11), (0, 0, 40)], [(0, 2, 0, 4294967296)])]) (fuel := 600) okX7_boughtFromMissing (snX7_boughtFromMissing _ _ cB (Or.inr rfl)) (List.forall_mem_cons.mpr ⟨⟨_, _, rfl⟩, (fun q hq => by cases hq)⟩) (by decide) (by decide +kernel)
set_option maxRecDepth 100000 in
def adX7_boughtOfSuch (D : KK) : List ACE := (0, 1, some (aIc (0))) :: (1, 1, some (aIs 2)) :: (2, 1, some (aIc (0))) :: (3, 1, some (aIs 3)) :: (4, 0, none) :: (4, 1, some (aIl 3)) :: (5, 1, some (aAl 0)) :: (6, 3, some (aGetI D 7 6)) :: (9, 3, some (aCm (fun C x y => bLe C y x) bLt 65)) :: (12, 1, some (aAl 0)) :: (13, 3, some (aGetR [(1175, 329064)])) :: (16, 1, some (aIl 3)) :: (17, 1, some (aIald D)) :: (18, 1, some (aIl 1)) :: (19, 3, some (aCm bEq bNe 25)) :: (22, 3, some (aGoto 59)) :: (25, 1, some (aIc (1))) :: (26, 1, some (aIs 2)) :: (27, 1, some (aAl 0)) :: (28, 1, some (aAl 0)) :: (29, 3, some (aGetR [(1175, 329048)])) :: (32, 1, some (aIl 3)) :: (33, 1, some (aIald D)) :: (34, 1, some (aAl 0)) :: (35, 3, some (aGetI D 7 40)) :: (38, 3, some (aCall D 7 3 3 csX7_isMissing)) :: (41, 3, some (aIf bNe bEq 59)) :: (44, 1, some (aAl 0)) :: (45, 1, some (aAl 0)) :: (46, 3, some (aGetR [(1175, 329048)])) :: (49, 1, some (aIl 3)) :: (50, 1, some (aIald D)) :: (51, 3, some (aCall D 7 2 3 csX7_boughtFromMissing)) :: (54, 3, some (aIf bNe bEq 59)) :: (57, 1, some (aIc (0))) :: (58, 1, some (aZret)) :: (59, 3, some (aInc 3 (1))) :: (62, 3, some (aGoto 4)) :: (65, 1, some (aIl 2)) :: (66, 1, some (aZret)) :: []
set_option maxRecDepth 100000 in
set_option maxHeartbeats 4000000 in
theorem snX7_boughtOfSuch (d : Nat) (W : List Nat) (c : Nat × Nat) (hc : c = cA ∨ c = cB) : SndAll (d, TYg, c, W) cdX7_boughtOfSuch (adX7_boughtOfSuch (d, TYg, c, W)) := by
  unfold cdX7_boughtOfSuch adX7_boughtOfSuch
  refine sn_op (sIc (n := 0) (by decide)) ?_
  refine sn_op sIs ?_
  refine sn_op (sIc (n := 0) (by decide)) ?_
  refine sn_op sIs ?_
  refine sn_st ?_
  refine sn_op sIl ?_
  refine sn_op sAl ?_
  refine sn_op sGetI ?_
  refine sn_op sCmGe ?_
  refine sn_op sAl ?_
  refine sn_op sGetR ?_
  refine sn_op sIl ?_
  refine sn_op sIald ?_
  refine sn_op sIl ?_
  refine sn_op sCmEq ?_
  refine sn_op sGoto ?_
  refine sn_op (sIc (n := 1) (by decide)) ?_
  refine sn_op sIs ?_
  refine sn_op sAl ?_
  refine sn_op sAl ?_
  refine sn_op sGetR ?_
  refine sn_op sIl ?_
  refine sn_op sIald ?_
  refine sn_op sAl ?_
  refine sn_op sGetI ?_
  refine sn_op (sCI (sfX7_isMissing c hc) (by decide) (by decide +kernel)) ?_
  refine sn_op sIfNe ?_
  refine sn_op sAl ?_
  refine sn_op sAl ?_
  refine sn_op sGetR ?_
  refine sn_op sIl ?_
  refine sn_op sIald ?_
  refine sn_op (sCI (sfX7_boughtFromMissing c hc) (by decide) (by decide +kernel)) ?_
  refine sn_op sIfNe ?_
  refine sn_op (sIc (n := 0) (by decide)) ?_
  refine sn_op sZret ?_
  refine sn_op (sInc (n := 1) (by decide)) ?_
  refine sn_op sGoto ?_
  refine sn_op sIl ?_
  refine sn_op sZret ?_
  exact sn_nil
def csX7_boughtOfSuch : List AC := [([(2, 1175, 0), (0, 0, 0)], 6, [((0, 0, 1), [], []), ((0, 0, 0), [((1175, 6), (1, 40))], [])], [], []), ([(2, 1175, 0), (0, 0, 11)], 6, [((0, 0, 1), [], []), ((0, 0, 0), [((1175, 6), (1, 40))], [])], [], [])]
set_option maxRecDepth 100000 in
set_option maxHeartbeats 4000000 in
theorem sfX7_boughtOfSuch (c : Nat × Nat) (hc : c = cA ∨ c = cB) : ∀ ac ∈ csX7_boughtOfSuch, SafeC TYg c mX7_boughtOfSuch ac := by
  intro ac hac
  simp only [csX7_boughtOfSuch, List.mem_cons, List.not_mem_nil, or_false] at hac
  rcases hac with rfl | rfl
  · rcases hc with rfl | rfl
    · exact safe_of (ann := [(4, [(2, 1175, 0), (0, 0, 0), (0, 0, 1), (0, 0, 40)], [(0, 3, 0, 4294967296)])]) (fuel := 600) okX7_boughtOfSuch (snX7_boughtOfSuch _ _ cA (Or.inl rfl)) (List.forall_mem_cons.mpr ⟨⟨_, _, rfl⟩, (fun q hq => by cases hq)⟩) (by decide) (by decide +kernel)
    · exact safe_of (ann := [(4, [(2, 1175, 0), (0, 0, 0), (0, 0, 1), (0, 0, 40)], [(0, 3, 0, 4294967296)])]) (fuel := 600) okX7_boughtOfSuch (snX7_boughtOfSuch _ _ cB (Or.inr rfl)) (List.forall_mem_cons.mpr ⟨⟨_, _, rfl⟩, (fun q hq => by cases hq)⟩) (by decide) (by decide +kernel)
  · rcases hc with rfl | rfl
    · exact safe_of (ann := [(4, [(2, 1175, 0), (0, 0, 11), (0, 0, 1), (0, 0, 40)], [(0, 3, 0, 4294967296)])]) (fuel := 600) okX7_boughtOfSuch (snX7_boughtOfSuch _ _ cA (Or.inl rfl)) (List.forall_mem_cons.mpr ⟨⟨_, _, rfl⟩, (fun q hq => by cases hq)⟩) (by decide) (by decide +kernel)
    · exact safe_of (ann := [(4, [(2, 1175, 0), (0, 0, 11), (0, 0, 1), (0, 0, 40)], [(0, 3, 0, 4294967296)])]) (fuel := 600) okX7_boughtOfSuch (snX7_boughtOfSuch _ _ cB (Or.inr rfl)) (List.forall_mem_cons.mpr ⟨⟨_, _, rfl⟩, (fun q hq => by cases hq)⟩) (by decide) (by decide +kernel)
set_option maxRecDepth 100000 in
def adX7_burdenOf (D : KK) : List ACE := (0, 1, some (aIc (0))) :: (1, 1, some (aIs 2)) :: (2, 1, some (aIc (0))) :: (3, 1, some (aIs 3)) :: (4, 0, none) :: (4, 1, some (aIl 3)) :: (5, 1, some (aAl 0)) :: (6, 3, some (aGetI D 7 6)) :: (9, 3, some (aCm (fun C x y => bLe C y x) bLt 79)) :: (12, 1, some (aAl 0)) :: (13, 3, some (aGetR [(1175, 99576)])) :: (16, 1, some (aAl 0)) :: (17, 3, some (aGetR [(1175, 329048)])) :: (20, 1, some (aIl 3)) :: (21, 1, some (aIald D)) :: (22, 1, some (aIald D)) :: (23, 1, some (aIl 1)) :: (24, 3, some (aCm bNe bEq 73)) :: (27, 1, some (aAl 0)) :: (28, 3, some (aGetR [(1175, 99576)])) :: (31, 1, some (aAl 0)) :: (32, 3, some (aGetR [(1175, 329064)])) :: (35, 1, some (aIl 3)) :: (36, 1, some (aIald D)) :: (37, 1, some (aIald D)) :: (38, 1, some (aIl 1)) :: (39, 3, some (aCm bNe bEq 73)) :: (42, 1, some (aAl 0)) :: (43, 1, some (aAl 0)) :: (44, 3, some (aGetR [(1175, 329048)])) :: (47, 1, some (aIl 3)) :: (48, 1, some (aIald D)) :: (49, 1, some (aIc (0))) :: (50, 3, some (aCall D 7 3 3 csX7_isMissing)) :: (53, 3, some (aIf bNe bEq 73)) :: (56, 1, some (aAl 0)) :: (57, 1, some (aAl 0)) :: (58, 3, some (aGetR [(1175, 329064)])) :: (61, 1, some (aIl 3)) :: (62, 1, some (aIald D)) :: (63, 1, some (aIc (0))) :: (64, 3, some (aCall D 7 3 3 csX7_isMissing)) :: (67, 3, some (aIf bNe bEq 73)) :: (70, 3, some (aInc 2 (1))) :: (73, 3, some (aInc 3 (1))) :: (76, 3, some (aGoto 4)) :: (79, 1, some (aIl 2)) :: (80, 1, some (aIret)) :: []
set_option maxRecDepth 100000 in
set_option maxHeartbeats 4000000 in
theorem snX7_burdenOf (d : Nat) (W : List Nat) (c : Nat × Nat) (hc : c = cA ∨ c = cB) : SndAll (d, TYg, c, W) cdX7_burdenOf (adX7_burdenOf (d, TYg, c, W)) := by
  unfold cdX7_burdenOf adX7_burdenOf
  refine sn_op (sIc (n := 0) (by decide)) ?_
  refine sn_op sIs ?_
  refine sn_op (sIc (n := 0) (by decide)) ?_
  refine sn_op sIs ?_
  refine sn_st ?_
  refine sn_op sIl ?_
  refine sn_op sAl ?_
  refine sn_op sGetI ?_
  refine sn_op sCmGe ?_
  refine sn_op sAl ?_
  refine sn_op sGetR ?_
  refine sn_op sAl ?_
  refine sn_op sGetR ?_
  refine sn_op sIl ?_
  refine sn_op sIald ?_
  refine sn_op sIald ?_
  refine sn_op sIl ?_
  refine sn_op sCmNe ?_
  refine sn_op sAl ?_
  refine sn_op sGetR ?_
  refine sn_op sAl ?_
  refine sn_op sGetR ?_
  refine sn_op sIl ?_
  refine sn_op sIald ?_
  refine sn_op sIald ?_
  refine sn_op sIl ?_
  refine sn_op sCmNe ?_
  refine sn_op sAl ?_
  refine sn_op sAl ?_
  refine sn_op sGetR ?_
  refine sn_op sIl ?_
  refine sn_op sIald ?_
  refine sn_op (sIc (n := 0) (by decide)) ?_
  refine sn_op (sCI (sfX7_isMissing c hc) (by decide) (by decide +kernel)) ?_
  refine sn_op sIfNe ?_
  refine sn_op sAl ?_
  refine sn_op sAl ?_
  refine sn_op sGetR ?_
  refine sn_op sIl ?_
  refine sn_op sIald ?_
  refine sn_op (sIc (n := 0) (by decide)) ?_
  refine sn_op (sCI (sfX7_isMissing c hc) (by decide) (by decide +kernel)) ?_
  refine sn_op sIfNe ?_
  refine sn_op (sInc (n := 1) (by decide)) ?_
  refine sn_op (sInc (n := 1) (by decide)) ?_
  refine sn_op sGoto ?_
  refine sn_op sIl ?_
  refine sn_op sIret ?_
  exact sn_nil
def csX7_burdenOf : List AC := [([(2, 1175, 0), (0, 0, 0)], 5, [((0, -2147483648, 2147483647), [], [])], [], []), ([(2, 1175, 0), (0, 0, 4)], 5, [((0, -2147483648, 2147483647), [], [])], [], [])]
set_option maxRecDepth 100000 in
set_option maxHeartbeats 4000000 in
theorem sfX7_burdenOf (c : Nat × Nat) (hc : c = cA ∨ c = cB) : ∀ ac ∈ csX7_burdenOf, SafeC TYg c mX7_burdenOf ac := by
  intro ac hac
  simp only [csX7_burdenOf, List.mem_cons, List.not_mem_nil, or_false] at hac
  rcases hac with rfl | rfl
  · rcases hc with rfl | rfl
    · exact safe_of (ann := [(4, [(2, 1175, 0), (0, 0, 0), (0, -2147483648, 2147483647), (0, 0, 40)], [(0, 3, 0, 4294967296)])]) (fuel := 600) okX7_burdenOf (snX7_burdenOf _ _ cA (Or.inl rfl)) (List.forall_mem_cons.mpr ⟨⟨_, _, rfl⟩, (fun q hq => by cases hq)⟩) (by decide) (by decide +kernel)
    · exact safe_of (ann := [(4, [(2, 1175, 0), (0, 0, 0), (0, -2147483648, 2147483647), (0, 0, 40)], [(0, 3, 0, 4294967296)])]) (fuel := 600) okX7_burdenOf (snX7_burdenOf _ _ cB (Or.inr rfl)) (List.forall_mem_cons.mpr ⟨⟨_, _, rfl⟩, (fun q hq => by cases hq)⟩) (by decide) (by decide +kernel)
  · rcases hc with rfl | rfl
    · exact safe_of (ann := [(4, [(2, 1175, 0), (0, 0, 4), (0, -2147483648, 2147483647), (0, 0, 40)], [(0, 3, 0, 4294967296)])]) (fuel := 600) okX7_burdenOf (snX7_burdenOf _ _ cA (Or.inl rfl)) (List.forall_mem_cons.mpr ⟨⟨_, _, rfl⟩, (fun q hq => by cases hq)⟩) (by decide) (by decide +kernel)
    · exact safe_of (ann := [(4, [(2, 1175, 0), (0, 0, 4), (0, -2147483648, 2147483647), (0, 0, 40)], [(0, 3, 0, 4294967296)])]) (fuel := 600) okX7_burdenOf (snX7_burdenOf _ _ cB (Or.inr rfl)) (List.forall_mem_cons.mpr ⟨⟨_, _, rfl⟩, (fun q hq => by cases hq)⟩) (by decide) (by decide +kernel)
set_option maxRecDepth 100000 in
def adX7_burden (D : KK) : List ACE := (0, 1, some (aAl 0)) :: (1, 1, some (aIc (0))) :: (2, 3, some (aPutI D 7 0)) :: (5, 1, some (aIl 1)) :: (6, 3, some (aIf bLt (fun C x y => bLe C y x) 17)) :: (9, 1, some (aIl 1)) :: (10, 1, some (aAl 0)) :: (11, 3, some (aGetI D 7 3)) :: (14, 3, some (aCm bLt (fun C x y => bLe C y x) 21)) :: (17, 1, some (aIc (-1))) :: (18, 3, some (aGoto 26)) :: (21, 1, some (aAl 0)) :: (22, 1, some (aIl 1)) :: (23, 3, some (aCall D 7 2 4 csX7_burdenOf)) :: (26, 1, some (aIret)) :: []
set_option maxRecDepth 100000 in
set_option maxHeartbeats 4000000 in
theorem snX7_burden (d : Nat) (W : List Nat) (c : Nat × Nat) (hc : c = cA ∨ c = cB) : SndAll (d, TYg, c, W) cdX7_burden (adX7_burden (d, TYg, c, W)) := by
  unfold cdX7_burden adX7_burden
  refine sn_op sAl ?_
  refine sn_op (sIc (n := 0) (by decide)) ?_
  refine sn_op sPutI ?_
  refine sn_op sIl ?_
  refine sn_op sIfLt ?_
  refine sn_op sIl ?_
  refine sn_op sAl ?_
  refine sn_op sGetI ?_
  refine sn_op sCmLt ?_
  refine sn_op (sIc (n := -1) (by decide)) ?_
  refine sn_op sGoto ?_
  refine sn_op sAl ?_
  refine sn_op sIl ?_
  refine sn_op (sCI (sfX7_burdenOf c hc) (by decide) (by decide +kernel)) ?_
  refine sn_op sIret ?_
  exact sn_nil
def csX7_burden : List AC := [([(2, 1175, 0), (0, -2147483648, 2147483647)], 6, [((0, -2147483648, 2147483647), [((1175, 0), (0, 0)), ((1175, 3), (1, 5))], [(1, (0, 4))]), ((0, -1, -1), [((1175, 0), (0, 0))], [])], [4294968471], [])]
set_option maxRecDepth 100000 in
set_option maxHeartbeats 4000000 in
theorem sfX7_burden (c : Nat × Nat) (hc : c = cA ∨ c = cB) : ∀ ac ∈ csX7_burden, SafeC TYg c mX7_burden ac := by
  intro ac hac
  simp only [csX7_burden, List.mem_cons, List.not_mem_nil, or_false] at hac
  rcases hac with rfl
  · rcases hc with rfl | rfl
    · exact safe_of (ann := []) (fuel := 600) okX7_burden (snX7_burden _ _ cA (Or.inl rfl)) (fun q hq => by cases hq) (by decide) (by decide +kernel)
    · exact safe_of (ann := []) (fuel := 600) okX7_burden (snX7_burden _ _ cB (Or.inr rfl)) (fun q hq => by cases hq) (by decide) (by decide +kernel)
set_option maxRecDepth 100000 in
def adX7_count (D : KK) : List ACE := (0, 1, some (aAl 0)) :: (1, 1, some (aIc (0))) :: (2, 3, some (aPutI D 7 0)) :: (5, 1, some (aIc (0))) :: (6, 1, some (aIs 2)) :: (7, 1, some (aIl 1)) :: (8, 48, some (aSw [(0, 56), (1, 61), (2, 66), (3, 71), (4, 76), (5, 86), (6, 94), (7, 102)] 140)) :: (56, 1, some (aAl 0)) :: (57, 3, some (aGetI D 7 3)) :: (60, 1, some (aIret)) :: (61, 1, some (aAl 0)) :: (62, 3, some (aGetI D 7 4)) :: (65, 1, some (aIret)) :: (66, 1, some (aAl 0)) :: (67, 3, some (aGetI D 7 5)) :: (70, 1, some (aIret)) :: (71, 1, some (aAl 0)) :: (72, 3, some (aGetI D 7 6)) :: (75, 1, some (aIret)) :: (76, 1, some (aAl 0)) :: (77, 3, some (aGetI D 7 6)) :: (80, 1, some (aAl 0)) :: (81, 3, some (aGetI D 7 7)) :: (84, 1, some (aBin fSub)) :: (85, 1, some (aIret)) :: (86, 1, some (aAl 0)) :: (87, 3, some (aGetI D 7 39)) :: (90, 3, some (aCall D 16 1 3 csX7_bits)) :: (93, 1, some (aIret)) :: (94, 1, some (aAl 0)) :: (95, 3, some (aGetI D 7 40)) :: (98, 3, some (aCall D 16 1 3 csX7_bits)) :: (101, 1, some (aIret)) :: (102, 1, some (aIc (0))) :: (103, 1, some (aIs 3)) :: (104, 0, none) :: (104, 1, some (aIl 3)) :: (105, 1, some (aAl 0)) :: (106, 3, some (aGetI D 7 5)) :: (109, 3, some (aCm (fun C x y => bLe C y x) bLt 138)) :: (112, 1, some (aIl 2)) :: (113, 1, some (aAl 0)) :: (114, 1, some (aIl 3)) :: (115, 1, some (aAl 0)) :: (116, 3, some (aGetI D 7 40)) :: (119, 3, some (aCall D 7 3 3 csX7_isMissing)) :: (122, 3, some (aIf bEq bNe 129)) :: (125, 1, some (aIc (1))) :: (126, 3, some (aGoto 130)) :: (129, 1, some (aIc (0))) :: (130, 1, some (aBin fAdd)) :: (131, 1, some (aIs 2)) :: (132, 3, some (aInc 3 (1))) :: (135, 3, some (aGoto 104)) :: (138, 1, some (aIl 2)) :: (139, 1, some (aIret)) :: (140, 1, some (aIc (-1))) :: (141, 1, some (aIret)) :: []
set_option maxRecDepth 100000 in
set_option maxHeartbeats 4000000 in
theorem snX7_count (d : Nat) (W : List Nat) (c : Nat × Nat) (hc : c = cA ∨ c = cB) : SndAll (d, TYg, c, W) cdX7_count (adX7_count (d, TYg, c, W)) := by
  unfold cdX7_count adX7_count
  refine sn_op sAl ?_
  refine sn_op (sIc (n := 0) (by decide)) ?_
  refine sn_op sPutI ?_
  refine sn_op (sIc (n := 0) (by decide)) ?_
  refine sn_op sIs ?_
  refine sn_op sIl ?_
  refine sn_op (sSw (by decide)) ?_
  refine sn_op sAl ?_
  refine sn_op sGetI ?_
  refine sn_op sIret ?_
  refine sn_op sAl ?_
  refine sn_op sGetI ?_
  refine sn_op sIret ?_
  refine sn_op sAl ?_
  refine sn_op sGetI ?_
  refine sn_op sIret ?_
  refine sn_op sAl ?_
  refine sn_op sGetI ?_
  refine sn_op sIret ?_
  refine sn_op sAl ?_
  refine sn_op sGetI ?_
  refine sn_op sAl ?_
  refine sn_op sGetI ?_
  refine sn_op sIsub ?_
  refine sn_op sIret ?_
  refine sn_op sAl ?_
  refine sn_op sGetI ?_
  refine sn_op (sCI (sfX7_bits c hc) (by decide) (by decide +kernel)) ?_
  refine sn_op sIret ?_
  refine sn_op sAl ?_
  refine sn_op sGetI ?_
  refine sn_op (sCI (sfX7_bits c hc) (by decide) (by decide +kernel)) ?_
  refine sn_op sIret ?_
  refine sn_op (sIc (n := 0) (by decide)) ?_
  refine sn_op sIs ?_
  refine sn_st ?_
  refine sn_op sIl ?_
  refine sn_op sAl ?_
  refine sn_op sGetI ?_
  refine sn_op sCmGe ?_
  refine sn_op sIl ?_
  refine sn_op sAl ?_
  refine sn_op sIl ?_
  refine sn_op sAl ?_
  refine sn_op sGetI ?_
  refine sn_op (sCI (sfX7_isMissing c hc) (by decide) (by decide +kernel)) ?_
  refine sn_op sIfEq ?_
  refine sn_op (sIc (n := 1) (by decide)) ?_
  refine sn_op sGoto ?_
  refine sn_op (sIc (n := 0) (by decide)) ?_
  refine sn_op sIadd ?_
  refine sn_op sIs ?_
  refine sn_op (sInc (n := 1) (by decide)) ?_
  refine sn_op sGoto ?_
  refine sn_op sIl ?_
  refine sn_op sIret ?_
  refine sn_op (sIc (n := -1) (by decide)) ?_
  refine sn_op sIret ?_
  exact sn_nil
def csX7_count : List AC := [([(2, 1175, 0), (0, -2147483648, 2147483647)], 5, [((0, -2147483648, 2147483647), [], []), ((0, -1, -1), [((1175, 0), (0, 0))], []), ((0, 0, 40), [((1175, 0), (0, 0))], [(1, (0, 3))])], [4294968471], [])]
set_option maxRecDepth 100000 in
set_option maxHeartbeats 4000000 in
theorem sfX7_count (c : Nat × Nat) (hc : c = cA ∨ c = cB) : ∀ ac ∈ csX7_count, SafeC TYg c mX7_count ac := by
  intro ac hac
  simp only [csX7_count, List.mem_cons, List.not_mem_nil, or_false] at hac
  rcases hac with rfl
  · rcases hc with rfl | rfl
    · exact safe_of (ann := [(104, [(2, 1175, 0), (0, 7, 7), (0, -2147483648, 2147483647), (0, 0, 12)], [(0, 3, 0, 4294967296)])]) (fuel := 600) okX7_count (snX7_count _ _ cA (Or.inl rfl)) (List.forall_mem_cons.mpr ⟨⟨_, _, rfl⟩, (fun q hq => by cases hq)⟩) (by decide) (by decide +kernel)
    · exact safe_of (ann := [(104, [(2, 1175, 0), (0, 7, 7), (0, -2147483648, 2147483647), (0, 0, 12)], [(0, 3, 0, 4294967296)])]) (fuel := 600) okX7_count (snX7_count _ _ cB (Or.inr rfl)) (List.forall_mem_cons.mpr ⟨⟨_, _, rfl⟩, (fun q hq => by cases hq)⟩) (by decide) (by decide +kernel)
set_option maxRecDepth 100000 in
def adX7_counts (D : KK) : List ACE := (0, 1, some (aAl 0)) :: (1, 3, some (aGetR [(1175, 329096)])) :: (4, 1, some (aIl 1)) :: (5, 1, some (aIald D)) :: (6, 1, some (aIl 2)) :: (7, 3, some (aCm bNe bEq 46)) :: (10, 1, some (aAl 0)) :: (11, 3, some (aGetI D 7 39)) :: (14, 1, some (aAl 0)) :: (15, 3, some (aGetR [(1175, 329048)])) :: (18, 1, some (aIl 1)) :: (19, 1, some (aIald D)) :: (20, 1, some (aBin fShr)) :: (21, 1, some (aIc (1))) :: (22, 1, some (aBin fAnd)) :: (23, 3, some (aIf bNe bEq 46)) :: (26, 1, some (aAl 0)) :: (27, 3, some (aGetI D 7 39)) :: (30, 1, some (aAl 0)) :: (31, 3, some (aGetR [(1175, 329064)])) :: (34, 1, some (aIl 1)) :: (35, 1, some (aIald D)) :: (36, 1, some (aBin fShr)) :: (37, 1, some (aIc (1))) :: (38, 1, some (aBin fAnd)) :: (39, 3, some (aIf bNe bEq 46)) :: (42, 1, some (aIc (1))) :: (43, 3, some (aGoto 47)) :: (46, 1, some (aIc (0))) :: (47, 1, some (aZret)) :: []
set_option maxRecDepth 100000 in
set_option maxHeartbeats 4000000 in
theorem snX7_counts (d : Nat) (W : List Nat) (c : Nat × Nat) (hc : c = cA ∨ c = cB) : SndAll (d, TYg, c, W) cdX7_counts (adX7_counts (d, TYg, c, W)) := by
  unfold cdX7_counts adX7_counts
  refine sn_op sAl ?_
  refine sn_op sGetR ?_
  refine sn_op sIl ?_
  refine sn_op sIald ?_
  refine sn_op sIl ?_
  refine sn_op sCmNe ?_
  refine sn_op sAl ?_
  refine sn_op sGetI ?_
  refine sn_op sAl ?_
  refine sn_op sGetR ?_
  refine sn_op sIl ?_
  refine sn_op sIald ?_
  refine sn_op sIshr ?_
  refine sn_op (sIc (n := 1) (by decide)) ?_
  refine sn_op sIand ?_
  refine sn_op sIfNe ?_
  refine sn_op sAl ?_
  refine sn_op sGetI ?_
  refine sn_op sAl ?_
  refine sn_op sGetR ?_
  refine sn_op sIl ?_
  refine sn_op sIald ?_
  refine sn_op sIshr ?_
  refine sn_op (sIc (n := 1) (by decide)) ?_
  refine sn_op sIand ?_
  refine sn_op sIfNe ?_
  refine sn_op (sIc (n := 1) (by decide)) ?_
  refine sn_op sGoto ?_
  refine sn_op (sIc (n := 0) (by decide)) ?_
  refine sn_op sZret ?_
  exact sn_nil
def csX7_counts : List AC := [([(2, 1175, 0), (0, 0, 0), (0, 0, 3)], 1, [((0, 0, 0), [], []), ((0, 1, 1), [], [])], [], []), ([(2, 1175, 0), (0, 0, 39), (0, 0, 3)], 1, [((0, 0, 0), [], []), ((0, 1, 1), [], [])], [], [])]
set_option maxRecDepth 100000 in
set_option maxHeartbeats 4000000 in
theorem sfX7_counts (c : Nat × Nat) (hc : c = cA ∨ c = cB) : ∀ ac ∈ csX7_counts, SafeC TYg c mX7_counts ac := by
  intro ac hac
  simp only [csX7_counts, List.mem_cons, List.not_mem_nil, or_false] at hac
  rcases hac with rfl | rfl
  · rcases hc with rfl | rfl
    · exact safe_of (ann := []) (fuel := 600) okX7_counts (snX7_counts _ _ cA (Or.inl rfl)) (fun q hq => by cases hq) (by decide) (by decide +kernel)
    · exact safe_of (ann := []) (fuel := 600) okX7_counts (snX7_counts _ _ cB (Or.inr rfl)) (fun q hq => by cases hq) (by decide) (by decide +kernel)
  · rcases hc with rfl | rfl
    · exact safe_of (ann := []) (fuel := 600) okX7_counts (snX7_counts _ _ cA (Or.inl rfl)) (fun q hq => by cases hq) (by decide) (by decide +kernel)
    · exact safe_of (ann := []) (fuel := 600) okX7_counts (snX7_counts _ _ cB (Or.inr rfl)) (fun q hq => by cases hq) (by decide) (by decide +kernel)
set_option maxRecDepth 100000 in
def adX7_fault (D : KK) : List ACE := (0, 1, some (aAl 0)) :: (1, 1, some (aIc (0))) :: (2, 3, some (aPutI D 7 0)) :: (5, 1, some (aIl 1)) :: (6, 3, some (aIf bNe bEq 16)) :: (9, 1, some (aAl 0)) :: (10, 3, some (aGetI D 7 37)) :: (13, 3, some (aGoto 29)) :: (16, 1, some (aIl 1)) :: (17, 1, some (aIc (1))) :: (18, 3, some (aCm bNe bEq 28)) :: (21, 1, some (aAl 0)) :: (22, 3, some (aGetI D 7 38)) :: (25, 3, some (aGoto 29)) :: (28, 1, some (aIc (-1))) :: (29, 1, some (aIret)) :: []
set_option maxRecDepth 100000 in
set_option maxHeartbeats 4000000 in
theorem snX7_fault (d : Nat) (W : List Nat) (c : Nat × Nat) (hc : c = cA ∨ c = cB) : SndAll (d, TYg, c, W) cdX7_fault (adX7_fault (d, TYg, c, W)) := by
  unfold cdX7_fault adX7_fault
  refine sn_op sAl ?_
  refine sn_op (sIc (n := 0) (by decide)) ?_
  refine sn_op sPutI ?_
  refine sn_op sIl ?_
  refine sn_op sIfNe ?_
  refine sn_op sAl ?_
  refine sn_op sGetI ?_
  refine sn_op sGoto ?_
  refine sn_op sIl ?_
  refine sn_op (sIc (n := 1) (by decide)) ?_
  refine sn_op sCmNe ?_
  refine sn_op sAl ?_
  refine sn_op sGetI ?_
  refine sn_op sGoto ?_
  refine sn_op (sIc (n := -1) (by decide)) ?_
  refine sn_op sIret ?_
  exact sn_nil
def csX7_fault : List AC := [([(2, 1175, 0), (0, -2147483648, 2147483647)], 1, [((0, -2147483648, 2147483647), [((1175, 0), (0, 0))], [(1, (1, 1))]), ((0, -1, -1), [((1175, 0), (0, 0))], []), ((0, 0, 5), [((1175, 0), (0, 0))], [(1, (0, 0))])], [4294968471], [])]
set_option maxRecDepth 100000 in
set_option maxHeartbeats 4000000 in
theorem sfX7_fault (c : Nat × Nat) (hc : c = cA ∨ c = cB) : ∀ ac ∈ csX7_fault, SafeC TYg c mX7_fault ac := by
  intro ac hac
  simp only [csX7_fault, List.mem_cons, List.not_mem_nil, or_false] at hac
  rcases hac with rfl
  · rcases hc with rfl | rfl
    · exact safe_of (ann := []) (fuel := 600) okX7_fault (snX7_fault _ _ cA (Or.inl rfl)) (fun q hq => by cases hq) (by decide) (by decide +kernel)
    · exact safe_of (ann := []) (fuel := 600) okX7_fault (snX7_fault _ _ cB (Or.inr rfl)) (fun q hq => by cases hq) (by decide) (by decide +kernel)
set_option maxRecDepth 100000 in
def adX7_feed (D : KK) : List ACE := (0, 1, some (aAl 0)) :: (1, 1, some (aIc (0))) :: (2, 3, some (aPutI D 7 0)) :: (5, 1, some (aAl 0)) :: (6, 3, some (aGetI D 7 2)) :: (9, 3, some (aIc (780))) :: (12, 3, some (aCm bLe (fun C x y => bLt C y x) 17)) :: (15, 1, some (aIc (-1))) :: (16, 1, some (aIret)) :: (17, 1, some (aIc (0))) :: (18, 2, some (aIs 6)) :: (20, 0, none) :: (20, 2, some (aIl 6)) :: (22, 2, some (aIc (20))) :: (24, 3, some (aCm (fun C x y => bLe C y x) bLt 110)) :: (27, 2, some (aIl 6)) :: (29, 1, some (aIc (4))) :: (30, 3, some (aCm (fun C x y => bLe C y x) bLt 37)) :: (33, 1, some (aIl 1)) :: (34, 3, some (aGoto 73)) :: (37, 2, some (aIl 6)) :: (39, 2, some (aIc (8))) :: (41, 3, some (aCm (fun C x y => bLe C y x) bLt 48)) :: (44, 1, some (aIl 2)) :: (45, 3, some (aGoto 73)) :: (48, 2, some (aIl 6)) :: (50, 2, some (aIc (12))) :: (52, 3, some (aCm (fun C x y => bLe C y x) bLt 59)) :: (55, 1, some (aIl 3)) :: (56, 3, some (aGoto 73)) :: (59, 2, some (aIl 6)) :: (61, 2, some (aIc (16))) :: (63, 3, some (aCm (fun C x y => bLe C y x) bLt 71)) :: (66, 2, some (aIl 4)) :: (68, 3, some (aGoto 73)) :: (71, 2, some (aIl 5)) :: (73, 2, some (aIs 7)) :: (75, 1, some (aAl 0)) :: (76, 3, some (aGetR [(1175, 3277992)])) :: (79, 1, some (aAl 0)) :: (80, 3, some (aGetI D 7 2)) :: (83, 2, some (aIl 6)) :: (85, 1, some (aBin fAdd)) :: (86, 2, some (aIl 7)) :: (88, 2, some (aIc (24))) :: (90, 2, some (aIc (8))) :: (92, 2, some (aIl 6)) :: (94, 1, some (aIc (4))) :: (95, 1, some (aDv fRem)) :: (96, 1, some (aBin fMul)) :: (97, 1, some (aBin fSub)) :: (98, 1, some (aBin fShr)) :: (99, 3, some (aIc (255))) :: (102, 1, some (aBin fAnd)) :: (103, 1, some (aIast D)) :: (104, 3, some (aInc 6 (1))) :: (107, 3, some (aGoto 20)) :: (110, 1, some (aAl 0)) :: (111, 1, some (aDup)) :: (112, 3, some (aGetI D 7 2)) :: (115, 2, some (aIc (20))) :: (117, 1, some (aBin fAdd)) :: (118, 3, some (aPutI D 7 2)) :: (121, 1, some (aAl 0)) :: (122, 3, some (aGetI D 7 2)) :: (125, 1, some (aIret)) :: []
set_option maxRecDepth 100000 in
set_option maxHeartbeats 4000000 in
theorem snX7_feed (d : Nat) (W : List Nat) (c : Nat × Nat) (hc : c = cA ∨ c = cB) : SndAll (d, TYg, c, W) cdX7_feed (adX7_feed (d, TYg, c, W)) := by
  unfold cdX7_feed adX7_feed
  refine sn_op sAl ?_
  refine sn_op (sIc (n := 0) (by decide)) ?_
  refine sn_op sPutI ?_
  refine sn_op sAl ?_
  refine sn_op sGetI ?_
  refine sn_op (sIc (n := 780) (by decide)) ?_
  refine sn_op sCmLe ?_
  refine sn_op (sIc (n := -1) (by decide)) ?_
  refine sn_op sIret ?_
  refine sn_op (sIc (n := 0) (by decide)) ?_
  refine sn_op sIs ?_
  refine sn_st ?_
  refine sn_op sIl ?_
  refine sn_op (sIc (n := 20) (by decide)) ?_
  refine sn_op sCmGe ?_
  refine sn_op sIl ?_
  refine sn_op (sIc (n := 4) (by decide)) ?_
  refine sn_op sCmGe ?_
  refine sn_op sIl ?_
  refine sn_op sGoto ?_
  refine sn_op sIl ?_
  refine sn_op (sIc (n := 8) (by decide)) ?_
  refine sn_op sCmGe ?_
  refine sn_op sIl ?_
  refine sn_op sGoto ?_
  refine sn_op sIl ?_
  refine sn_op (sIc (n := 12) (by decide)) ?_
  refine sn_op sCmGe ?_
  refine sn_op sIl ?_
  refine sn_op sGoto ?_
  refine sn_op sIl ?_
  refine sn_op (sIc (n := 16) (by decide)) ?_
  refine sn_op sCmGe ?_
  refine sn_op sIl ?_
  refine sn_op sGoto ?_
  refine sn_op sIl ?_
  refine sn_op sIs ?_
  refine sn_op sAl ?_
  refine sn_op sGetR ?_
  refine sn_op sAl ?_
  refine sn_op sGetI ?_
  refine sn_op sIl ?_
  refine sn_op sIadd ?_
  refine sn_op sIl ?_
  refine sn_op (sIc (n := 24) (by decide)) ?_
  refine sn_op (sIc (n := 8) (by decide)) ?_
  refine sn_op sIl ?_
  refine sn_op (sIc (n := 4) (by decide)) ?_
  refine sn_op sIrem ?_
  refine sn_op sImul ?_
  refine sn_op sIsub ?_
  refine sn_op sIshr ?_
  refine sn_op (sIc (n := 255) (by decide)) ?_
  refine sn_op sIand ?_
  refine sn_op sIast ?_
  refine sn_op (sInc (n := 1) (by decide)) ?_
  refine sn_op sGoto ?_
  refine sn_op sAl ?_
  refine sn_op sDup ?_
  refine sn_op sGetI ?_
  refine sn_op (sIc (n := 20) (by decide)) ?_
  refine sn_op sIadd ?_
  refine sn_op sPutI ?_
  refine sn_op sAl ?_
  refine sn_op sGetI ?_
  refine sn_op sIret ?_
  exact sn_nil
def csX7_feed : List AC := [([(2, 1175, 0), (0, -2147483648, 2147483647), (0, -2147483648, 2147483647), (0, -2147483648, 2147483647), (0, -2147483648, 2147483647), (0, -2147483648, 2147483647)], 1, [((0, -1, -1), [((1175, 0), (0, 0)), ((1175, 2), (781, 800))], []), ((0, 20, 800), [((1175, 0), (0, 0)), ((1175, 2), (20, 800))], [])], [3277992, 4294968471, 12884903063], [])]
set_option maxRecDepth 100000 in
set_option maxHeartbeats 4000000 in
theorem sfX7_feed (c : Nat × Nat) (hc : c = cA ∨ c = cB) : ∀ ac ∈ csX7_feed, SafeC TYg c mX7_feed ac := by
  intro ac hac
  simp only [csX7_feed, List.mem_cons, List.not_mem_nil, or_false] at hac
  rcases hac with rfl
  · rcases hc with rfl | rfl
    · exact safe_of (ann := [(20, [], [])]) (fuel := 4000) okX7_feed (snX7_feed _ _ cA (Or.inl rfl)) (List.forall_mem_cons.mpr ⟨⟨_, _, rfl⟩, (fun q hq => by cases hq)⟩) (by decide) (by decide +kernel)
    · exact safe_of (ann := [(20, [], [])]) (fuel := 4000) okX7_feed (snX7_feed _ _ cB (Or.inr rfl)) (List.forall_mem_cons.mpr ⟨⟨_, _, rfl⟩, (fun q hq => by cases hq)⟩) (by decide) (by decide +kernel)
set_option maxRecDepth 100000 in
def adX7_isAsked (D : KK) : List ACE := (0, 1, some (aIl 0)) :: (1, 3, some (aIf bLt (fun C x y => bLe C y x) 35)) :: (4, 1, some (aIl 0)) :: (5, 1, some (aIc (1))) :: (6, 3, some (aCm (fun C x y => bLt C y x) bLe 35)) :: (9, 1, some (aIl 1)) :: (10, 1, some (aIc (2))) :: (11, 3, some (aCm bLt (fun C x y => bLe C y x) 35)) :: (14, 1, some (aIl 1)) :: (15, 2, some (aIc (6))) :: (17, 3, some (aCm (fun C x y => bLt C y x) bLe 35)) :: (20, 1, some (aIl 2)) :: (21, 3, some (aIf bLt (fun C x y => bLe C y x) 35)) :: (24, 1, some (aIl 2)) :: (25, 3, some (aIc (400))) :: (28, 3, some (aCm (fun C x y => bLt C y x) bLe 35)) :: (31, 1, some (aIc (1))) :: (32, 3, some (aGoto 36)) :: (35, 1, some (aIc (0))) :: (36, 1, some (aZret)) :: []
set_option maxRecDepth 100000 in
set_option maxHeartbeats 4000000 in
theorem snX7_isAsked (d : Nat) (W : List Nat) (c : Nat × Nat) (hc : c = cA ∨ c = cB) : SndAll (d, TYg, c, W) cdX7_isAsked (adX7_isAsked (d, TYg, c, W)) := by
  unfold cdX7_isAsked adX7_isAsked
  refine sn_op sIl ?_
  refine sn_op sIfLt ?_
  refine sn_op sIl ?_
  refine sn_op (sIc (n := 1) (by decide)) ?_
  refine sn_op sCmGt ?_
  refine sn_op sIl ?_
  refine sn_op (sIc (n := 2) (by decide)) ?_
  refine sn_op sCmLt ?_
  refine sn_op sIl ?_
  refine sn_op (sIc (n := 6) (by decide)) ?_
  refine sn_op sCmGt ?_
  refine sn_op sIl ?_
  refine sn_op sIfLt ?_
  refine sn_op sIl ?_
  refine sn_op (sIc (n := 400) (by decide)) ?_
  refine sn_op sCmGt ?_
  refine sn_op (sIc (n := 1) (by decide)) ?_
  refine sn_op sGoto ?_
  refine sn_op (sIc (n := 0) (by decide)) ?_
  refine sn_op sZret ?_
  exact sn_nil
def csX7_isAsked : List AC := [([(0, -2147483648, 2147483647), (0, -2147483648, 2147483647), (0, -2147483648, 2147483647)], 1, [((0, 0, 0), [], []), ((0, 1, 1), [], [(0, (0, 1)), (1, (2, 6)), (2, (0, 400))])], [], [])]
set_option maxRecDepth 100000 in
set_option maxHeartbeats 4000000 in
theorem sfX7_isAsked (c : Nat × Nat) (hc : c = cA ∨ c = cB) : ∀ ac ∈ csX7_isAsked, SafeC TYg c mX7_isAsked ac := by
  intro ac hac
  simp only [csX7_isAsked, List.mem_cons, List.not_mem_nil, or_false] at hac
  rcases hac with rfl
  · rcases hc with rfl | rfl
    · exact safe_of (ann := []) (fuel := 600) okX7_isAsked (snX7_isAsked _ _ cA (Or.inl rfl)) (fun q hq => by cases hq) (by decide) (by decide +kernel)
    · exact safe_of (ann := []) (fuel := 600) okX7_isAsked (snX7_isAsked _ _ cB (Or.inr rfl)) (fun q hq => by cases hq) (by decide) (by decide +kernel)
