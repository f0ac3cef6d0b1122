/-! contracts -/
set_option maxRecDepth 100000 in
def adX3_readSale (D : KK) : List ACE := (0, 1, some (aAl 1)) :: (1, 3, some (aGetR [(336, 452), (720, 836)])) :: (4, 3, some (aGetI D 4 7)) :: (7, 2, some (aIc (30))) :: (9, 3, some (aCm bLt (fun C x y => bLe C y x) 18)) :: (12, 1, some (aAl 0)) :: (13, 1, some (aIc (2))) :: (14, 3, some (aCall D 3 2 2 csX3_fail)) :: (17, 1, some (aZret)) :: (18, 1, some (aAl 0)) :: (19, 3, some (aCall D 3 1 1 csX3_advance)) :: (22, 1, some (aAl 0)) :: (23, 1, some (aAl 1)) :: (24, 3, some (aGetR [(336, 418), (720, 802)])) :: (27, 3, some (aCall D 3 2 3 csX3_toldName)) :: (30, 1, some (aIs 2)) :: (31, 1, some (aIl 2)) :: (32, 3, some (aIf (fun C x y => bLe C y x) bLt 37)) :: (35, 1, some (aIc (0))) :: (36, 1, some (aZret)) :: (37, 1, some (aAl 0)) :: (38, 3, some (aGetI D 3 6)) :: (41, 1, some (aIc (1))) :: (42, 3, some (aCm bNe bEq 66)) :: (45, 1, some (aAl 1)) :: (46, 3, some (aGetR [(336, 418), (720, 802)])) :: (49, 1, some (aAl 0)) :: (50, 3, some (aGetI D 3 8)) :: (53, 3, some (aCall D 2 2 3 csX2_find)) :: (56, 1, some (aIl 2)) :: (57, 3, some (aCm bNe bEq 66)) :: (60, 1, some (aAl 0)) :: (61, 1, some (aIc (3))) :: (62, 3, some (aCall D 3 2 2 csX3_fail)) :: (65, 1, some (aZret)) :: (66, 1, some (aAl 0)) :: (67, 1, some (aAl 1)) :: (68, 3, some (aGetR [(336, 418), (720, 802)])) :: (71, 3, some (aCall D 3 2 3 csX3_toldName)) :: (74, 1, some (aIs 3)) :: (75, 1, some (aIl 3)) :: (76, 3, some (aIf (fun C x y => bLe C y x) bLt 81)) :: (79, 1, some (aIc (0))) :: (80, 1, some (aZret)) :: (81, 1, some (aAl 0)) :: (82, 1, some (aIc (1))) :: (83, 3, some (aIc (999))) :: (86, 3, some (aCall D 3 3 4 csX3_numberWithin)) :: (89, 2, some (aIs 4)) :: (91, 2, some (aIl 4)) :: (93, 3, some (aIf (fun C x y => bLe C y x) bLt 98)) :: (96, 1, some (aIc (0))) :: (97, 1, some (aZret)) :: (98, 1, some (aAl 0)) :: (99, 1, some (aAl 1)) :: (100, 3, some (aGetR [(336, 386), (720, 770)])) :: (103, 3, some (aCall D 3 2 3 csX3_toldName)) :: (106, 2, some (aIs 5)) :: (108, 2, some (aIl 5)) :: (110, 3, some (aIf (fun C x y => bLe C y x) bLt 115)) :: (113, 1, some (aIc (0))) :: (114, 1, some (aZret)) :: (115, 1, some (aAl 0)) :: (116, 1, some (aIc (1))) :: (117, 3, some (aIc (999))) :: (120, 3, some (aCall D 3 3 4 csX3_numberWithin)) :: (123, 2, some (aIs 6)) :: (125, 2, some (aIl 6)) :: (127, 3, some (aIf (fun C x y => bLe C y x) bLt 132)) :: (130, 1, some (aIc (0))) :: (131, 1, some (aZret)) :: (132, 1, some (aAl 0)) :: (133, 1, some (aAl 1)) :: (134, 1, some (aIl 2)) :: (135, 1, some (aIl 3)) :: (136, 3, some (aCall D 0 3 3 csX0_sinceBoth)) :: (139, 3, some (aCall D 3 2 4 csX3_readDay)) :: (142, 2, some (aIs 7)) :: (144, 2, some (aIl 7)) :: (146, 3, some (aIf (fun C x y => bLe C y x) bLt 151)) :: (149, 1, some (aIc (0))) :: (150, 1, some (aZret)) :: (151, 1, some (aAl 0)) :: (152, 3, some (aCall D 3 1 1 csX3_readMark)) :: (155, 2, some (aIs 8)) :: (157, 2, some (aIl 8)) :: (159, 3, some (aIf bLt (fun C x y => bLe C y x) 188)) :: (162, 1, some (aAl 1)) :: (163, 3, some (aGetR [(336, 452), (720, 836)])) :: (166, 1, some (aIl 2)) :: (167, 1, some (aIl 3)) :: (168, 2, some (aIl 4)) :: (170, 2, some (aIl 5)) :: (172, 2, some (aIl 6)) :: (174, 2, some (aIl 7)) :: (176, 2, some (aIl 8)) :: (178, 3, some (aCall D 4 8 8 csX4_add)) :: (181, 3, some (aIf bEq bNe 188)) :: (184, 1, some (aIc (1))) :: (185, 3, some (aGoto 189)) :: (188, 1, some (aIc (0))) :: (189, 1, some (aZret)) :: []
set_option maxRecDepth 100000 in
set_option maxHeartbeats 4000000 in
theorem snX3_readSale (d : Nat) (W : List Nat) (c : Nat × Nat) (hc : c = cA ∨ c = cB) : SndAll (d, TYg, c, W) cdX3_readSale (adX3_readSale (d, TYg, c, W)) := by
  unfold cdX3_readSale adX3_readSale
  refine sn_op sAl ?_
  refine sn_op sGetR ?_
  refine sn_op sGetI ?_
  refine sn_op (sIc (n := 30) (by decide)) ?_
  refine sn_op sCmLt ?_
  refine sn_op sAl ?_
  refine sn_op (sIc (n := 2) (by decide)) ?_
  refine sn_op (sCI (sfX3_fail c hc) (by decide) (by decide +kernel)) ?_
  refine sn_op sZret ?_
  refine sn_op sAl ?_
  refine sn_op (sCV (sfX3_advance c hc) (by decide) (by decide +kernel)) ?_
  refine sn_op sAl ?_
  refine sn_op sAl ?_
  refine sn_op sGetR ?_
  refine sn_op (sCI (sfX3_toldName c hc) (by decide) (by decide +kernel)) ?_
  refine sn_op sIs ?_
  refine sn_op sIl ?_
  refine sn_op sIfGe ?_
  refine sn_op (sIc (n := 0) (by decide)) ?_
  refine sn_op sZret ?_
  refine sn_op sAl ?_
  refine sn_op sGetI ?_
  refine sn_op (sIc (n := 1) (by decide)) ?_
  refine sn_op sCmNe ?_
  refine sn_op sAl ?_
  refine sn_op sGetR ?_
  refine sn_op sAl ?_
  refine sn_op sGetI ?_
  refine sn_op (sCI (sfX2_find c hc) (by decide) (by decide +kernel)) ?_
  refine sn_op sIl ?_
  refine sn_op sCmNe ?_
  refine sn_op sAl ?_
  refine sn_op (sIc (n := 3) (by decide)) ?_
  refine sn_op (sCI (sfX3_fail c hc) (by decide) (by decide +kernel)) ?_
  refine sn_op sZret ?_
  refine sn_op sAl ?_
  refine sn_op sAl ?_
  refine sn_op sGetR ?_
  refine sn_op (sCI (sfX3_toldName c hc) (by decide) (by decide +kernel)) ?_
  refine sn_op sIs ?_
  refine sn_op sIl ?_
  refine sn_op sIfGe ?_
  refine sn_op (sIc (n := 0) (by decide)) ?_
  refine sn_op sZret ?_
  refine sn_op sAl ?_
  refine sn_op (sIc (n := 1) (by decide)) ?_
  refine sn_op (sIc (n := 999) (by decide)) ?_
  refine sn_op (sCI (sfX3_numberWithin c hc) (by decide) (by decide +kernel)) ?_
  refine sn_op sIs ?_
  refine sn_op sIl ?_
  refine sn_op sIfGe ?_
  refine sn_op (sIc (n := 0) (by decide)) ?_
  refine sn_op sZret ?_
  refine sn_op sAl ?_
  refine sn_op sAl ?_
  refine sn_op sGetR ?_
  refine sn_op (sCI (sfX3_toldName c hc) (by decide) (by decide +kernel)) ?_
  refine sn_op sIs ?_
  refine sn_op sIl ?_
  refine sn_op sIfGe ?_
  refine sn_op (sIc (n := 0) (by decide)) ?_
  refine sn_op sZret ?_
  refine sn_op sAl ?_
  refine sn_op (sIc (n := 1) (by decide)) ?_
  refine sn_op (sIc (n := 999) (by decide)) ?_
  refine sn_op (sCI (sfX3_numberWithin c hc) (by decide) (by decide +kernel)) ?_
  refine sn_op sIs ?_
  refine sn_op sIl ?_
  refine sn_op sIfGe ?_
  refine sn_op (sIc (n := 0) (by decide)) ?_
  refine sn_op sZret ?_
  refine sn_op sAl ?_
  refine sn_op sAl ?_
  refine sn_op sIl ?_
  refine sn_op sIl ?_
  refine sn_op (sCI (sfX0_sinceBoth c hc) (by decide) (by decide +kernel)) ?_
  refine sn_op (sCI (sfX3_readDay c hc) (by decide) (by decide +kernel)) ?_
  refine sn_op sIs ?_
  refine sn_op sIl ?_
  refine sn_op sIfGe ?_
  refine sn_op (sIc (n := 0) (by decide)) ?_
  refine sn_op sZret ?_
  refine sn_op sAl ?_
  refine sn_op (sCI (sfX3_readMark c hc) (by decide) (by decide +kernel)) ?_
  refine sn_op sIs ?_
  refine sn_op sIl ?_
  refine sn_op sIfLt ?_
  refine sn_op sAl ?_
  refine sn_op sGetR ?_
  refine sn_op sIl ?_
  refine sn_op sIl ?_
  refine sn_op sIl ?_
  refine sn_op sIl ?_
  refine sn_op sIl ?_
  refine sn_op sIl ?_
  refine sn_op sIl ?_
  refine sn_op (sCI (sfX4_add c hc) (by decide) (by decide +kernel)) ?_
  refine sn_op sIfEq ?_
  refine sn_op (sIc (n := 1) (by decide)) ?_
  refine sn_op sGoto ?_
  refine sn_op (sIc (n := 0) (by decide)) ?_
  refine sn_op sZret ?_
  exact sn_nil
def csX3_readSale : List AC := [([(2, 19, 0), (2, 336, 0)], 6, [((0, 0, 0), [], []), ((0, 1, 1), [((386, 1), (1, 12)), ((418, 1), (1, 12)), ((452, 7), (1, 40))], [])], [164312, 164328, 164344, 164360, 164376, 164392, 164408, 12884901907, 17179869203, 25769803795, 30064771091, 34359738387, 34359738820, 38654705683], []), ([(2, 19, 0), (2, 720, 0)], 6, [((0, 0, 0), [], []), ((0, 1, 1), [((770, 1), (1, 12)), ((802, 1), (1, 12)), ((836, 7), (1, 40))], [])], [164696, 164712, 164728, 164744, 164760, 164776, 164792, 12884901907, 17179869203, 25769803795, 30064771091, 34359738387, 34359739204, 38654705683], [])]
set_option maxRecDepth 100000 in
set_option maxHeartbeats 4000000 in
theorem sfX3_readSale (c : Nat × Nat) (hc : c = cA ∨ c = cB) : ∀ ac ∈ csX3_readSale, SafeC TYg c mX3_readSale ac := by
  intro ac hac
  simp only [csX3_readSale, List.mem_cons, List.not_mem_nil, or_false] at hac
  rcases hac with rfl | rfl
  · rcases hc with rfl | rfl
    · exact safe_of (ann := []) (fuel := 600) okX3_readSale (snX3_readSale _ _ cA (Or.inl rfl)) (fun q hq => by cases hq) (by decide) (by decide +kernel)
    · exact safe_of (ann := []) (fuel := 600) okX3_readSale (snX3_readSale _ _ cB (Or.inr rfl)) (fun q hq => by cases hq) (by decide) (by decide +kernel)
  · rcases hc with rfl | rfl
    · exact safe_of (ann := []) (fuel := 600) okX3_readSale (snX3_readSale _ _ cA (Or.inl rfl)) (fun q hq => by cases hq) (by decide) (by decide +kernel)
    · exact safe_of (ann := []) (fuel := 600) okX3_readSale (snX3_readSale _ _ cB (Or.inr rfl)) (fun q hq => by cases hq) (by decide) (by decide +kernel)
set_option maxRecDepth 100000 in
def adX3_readTie (D : KK) : List ACE := (0, 1, some (aAl 0)) :: (1, 3, some (aGetI D 3 6)) :: (4, 1, some (aIc (1))) :: (5, 3, some (aCm bNe bEq 26)) :: (8, 1, some (aAl 0)) :: (9, 3, some (aGetI D 3 8)) :: (12, 2, some (aIc (269946880))) :: (14, 3, some (aCm bEq bNe 28)) :: (17, 1, some (aAl 0)) :: (18, 3, some (aGetI D 3 8)) :: (21, 2, some (aIc (620213248))) :: (23, 3, some (aCm bEq bNe 28)) :: (26, 1, some (aIc (1))) :: (27, 1, some (aZret)) :: (28, 1, some (aAl 0)) :: (29, 3, some (aGetI D 3 8)) :: (32, 2, some (aIc (269946880))) :: (34, 3, some (aCm bNe bEq 44)) :: (37, 1, some (aAl 1)) :: (38, 3, some (aGetR [(336, 49784), (720, 50168)])) :: (41, 3, some (aGoto 48)) :: (44, 1, some (aAl 1)) :: (45, 3, some (aGetR [(336, 49800), (720, 50184)])) :: (48, 1, some (aAs 3)) :: (49, 1, some (aAl 3)) :: (50, 1, some (aIl 2)) :: (51, 1, some (aIald D)) :: (52, 3, some (aIf bEq bNe 61)) :: (55, 1, some (aAl 0)) :: (56, 1, some (aIc (3))) :: (57, 3, some (aCall D 3 2 2 csX3_fail)) :: (60, 1, some (aZret)) :: (61, 1, some (aAl 0)) :: (62, 3, some (aCall D 3 1 1 csX3_advance)) :: (65, 1, some (aAl 0)) :: (66, 1, some (aIc (1))) :: (67, 2, some (aIc (99))) :: (69, 3, some (aCall D 3 3 4 csX3_numberWithin)) :: (72, 2, some (aIs 4)) :: (74, 2, some (aIl 4)) :: (76, 3, some (aIf (fun C x y => bLe C y x) bLt 81)) :: (79, 1, some (aIc (0))) :: (80, 1, some (aZret)) :: (81, 1, some (aAl 3)) :: (82, 1, some (aIl 2)) :: (83, 2, some (aIl 4)) :: (85, 1, some (aIast D)) :: (86, 1, some (aIc (1))) :: (87, 1, some (aZret)) :: []
set_option maxRecDepth 100000 in
set_option maxHeartbeats 4000000 in
theorem snX3_readTie (d : Nat) (W : List Nat) (c : Nat × Nat) (hc : c = cA ∨ c = cB) : SndAll (d, TYg, c, W) cdX3_readTie (adX3_readTie (d, TYg, c, W)) := by
  unfold cdX3_readTie adX3_readTie
  refine sn_op sAl ?_
  refine sn_op sGetI ?_
  refine sn_op (sIc (n := 1) (by decide)) ?_
  refine sn_op sCmNe ?_
  refine sn_op sAl ?_
  refine sn_op sGetI ?_
  refine sn_op (sIc (n := 269946880) (by decide)) ?_
  refine sn_op sCmEq ?_
  refine sn_op sAl ?_
  refine sn_op sGetI ?_
  refine sn_op (sIc (n := 620213248) (by decide)) ?_
  refine sn_op sCmEq ?_
  refine sn_op (sIc (n := 1) (by decide)) ?_
  refine sn_op sZret ?_
  refine sn_op sAl ?_
  refine sn_op sGetI ?_
  refine sn_op (sIc (n := 269946880) (by decide)) ?_
  refine sn_op sCmNe ?_
  refine sn_op sAl ?_
  refine sn_op sGetR ?_
  refine sn_op sGoto ?_
  refine sn_op sAl ?_
  refine sn_op sGetR ?_
  refine sn_op sAs ?_
  refine sn_op sAl ?_
  refine sn_op sIl ?_
  refine sn_op sIald ?_
  refine sn_op sIfEq ?_
  refine sn_op sAl ?_
  refine sn_op (sIc (n := 3) (by decide)) ?_
  refine sn_op (sCI (sfX3_fail c hc) (by decide) (by decide +kernel)) ?_
  refine sn_op sZret ?_
  refine sn_op sAl ?_
  refine sn_op (sCV (sfX3_advance c hc) (by decide) (by decide +kernel)) ?_
  refine sn_op sAl ?_
  refine sn_op (sIc (n := 1) (by decide)) ?_
  refine sn_op (sIc (n := 99) (by decide)) ?_
  refine sn_op (sCI (sfX3_numberWithin c hc) (by decide) (by decide +kernel)) ?_
  refine sn_op sIs ?_
  refine sn_op sIl ?_
  refine sn_op sIfGe ?_
  refine sn_op (sIc (n := 0) (by decide)) ?_
  refine sn_op sZret ?_
  refine sn_op sAl ?_
  refine sn_op sIl ?_
  refine sn_op sIl ?_
  refine sn_op sIast ?_
  refine sn_op (sIc (n := 1) (by decide)) ?_
  refine sn_op sZret ?_
  exact sn_nil
def csX3_readTie : List AC := [([(2, 19, 0), (2, 336, 0), (0, 0, 11)], 5, [((0, 0, 0), [((19, 2), (1, 3)), ((19, 3), (0, 800))], []), ((0, 1, 1), [], [])], [49784, 49800, 12884901907, 17179869203, 25769803795, 30064771091, 34359738387, 38654705683], []), ([(2, 19, 0), (2, 720, 0), (0, 0, 11)], 5, [((0, 0, 0), [((19, 2), (1, 3)), ((19, 3), (0, 800))], []), ((0, 1, 1), [], [])], [50168, 50184, 12884901907, 17179869203, 25769803795, 30064771091, 34359738387, 38654705683], [])]
set_option maxRecDepth 100000 in
set_option maxHeartbeats 4000000 in
theorem sfX3_readTie (c : Nat × Nat) (hc : c = cA ∨ c = cB) : ∀ ac ∈ csX3_readTie, SafeC TYg c mX3_readTie ac := by
  intro ac hac
  simp only [csX3_readTie, List.mem_cons, List.not_mem_nil, or_false] at hac
  rcases hac with rfl | rfl
  · rcases hc with rfl | rfl
    · exact safe_of (ann := []) (fuel := 600) okX3_readTie (snX3_readTie _ _ cA (Or.inl rfl)) (fun q hq => by cases hq) (by decide) (by decide +kernel)
    · exact safe_of (ann := []) (fuel := 600) okX3_readTie (snX3_readTie _ _ cB (Or.inr rfl)) (fun q hq => by cases hq) (by decide) (by decide +kernel)
  · rcases hc with rfl | rfl
    · exact safe_of (ann := []) (fuel := 600) okX3_readTie (snX3_readTie _ _ cA (Or.inl rfl)) (fun q hq => by cases hq) (by decide) (by decide +kernel)
    · exact safe_of (ann := []) (fuel := 600) okX3_readTie (snX3_readTie _ _ cB (Or.inr rfl)) (fun q hq => by cases hq) (by decide) (by decide +kernel)
set_option maxRecDepth 100000 in
def adX3_readFirm (D : KK) : List ACE := (0, 1, some (aAl 0)) :: (1, 1, some (aAl 1)) :: (2, 3, some (aGetR [(336, 418), (720, 802)])) :: (5, 2, some (aIc (12))) :: (7, 3, some (aCall D 3 3 4 csX3_newName)) :: (10, 1, some (aIs 2)) :: (11, 1, some (aIl 2)) :: (12, 3, some (aIf (fun C x y => bLe C y x) bLt 17)) :: (15, 1, some (aIc (0))) :: (16, 1, some (aZret)) :: (17, 1, some (aAl 0)) :: (18, 1, some (aAl 1)) :: (19, 3, some (aGetR [(336, 354), (720, 738)])) :: (22, 3, some (aCall D 3 2 3 csX3_toldName)) :: (25, 1, some (aIs 3)) :: (26, 1, some (aIl 3)) :: (27, 3, some (aIf (fun C x y => bLe C y x) bLt 32)) :: (30, 1, some (aIc (0))) :: (31, 1, some (aZret)) :: (32, 1, some (aAl 0)) :: (33, 1, some (aIc (0))) :: (34, 3, some (aIc (400))) :: (37, 3, some (aCall D 3 3 4 csX3_numberWithin)) :: (40, 2, some (aIs 4)) :: (42, 2, some (aIl 4)) :: (44, 3, some (aIf (fun C x y => bLe C y x) bLt 49)) :: (47, 1, some (aIc (0))) :: (48, 1, some (aZret)) :: (49, 1, some (aAl 1)) :: (50, 1, some (aIl 2)) :: (51, 1, some (aIl 3)) :: (52, 2, some (aIl 4)) :: (54, 3, some (aCall D 0 4 5 csX0_addFirm)) :: (57, 2, some (aIs 5)) :: (59, 2, some (aIl 5)) :: (61, 3, some (aIf bLt (fun C x y => bLe C y x) 98)) :: (64, 1, some (aAl 0)) :: (65, 1, some (aAl 1)) :: (66, 2, some (aIl 5)) :: (68, 3, some (aCall D 3 3 5 csX3_readTie)) :: (71, 3, some (aIf bEq bNe 98)) :: (74, 1, some (aAl 0)) :: (75, 1, some (aAl 1)) :: (76, 2, some (aIl 5)) :: (78, 3, some (aCall D 3 3 5 csX3_readTie)) :: (81, 3, some (aIf bEq bNe 98)) :: (84, 1, some (aAl 0)) :: (85, 1, some (aAl 1)) :: (86, 2, some (aIl 5)) :: (88, 3, some (aCall D 3 3 5 csX3_readTie)) :: (91, 3, some (aIf bEq bNe 98)) :: (94, 1, some (aIc (1))) :: (95, 3, some (aGoto 99)) :: (98, 1, some (aIc (0))) :: (99, 1, some (aZret)) :: []
set_option maxRecDepth 100000 in
set_option maxHeartbeats 4000000 in
theorem snX3_readFirm (d : Nat) (W : List Nat) (c : Nat × Nat) (hc : c = cA ∨ c = cB) : SndAll (d, TYg, c, W) cdX3_readFirm (adX3_readFirm (d, TYg, c, W)) := by
  unfold cdX3_readFirm adX3_readFirm
  refine sn_op sAl ?_
  refine sn_op sAl ?_
  refine sn_op sGetR ?_
  refine sn_op (sIc (n := 12) (by decide)) ?_
  refine sn_op (sCI (sfX3_newName c hc) (by decide) (by decide +kernel)) ?_
  refine sn_op sIs ?_
  refine sn_op sIl ?_
  refine sn_op sIfGe ?_
  refine sn_op (sIc (n := 0) (by decide)) ?_
  refine sn_op sZret ?_
  refine sn_op sAl ?_
  refine sn_op sAl ?_
  refine sn_op sGetR ?_
  refine sn_op (sCI (sfX3_toldName c hc) (by decide) (by decide +kernel)) ?_
  refine sn_op sIs ?_
  refine sn_op sIl ?_
  refine sn_op sIfGe ?_
  refine sn_op (sIc (n := 0) (by decide)) ?_
  refine sn_op sZret ?_
  refine sn_op sAl ?_
  refine sn_op (sIc (n := 0) (by decide)) ?_
  refine sn_op (sIc (n := 400) (by decide)) ?_
  refine sn_op (sCI (sfX3_numberWithin c hc) (by decide) (by decide +kernel)) ?_
  refine sn_op sIs ?_
  refine sn_op sIl ?_
  refine sn_op sIfGe ?_
  refine sn_op (sIc (n := 0) (by decide)) ?_
  refine sn_op sZret ?_
  refine sn_op sAl ?_
  refine sn_op sIl ?_
  refine sn_op sIl ?_
  refine sn_op sIl ?_
  refine sn_op (sCI (sfX0_addFirm c hc) (by decide) (by decide +kernel)) ?_
  refine sn_op sIs ?_
  refine sn_op sIl ?_
  refine sn_op sIfLt ?_
  refine sn_op sAl ?_
  refine sn_op sAl ?_
  refine sn_op sIl ?_
  refine sn_op (sCI (sfX3_readTie c hc) (by decide) (by decide +kernel)) ?_
  refine sn_op sIfEq ?_
  refine sn_op sAl ?_
  refine sn_op sAl ?_
  refine sn_op sIl ?_
  refine sn_op (sCI (sfX3_readTie c hc) (by decide) (by decide +kernel)) ?_
  refine sn_op sIfEq ?_
  refine sn_op sAl ?_
  refine sn_op sAl ?_
  refine sn_op sIl ?_
  refine sn_op (sCI (sfX3_readTie c hc) (by decide) (by decide +kernel)) ?_
  refine sn_op sIfEq ?_
  refine sn_op (sIc (n := 1) (by decide)) ?_
  refine sn_op sGoto ?_
  refine sn_op (sIc (n := 0) (by decide)) ?_
  refine sn_op sZret ?_
  exact sn_nil
def csX3_readFirm : List AC := [([(2, 19, 0), (2, 336, 0)], 6, [((0, 0, 0), [], []), ((0, 1, 1), [((354, 1), (1, 5)), ((418, 1), (1, 12))], [])], [49592, 49752, 49768, 49784, 49800, 49816, 49835, 8589935010, 12884901907, 17179869203, 25769803795, 30064771091, 34359738387, 38654705683], []), ([(2, 19, 0), (2, 720, 0)], 6, [((0, 0, 0), [], []), ((0, 1, 1), [((738, 1), (1, 5)), ((802, 1), (1, 12))], [])], [49976, 50136, 50152, 50168, 50184, 50200, 50219, 8589935394, 12884901907, 17179869203, 25769803795, 30064771091, 34359738387, 38654705683], [])]
set_option maxRecDepth 100000 in
set_option maxHeartbeats 4000000 in
theorem sfX3_readFirm (c : Nat × Nat) (hc : c = cA ∨ c = cB) : ∀ ac ∈ csX3_readFirm, SafeC TYg c mX3_readFirm ac := by
  intro ac hac
  simp only [csX3_readFirm, List.mem_cons, List.not_mem_nil, or_false] at hac
  rcases hac with rfl | rfl
  · rcases hc with rfl | rfl
    · exact safe_of (ann := []) (fuel := 600) okX3_readFirm (snX3_readFirm _ _ cA (Or.inl rfl)) (fun q hq => by cases hq) (by decide) (by decide +kernel)
    · exact safe_of (ann := []) (fuel := 600) okX3_readFirm (snX3_readFirm _ _ cB (Or.inr rfl)) (fun q hq => by cases hq) (by decide) (by decide +kernel)
  · rcases hc with rfl | rfl
    · exact safe_of (ann := []) (fuel := 600) okX3_readFirm (snX3_readFirm _ _ cA (Or.inl rfl)) (fun q hq => by cases hq) (by decide) (by decide +kernel)
    · exact safe_of (ann := []) (fuel := 600) okX3_readFirm (snX3_readFirm _ _ cB (Or.inr rfl)) (fun q hq => by cases hq) (by decide) (by decide +kernel)
set_option maxRecDepth 100000 in
def adX3_readGood (D : KK) : List ACE := (0, 1, some (aAl 0)) :: (1, 1, some (aAl 1)) :: (2, 3, some (aGetR [(336, 386), (720, 770)])) :: (5, 1, some (aIc (4))) :: (6, 3, some (aCall D 3 3 4 csX3_newName)) :: (9, 1, some (aIs 2)) :: (10, 1, some (aIl 2)) :: (11, 3, some (aIf bLt (fun C x y => bLe C y x) 29)) :: (14, 1, some (aAl 1)) :: (15, 3, some (aGetR [(336, 386), (720, 770)])) :: (18, 1, some (aIl 2)) :: (19, 3, some (aCall D 2 2 2 csX2_add)) :: (22, 3, some (aIf bLt (fun C x y => bLe C y x) 29)) :: (25, 1, some (aIc (1))) :: (26, 3, some (aGoto 30)) :: (29, 1, some (aIc (0))) :: (30, 1, some (aZret)) :: []
set_option maxRecDepth 100000 in
set_option maxHeartbeats 4000000 in
theorem snX3_readGood (d : Nat) (W : List Nat) (c : Nat × Nat) (hc : c = cA ∨ c = cB) : SndAll (d, TYg, c, W) cdX3_readGood (adX3_readGood (d, TYg, c, W)) := by
  unfold cdX3_readGood adX3_readGood
  refine sn_op sAl ?_
  refine sn_op sAl ?_
  refine sn_op sGetR ?_
  refine sn_op (sIc (n := 4) (by decide)) ?_
  refine sn_op (sCI (sfX3_newName c hc) (by decide) (by decide +kernel)) ?_
  refine sn_op sIs ?_
  refine sn_op sIl ?_
  refine sn_op sIfLt ?_
  refine sn_op sAl ?_
  refine sn_op sGetR ?_
  refine sn_op sIl ?_
  refine sn_op (sCI (sfX2_add c hc) (by decide) (by decide +kernel)) ?_
  refine sn_op sIfLt ?_
  refine sn_op (sIc (n := 1) (by decide)) ?_
  refine sn_op sGoto ?_
  refine sn_op (sIc (n := 0) (by decide)) ?_
  refine sn_op sZret ?_
  exact sn_nil
def csX3_readGood : List AC := [([(2, 19, 0), (2, 336, 0)], 5, [((0, 0, 0), [], []), ((0, 1, 1), [((386, 1), (1, 12))], [])], [49560, 8589934978, 12884901907, 17179869203, 25769803795, 30064771091, 34359738387, 38654705683], []), ([(2, 19, 0), (2, 720, 0)], 5, [((0, 0, 0), [], []), ((0, 1, 1), [((770, 1), (1, 12))], [])], [49944, 8589935362, 12884901907, 17179869203, 25769803795, 30064771091, 34359738387, 38654705683], [])]
set_option maxRecDepth 100000 in
set_option maxHeartbeats 4000000 in
theorem sfX3_readGood (c : Nat × Nat) (hc : c = cA ∨ c = cB) : ∀ ac ∈ csX3_readGood, SafeC TYg c mX3_readGood ac := by
  intro ac hac
  simp only [csX3_readGood, List.mem_cons, List.not_mem_nil, or_false] at hac
  rcases hac with rfl | rfl
  · rcases hc with rfl | rfl
    · exact safe_of (ann := []) (fuel := 600) okX3_readGood (snX3_readGood _ _ cA (Or.inl rfl)) (fun q hq => by cases hq) (by decide) (by decide +kernel)
    · exact safe_of (ann := []) (fuel := 600) okX3_readGood (snX3_readGood _ _ cB (Or.inr rfl)) (fun q hq => by cases hq) (by decide) (by decide +kernel)
  · rcases hc with rfl | rfl
    · exact safe_of (ann := []) (fuel := 600) okX3_readGood (snX3_readGood _ _ cA (Or.inl rfl)) (fun q hq => by cases hq) (by decide) (by decide +kernel)
    · exact safe_of (ann := []) (fuel := 600) okX3_readGood (snX3_readGood _ _ cB (Or.inr rfl)) (fun q hq => by cases hq) (by decide) (by decide +kernel)
set_option maxRecDepth 100000 in
def adX3_read (D : KK) : List ACE := (0, 1, some (aAl 0)) :: (1, 1, some (aIl 1)) :: (2, 1, some (aAl 0)) :: (3, 3, some (aGetI D 3 1)) :: (6, 3, some (aMin D)) :: (9, 3, some (aPutI D 3 4)) :: (12, 1, some (aAl 0)) :: (13, 1, some (aIc (0))) :: (14, 3, some (aPutI D 3 1)) :: (17, 1, some (aAl 0)) :: (18, 1, some (aIc (0))) :: (19, 3, some (aPutI D 3 5)) :: (22, 1, some (aAl 0)) :: (23, 1, some (aIc (0))) :: (24, 3, some (aPutI D 3 2)) :: (27, 1, some (aAl 0)) :: (28, 1, some (aIc (-1))) :: (29, 3, some (aPutI D 3 3)) :: (32, 1, some (aAl 0)) :: (33, 3, some (aCall D 3 1 1 csX3_advance)) :: (36, 1, some (aIc (0))) :: (37, 1, some (aIs 3)) :: (38, 1, some (aIc (1))) :: (39, 2, some (aIs 4)) :: (41, 0, none) :: (41, 1, some (aIl 3)) :: (42, 3, some (aIc (800))) :: (45, 3, some (aCm (fun C x y => bLe C y x) bLt 266)) :: (48, 2, some (aIl 4)) :: (50, 3, some (aIf bEq bNe 266)) :: (53, 1, some (aAl 0)) :: (54, 3, some (aGetI D 3 6)) :: (57, 3, some (aIf bEq bNe 266)) :: (60, 1, some (aAl 0)) :: (61, 3, some (aGetI D 3 6)) :: (64, 1, some (aIc (1))) :: (65, 3, some (aCm bNe bEq 75)) :: (68, 1, some (aAl 0)) :: (69, 3, some (aGetI D 3 8)) :: (72, 3, some (aGoto 76)) :: (75, 1, some (aIc (0))) :: (76, 52, some (aSw [(211366912, 178), (251105280, 153), (404164608, 128), (538218496, 228), (638981120, 203)] 253)) :: (128, 1, some (aAl 0)) :: (129, 1, some (aAl 2)) :: (130, 3, some (aCall D 3 2 5 csX3_readLand)) :: (133, 3, some (aIf bEq bNe 147)) :: (136, 1, some (aAl 0)) :: (137, 3, some (aCall D 3 1 1 csX3_lineEnds)) :: (140, 3, some (aIf bEq bNe 147)) :: (143, 1, some (aIc (1))) :: (144, 3, some (aGoto 148)) :: (147, 1, some (aIc (0))) :: (148, 2, some (aIs 4)) :: (150, 3, some (aGoto 260)) :: (153, 1, some (aAl 0)) :: (154, 1, some (aAl 2)) :: (155, 3, some (aCall D 3 2 3 csX3_readGood)) :: (158, 3, some (aIf bEq bNe 172)) :: (161, 1, some (aAl 0)) :: (162, 3, some (aCall D 3 1 1 csX3_lineEnds)) :: (165, 3, some (aIf bEq bNe 172)) :: (168, 1, some (aIc (1))) :: (169, 3, some (aGoto 173)) :: (172, 1, some (aIc (0))) :: (173, 2, some (aIs 4)) :: (175, 3, some (aGoto 260)) :: (178, 1, some (aAl 0)) :: (179, 1, some (aAl 2)) :: (180, 3, some (aCall D 3 2 6 csX3_readFirm)) :: (183, 3, some (aIf bEq bNe 197)) :: (186, 1, some (aAl 0)) :: (187, 3, some (aCall D 3 1 1 csX3_lineEnds)) :: (190, 3, some (aIf bEq bNe 197)) :: (193, 1, some (aIc (1))) :: (194, 3, some (aGoto 198)) :: (197, 1, some (aIc (0))) :: (198, 2, some (aIs 4)) :: (200, 3, some (aGoto 260)) :: (203, 1, some (aAl 0)) :: (204, 1, some (aAl 2)) :: (205, 3, some (aCall D 3 2 9 csX3_readSale)) :: (208, 3, some (aIf bEq bNe 222)) :: (211, 1, some (aAl 0)) :: (212, 3, some (aCall D 3 1 1 csX3_lineEnds)) :: (215, 3, some (aIf bEq bNe 222)) :: (218, 1, some (aIc (1))) :: (219, 3, some (aGoto 223)) :: (222, 1, some (aIc (0))) :: (223, 2, some (aIs 4)) :: (225, 3, some (aGoto 260)) :: (228, 1, some (aAl 0)) :: (229, 1, some (aAl 2)) :: (230, 3, some (aCall D 3 2 4 csX3_readPaid)) :: (233, 3, some (aIf bEq bNe 247)) :: (236, 1, some (aAl 0)) :: (237, 3, some (aCall D 3 1 1 csX3_lineEnds)) :: (240, 3, some (aIf bEq bNe 247)) :: (243, 1, some (aIc (1))) :: (244, 3, some (aGoto 248)) :: (247, 1, some (aIc (0))) :: (248, 2, some (aIs 4)) :: (250, 3, some (aGoto 260)) :: (253, 1, some (aAl 0)) :: (254, 1, some (aIc (1))) :: (255, 3, some (aCall D 3 2 2 csX3_fail)) :: (258, 2, some (aIs 4)) :: (260, 3, some (aInc 3 (1))) :: (263, 3, some (aGoto 41)) :: (266, 2, some (aIl 4)) :: (268, 3, some (aIf bEq bNe 275)) :: (271, 1, some (aIl 3)) :: (272, 3, some (aGoto 276)) :: (275, 1, some (aIc (-1))) :: (276, 1, some (aIret)) :: []
set_option maxRecDepth 100000 in
set_option maxHeartbeats 4000000 in
theorem snX3_read (d : Nat) (W : List Nat) (c : Nat × Nat) (hc : c = cA ∨ c = cB) : SndAll (d, TYg, c, W) cdX3_read (adX3_read (d, TYg, c, W)) := by
  unfold cdX3_read adX3_read
  refine sn_op sAl ?_
  refine sn_op sIl ?_
  refine sn_op sAl ?_
  refine sn_op sGetI ?_
  refine sn_op sMin ?_
  refine sn_op sPutI ?_
  refine sn_op sAl ?_
  refine sn_op (sIc (n := 0) (by decide)) ?_
  refine sn_op sPutI ?_
  refine sn_op sAl ?_
  refine sn_op (sIc (n := 0) (by decide)) ?_
  refine sn_op sPutI ?_
  refine sn_op sAl ?_
  refine sn_op (sIc (n := 0) (by decide)) ?_
  refine sn_op sPutI ?_
  refine sn_op sAl ?_
  refine sn_op (sIc (n := -1) (by decide)) ?_
  refine sn_op sPutI ?_
  refine sn_op sAl ?_
  refine sn_op (sCV (sfX3_advance c hc) (by decide) (by decide +kernel)) ?_
  refine sn_op (sIc (n := 0) (by decide)) ?_
  refine sn_op sIs ?_
  refine sn_op (sIc (n := 1) (by decide)) ?_
  refine sn_op sIs ?_
  refine sn_st ?_
  refine sn_op sIl ?_
  refine sn_op (sIc (n := 800) (by decide)) ?_
  refine sn_op sCmGe ?_
  refine sn_op sIl ?_
  refine sn_op sIfEq ?_
  refine sn_op sAl ?_
  refine sn_op sGetI ?_
  refine sn_op sIfEq ?_
  refine sn_op sAl ?_
  refine sn_op sGetI ?_
  refine sn_op (sIc (n := 1) (by decide)) ?_
  refine sn_op sCmNe ?_
  refine sn_op sAl ?_
  refine sn_op sGetI ?_
  refine sn_op sGoto ?_
  refine sn_op (sIc (n := 0) (by decide)) ?_
  refine sn_op (sSw (by decide)) ?_
  refine sn_op sAl ?_
  refine sn_op sAl ?_
  refine sn_op (sCI (sfX3_readLand c hc) (by decide) (by decide +kernel)) ?_
  refine sn_op sIfEq ?_
  refine sn_op sAl ?_
  refine sn_op (sCI (sfX3_lineEnds c hc) (by decide) (by decide +kernel)) ?_
  refine sn_op sIfEq ?_
  refine sn_op (sIc (n := 1) (by decide)) ?_
  refine sn_op sGoto ?_
  refine sn_op (sIc (n := 0) (by decide)) ?_
  refine sn_op sIs ?_
  refine sn_op sGoto ?_
  refine sn_op sAl ?_
  refine sn_op sAl ?_
  refine sn_op (sCI (sfX3_readGood c hc) (by decide) (by decide +kernel)) ?_
  refine sn_op sIfEq ?_
  refine sn_op sAl ?_
  refine sn_op (sCI (sfX3_lineEnds c hc) (by decide) (by decide +kernel)) ?_
  refine sn_op sIfEq ?_
  refine sn_op (sIc (n := 1) (by decide)) ?_
  refine sn_op sGoto ?_
  refine sn_op (sIc (n := 0) (by decide)) ?_
  refine sn_op sIs ?_
  refine sn_op sGoto ?_
  refine sn_op sAl ?_
  refine sn_op sAl ?_
  refine sn_op (sCI (sfX3_readFirm c hc) (by decide) (by decide +kernel)) ?_
  refine sn_op sIfEq ?_
  refine sn_op sAl ?_
  refine sn_op (sCI (sfX3_lineEnds c hc) (by decide) (by decide +kernel)) ?_
  refine sn_op sIfEq ?_
  refine sn_op (sIc (n := 1) (by decide)) ?_
  refine sn_op sGoto ?_
  refine sn_op (sIc (n := 0) (by decide)) ?_
  refine sn_op sIs ?_
  refine sn_op sGoto ?_
  refine sn_op sAl ?_
  refine sn_op sAl ?_
  refine sn_op (sCI (sfX3_readSale c hc) (by decide) (by decide +kernel)) ?_
  refine sn_op sIfEq ?_
  refine sn_op sAl ?_
  refine sn_op (sCI (sfX3_lineEnds c hc) (by decide) (by decide +kernel)) ?_
  refine sn_op sIfEq ?_
  refine sn_op (sIc (n := 1) (by decide)) ?_
  refine sn_op sGoto ?_
  refine sn_op (sIc (n := 0) (by decide)) ?_
  refine sn_op sIs ?_
  refine sn_op sGoto ?_
  refine sn_op sAl ?_
  refine sn_op sAl ?_
  refine sn_op (sCI (sfX3_readPaid c hc) (by decide) (by decide +kernel)) ?_
  refine sn_op sIfEq ?_
  refine sn_op sAl ?_
  refine sn_op (sCI (sfX3_lineEnds c hc) (by decide) (by decide +kernel)) ?_
  refine sn_op sIfEq ?_
  refine sn_op (sIc (n := 1) (by decide)) ?_
  refine sn_op sGoto ?_
  refine sn_op (sIc (n := 0) (by decide)) ?_
  refine sn_op sIs ?_
  refine sn_op sGoto ?_
  refine sn_op sAl ?_
  refine sn_op (sIc (n := 1) (by decide)) ?_
  refine sn_op (sCI (sfX3_fail c hc) (by decide) (by decide +kernel)) ?_
  refine sn_op sIs ?_
  refine sn_op (sInc (n := 1) (by decide)) ?_
  refine sn_op sGoto ?_
  refine sn_op sIl ?_
  refine sn_op sIfEq ?_
  refine sn_op sIl ?_
  refine sn_op sGoto ?_
  refine sn_op (sIc (n := -1) (by decide)) ?_
  refine sn_op sIret ?_
  exact sn_nil
def csX3_read : List AC := [([(2, 19, 0), (0, 0, 800), (2, 336, 0)], 7, [((0, -1, -1), [], []), ((0, 0, 800), [], [])], [21064, 49528, 49560, 49592, 49752, 49768, 49784, 49800, 49816, 49835, 164312, 164328, 164344, 164360, 164376, 164392, 164408, 8589934611, 8589934946, 8589934978, 8589935010, 12884901907, 17179869203, 21474836499, 25769803795, 30064771091, 34359738387, 34359738820, 38654705683], []), ([(2, 19, 0), (0, 0, 800), (2, 720, 0)], 7, [((0, -1, -1), [], []), ((0, 0, 800), [], [])], [21448, 49912, 49944, 49976, 50136, 50152, 50168, 50184, 50200, 50219, 164696, 164712, 164728, 164744, 164760, 164776, 164792, 8589934611, 8589935330, 8589935362, 8589935394, 12884901907, 17179869203, 21474836499, 25769803795, 30064771091, 34359738387, 34359739204, 38654705683], [])]
set_option maxRecDepth 100000 in
set_option maxHeartbeats 4000000 in
theorem sfX3_read (c : Nat × Nat) (hc : c = cA ∨ c = cB) : ∀ ac ∈ csX3_read, SafeC TYg c mX3_read ac := by
  intro ac hac
  simp only [csX3_read, List.mem_cons, List.not_mem_nil, or_false] at hac
  rcases hac with rfl | rfl
  · rcases hc with rfl | rfl
    · exact safe_of (ann := [(41, [(2, 19, 0), (0, 0, 800), (2, 336, 0), (0, 0, 800), (0, 0, 1)], [(0, 3, 0, 4294967296)])]) (fuel := 600) okX3_read (snX3_read _ _ cA (Or.inl rfl)) (List.forall_mem_cons.mpr ⟨⟨_, _, rfl⟩, (fun q hq => by cases hq)⟩) (by decide) (by decide +kernel)
    · exact safe_of (ann := [(41, [(2, 19, 0), (0, 0, 800), (2, 336, 0), (0, 0, 800), (0, 0, 1)], [(0, 3, 0, 4294967296)])]) (fuel := 600) okX3_read (snX3_read _ _ cB (Or.inr rfl)) (List.forall_mem_cons.mpr ⟨⟨_, _, rfl⟩, (fun q hq => by cases hq)⟩) (by decide) (by decide +kernel)
  · rcases hc with rfl | rfl
    · exact safe_of (ann := [(41, [(2, 19, 0), (0, 0, 800), (2, 720, 0), (0, 0, 800), (0, 0, 1)], [(0, 3, 0, 4294967296)])]) (fuel := 600) okX3_read (snX3_read _ _ cA (Or.inl rfl)) (List.forall_mem_cons.mpr ⟨⟨_, _, rfl⟩, (fun q hq => by cases hq)⟩) (by decide) (by decide +kernel)
    · exact safe_of (ann := [(41, [(2, 19, 0), (0, 0, 800), (2, 720, 0), (0, 0, 800), (0, 0, 1)], [(0, 3, 0, 4294967296)])]) (fuel := 600) okX3_read (snX3_read _ _ cB (Or.inr rfl)) (List.forall_mem_cons.mpr ⟨⟨_, _, rfl⟩, (fun q hq => by cases hq)⟩) (by decide) (by decide +kernel)
set_option maxRecDepth 100000 in
def adX4_alike (D : KK) : List ACE := (0, 1, some (aAl 0)) :: (1, 3, some (aGetR [(452, 164360), (836, 164744)])) :: (4, 1, some (aIl 2)) :: (5, 1, some (aIald D)) :: (6, 1, some (aAl 0)) :: (7, 3, some (aGetR [(452, 164360), (836, 164744)])) :: (10, 1, some (aIl 3)) :: (11, 1, some (aIald D)) :: (12, 3, some (aCm bNe bEq 48)) :: (15, 1, some (aIl 1)) :: (16, 1, some (aIc (1))) :: (17, 3, some (aCm bEq bNe 44)) :: (20, 1, some (aAl 0)) :: (21, 3, some (aGetR [(452, 164408), (836, 164792)])) :: (24, 1, some (aIl 2)) :: (25, 1, some (aIald D)) :: (26, 1, some (aAl 0)) :: (27, 3, some (aGetR [(452, 164408), (836, 164792)])) :: (30, 1, some (aIl 3)) :: (31, 1, some (aIald D)) :: (32, 3, some (aCm bNe bEq 48)) :: (35, 1, some (aAl 0)) :: (36, 3, some (aGetR [(452, 164408), (836, 164792)])) :: (39, 1, some (aIl 2)) :: (40, 1, some (aIald D)) :: (41, 3, some (aIf bEq bNe 48)) :: (44, 1, some (aIc (1))) :: (45, 3, some (aGoto 49)) :: (48, 1, some (aIc (0))) :: (49, 1, some (aZret)) :: []
set_option maxRecDepth 100000 in
set_option maxHeartbeats 4000000 in
theorem snX4_alike (d : Nat) (W : List Nat) (c : Nat × Nat) (hc : c = cA ∨ c = cB) : SndAll (d, TYg, c, W) cdX4_alike (adX4_alike (d, TYg, c, W)) := by
  unfold cdX4_alike adX4_alike
  refine sn_op sAl ?_
  refine sn_op sGetR ?_
  refine sn_op sIl ?_
  refine sn_op sIald ?_
  refine sn_op sAl ?_
  refine sn_op sGetR ?_
  refine sn_op sIl ?_
  refine sn_op sIald ?_
  refine sn_op sCmNe ?_
  refine sn_op sIl ?_
  refine sn_op (sIc (n := 1) (by decide)) ?_
  refine sn_op sCmEq ?_
  refine sn_op sAl ?_
  refine sn_op sGetR ?_
  refine sn_op sIl ?_
  refine sn_op sIald ?_
  refine sn_op sAl ?_
  refine sn_op sGetR ?_
  refine sn_op sIl ?_
  refine sn_op sIald ?_
  refine sn_op sCmNe ?_
  refine sn_op sAl ?_
  refine sn_op sGetR ?_
  refine sn_op sIl ?_
  refine sn_op sIald ?_
  refine sn_op sIfEq ?_
  refine sn_op (sIc (n := 1) (by decide)) ?_
  refine sn_op sGoto ?_
  refine sn_op (sIc (n := 0) (by decide)) ?_
  refine sn_op sZret ?_
  exact sn_nil
def csX4_alike : List AC := [([(2, 452, 0), (0, 0, 1), (0, 0, 39), (0, 0, 39)], 1, [((0, 0, 0), [], []), ((0, 1, 1), [], [])], [], []), ([(2, 836, 0), (0, 0, 1), (0, 0, 39), (0, 0, 39)], 1, [((0, 0, 0), [], []), ((0, 1, 1), [], [])], [], [])]
set_option maxRecDepth 100000 in
set_option maxHeartbeats 4000000 in
theorem sfX4_alike (c : Nat × Nat) (hc : c = cA ∨ c = cB) : ∀ ac ∈ csX4_alike, SafeC TYg c mX4_alike ac := by
  intro ac hac
  simp only [csX4_alike, List.mem_cons, List.not_mem_nil, or_false] at hac
  rcases hac with rfl | rfl
  · rcases hc with rfl | rfl
    · exact safe_of (ann := []) (fuel := 600) okX4_alike (snX4_alike _ _ cA (Or.inl rfl)) (fun q hq => by cases hq) (by decide) (by decide +kernel)
    · exact safe_of (ann := []) (fuel := 600) okX4_alike (snX4_alike _ _ cB (Or.inr rfl)) (fun q hq => by cases hq) (by decide) (by decide +kernel)
  · rcases hc with rfl | rfl
    · exact safe_of (ann := []) (fuel := 600) okX4_alike (snX4_alike _ _ cA (Or.inl rfl)) (fun q hq => by cases hq) (by decide) (by decide +kernel)
    · exact safe_of (ann := []) (fuel := 600) okX4_alike (snX4_alike _ _ cB (Or.inr rfl)) (fun q hq => by cases hq) (by decide) (by decide +kernel)
set_option maxRecDepth 100000 in
def adX4_boughtDearer (D : KK) : List ACE := (0, 1, some (aIc (0))) :: (1, 1, some (aIs 3)) :: (2, 0, none) :: (2, 1, some (aIl 3)) :: (3, 1, some (aAl 0)) :: (4, 3, some (aGetI D 4 7)) :: (7, 3, some (aCm (fun C x y => bLe C y x) bLt 85)) :: (10, 1, some (aAl 0)) :: (11, 3, some (aGetR [(452, 164328), (836, 164712)])) :: (14, 1, some (aIl 3)) :: (15, 1, some (aIald D)) :: (16, 1, some (aIl 1)) :: (17, 3, some (aCm bNe bEq 39)) :: (20, 1, some (aAl 0)) :: (21, 3, some (aGetR [(452, 164360), (836, 164744)])) :: (24, 1, some (aIl 3)) :: (25, 1, some (aIald D)) :: (26, 1, some (aAl 0)) :: (27, 3, some (aGetR [(452, 164360), (836, 164744)])) :: (30, 1, some (aIl 2)) :: (31, 1, some (aIald D)) :: (32, 3, some (aCm bNe bEq 39)) :: (35, 1, some (aIc (1))) :: (36, 3, some (aGoto 40)) :: (39, 1, some (aIc (0))) :: (40, 2, some (aIs 4)) :: (42, 2, some (aIl 4)) :: (44, 3, some (aIf bEq bNe 79)) :: (47, 1, some (aAl 0)) :: (48, 3, some (aGetR [(452, 164392), (836, 164776)])) :: (51, 1, some (aIl 3)) :: (52, 1, some (aIald D)) :: (53, 1, some (aAl 0)) :: (54, 3, some (aGetR [(452, 164392), (836, 164776)])) :: (57, 1, some (aIl 2)) :: (58, 1, some (aIald D)) :: (59, 3, some (aCm (fun C x y => bLt C y x) bLe 79)) :: (62, 1, some (aAl 0)) :: (63, 3, some (aGetR [(452, 164376), (836, 164760)])) :: (66, 1, some (aIl 3)) :: (67, 1, some (aIald D)) :: (68, 1, some (aAl 0)) :: (69, 3, some (aGetR [(452, 164376), (836, 164760)])) :: (72, 1, some (aIl 2)) :: (73, 1, some (aIald D)) :: (74, 3, some (aCm bLe (fun C x y => bLt C y x) 79)) :: (77, 1, some (aIc (1))) :: (78, 1, some (aZret)) :: (79, 3, some (aInc 3 (1))) :: (82, 3, some (aGoto 2)) :: (85, 1, some (aIc (0))) :: (86, 1, some (aZret)) :: []
set_option maxRecDepth 100000 in
set_option maxHeartbeats 4000000 in
theorem snX4_boughtDearer (d : Nat) (W : List Nat) (c : Nat × Nat) (hc : c = cA ∨ c = cB) : SndAll (d, TYg, c, W) cdX4_boughtDearer (adX4_boughtDearer (d, TYg, c, W)) := by
  unfold cdX4_boughtDearer adX4_boughtDearer
  refine sn_op (sIc (n := 0) (by decide)) ?_
  refine sn_op sIs ?_
  refine sn_st ?_
  refine sn_op sIl ?_
  refine sn_op sAl ?_
  refine sn_op sGetI ?_
  refine sn_op sCmGe ?_
  refine sn_op sAl ?_
  refine sn_op sGetR ?_
  refine sn_op sIl ?_
  refine sn_op sIald ?_
  refine sn_op sIl ?_
  refine sn_op sCmNe ?_
  refine sn_op sAl ?_
  refine sn_op sGetR ?_
  refine sn_op sIl ?_
  refine sn_op sIald ?_
  refine sn_op sAl ?_
  refine sn_op sGetR ?_
  refine sn_op sIl ?_
  refine sn_op sIald ?_
  refine sn_op sCmNe ?_
  refine sn_op (sIc (n := 1) (by decide)) ?_
  refine sn_op sGoto ?_
  refine sn_op (sIc (n := 0) (by decide)) ?_
  refine sn_op sIs ?_
  refine sn_op sIl ?_
  refine sn_op sIfEq ?_
  refine sn_op sAl ?_
  refine sn_op sGetR ?_
  refine sn_op sIl ?_
  refine sn_op sIald ?_
  refine sn_op sAl ?_
  refine sn_op sGetR ?_
  refine sn_op sIl ?_
  refine sn_op sIald ?_
  refine sn_op sCmGt ?_
  refine sn_op sAl ?_
  refine sn_op sGetR ?_
  refine sn_op sIl ?_
  refine sn_op sIald ?_
  refine sn_op sAl ?_
  refine sn_op sGetR ?_
  refine sn_op sIl ?_
  refine sn_op sIald ?_
  refine sn_op sCmLe ?_
  refine sn_op (sIc (n := 1) (by decide)) ?_
  refine sn_op sZret ?_
  refine sn_op (sInc (n := 1) (by decide)) ?_
  refine sn_op sGoto ?_
  refine sn_op (sIc (n := 0) (by decide)) ?_
  refine sn_op sZret ?_
  exact sn_nil
def csX4_boughtDearer : List AC := [([(2, 452, 0), (0, 0, 0), (0, 0, 0)], 1, [((0, 0, 0), [], []), ((0, 1, 1), [((452, 7), (1, 40))], [])], [], []), ([(2, 836, 0), (0, 0, 0), (0, 0, 0)], 1, [((0, 0, 0), [], []), ((0, 1, 1), [((836, 7), (1, 40))], [])], [], []), ([(2, 452, 0), (0, 0, 11), (0, 0, 0)], 1, [((0, 0, 0), [], []), ((0, 1, 1), [((452, 7), (1, 40))], [])], [], []), ([(2, 836, 0), (0, 0, 11), (0, 0, 0)], 1, [((0, 0, 0), [], []), ((0, 1, 1), [((836, 7), (1, 40))], [])], [], []), ([(2, 452, 0), (0, 0, 0), (0, 0, 39)], 1, [((0, 0, 0), [], []), ((0, 1, 1), [((452, 7), (1, 40))], [])], [], []), ([(2, 836, 0), (0, 0, 0), (0, 0, 39)], 1, [((0, 0, 0), [], []), ((0, 1, 1), [((836, 7), (1, 40))], [])], [], []), ([(2, 452, 0), (0, 0, 11), (0, 0, 39)], 1, [((0, 0, 0), [], []), ((0, 1, 1), [((452, 7), (1, 40))], [])], [], []), ([(2, 836, 0), (0, 0, 11), (0, 0, 39)], 1, [((0, 0, 0), [], []), ((0, 1, 1), [((836, 7), (1, 40))], [])], [], [])]
set_option maxRecDepth 100000 in
set_option maxHeartbeats 4000000 in
theorem sfX4_boughtDearer (c : Nat × Nat) (hc : c = cA ∨ c = cB) : ∀ ac ∈ csX4_boughtDearer, SafeC TYg c mX4_boughtDearer ac := by
  intro ac hac
  simp only [csX4_boughtDearer, List.mem_cons, List.not_mem_nil, or_false] at hac
  rcases hac with rfl | rfl | rfl | rfl | rfl | rfl | rfl | rfl
  · rcases hc with rfl | rfl
    · exact safe_of (ann := [(2, [(2, 452, 0), (0, 0, 0), (0, 0, 0), (0, 0, 40), (4, 0, 0)], [(0, 3, 0, 4294967296)])]) (fuel := 600) okX4_boughtDearer (snX4_boughtDearer _ _ cA (Or.inl rfl)) (List.forall_mem_cons.mpr ⟨⟨_, _, rfl⟩, (fun q hq => by cases hq)⟩) (by decide) (by decide +kernel)
    · exact safe_of (ann := [(2, [(2, 452, 0), (0, 0, 0), (0, 0, 0), (0, 0, 40), (4, 0, 0)], [(0, 3, 0, 4294967296)])]) (fuel := 600) okX4_boughtDearer (snX4_boughtDearer _ _ cB (Or.inr rfl)) (List.forall_mem_cons.mpr ⟨⟨_, _, rfl⟩, (fun q hq => by cases hq)⟩) (by decide) (by decide +kernel)
  · rcases hc with rfl | rfl
    · exact safe_of (ann := [(2, [(2, 836, 0), (0, 0, 0), (0, 0, 0), (0, 0, 40), (4, 0, 0)], [(0, 3, 0, 4294967296)])]) (fuel := 600) okX4_boughtDearer (snX4_boughtDearer _ _ cA (Or.inl rfl)) (List.forall_mem_cons.mpr ⟨⟨_, _, rfl⟩, (fun q hq => by cases hq)⟩) (by decide) (by decide +kernel)
    · exact safe_of (ann := [(2, [(2, 836, 0), (0, 0, 0), (0, 0, 0), (0, 0, 40), (4, 0, 0)], [(0, 3, 0, 4294967296)])]) (fuel := 600) okX4_boughtDearer (snX4_boughtDearer _ _ cB (Or.inr rfl)) (List.forall_mem_cons.mpr ⟨⟨_, _, rfl⟩, (fun q hq => by cases hq)⟩) (by decide) (by decide +kernel)
  · rcases hc with rfl | rfl
    · exact safe_of (ann := [(2, [(2, 452, 0), (0, 0, 11), (0, 0, 0), (0, 0, 40), (4, 0, 0)], [(0, 3, 0, 4294967296)])]) (fuel := 600) okX4_boughtDearer (snX4_boughtDearer _ _ cA (Or.inl rfl)) (List.forall_mem_cons.mpr ⟨⟨_, _, rfl⟩, (fun q hq => by cases hq)⟩) (by decide) (by decide +kernel)
    · exact safe_of (ann := [(2, [(2, 452, 0), (0, 0, 11), (0, 0, 0), (0, 0, 40), (4, 0, 0)], [(0, 3, 0, 4294967296)])]) (fuel := 600) okX4_boughtDearer (snX4_boughtDearer _ _ cB (Or.inr rfl)) (List.forall_mem_cons.mpr ⟨⟨_, _, rfl⟩, (fun q hq => by cases hq)⟩) (by decide) (by decide +kernel)
  · rcases hc with rfl | rfl
    · exact safe_of (ann := [(2, [(2, 836, 0), (0, 0, 11), (0, 0, 0), (0, 0, 40), (4, 0, 0)], [(0, 3, 0, 4294967296)])]) (fuel := 600) okX4_boughtDearer (snX4_boughtDearer _ _ cA (Or.inl rfl)) (List.forall_mem_cons.mpr ⟨⟨_, _, rfl⟩, (fun q hq => by cases hq)⟩) (by decide) (by decide +kernel)
    · exact safe_of (ann := [(2, [(2, 836, 0), (0, 0, 11), (0, 0, 0), (0, 0, 40), (4, 0, 0)], [(0, 3, 0, 4294967296)])]) (fuel := 600) okX4_boughtDearer (snX4_boughtDearer _ _ cB (Or.inr rfl)) (List.forall_mem_cons.mpr ⟨⟨_, _, rfl⟩, (fun q hq => by cases hq)⟩) (by decide) (by decide +kernel)
  · rcases hc with rfl | rfl
    · exact safe_of (ann := [(2, [(2, 452, 0), (0, 0, 0), (0, 0, 39), (0, 0, 40), (4, 0, 0)], [(0, 3, 0, 4294967296)])]) (fuel := 600) okX4_boughtDearer (snX4_boughtDearer _ _ cA (Or.inl rfl)) (List.forall_mem_cons.mpr ⟨⟨_, _, rfl⟩, (fun q hq => by cases hq)⟩) (by decide) (by decide +kernel)
    · exact safe_of (ann := [(2, [(2, 452, 0), (0, 0, 0), (0, 0, 39), (0, 0, 40), (4, 0, 0)], [(0, 3, 0, 4294967296)])]) (fuel := 600) okX4_boughtDearer (snX4_boughtDearer _ _ cB (Or.inr rfl)) (List.forall_mem_cons.mpr ⟨⟨_, _, rfl⟩, (fun q hq => by cases hq)⟩) (by decide) (by decide +kernel)
  · rcases hc with rfl | rfl
    · exact safe_of (ann := [(2, [(2, 836, 0), (0, 0, 0), (0, 0, 39), (0, 0, 40), (4, 0, 0)], [(0, 3, 0, 4294967296)])]) (fuel := 600) okX4_boughtDearer (snX4_boughtDearer _ _ cA (Or.inl rfl)) (List.forall_mem_cons.mpr ⟨⟨_, _, rfl⟩, (fun q hq => by cases hq)⟩) (by decide) (by decide +kernel)
    · exact safe_of (ann := [(2, [(2, 836, 0), (0, 0, 0), (0, 0, 39), (0, 0, 40), (4, 0, 0)], [(0, 3, 0, 4294967296)])]) (fuel := 600) okX4_boughtDearer (snX4_boughtDearer _ _ cB (Or.inr rfl)) (List.forall_mem_cons.mpr ⟨⟨_, _, rfl⟩, (fun q hq => by cases hq)⟩) (by decide) (by decide +kernel)
  · rcases hc with rfl | rfl
    · exact safe_of (ann := [(2, [(2, 452, 0), (0, 0, 11), (0, 0, 39), (0, 0, 40), (4, 0, 0)], [(0, 3, 0, 4294967296)])]) (fuel := 600) okX4_boughtDearer (snX4_boughtDearer _ _ cA (Or.inl rfl)) (List.forall_mem_cons.mpr ⟨⟨_, _, rfl⟩, (fun q hq => by cases hq)⟩) (by decide) (by decide +kernel)
    · exact safe_of (ann := [(2, [(2, 452, 0), (0, 0, 11), (0, 0, 39), (0, 0, 40), (4, 0, 0)], [(0, 3, 0, 4294967296)])]) (fuel := 600) okX4_boughtDearer (snX4_boughtDearer _ _ cB (Or.inr rfl)) (List.forall_mem_cons.mpr ⟨⟨_, _, rfl⟩, (fun q hq => by cases hq)⟩) (by decide) (by decide +kernel)
  · rcases hc with rfl | rfl
    · exact safe_of (ann := [(2, [(2, 836, 0), (0, 0, 11), (0, 0, 39), (0, 0, 40), (4, 0, 0)], [(0, 3, 0, 4294967296)])]) (fuel := 600) okX4_boughtDearer (snX4_boughtDearer _ _ cA (Or.inl rfl)) (List.forall_mem_cons.mpr ⟨⟨_, _, rfl⟩, (fun q hq => by cases hq)⟩) (by decide) (by decide +kernel)
    · exact safe_of (ann := [(2, [(2, 836, 0), (0, 0, 11), (0, 0, 39), (0, 0, 40), (4, 0, 0)], [(0, 3, 0, 4294967296)])]) (fuel := 600) okX4_boughtDearer (snX4_boughtDearer _ _ cB (Or.inr rfl)) (List.forall_mem_cons.mpr ⟨⟨_, _, rfl⟩, (fun q hq => by cases hq)⟩) (by decide) (by decide +kernel)
set_option maxRecDepth 100000 in
def adX4_boughtOnlyFrom (D : KK) : List ACE := (0, 1, some (aIc (0))) :: (1, 1, some (aIs 3)) :: (2, 1, some (aIc (0))) :: (3, 2, some (aIs 4)) :: (5, 0, none) :: (5, 2, some (aIl 4)) :: (7, 1, some (aAl 0)) :: (8, 3, some (aGetI D 4 7)) :: (11, 3, some (aCm (fun C x y => bLe C y x) bLt 49)) :: (14, 1, some (aAl 0)) :: (15, 3, some (aGetR [(452, 164328), (836, 164712)])) :: (18, 2, some (aIl 4)) :: (20, 1, some (aIald D)) :: (21, 1, some (aIl 1)) :: (22, 3, some (aCm bNe bEq 43)) :: (25, 1, some (aIl 2)) :: (26, 1, some (aAl 0)) :: (27, 3, some (aGetR [(452, 164312), (836, 164696)])) :: (30, 2, some (aIl 4)) :: (32, 1, some (aIald D)) :: (33, 1, some (aBin fShr)) :: (34, 1, some (aIc (1))) :: (35, 1, some (aBin fAnd)) :: (36, 3, some (aIf bNe bEq 41)) :: (39, 1, some (aIc (0))) :: (40, 1, some (aZret)) :: (41, 1, some (aIc (1))) :: (42, 1, some (aIs 3)) :: (43, 3, some (aInc 4 (1))) :: (46, 3, some (aGoto 5)) :: (49, 1, some (aIl 3)) :: (50, 1, some (aZret)) :: []
set_option maxRecDepth 100000 in
set_option maxHeartbeats 4000000 in
theorem snX4_boughtOnlyFrom (d : Nat) (W : List Nat) (c : Nat × Nat) (hc : c = cA ∨ c = cB) : SndAll (d, TYg, c, W) cdX4_boughtOnlyFrom (adX4_boughtOnlyFrom (d, TYg, c, W)) := by
  unfold cdX4_boughtOnlyFrom adX4_boughtOnlyFrom
  refine sn_op (sIc (n := 0) (by decide)) ?_
  refine sn_op sIs ?_
  refine sn_op (sIc (n := 0) (by decide)) ?_
  refine sn_op sIs ?_
  refine sn_st ?_
  refine sn_op sIl ?_
  refine sn_op sAl ?_
  refine sn_op sGetI ?_
  refine sn_op sCmGe ?_
  refine sn_op sAl ?_
  refine sn_op sGetR ?_
  refine sn_op sIl ?_
  refine sn_op sIald ?_
  refine sn_op sIl ?_
  refine sn_op sCmNe ?_
  refine sn_op sIl ?_
  refine sn_op sAl ?_
  refine sn_op sGetR ?_
  refine sn_op sIl ?_
  refine sn_op sIald ?_
  refine sn_op sIshr ?_
  refine sn_op (sIc (n := 1) (by decide)) ?_
  refine sn_op sIand ?_
  refine sn_op sIfNe ?_
  refine sn_op (sIc (n := 0) (by decide)) ?_
  refine sn_op sZret ?_
  refine sn_op (sIc (n := 1) (by decide)) ?_
  refine sn_op sIs ?_
  refine sn_op (sInc (n := 1) (by decide)) ?_
  refine sn_op sGoto ?_
  refine sn_op sIl ?_
  refine sn_op sZret ?_
  exact sn_nil
def csX4_boughtOnlyFrom : List AC := [([(2, 452, 0), (0, 0, 0), (0, -2147483648, 2147483647)], 1, [((0, 0, 1), [], []), ((0, 0, 0), [((452, 7), (1, 40))], [])], [], []), ([(2, 836, 0), (0, 0, 0), (0, -2147483648, 2147483647)], 1, [((0, 0, 1), [], []), ((0, 0, 0), [((836, 7), (1, 40))], [])], [], []), ([(2, 452, 0), (0, 0, 11), (0, -2147483648, 2147483647)], 1, [((0, 0, 1), [], []), ((0, 0, 0), [((452, 7), (1, 40))], [])], [], []), ([(2, 836, 0), (0, 0, 11), (0, -2147483648, 2147483647)], 1, [((0, 0, 1), [], []), ((0, 0, 0), [((836, 7), (1, 40))], [])], [], [])]
set_option maxRecDepth 100000 in
set_option maxHeartbeats 4000000 in
theorem sfX4_boughtOnlyFrom (c : Nat × Nat) (hc : c = cA ∨ c = cB) : ∀ ac ∈ csX4_boughtOnlyFrom, SafeC TYg c mX4_boughtOnlyFrom ac := by
  intro ac hac
  simp only [csX4_boughtOnlyFrom, List.mem_cons, List.not_mem_nil, or_false] at hac
  rcases hac with rfl | rfl | rfl | rfl
  · rcases hc with rfl | rfl
    · exact safe_of (ann := [(5, [(2, 452, 0), (0, 0, 0), (0, -2147483648, 2147483647), (0, 0, 1), (0, 0, 40)], [(0, 4, 0, 4294967296)])]) (fuel := 600) okX4_boughtOnlyFrom (snX4_boughtOnlyFrom _ _ cA (Or.inl rfl)) (List.forall_mem_cons.mpr ⟨⟨_, _, rfl⟩, (fun q hq => by cases hq)⟩) (by decide) (by decide +kernel)
    · exact safe_of (ann := [(5, [(2, 452, 0), (0, 0, 0), (0, -2147483648, 2147483647), (0, 0, 1), (0, 0, 40)], [(0, 4, 0, 4294967296)])]) (fuel := 600) okX4_boughtOnlyFrom (snX4_boughtOnlyFrom _ _ cB (Or.inr rfl)) (List.forall_mem_cons.mpr ⟨⟨_, _, rfl⟩, (fun q hq => by cases hq)⟩) (by decide) (by decide +kernel)
  · rcases hc with rfl | rfl
    · exact safe_of (ann := [(5, [(2, 836, 0), (0, 0, 0), (0, -2147483648, 2147483647), (0, 0, 1), (0, 0, 40)], [(0, 4, 0, 4294967296)])]) (fuel := 600) okX4_boughtOnlyFrom (snX4_boughtOnlyFrom _ _ cA (Or.inl rfl)) (List.forall_mem_cons.mpr ⟨⟨_, _, rfl⟩, (fun q hq => by cases hq)⟩) (by decide) (by decide +kernel)
    · exact safe_of (ann := [(5, [(2, 836, 0), (0, 0, 0), (0, -2147483648, 2147483647), (0, 0, 1), (0, 0, 40)], [(0, 4, 0, 4294967296)])]) (fuel := 600) okX4_boughtOnlyFrom (snX4_boughtOnlyFrom _ _ cB (Or.inr rfl)) (List.forall_mem_cons.mpr ⟨⟨_, _, rfl⟩, (fun q hq => by cases hq)⟩) (by decide) (by decide +kernel)
  · rcases hc with rfl | rfl
    · exact safe_of (ann := [(5, [(2, 452, 0), (0, 0, 11), (0, -2147483648, 2147483647), (0, 0, 1), (0, 0, 40)], [(0, 4, 0, 4294967296)])]) (fuel := 600) okX4_boughtOnlyFrom (snX4_boughtOnlyFrom _ _ cA (Or.inl rfl)) (List.forall_mem_cons.mpr ⟨⟨_, _, rfl⟩, (fun q hq => by cases hq)⟩) (by decide) (by decide +kernel)
    · exact safe_of (ann := [(5, [(2, 452, 0), (0, 0, 11), (0, -2147483648, 2147483647), (0, 0, 1), (0, 0, 40)], [(0, 4, 0, 4294967296)])]) (fuel := 600) okX4_boughtOnlyFrom (snX4_boughtOnlyFrom _ _ cB (Or.inr rfl)) (List.forall_mem_cons.mpr ⟨⟨_, _, rfl⟩, (fun q hq => by cases hq)⟩) (by decide) (by decide +kernel)
  · rcases hc with rfl | rfl
    · exact safe_of (ann := [(5, [(2, 836, 0), (0, 0, 11), (0, -2147483648, 2147483647), (0, 0, 1), (0, 0, 40)], [(0, 4, 0, 4294967296)])]) (fuel := 600) okX4_boughtOnlyFrom (snX4_boughtOnlyFrom _ _ cA (Or.inl rfl)) (List.forall_mem_cons.mpr ⟨⟨_, _, rfl⟩, (fun q hq => by cases hq)⟩) (by decide) (by decide +kernel)
    · exact safe_of (ann := [(5, [(2, 836, 0), (0, 0, 11), (0, -2147483648, 2147483647), (0, 0, 1), (0, 0, 40)], [(0, 4, 0, 4294967296)])]) (fuel := 600) okX4_boughtOnlyFrom (snX4_boughtOnlyFrom _ _ cB (Or.inr rfl)) (List.forall_mem_cons.mpr ⟨⟨_, _, rfl⟩, (fun q hq => by cases hq)⟩) (by decide) (by decide +kernel)
set_option maxRecDepth 100000 in
def adX4_buyersFrom (D : KK) : List ACE := (0, 1, some (aIc (0))) :: (1, 1, some (aIs 2)) :: (2, 1, some (aIc (0))) :: (3, 1, some (aIs 3)) :: (4, 0, none) :: (4, 1, some (aIl 3)) :: (5, 1, some (aAl 0)) :: (6, 3, some (aGetI D 4 7)) :: (9, 3, some (aCm (fun C x y => bLe C y x) bLt 42)) :: (12, 1, some (aIl 1)) :: (13, 1, some (aAl 0)) :: (14, 3, some (aGetR [(452, 164312), (836, 164696)])) :: (17, 1, some (aIl 3)) :: (18, 1, some (aIald D)) :: (19, 1, some (aBin fShr)) :: (20, 1, some (aIc (1))) :: (21, 1, some (aBin fAnd)) :: (22, 3, some (aIf bEq bNe 36)) :: (25, 1, some (aIl 2)) :: (26, 1, some (aIc (1))) :: (27, 1, some (aAl 0)) :: (28, 3, some (aGetR [(452, 164328), (836, 164712)])) :: (31, 1, some (aIl 3)) :: (32, 1, some (aIald D)) :: (33, 1, some (aBin fTop)) :: (34, 1, some (aBin fTop)) :: (35, 1, some (aIs 2)) :: (36, 3, some (aInc 3 (1))) :: (39, 3, some (aGoto 4)) :: (42, 1, some (aIl 2)) :: (43, 1, some (aIret)) :: []
set_option maxRecDepth 100000 in
set_option maxHeartbeats 4000000 in
theorem snX4_buyersFrom (d : Nat) (W : List Nat) (c : Nat × Nat) (hc : c = cA ∨ c = cB) : SndAll (d, TYg, c, W) cdX4_buyersFrom (adX4_buyersFrom (d, TYg, c, W)) := by
  unfold cdX4_buyersFrom adX4_buyersFrom
  refine sn_op (sIc (n := 0) (by decide)) ?_
  refine sn_op sIs ?_
  refine sn_op (sIc (n := 0) (by decide)) ?_
  refine sn_op sIs ?_
  refine sn_st ?_
  refine sn_op sIl ?_
  refine sn_op sAl ?_
  refine sn_op sGetI ?_
  refine sn_op sCmGe ?_
  refine sn_op sIl ?_
  refine sn_op sAl ?_
  refine sn_op sGetR ?_
  refine sn_op sIl ?_
  refine sn_op sIald ?_
  refine sn_op sIshr ?_
  refine sn_op (sIc (n := 1) (by decide)) ?_
  refine sn_op sIand ?_
  refine sn_op sIfEq ?_
  refine sn_op sIl ?_
  refine sn_op (sIc (n := 1) (by decide)) ?_
  refine sn_op sAl ?_
  refine sn_op sGetR ?_
  refine sn_op sIl ?_
  refine sn_op sIald ?_
  refine sn_op sIshl ?_
  refine sn_op sIor ?_
  refine sn_op sIs ?_
  refine sn_op (sInc (n := 1) (by decide)) ?_
  refine sn_op sGoto ?_
  refine sn_op sIl ?_
  refine sn_op sIret ?_
  exact sn_nil
def csX4_buyersFrom : List AC := [([(2, 452, 0), (0, -2147483648, 2147483647)], 1, [((0, -2147483648, 2147483647), [], [])], [], []), ([(2, 836, 0), (0, -2147483648, 2147483647)], 1, [((0, -2147483648, 2147483647), [], [])], [], [])]
set_option maxRecDepth 100000 in
set_option maxHeartbeats 4000000 in
theorem sfX4_buyersFrom (c : Nat × Nat) (hc : c = cA ∨ c = cB) : ∀ ac ∈ csX4_buyersFrom, SafeC TYg c mX4_buyersFrom ac := by
  intro ac hac
  simp only [csX4_buyersFrom, List.mem_cons, List.not_mem_nil, or_false] at hac
  rcases hac with rfl | rfl
  · rcases hc with rfl | rfl
    · exact safe_of (ann := [(4, [(2, 452, 0), (0, -2147483648, 2147483647), (0, -2147483648, 2147483647), (0, 0, 40)], [(0, 3, 0, 4294967296)])]) (fuel := 600) okX4_buyersFrom (snX4_buyersFrom _ _ cA (Or.inl rfl)) (List.forall_mem_cons.mpr ⟨⟨_, _, rfl⟩, (fun q hq => by cases hq)⟩) (by decide) (by decide +kernel)
    · exact safe_of (ann := [(4, [(2, 452, 0), (0, -2147483648, 2147483647), (0, -2147483648, 2147483647), (0, 0, 40)], [(0, 3, 0, 4294967296)])]) (fuel := 600) okX4_buyersFrom (snX4_buyersFrom _ _ cB (Or.inr rfl)) (List.forall_mem_cons.mpr ⟨⟨_, _, rfl⟩, (fun q hq => by cases hq)⟩) (by decide) (by decide +kernel)
  · rcases hc with rfl | rfl
    · exact safe_of (ann := [(4, [(2, 836, 0), (0, -2147483648, 2147483647), (0, -2147483648, 2147483647), (0, 0, 40)], [(0, 3, 0, 4294967296)])]) (fuel := 600) okX4_buyersFrom (snX4_buyersFrom _ _ cA (Or.inl rfl)) (List.forall_mem_cons.mpr ⟨⟨_, _, rfl⟩, (fun q hq => by cases hq)⟩) (by decide) (by decide +kernel)
    · exact safe_of (ann := [(4, [(2, 836, 0), (0, -2147483648, 2147483647), (0, -2147483648, 2147483647), (0, 0, 40)], [(0, 3, 0, 4294967296)])]) (fuel := 600) okX4_buyersFrom (snX4_buyersFrom _ _ cB (Or.inr rfl)) (List.forall_mem_cons.mpr ⟨⟨_, _, rfl⟩, (fun q hq => by cases hq)⟩) (by decide) (by decide +kernel)
set_option maxRecDepth 100000 in
def adX4_isBefore (D : KK) : List ACE := (0, 1, some (aAl 0)) :: (1, 3, some (aGetR [(452, 164392), (836, 164776)])) :: (4, 1, some (aIl 1)) :: (5, 1, some (aIald D)) :: (6, 1, some (aAl 0)) :: (7, 3, some (aGetR [(452, 164392), (836, 164776)])) :: (10, 1, some (aIl 2)) :: (11, 1, some (aIald D)) :: (12, 3, some (aCm bEq bNe 38)) :: (15, 1, some (aAl 0)) :: (16, 3, some (aGetR [(452, 164392), (836, 164776)])) :: (19, 1, some (aIl 1)) :: (20, 1, some (aIald D)) :: (21, 1, some (aAl 0)) :: (22, 3, some (aGetR [(452, 164392), (836, 164776)])) :: (25, 1, some (aIl 2)) :: (26, 1, some (aIald D)) :: (27, 3, some (aCm (fun C x y => bLe C y x) bLt 34)) :: (30, 1, some (aIc (1))) :: (31, 3, some (aGoto 48)) :: (34, 1, some (aIc (0))) :: (35, 3, some (aGoto 48)) :: (38, 1, some (aIl 1)) :: (39, 1, some (aIl 2)) :: (40, 3, some (aCm (fun C x y => bLe C y x) bLt 47)) :: (43, 1, some (aIc (1))) :: (44, 3, some (aGoto 48)) :: (47, 1, some (aIc (0))) :: (48, 1, some (aZret)) :: []
set_option maxRecDepth 100000 in
set_option maxHeartbeats 4000000 in
theorem snX4_isBefore (d : Nat) (W : List Nat) (c : Nat × Nat) (hc : c = cA ∨ c = cB) : SndAll (d, TYg, c, W) cdX4_isBefore (adX4_isBefore (d, TYg, c, W)) := by
  unfold cdX4_isBefore adX4_isBefore
  refine sn_op sAl ?_
  refine sn_op sGetR ?_
  refine sn_op sIl ?_
  refine sn_op sIald ?_
  refine sn_op sAl ?_
  refine sn_op sGetR ?_
  refine sn_op sIl ?_
  refine sn_op sIald ?_
  refine sn_op sCmEq ?_
  refine sn_op sAl ?_
  refine sn_op sGetR ?_
  refine sn_op sIl ?_
  refine sn_op sIald ?_
  refine sn_op sAl ?_
  refine sn_op sGetR ?_
  refine sn_op sIl ?_
  refine sn_op sIald ?_
  refine sn_op sCmGe ?_
  refine sn_op (sIc (n := 1) (by decide)) ?_
  refine sn_op sGoto ?_
  refine sn_op (sIc (n := 0) (by decide)) ?_
  refine sn_op sGoto ?_
  refine sn_op sIl ?_
  refine sn_op sIl ?_
  refine sn_op sCmGe ?_
  refine sn_op (sIc (n := 1) (by decide)) ?_
  refine sn_op sGoto ?_
  refine sn_op (sIc (n := 0) (by decide)) ?_
  refine sn_op sZret ?_
  exact sn_nil
def csX4_isBefore : List AC := [([(2, 452, 0), (0, 0, 39), (0, 0, 0)], 1, [((0, 0, 0), [], []), ((0, 1, 1), [], [])], [], []), ([(2, 836, 0), (0, 0, 39), (0, 0, 0)], 1, [((0, 0, 0), [], []), ((0, 1, 1), [], [])], [], []), ([(2, 452, 0), (0, 0, 39), (0, 0, 39)], 1, [((0, 0, 0), [], []), ((0, 1, 1), [], [])], [], []), ([(2, 836, 0), (0, 0, 39), (0, 0, 39)], 1, [((0, 0, 0), [], []), ((0, 1, 1), [], [])], [], [])]
set_option maxRecDepth 100000 in
set_option maxHeartbeats 4000000 in
theorem sfX4_isBefore (c : Nat × Nat) (hc : c = cA ∨ c = cB) : ∀ ac ∈ csX4_isBefore, SafeC TYg c mX4_isBefore ac := by
  intro ac hac
  simp only [csX4_isBefore, List.mem_cons, List.not_mem_nil, or_false] at hac
  rcases hac with rfl | rfl | rfl | rfl
  · rcases hc with rfl | rfl
    · exact safe_of (ann := []) (fuel := 600) okX4_isBefore (snX4_isBefore _ _ cA (Or.inl rfl)) (fun q hq => by cases hq) (by decide) (by decide +kernel)
    · exact safe_of (ann := []) (fuel := 600) okX4_isBefore (snX4_isBefore _ _ cB (Or.inr rfl)) (fun q hq => by cases hq) (by decide) (by decide +kernel)
  · rcases hc with rfl | rfl
    · exact safe_of (ann := []) (fuel := 600) okX4_isBefore (snX4_isBefore _ _ cA (Or.inl rfl)) (fun q hq => by cases hq) (by decide) (by decide +kernel)
    · exact safe_of (ann := []) (fuel := 600) okX4_isBefore (snX4_isBefore _ _ cB (Or.inr rfl)) (fun q hq => by cases hq) (by decide) (by decide +kernel)
  · rcases hc with rfl | rfl
    · exact safe_of (ann := []) (fuel := 600) okX4_isBefore (snX4_isBefore _ _ cA (Or.inl rfl)) (fun q hq => by cases hq) (by decide) (by decide +kernel)
    · exact safe_of (ann := []) (fuel := 600) okX4_isBefore (snX4_isBefore _ _ cB (Or.inr rfl)) (fun q hq => by cases hq) (by decide) (by decide +kernel)
  · rcases hc with rfl | rfl
    · exact safe_of (ann := []) (fuel := 600) okX4_isBefore (snX4_isBefore _ _ cA (Or.inl rfl)) (fun q hq => by cases hq) (by decide) (by decide +kernel)
    · exact safe_of (ann := []) (fuel := 600) okX4_isBefore (snX4_isBefore _ _ cB (Or.inr rfl)) (fun q hq => by cases hq) (by decide) (by decide +kernel)
set_option maxRecDepth 100000 in
def adX4_nextOf (D : KK) : List ACE := (0, 1, some (aIc (-1))) :: (1, 1, some (aIs 3)) :: (2, 1, some (aIc (0))) :: (3, 2, some (aIs 4)) :: (5, 0, none) :: (5, 2, some (aIl 4)) :: (7, 1, some (aAl 0)) :: (8, 3, some (aGetI D 4 7)) :: (11, 3, some (aCm (fun C x y => bLe C y x) bLt 74)) :: (14, 1, some (aIl 2)) :: (15, 3, some (aIf bLt (fun C x y => bLe C y x) 28)) :: (18, 1, some (aAl 0)) :: (19, 1, some (aIl 2)) :: (20, 2, some (aIl 4)) :: (22, 3, some (aCall D 4 3 3 csX4_isBefore)) :: (25, 3, some (aIf bEq bNe 32)) :: (28, 1, some (aIc (1))) :: (29, 3, some (aGoto 33)) :: (32, 1, some (aIc (0))) :: (33, 2, some (aIs 5)) :: (35, 1, some (aAl 0)) :: (36, 3, some (aGetR [(452, 164408), (836, 164792)])) :: (39, 2, some (aIl 4)) :: (41, 1, some (aIald D)) :: (42, 1, some (aIl 1)) :: (43, 3, some (aCm bNe bEq 68)) :: (46, 2, some (aIl 5)) :: (48, 3, some (aIf bEq bNe 68)) :: (51, 1, some (aIl 3)) :: (52, 3, some (aIf bLt (fun C x y => bLe C y x) 65)) :: (55, 1, some (aAl 0)) :: (56, 2, some (aIl 4)) :: (58, 1, some (aIl 3)) :: (59, 3, some (aCall D 4 3 3 csX4_isBefore)) :: (62, 3, some (aIf bEq bNe 68)) :: (65, 2, some (aIl 4)) :: (67, 1, some (aIs 3)) :: (68, 3, some (aInc 4 (1))) :: (71, 3, some (aGoto 5)) :: (74, 1, some (aIl 3)) :: (75, 1, some (aIret)) :: []
set_option maxRecDepth 100000 in
set_option maxHeartbeats 4000000 in
theorem snX4_nextOf (d : Nat) (W : List Nat) (c : Nat × Nat) (hc : c = cA ∨ c = cB) : SndAll (d, TYg, c, W) cdX4_nextOf (adX4_nextOf (d, TYg, c, W)) := by
  unfold cdX4_nextOf adX4_nextOf
  refine sn_op (sIc (n := -1) (by decide)) ?_
  refine sn_op sIs ?_
  refine sn_op (sIc (n := 0) (by decide)) ?_
  refine sn_op sIs ?_
  refine sn_st ?_
  refine sn_op sIl ?_
  refine sn_op sAl ?_
  refine sn_op sGetI ?_
  refine sn_op sCmGe ?_
  refine sn_op sIl ?_
  refine sn_op sIfLt ?_
  refine sn_op sAl ?_
  refine sn_op sIl ?_
  refine sn_op sIl ?_
  refine sn_op (sCI (sfX4_isBefore c hc) (by decide) (by decide +kernel)) ?_
  refine sn_op sIfEq ?_
  refine sn_op (sIc (n := 1) (by decide)) ?_
  refine sn_op sGoto ?_
  refine sn_op (sIc (n := 0) (by decide)) ?_
  refine sn_op sIs ?_
  refine sn_op sAl ?_
  refine sn_op sGetR ?_
  refine sn_op sIl ?_
  refine sn_op sIald ?_
  refine sn_op sIl ?_
  refine sn_op sCmNe ?_
  refine sn_op sIl ?_
  refine sn_op sIfEq ?_
  refine sn_op sIl ?_
  refine sn_op sIfLt ?_
  refine sn_op sAl ?_
  refine sn_op sIl ?_
  refine sn_op sIl ?_
  refine sn_op (sCI (sfX4_isBefore c hc) (by decide) (by decide +kernel)) ?_
  refine sn_op sIfEq ?_
  refine sn_op sIl ?_
  refine sn_op sIs ?_
  refine sn_op (sInc (n := 1) (by decide)) ?_
  refine sn_op sGoto ?_
  refine sn_op sIl ?_
  refine sn_op sIret ?_
  exact sn_nil
def csX4_nextOf : List AC := [([(2, 452, 0), (0, 1, 99), (0, -1, -1)], 2, [((0, -1, 39), [], [])], [], []), ([(2, 836, 0), (0, 1, 99), (0, -1, -1)], 2, [((0, -1, 39), [], [])], [], []), ([(2, 452, 0), (0, 1, 99), (0, 0, 39)], 2, [((0, -1, 39), [], [])], [], []), ([(2, 836, 0), (0, 1, 99), (0, 0, 39)], 2, [((0, -1, 39), [], [])], [], [])]
set_option maxRecDepth 100000 in
set_option maxHeartbeats 4000000 in
theorem sfX4_nextOf (c : Nat × Nat) (hc : c = cA ∨ c = cB) : ∀ ac ∈ csX4_nextOf, SafeC TYg c mX4_nextOf ac := by
  intro ac hac
  simp only [csX4_nextOf, List.mem_cons, List.not_mem_nil, or_false] at hac
  rcases hac with rfl | rfl | rfl | rfl
  · rcases hc with rfl | rfl
    · exact safe_of (ann := [(5, [(2, 452, 0), (0, 1, 99), (0, -1, -1), (0, -1, 39), (0, 0, 40), (4, 0, 0)], [(0, 4, 0, 4294967296)])]) (fuel := 600) okX4_nextOf (snX4_nextOf _ _ cA (Or.inl rfl)) (List.forall_mem_cons.mpr ⟨⟨_, _, rfl⟩, (fun q hq => by cases hq)⟩) (by decide) (by decide +kernel)
    · exact safe_of (ann := [(5, [(2, 452, 0), (0, 1, 99), (0, -1, -1), (0, -1, 39), (0, 0, 40), (4, 0, 0)], [(0, 4, 0, 4294967296)])]) (fuel := 600) okX4_nextOf (snX4_nextOf _ _ cB (Or.inr rfl)) (List.forall_mem_cons.mpr ⟨⟨_, _, rfl⟩, (fun q hq => by cases hq)⟩) (by decide) (by decide +kernel)
  · rcases hc with rfl | rfl
    · exact safe_of (ann := [(5, [(2, 836, 0), (0, 1, 99), (0, -1, -1), (0, -1, 39), (0, 0, 40), (4, 0, 0)], [(0, 4, 0, 4294967296)])]) (fuel := 600) okX4_nextOf (snX4_nextOf _ _ cA (Or.inl rfl)) (List.forall_mem_cons.mpr ⟨⟨_, _, rfl⟩, (fun q hq => by cases hq)⟩) (by decide) (by decide +kernel)
    · exact safe_of (ann := [(5, [(2, 836, 0), (0, 1, 99), (0, -1, -1), (0, -1, 39), (0, 0, 40), (4, 0, 0)], [(0, 4, 0, 4294967296)])]) (fuel := 600) okX4_nextOf (snX4_nextOf _ _ cB (Or.inr rfl)) (List.forall_mem_cons.mpr ⟨⟨_, _, rfl⟩, (fun q hq => by cases hq)⟩) (by decide) (by decide +kernel)
  · rcases hc with rfl | rfl
    · exact safe_of (ann := [(5, [(2, 452, 0), (0, 1, 99), (0, 0, 39), (0, -1, 39), (0, 0, 40), (4, 0, 0)], [(0, 4, 0, 4294967296)])]) (fuel := 600) okX4_nextOf (snX4_nextOf _ _ cA (Or.inl rfl)) (List.forall_mem_cons.mpr ⟨⟨_, _, rfl⟩, (fun q hq => by cases hq)⟩) (by decide) (by decide +kernel)
    · exact safe_of (ann := [(5, [(2, 452, 0), (0, 1, 99), (0, 0, 39), (0, -1, 39), (0, 0, 40), (4, 0, 0)], [(0, 4, 0, 4294967296)])]) (fuel := 600) okX4_nextOf (snX4_nextOf _ _ cB (Or.inr rfl)) (List.forall_mem_cons.mpr ⟨⟨_, _, rfl⟩, (fun q hq => by cases hq)⟩) (by decide) (by decide +kernel)
  · rcases hc with rfl | rfl
    · exact safe_of (ann := [(5, [(2, 836, 0), (0, 1, 99), (0, 0, 39), (0, -1, 39), (0, 0, 40), (4, 0, 0)], [(0, 4, 0, 4294967296)])]) (fuel := 600) okX4_nextOf (snX4_nextOf _ _ cA (Or.inl rfl)) (List.forall_mem_cons.mpr ⟨⟨_, _, rfl⟩, (fun q hq => by cases hq)⟩) (by decide) (by decide +kernel)
    · exact safe_of (ann := [(5, [(2, 836, 0), (0, 1, 99), (0, 0, 39), (0, -1, 39), (0, 0, 40), (4, 0, 0)], [(0, 4, 0, 4294967296)])]) (fuel := 600) okX4_nextOf (snX4_nextOf _ _ cB (Or.inr rfl)) (List.forall_mem_cons.mpr ⟨⟨_, _, rfl⟩, (fun q hq => by cases hq)⟩) (by decide) (by decide +kernel)
set_option maxRecDepth 100000 in
def adX4_gapsOf (D : KK) : List ACE := (0, 1, some (aIc (0))) :: (1, 1, some (aIs 2)) :: (2, 1, some (aAl 0)) :: (3, 1, some (aIl 1)) :: (4, 1, some (aIc (-1))) :: (5, 3, some (aCall D 4 3 6 csX4_nextOf)) :: (8, 1, some (aIs 3)) :: (9, 1, some (aIc (0))) :: (10, 2, some (aIs 4)) :: (12, 0, none) :: (12, 2, some (aIl 4)) :: (14, 1, some (aAl 0)) :: (15, 3, some (aGetI D 4 7)) :: (18, 3, some (aCm (fun C x y => bLe C y x) bLt 66)) :: (21, 1, some (aIl 3)) :: (22, 3, some (aIf bLt (fun C x y => bLe C y x) 66)) :: (25, 1, some (aAl 0)) :: (26, 1, some (aIl 1)) :: (27, 1, some (aIl 3)) :: (28, 3, some (aCall D 4 3 6 csX4_nextOf)) :: (31, 2, some (aIs 5)) :: (33, 2, some (aIl 5)) :: (35, 3, some (aIf bLt (fun C x y => bLe C y x) 57)) :: (38, 1, some (aAl 0)) :: (39, 3, some (aGetR [(452, 164312), (836, 164696)])) :: (42, 2, some (aIl 5)) :: (44, 1, some (aIald D)) :: (45, 1, some (aAl 0)) :: (46, 3, some (aGetR [(452, 164328), (836, 164712)])) :: (49, 1, some (aIl 3)) :: (50, 1, some (aIald D)) :: (51, 3, some (aCm bEq bNe 57)) :: (54, 3, some (aInc 2 (1))) :: (57, 2, some (aIl 5)) :: (59, 1, some (aIs 3)) :: (60, 3, some (aInc 4 (1))) :: (63, 3, some (aGoto 12)) :: (66, 1, some (aIl 2)) :: (67, 1, some (aIret)) :: []
set_option maxRecDepth 100000 in
set_option maxHeartbeats 4000000 in
theorem snX4_gapsOf (d : Nat) (W : List Nat) (c : Nat × Nat) (hc : c = cA ∨ c = cB) : SndAll (d, TYg, c, W) cdX4_gapsOf (adX4_gapsOf (d, TYg, c, W)) := by
  unfold cdX4_gapsOf adX4_gapsOf
  refine sn_op (sIc (n := 0) (by decide)) ?_
  refine sn_op sIs ?_
  refine sn_op sAl ?_
  refine sn_op sIl ?_
  refine sn_op (sIc (n := -1) (by decide)) ?_
  refine sn_op (sCI (sfX4_nextOf c hc) (by decide) (by decide +kernel)) ?_
  refine sn_op sIs ?_
  refine sn_op (sIc (n := 0) (by decide)) ?_
  refine sn_op sIs ?_
  refine sn_st ?_
  refine sn_op sIl ?_
  refine sn_op sAl ?_
  refine sn_op sGetI ?_
  refine sn_op sCmGe ?_
  refine sn_op sIl ?_
  refine sn_op sIfLt ?_
  refine sn_op sAl ?_
  refine sn_op sIl ?_
  refine sn_op sIl ?_
  refine sn_op (sCI (sfX4_nextOf c hc) (by decide) (by decide +kernel)) ?_
  refine sn_op sIs ?_
  refine sn_op sIl ?_
  refine sn_op sIfLt ?_
  refine sn_op sAl ?_
  refine sn_op sGetR ?_
  refine sn_op sIl ?_
  refine sn_op sIald ?_
  refine sn_op sAl ?_
  refine sn_op sGetR ?_
  refine sn_op sIl ?_
  refine sn_op sIald ?_
  refine sn_op sCmEq ?_
  refine sn_op (sInc (n := 1) (by decide)) ?_
  refine sn_op sIl ?_
  refine sn_op sIs ?_
  refine sn_op (sInc (n := 1) (by decide)) ?_
  refine sn_op sGoto ?_
  refine sn_op sIl ?_
  refine sn_op sIret ?_
  exact sn_nil
def csX4_gapsOf : List AC := [([(2, 452, 0), (0, 1, 99)], 3, [((0, -2147483648, 2147483647), [], [])], [], []), ([(2, 836, 0), (0, 1, 99)], 3, [((0, -2147483648, 2147483647), [], [])], [], [])]
set_option maxRecDepth 100000 in
set_option maxHeartbeats 4000000 in
theorem sfX4_gapsOf (c : Nat × Nat) (hc : c = cA ∨ c = cB) : ∀ ac ∈ csX4_gapsOf, SafeC TYg c mX4_gapsOf ac := by
  intro ac hac
  simp only [csX4_gapsOf, List.mem_cons, List.not_mem_nil, or_false] at hac
  rcases hac with rfl | rfl
  · rcases hc with rfl | rfl
    · exact safe_of (ann := [(12, [(2, 452, 0), (0, 1, 99), (0, -2147483648, 2147483647), (0, -1, 39), (0, 0, 40), (4, 0, 0)], [(0, 4, 0, 4294967296)])]) (fuel := 600) okX4_gapsOf (snX4_gapsOf _ _ cA (Or.inl rfl)) (List.forall_mem_cons.mpr ⟨⟨_, _, rfl⟩, (fun q hq => by cases hq)⟩) (by decide) (by decide +kernel)
    · exact safe_of (ann := [(12, [(2, 452, 0), (0, 1, 99), (0, -2147483648, 2147483647), (0, -1, 39), (0, 0, 40), (4, 0, 0)], [(0, 4, 0, 4294967296)])]) (fuel := 600) okX4_gapsOf (snX4_gapsOf _ _ cB (Or.inr rfl)) (List.forall_mem_cons.mpr ⟨⟨_, _, rfl⟩, (fun q hq => by cases hq)⟩) (by decide) (by decide +kernel)
  · rcases hc with rfl | rfl
    · exact safe_of (ann := [(12, [(2, 836, 0), (0, 1, 99), (0, -2147483648, 2147483647), (0, -1, 39), (0, 0, 40), (4, 0, 0)], [(0, 4, 0, 4294967296)])]) (fuel := 600) okX4_gapsOf (snX4_gapsOf _ _ cA (Or.inl rfl)) (List.forall_mem_cons.mpr ⟨⟨_, _, rfl⟩, (fun q hq => by cases hq)⟩) (by decide) (by decide +kernel)
    · exact safe_of (ann := [(12, [(2, 836, 0), (0, 1, 99), (0, -2147483648, 2147483647), (0, -1, 39), (0, 0, 40), (4, 0, 0)], [(0, 4, 0, 4294967296)])]) (fuel := 600) okX4_gapsOf (snX4_gapsOf _ _ cB (Or.inr rfl)) (List.forall_mem_cons.mpr ⟨⟨_, _, rfl⟩, (fun q hq => by cases hq)⟩) (by decide) (by decide +kernel)
set_option maxRecDepth 100000 in
def adX4_goRound (D : KK) : List ACE := (0, 1, some (aJl 3)) :: (1, 1, some (aIl 2)) :: (2, 1, some (aIc (1))) :: (3, 1, some (aBin fSub)) :: (4, 3, some (aCall D 16 2 3 csX6_saleAt)) :: (7, 2, some (aIs 6)) :: (9, 2, some (aIl 5)) :: (11, 2, some (aIs 7)) :: (13, 1, some (aIc (0))) :: (14, 2, some (aIs 8)) :: (16, 0, none) :: (16, 2, some (aIl 8)) :: (18, 1, some (aIl 2)) :: (19, 3, some (aCm (fun C x y => bLe C y x) bLt 134)) :: (22, 1, some (aJl 3)) :: (23, 2, some (aIl 8)) :: (25, 3, some (aCall D 16 2 3 csX6_saleAt)) :: (28, 2, some (aIs 9)) :: (30, 1, some (aAl 0)) :: (31, 3, some (aGetR [(452, 164328), (836, 164712)])) :: (34, 2, some (aIl 6)) :: (36, 1, some (aIald D)) :: (37, 1, some (aAl 0)) :: (38, 3, some (aGetR [(452, 164312), (836, 164696)])) :: (41, 2, some (aIl 9)) :: (43, 1, some (aIald D)) :: (44, 3, some (aCm bNe bEq 73)) :: (47, 2, some (aIl 8)) :: (49, 3, some (aIf bEq bNe 69)) :: (52, 1, some (aAl 0)) :: (53, 3, some (aGetR [(452, 164392), (836, 164776)])) :: (56, 2, some (aIl 6)) :: (58, 1, some (aIald D)) :: (59, 1, some (aAl 0)) :: (60, 3, some (aGetR [(452, 164392), (836, 164776)])) :: (63, 2, some (aIl 9)) :: (65, 1, some (aIald D)) :: (66, 3, some (aCm (fun C x y => bLt C y x) bLe 73)) :: (69, 1, some (aIc (1))) :: (70, 3, some (aGoto 74)) :: (73, 1, some (aIc (0))) :: (74, 2, some (aIs 10)) :: (76, 2, some (aIl 10)) :: (78, 3, some (aIf bEq bNe 108)) :: (81, 1, some (aAl 0)) :: (82, 1, some (aIl 1)) :: (83, 2, some (aIl 6)) :: (85, 2, some (aIl 9)) :: (87, 3, some (aCall D 4 4 4 csX4_alike)) :: (90, 3, some (aIf bEq bNe 108)) :: (93, 2, some (aIl 7)) :: (95, 1, some (aAl 0)) :: (96, 3, some (aGetR [(452, 164312), (836, 164696)])) :: (99, 2, some (aIl 9)) :: (101, 1, some (aIald D)) :: (102, 1, some (aBin fShr)) :: (103, 1, some (aIc (1))) :: (104, 1, some (aBin fAnd)) :: (105, 3, some (aIf bEq bNe 110)) :: (108, 1, some (aIc (0))) :: (109, 1, some (aZret)) :: (110, 2, some (aIl 7)) :: (112, 1, some (aIc (1))) :: (113, 1, some (aAl 0)) :: (114, 3, some (aGetR [(452, 164312), (836, 164696)])) :: (117, 2, some (aIl 9)) :: (119, 1, some (aIald D)) :: (120, 1, some (aBin fTop)) :: (121, 1, some (aBin fTop)) :: (122, 2, some (aIs 7)) :: (124, 2, some (aIl 9)) :: (126, 2, some (aIs 6)) :: (128, 3, some (aInc 8 (1))) :: (131, 3, some (aGoto 16)) :: (134, 1, some (aIc (1))) :: (135, 1, some (aZret)) :: []
set_option maxRecDepth 100000 in
set_option maxHeartbeats 4000000 in
theorem snX4_goRound (d : Nat) (W : List Nat) (c : Nat × Nat) (hc : c = cA ∨ c = cB) : SndAll (d, TYg, c, W) cdX4_goRound (adX4_goRound (d, TYg, c, W)) := by
  unfold cdX4_goRound adX4_goRound
  refine sn_op sJl ?_
  refine sn_op sIl ?_
  refine sn_op (sIc (n := 1) (by decide)) ?_
  refine sn_op sIsub ?_
  refine sn_op (sCI (sfX6_saleAt c hc) (by decide) (by decide +kernel)) ?_
  refine sn_op sIs ?_
  refine sn_op sIl ?_
  refine sn_op sIs ?_
  refine sn_op (sIc (n := 0) (by decide)) ?_
  refine sn_op sIs ?_
  refine sn_st ?_
  refine sn_op sIl ?_
  refine sn_op sIl ?_
  refine sn_op sCmGe ?_
  refine sn_op sJl ?_
  refine sn_op sIl ?_
  refine sn_op (sCI (sfX6_saleAt c hc) (by decide) (by decide +kernel)) ?_
  refine sn_op sIs ?_
  refine sn_op sAl ?_
  refine sn_op sGetR ?_
  refine sn_op sIl ?_
  refine sn_op sIald ?_
  refine sn_op sAl ?_
  refine sn_op sGetR ?_
  refine sn_op sIl ?_
  refine sn_op sIald ?_
  refine sn_op sCmNe ?_
  refine sn_op sIl ?_
  refine sn_op sIfEq ?_
  refine sn_op sAl ?_
  refine sn_op sGetR ?_
  refine sn_op sIl ?_
  refine sn_op sIald ?_
  refine sn_op sAl ?_
  refine sn_op sGetR ?_
  refine sn_op sIl ?_
  refine sn_op sIald ?_
  refine sn_op sCmGt ?_
  refine sn_op (sIc (n := 1) (by decide)) ?_
  refine sn_op sGoto ?_
  refine sn_op (sIc (n := 0) (by decide)) ?_
  refine sn_op sIs ?_
  refine sn_op sIl ?_
  refine sn_op sIfEq ?_
  refine sn_op sAl ?_
  refine sn_op sIl ?_
  refine sn_op sIl ?_
  refine sn_op sIl ?_
  refine sn_op (sCI (sfX4_alike c hc) (by decide) (by decide +kernel)) ?_
  refine sn_op sIfEq ?_
  refine sn_op sIl ?_
  refine sn_op sAl ?_
  refine sn_op sGetR ?_
  refine sn_op sIl ?_
  refine sn_op sIald ?_
  refine sn_op sIshr ?_
  refine sn_op (sIc (n := 1) (by decide)) ?_
  refine sn_op sIand ?_
  refine sn_op sIfEq ?_
  refine sn_op (sIc (n := 0) (by decide)) ?_
  refine sn_op sZret ?_
  refine sn_op sIl ?_
  refine sn_op (sIc (n := 1) (by decide)) ?_
  refine sn_op sAl ?_
  refine sn_op sGetR ?_
  refine sn_op sIl ?_
  refine sn_op sIald ?_
  refine sn_op sIshl ?_
  refine sn_op sIor ?_
  refine sn_op sIs ?_
  refine sn_op sIl ?_
  refine sn_op sIs ?_
  refine sn_op (sInc (n := 1) (by decide)) ?_
  refine sn_op sGoto ?_
  refine sn_op (sIc (n := 1) (by decide)) ?_
  refine sn_op sZret ?_
  exact sn_nil
def csX4_goRound : List AC := [([(2, 452, 0), (0, 0, 1), (0, 2, 2), (5, 0, 2), (0, -2147483648, 2147483647)], 2, [((0, 0, 0), [], []), ((0, 1, 1), [], [])], [], []), ([(2, 452, 0), (0, 0, 1), (0, 3, 3), (5, 0, 3), (0, -2147483648, 2147483647)], 2, [((0, 0, 0), [], []), ((0, 1, 1), [], [])], [], []), ([(2, 452, 0), (0, 0, 1), (0, 4, 4), (5, 0, 4), (0, -2147483648, 2147483647)], 2, [((0, 0, 0), [], []), ((0, 1, 1), [], [])], [], []), ([(2, 452, 0), (0, 0, 1), (0, 5, 5), (5, 0, 5), (0, -2147483648, 2147483647)], 2, [((0, 0, 0), [], []), ((0, 1, 1), [], [])], [], []), ([(2, 452, 0), (0, 0, 1), (0, 6, 6), (5, 0, 6), (0, -2147483648, 2147483647)], 2, [((0, 0, 0), [], []), ((0, 1, 1), [], [])], [], []), ([(2, 836, 0), (0, 0, 1), (0, 2, 2), (5, 0, 2), (0, -2147483648, 2147483647)], 2, [((0, 0, 0), [], []), ((0, 1, 1), [], [])], [], []), ([(2, 836, 0), (0, 0, 1), (0, 3, 3), (5, 0, 3), (0, -2147483648, 2147483647)], 2, [((0, 0, 0), [], []), ((0, 1, 1), [], [])], [], []), ([(2, 836, 0), (0, 0, 1), (0, 4, 4), (5, 0, 4), (0, -2147483648, 2147483647)], 2, [((0, 0, 0), [], []), ((0, 1, 1), [], [])], [], []), ([(2, 836, 0), (0, 0, 1), (0, 5, 5), (5, 0, 5), (0, -2147483648, 2147483647)], 2, [((0, 0, 0), [], []), ((0, 1, 1), [], [])], [], []), ([(2, 836, 0), (0, 0, 1), (0, 6, 6), (5, 0, 6), (0, -2147483648, 2147483647)], 2, [((0, 0, 0), [], []), ((0, 1, 1), [], [])], [], [])]
set_option maxRecDepth 100000 in
set_option maxHeartbeats 4000000 in
theorem sfX4_goRound (c : Nat × Nat) (hc : c = cA ∨ c = cB) : ∀ ac ∈ csX4_goRound, SafeC TYg c mX4_goRound ac := by
  intro ac hac
  simp only [csX4_goRound, List.mem_cons, List.not_mem_nil, or_false] at hac
  rcases hac with rfl | rfl | rfl | rfl | rfl | rfl | rfl | rfl | rfl | rfl
  · rcases hc with rfl | rfl
    · exact safe_of (ann := [(16, [(2, 452, 0), (0, 0, 1), (0, 2, 2), (5, 0, 2), (4, 0, 0), (0, -2147483648, 2147483647), (0, 0, 39), (0, -2147483648, 2147483647), (0, 0, 2), (4, 0, 0), (4, 0, 0)], [(0, 8, 0, 4294967296)])]) (fuel := 600) okX4_goRound (snX4_goRound _ _ cA (Or.inl rfl)) (List.forall_mem_cons.mpr ⟨⟨_, _, rfl⟩, (fun q hq => by cases hq)⟩) (by decide) (by decide +kernel)
    · exact safe_of (ann := [(16, [(2, 452, 0), (0, 0, 1), (0, 2, 2), (5, 0, 2), (4, 0, 0), (0, -2147483648, 2147483647), (0, 0, 39), (0, -2147483648, 2147483647), (0, 0, 2), (4, 0, 0), (4, 0, 0)], [(0, 8, 0, 4294967296)])]) (fuel := 600) okX4_goRound (snX4_goRound _ _ cB (Or.inr rfl)) (List.forall_mem_cons.mpr ⟨⟨_, _, rfl⟩, (fun q hq => by cases hq)⟩) (by decide) (by decide +kernel)
  · rcases hc with rfl | rfl
    · exact safe_of (ann := [(16, [(2, 452, 0), (0, 0, 1), (0, 3, 3), (5, 0, 3), (4, 0, 0), (0, -2147483648, 2147483647), (0, 0, 39), (0, -2147483648, 2147483647), (0, 0, 3), (4, 0, 0), (4, 0, 0)], [(0, 8, 0, 4294967296)])]) (fuel := 600) okX4_goRound (snX4_goRound _ _ cA (Or.inl rfl)) (List.forall_mem_cons.mpr ⟨⟨_, _, rfl⟩, (fun q hq => by cases hq)⟩) (by decide) (by decide +kernel)
    · exact safe_of (ann := [(16, [(2, 452, 0), (0, 0, 1), (0, 3, 3), (5, 0, 3), (4, 0, 0), (0, -2147483648, 2147483647), (0, 0, 39), (0, -2147483648, 2147483647), (0, 0, 3), (4, 0, 0), (4, 0, 0)], [(0, 8, 0, 4294967296)])]) (fuel := 600) okX4_goRound (snX4_goRound _ _ cB (Or.inr rfl)) (List.forall_mem_cons.mpr ⟨⟨_, _, rfl⟩, (fun q hq => by cases hq)⟩) (by decide) (by decide +kernel)
  · rcases hc with rfl | rfl
    · exact safe_of (ann := [(16, [(2, 452, 0), (0, 0, 1), (0, 4, 4), (5, 0, 4), (4, 0, 0), (0, -2147483648, 2147483647), (0, 0, 39), (0, -2147483648, 2147483647), (0, 0, 4), (4, 0, 0), (4, 0, 0)], [(0, 8, 0, 4294967296)])]) (fuel := 600) okX4_goRound (snX4_goRound _ _ cA (Or.inl rfl)) (List.forall_mem_cons.mpr ⟨⟨_, _, rfl⟩, (fun q hq => by cases hq)⟩) (by decide) (by decide +kernel)
    · exact safe_of (ann := [(16, [(2, 452, 0), (0, 0, 1), (0, 4, 4), (5, 0, 4), (4, 0, 0), (0, -2147483648, 2147483647), (0, 0, 39), (0, -2147483648, 2147483647), (0, 0, 4), (4, 0, 0), (4, 0, 0)], [(0, 8, 0, 4294967296)])]) (fuel := 600) okX4_goRound (snX4_goRound _ _ cB (Or.inr rfl)) (List.forall_mem_cons.mpr ⟨⟨_, _, rfl⟩, (fun q hq => by cases hq)⟩) (by decide) (by decide +kernel)
  · rcases hc with rfl | rfl
    · exact safe_of (ann := [(16, [(2, 452, 0), (0, 0, 1), (0, 5, 5), (5, 0, 5), (4, 0, 0), (0, -2147483648, 2147483647), (0, 0, 39), (0, -2147483648, 2147483647), (0, 0, 5), (4, 0, 0), (4, 0, 0)], [(0, 8, 0, 4294967296)])]) (fuel := 600) okX4_goRound (snX4_goRound _ _ cA (Or.inl rfl)) (List.forall_mem_cons.mpr ⟨⟨_, _, rfl⟩, (fun q hq => by cases hq)⟩) (by decide) (by decide +kernel)
    · exact safe_of (ann := [(16, [(2, 452, 0), (0, 0, 1), (0, 5, 5), (5, 0, 5), (4, 0, 0), (0, -2147483648, 2147483647), (0, 0, 39), (0, -2147483648, 2147483647), (0, 0, 5), (4, 0, 0), (4, 0, 0)], [(0, 8, 0, 4294967296)])]) (fuel := 600) okX4_goRound (snX4_goRound _ _ cB (Or.inr rfl)) (List.forall_mem_cons.mpr ⟨⟨_, _, rfl⟩, (fun q hq => by cases hq)⟩) (by decide) (by decide +kernel)
  · rcases hc with rfl | rfl
    · exact safe_of (ann := [(16, [(2, 452, 0), (0, 0, 1), (0, 6, 6), (5, 0, 6), (4, 0, 0), (0, -2147483648, 2147483647), (0, 0, 39), (0, -2147483648, 2147483647), (0, 0, 6), (4, 0, 0), (4, 0, 0)], [(0, 8, 0, 4294967296)])]) (fuel := 600) okX4_goRound (snX4_goRound _ _ cA (Or.inl rfl)) (List.forall_mem_cons.mpr ⟨⟨_, _, rfl⟩, (fun q hq => by cases hq)⟩) (by decide) (by decide +kernel)
    · exact safe_of (ann := [(16, [(2, 452, 0), (0, 0, 1), (0, 6, 6), (5, 0, 6), (4, 0, 0), (0, -2147483648, 2147483647), (0, 0, 39), (0, -2147483648, 2147483647), (0, 0, 6), (4, 0, 0), (4, 0, 0)], [(0, 8, 0, 4294967296)])]) (fuel := 600) okX4_goRound (snX4_goRound _ _ cB (Or.inr rfl)) (List.forall_mem_cons.mpr ⟨⟨_, _, rfl⟩, (fun q hq => by cases hq)⟩) (by decide) (by decide +kernel)
  · rcases hc with rfl | rfl
    · exact safe_of (ann := [(16, [(2, 836, 0), (0, 0, 1), (0, 2, 2), (5, 0, 2), (4, 0, 0), (0, -2147483648, 2147483647), (0, 0, 39), (0, -2147483648, 2147483647), (0, 0, 2), (4, 0, 0), (4, 0, 0)], [(0, 8, 0, 4294967296)])]) (fuel := 600) okX4_goRound (snX4_goRound _ _ cA (Or.inl rfl)) (List.forall_mem_cons.mpr ⟨⟨_, _, rfl⟩, (fun q hq => by cases hq)⟩) (by decide) (by decide +kernel)
    · exact safe_of (ann := [(16, [(2, 836, 0), (0, 0, 1), (0, 2, 2), (5, 0, 2), (4, 0, 0), (0, -2147483648, 2147483647), (0, 0, 39), (0, -2147483648, 2147483647), (0, 0, 2), (4, 0, 0), (4, 0, 0)], [(0, 8, 0, 4294967296)])]) (fuel := 600) okX4_goRound (snX4_goRound _ _ cB (Or.inr rfl)) (List.forall_mem_cons.mpr ⟨⟨_, _, rfl⟩, (fun q hq => by cases hq)⟩) (by decide) (by decide +kernel)
  · rcases hc with rfl | rfl
    · exact safe_of (ann := [(16, [(2, 836, 0), (0, 0, 1), (0, 3, 3), (5, 0, 3), (4, 0, 0), (0, -2147483648, 2147483647), (0, 0, 39), (0, -2147483648, 2147483647), (0, 0, 3), (4, 0, 0), (4, 0, 0)], [(0, 8, 0, 4294967296)])]) (fuel := 600) okX4_goRound (snX4_goRound _ _ cA (Or.inl rfl)) (List.forall_mem_cons.mpr ⟨⟨_, _, rfl⟩, (fun q hq => by cases hq)⟩) (by decide) (by decide +kernel)
    · exact safe_of (ann := [(16, [(2, 836, 0), (0, 0, 1), (0, 3, 3), (5, 0, 3), (4, 0, 0), (0, -2147483648, 2147483647), (0, 0, 39), (0, -2147483648, 2147483647), (0, 0, 3), (4, 0, 0), (4, 0, 0)], [(0, 8, 0, 4294967296)])]) (fuel := 600) okX4_goRound (snX4_goRound _ _ cB (Or.inr rfl)) (List.forall_mem_cons.mpr ⟨⟨_, _, rfl⟩, (fun q hq => by cases hq)⟩) (by decide) (by decide +kernel)
  · rcases hc with rfl | rfl
    · exact safe_of (ann := [(16, [(2, 836, 0), (0, 0, 1), (0, 4, 4), (5, 0, 4), (4, 0, 0), (0, -2147483648, 2147483647), (0, 0, 39), (0, -2147483648, 2147483647), (0, 0, 4), (4, 0, 0), (4, 0, 0)], [(0, 8, 0, 4294967296)])]) (fuel := 600) okX4_goRound (snX4_goRound _ _ cA (Or.inl rfl)) (List.forall_mem_cons.mpr ⟨⟨_, _, rfl⟩, (fun q hq => by cases hq)⟩) (by decide) (by decide +kernel)
    · exact safe_of (ann := [(16, [(2, 836, 0), (0, 0, 1), (0, 4, 4), (5, 0, 4), (4, 0, 0), (0, -2147483648, 2147483647), (0, 0, 39), (0, -2147483648, 2147483647), (0, 0, 4), (4, 0, 0), (4, 0, 0)], [(0, 8, 0, 4294967296)])]) (fuel := 600) okX4_goRound (snX4_goRound _ _ cB (Or.inr rfl)) (List.forall_mem_cons.mpr ⟨⟨_, _, rfl⟩, (fun q hq => by cases hq)⟩) (by decide) (by decide +kernel)
  · rcases hc with rfl | rfl
    · exact safe_of (ann := [(16, [(2, 836, 0), (0, 0, 1), (0, 5, 5), (5, 0, 5), (4, 0, 0), (0, -2147483648, 2147483647), (0, 0, 39), (0, -2147483648, 2147483647), (0, 0, 5), (4, 0, 0), (4, 0, 0)], [(0, 8, 0, 4294967296)])]) (fuel := 600) okX4_goRound (snX4_goRound _ _ cA (Or.inl rfl)) (List.forall_mem_cons.mpr ⟨⟨_, _, rfl⟩, (fun q hq => by cases hq)⟩) (by decide) (by decide +kernel)
    · exact safe_of (ann := [(16, [(2, 836, 0), (0, 0, 1), (0, 5, 5), (5, 0, 5), (4, 0, 0), (0, -2147483648, 2147483647), (0, 0, 39), (0, -2147483648, 2147483647), (0, 0, 5), (4, 0, 0), (4, 0, 0)], [(0, 8, 0, 4294967296)])]) (fuel := 600) okX4_goRound (snX4_goRound _ _ cB (Or.inr rfl)) (List.forall_mem_cons.mpr ⟨⟨_, _, rfl⟩, (fun q hq => by cases hq)⟩) (by decide) (by decide +kernel)
  · rcases hc with rfl | rfl
    · exact safe_of (ann := [(16, [(2, 836, 0), (0, 0, 1), (0, 6, 6), (5, 0, 6), (4, 0, 0), (0, -2147483648, 2147483647), (0, 0, 39), (0, -2147483648, 2147483647), (0, 0, 6), (4, 0, 0), (4, 0, 0)], [(0, 8, 0, 4294967296)])]) (fuel := 600) okX4_goRound (snX4_goRound _ _ cA (Or.inl rfl)) (List.forall_mem_cons.mpr ⟨⟨_, _, rfl⟩, (fun q hq => by cases hq)⟩) (by decide) (by decide +kernel)
    · exact safe_of (ann := [(16, [(2, 836, 0), (0, 0, 1), (0, 6, 6), (5, 0, 6), (4, 0, 0), (0, -2147483648, 2147483647), (0, 0, 39), (0, -2147483648, 2147483647), (0, 0, 6), (4, 0, 0), (4, 0, 0)], [(0, 8, 0, 4294967296)])]) (fuel := 600) okX4_goRound (snX4_goRound _ _ cB (Or.inr rfl)) (List.forall_mem_cons.mpr ⟨⟨_, _, rfl⟩, (fun q hq => by cases hq)⟩) (by decide) (by decide +kernel)
set_option maxRecDepth 100000 in
def adX4_has (D : KK) : List ACE := (0, 1, some (aIl 1)) :: (1, 3, some (aIf bLt (fun C x y => bLe C y x) 16)) :: (4, 1, some (aIl 1)) :: (5, 1, some (aAl 0)) :: (6, 3, some (aGetI D 4 7)) :: (9, 3, some (aCm (fun C x y => bLe C y x) bLt 16)) :: (12, 1, some (aIc (1))) :: (13, 3, some (aGoto 17)) :: (16, 1, some (aIc (0))) :: (17, 1, some (aZret)) :: []
set_option maxRecDepth 100000 in
set_option maxHeartbeats 4000000 in
theorem snX4_has (d : Nat) (W : List Nat) (c : Nat × Nat) (hc : c = cA ∨ c = cB) : SndAll (d, TYg, c, W) cdX4_has (adX4_has (d, TYg, c, W)) := by
  unfold cdX4_has adX4_has
  refine sn_op sIl ?_
  refine sn_op sIfLt ?_
  refine sn_op sIl ?_
  refine sn_op sAl ?_
  refine sn_op sGetI ?_
  refine sn_op sCmGe ?_
  refine sn_op (sIc (n := 1) (by decide)) ?_
  refine sn_op sGoto ?_
  refine sn_op (sIc (n := 0) (by decide)) ?_
  refine sn_op sZret ?_
  exact sn_nil
def csX4_has : List AC := [([(2, 452, 0), (0, -2147483648, 2147483647)], 1, [((0, 0, 0), [], []), ((0, 1, 1), [((452, 7), (1, 40))], [(1, (0, 39))])], [], []), ([(2, 836, 0), (0, -2147483648, 2147483647)], 1, [((0, 0, 0), [], []), ((0, 1, 1), [((836, 7), (1, 40))], [(1, (0, 39))])], [], [])]
set_option maxRecDepth 100000 in
set_option maxHeartbeats 4000000 in
theorem sfX4_has (c : Nat × Nat) (hc : c = cA ∨ c = cB) : ∀ ac ∈ csX4_has, SafeC TYg c mX4_has ac := by
  intro ac hac
  simp only [csX4_has, List.mem_cons, List.not_mem_nil, or_false] at hac
  rcases hac with rfl | rfl
  · rcases hc with rfl | rfl
    · exact safe_of (ann := []) (fuel := 600) okX4_has (snX4_has _ _ cA (Or.inl rfl)) (fun q hq => by cases hq) (by decide) (by decide +kernel)
    · exact safe_of (ann := []) (fuel := 600) okX4_has (snX4_has _ _ cB (Or.inr rfl)) (fun q hq => by cases hq) (by decide) (by decide +kernel)
  · rcases hc with rfl | rfl
    · exact safe_of (ann := []) (fuel := 600) okX4_has (snX4_has _ _ cA (Or.inl rfl)) (fun q hq => by cases hq) (by decide) (by decide +kernel)
    · exact safe_of (ann := []) (fuel := 600) okX4_has (snX4_has _ _ cB (Or.inr rfl)) (fun q hq => by cases hq) (by decide) (by decide +kernel)
set_option maxRecDepth 100000 in
def adX4_soldBelow (D : KK) : List ACE := (0, 1, some (aIc (0))) :: (1, 1, some (aIs 2)) :: (2, 0, none) :: (2, 1, some (aIl 2)) :: (3, 1, some (aAl 0)) :: (4, 3, some (aGetI D 4 7)) :: (7, 3, some (aCm (fun C x y => bLe C y x) bLt 37)) :: (10, 1, some (aAl 0)) :: (11, 3, some (aGetR [(452, 164312), (836, 164696)])) :: (14, 1, some (aIl 2)) :: (15, 1, some (aIald D)) :: (16, 1, some (aIl 1)) :: (17, 3, some (aCm bNe bEq 31)) :: (20, 1, some (aAl 0)) :: (21, 1, some (aIl 1)) :: (22, 1, some (aIl 2)) :: (23, 3, some (aCall D 4 3 5 csX4_boughtDearer)) :: (26, 3, some (aIf bEq bNe 31)) :: (29, 1, some (aIc (1))) :: (30, 1, some (aZret)) :: (31, 3, some (aInc 2 (1))) :: (34, 3, some (aGoto 2)) :: (37, 1, some (aIc (0))) :: (38, 1, some (aZret)) :: []
set_option maxRecDepth 100000 in
set_option maxHeartbeats 4000000 in
theorem snX4_soldBelow (d : Nat) (W : List Nat) (c : Nat × Nat) (hc : c = cA ∨ c = cB) : SndAll (d, TYg, c, W) cdX4_soldBelow (adX4_soldBelow (d, TYg, c, W)) := by
  unfold cdX4_soldBelow adX4_soldBelow
  refine sn_op (sIc (n := 0) (by decide)) ?_
  refine sn_op sIs ?_
  refine sn_st ?_
  refine sn_op sIl ?_
  refine sn_op sAl ?_
  refine sn_op sGetI ?_
  refine sn_op sCmGe ?_
  refine sn_op sAl ?_
  refine sn_op sGetR ?_
  refine sn_op sIl ?_
  refine sn_op sIald ?_
  refine sn_op sIl ?_
  refine sn_op sCmNe ?_
  refine sn_op sAl ?_
  refine sn_op sIl ?_
  refine sn_op sIl ?_
  refine sn_op (sCI (sfX4_boughtDearer c hc) (by decide) (by decide +kernel)) ?_
  refine sn_op sIfEq ?_
  refine sn_op (sIc (n := 1) (by decide)) ?_
  refine sn_op sZret ?_
  refine sn_op (sInc (n := 1) (by decide)) ?_
  refine sn_op sGoto ?_
  refine sn_op (sIc (n := 0) (by decide)) ?_
  refine sn_op sZret ?_
  exact sn_nil
def csX4_soldBelow : List AC := [([(2, 452, 0), (0, 0, 0)], 2, [((0, 0, 0), [], []), ((0, 1, 1), [((452, 7), (1, 40))], [])], [], []), ([(2, 836, 0), (0, 0, 0)], 2, [((0, 0, 0), [], []), ((0, 1, 1), [((836, 7), (1, 40))], [])], [], []), ([(2, 452, 0), (0, 0, 11)], 2, [((0, 0, 0), [], []), ((0, 1, 1), [((452, 7), (1, 40))], [])], [], []), ([(2, 836, 0), (0, 0, 11)], 2, [((0, 0, 0), [], []), ((0, 1, 1), [((836, 7), (1, 40))], [])], [], [])]
set_option maxRecDepth 100000 in
set_option maxHeartbeats 4000000 in
theorem sfX4_soldBelow (c : Nat × Nat) (hc : c = cA ∨ c = cB) : ∀ ac ∈ csX4_soldBelow, SafeC TYg c mX4_soldBelow ac := by
  intro ac hac
  simp only [csX4_soldBelow, List.mem_cons, List.not_mem_nil, or_false] at hac
  rcases hac with rfl | rfl | rfl | rfl
  · rcases hc with rfl | rfl
    · exact safe_of (ann := [(2, [(2, 452, 0), (0, 0, 0), (0, 0, 40)], [(0, 2, 0, 4294967296)])]) (fuel := 600) okX4_soldBelow (snX4_soldBelow _ _ cA (Or.inl rfl)) (List.forall_mem_cons.mpr ⟨⟨_, _, rfl⟩, (fun q hq => by cases hq)⟩) (by decide) (by decide +kernel)
    · exact safe_of (ann := [(2, [(2, 452, 0), (0, 0, 0), (0, 0, 40)], [(0, 2, 0, 4294967296)])]) (fuel := 600) okX4_soldBelow (snX4_soldBelow _ _ cB (Or.inr rfl)) (List.forall_mem_cons.mpr ⟨⟨_, _, rfl⟩, (fun q hq => by cases hq)⟩) (by decide) (by decide +kernel)
  · rcases hc with rfl | rfl
    · exact safe_of (ann := [(2, [(2, 836, 0), (0, 0, 0), (0, 0, 40)], [(0, 2, 0, 4294967296)])]) (fuel := 600) okX4_soldBelow (snX4_soldBelow _ _ cA (Or.inl rfl)) (List.forall_mem_cons.mpr ⟨⟨_, _, rfl⟩, (fun q hq => by cases hq)⟩) (by decide) (by decide +kernel)
    · exact safe_of (ann := [(2, [(2, 836, 0), (0, 0, 0), (0, 0, 40)], [(0, 2, 0, 4294967296)])]) (fuel := 600) okX4_soldBelow (snX4_soldBelow _ _ cB (Or.inr rfl)) (List.forall_mem_cons.mpr ⟨⟨_, _, rfl⟩, (fun q hq => by cases hq)⟩) (by decide) (by decide +kernel)
  · rcases hc with rfl | rfl
    · exact safe_of (ann := [(2, [(2, 452, 0), (0, 0, 11), (0, 0, 40)], [(0, 2, 0, 4294967296)])]) (fuel := 600) okX4_soldBelow (snX4_soldBelow _ _ cA (Or.inl rfl)) (List.forall_mem_cons.mpr ⟨⟨_, _, rfl⟩, (fun q hq => by cases hq)⟩) (by decide) (by decide +kernel)
    · exact safe_of (ann := [(2, [(2, 452, 0), (0, 0, 11), (0, 0, 40)], [(0, 2, 0, 4294967296)])]) (fuel := 600) okX4_soldBelow (snX4_soldBelow _ _ cB (Or.inr rfl)) (List.forall_mem_cons.mpr ⟨⟨_, _, rfl⟩, (fun q hq => by cases hq)⟩) (by decide) (by decide +kernel)
  · rcases hc with rfl | rfl
    · exact safe_of (ann := [(2, [(2, 836, 0), (0, 0, 11), (0, 0, 40)], [(0, 2, 0, 4294967296)])]) (fuel := 600) okX4_soldBelow (snX4_soldBelow _ _ cA (Or.inl rfl)) (List.forall_mem_cons.mpr ⟨⟨_, _, rfl⟩, (fun q hq => by cases hq)⟩) (by decide) (by decide +kernel)
    · exact safe_of (ann := [(2, [(2, 836, 0), (0, 0, 11), (0, 0, 40)], [(0, 2, 0, 4294967296)])]) (fuel := 600) okX4_soldBelow (snX4_soldBelow _ _ cB (Or.inr rfl)) (List.forall_mem_cons.mpr ⟨⟨_, _, rfl⟩, (fun q hq => by cases hq)⟩) (by decide) (by decide +kernel)
set_option maxRecDepth 100000 in
def adX5_addBetween (D : KK) : List ACE := (0, 1, some (aIl 1)) :: (1, 1, some (aIc (2))) :: (2, 1, some (aDv fDiv)) :: (3, 2, some (aIs 4)) :: (5, 1, some (aIl 2)) :: (6, 1, some (aIc (2))) :: (7, 1, some (aDv fDiv)) :: (8, 2, some (aIs 5)) :: (10, 2, some (aIl 4)) :: (12, 2, some (aIl 5)) :: (14, 3, some (aCm bNe bEq 41)) :: (17, 1, some (aAl 0)) :: (18, 3, some (aGetR [(197, 164120)])) :: (21, 2, some (aIl 4)) :: (23, 1, some (aDup2)) :: (24, 1, some (aIald D)) :: (25, 1, some (aIl 1)) :: (26, 1, some (aIl 2)) :: (27, 3, some (aCm (fun C x y => bLe C y x) bLt 34)) :: (30, 1, some (aIl 3)) :: (31, 3, some (aGoto 36)) :: (34, 1, some (aIl 3)) :: (35, 1, some (aUn fNeg)) :: (36, 1, some (aBin fAdd)) :: (37, 1, some (aIast D)) :: (38, 3, some (aGoto 88)) :: (41, 1, some (aIl 1)) :: (42, 1, some (aIc (2))) :: (43, 1, some (aDv fRem)) :: (44, 3, some (aIf bNe bEq 69)) :: (47, 1, some (aAl 0)) :: (48, 3, some (aGetR [(197, 6553896)])) :: (51, 2, some (aIl 5)) :: (53, 1, some (aAl 0)) :: (54, 3, some (aGetI D 5 8)) :: (57, 1, some (aBin fMul)) :: (58, 2, some (aIl 4)) :: (60, 1, some (aBin fAdd)) :: (61, 1, some (aDup2)) :: (62, 1, some (aIald D)) :: (63, 1, some (aIl 3)) :: (64, 1, some (aBin fSub)) :: (65, 1, some (aIast D)) :: (66, 3, some (aGoto 88)) :: (69, 1, some (aAl 0)) :: (70, 3, some (aGetR [(197, 6553896)])) :: (73, 2, some (aIl 4)) :: (75, 1, some (aAl 0)) :: (76, 3, some (aGetI D 5 8)) :: (79, 1, some (aBin fMul)) :: (80, 2, some (aIl 5)) :: (82, 1, some (aBin fAdd)) :: (83, 1, some (aDup2)) :: (84, 1, some (aIald D)) :: (85, 1, some (aIl 3)) :: (86, 1, some (aBin fAdd)) :: (87, 1, some (aIast D)) :: (88, 1, some (aVret)) :: []
set_option maxRecDepth 100000 in
set_option maxHeartbeats 4000000 in
theorem snX5_addBetween (d : Nat) (W : List Nat) (c : Nat × Nat) (hc : c = cA ∨ c = cB) : SndAll (d, TYg, c, W) cdX5_addBetween (adX5_addBetween (d, TYg, c, W)) := by
  unfold cdX5_addBetween adX5_addBetween
  refine sn_op sIl ?_
  refine sn_op (sIc (n := 2) (by decide)) ?_
  refine sn_op sIdiv ?_
  refine sn_op sIs ?_
  refine sn_op sIl ?_
  refine sn_op (sIc (n := 2) (by decide)) ?_
  refine sn_op sIdiv ?_
  refine sn_op sIs ?_
  refine sn_op sIl ?_
  refine sn_op sIl ?_
  refine sn_op sCmNe ?_
  refine sn_op sAl ?_
  refine sn_op sGetR ?_
  refine sn_op sIl ?_
  refine sn_op sDup2 ?_
  refine sn_op sIald ?_
  refine sn_op sIl ?_
  refine sn_op sIl ?_
  refine sn_op sCmGe ?_
  refine sn_op sIl ?_
  refine sn_op sGoto ?_
  refine sn_op sIl ?_
  refine sn_op sIneg ?_
  refine sn_op sIadd ?_
  refine sn_op sIast ?_
  refine sn_op sGoto ?_
  refine sn_op sIl ?_
  refine sn_op (sIc (n := 2) (by decide)) ?_
  refine sn_op sIrem ?_
  refine sn_op sIfNe ?_
  refine sn_op sAl ?_
  refine sn_op sGetR ?_
  refine sn_op sIl ?_
  refine sn_op sAl ?_
  refine sn_op sGetI ?_
  refine sn_op sImul ?_
  refine sn_op sIl ?_
  refine sn_op sIadd ?_
  refine sn_op sDup2 ?_
  refine sn_op sIald ?_
  refine sn_op sIl ?_
  refine sn_op sIsub ?_
  refine sn_op sIast ?_
  refine sn_op sGoto ?_
  refine sn_op sAl ?_
  refine sn_op sGetR ?_
  refine sn_op sIl ?_
  refine sn_op sAl ?_
  refine sn_op sGetI ?_
  refine sn_op sImul ?_
  refine sn_op sIl ?_
  refine sn_op sIadd ?_
  refine sn_op sDup2 ?_
  refine sn_op sIald ?_
  refine sn_op sIl ?_
  refine sn_op sIadd ?_
  refine sn_op sIast ?_
  refine sn_op sVret ?_
  exact sn_nil
def csX5_addBetween : List AC := [([(2, 197, 0), (0, 0, 79), (0, 0, 79), (0, 999, 999)], 1, [((9, 0, 0), [], [])], [164120, 6553896], []), ([(2, 197, 0), (0, 0, 79), (0, 0, 79), (0, -2147483648, 999)], 1, [((9, 0, 0), [], [])], [164120, 6553896], [])]
set_option maxRecDepth 100000 in
set_option maxHeartbeats 4000000 in
theorem sfX5_addBetween (c : Nat × Nat) (hc : c = cA ∨ c = cB) : ∀ ac ∈ csX5_addBetween, SafeC TYg c mX5_addBetween ac := by
  intro ac hac
  simp only [csX5_addBetween, List.mem_cons, List.not_mem_nil, or_false] at hac
  rcases hac with rfl | rfl
  · rcases hc with rfl | rfl
    · exact safe_of (ann := []) (fuel := 600) okX5_addBetween (snX5_addBetween _ _ cA (Or.inl rfl)) (fun q hq => by cases hq) (by decide) (by decide +kernel)
    · exact safe_of (ann := []) (fuel := 600) okX5_addBetween (snX5_addBetween _ _ cB (Or.inr rfl)) (fun q hq => by cases hq) (by decide) (by decide +kernel)
  · rcases hc with rfl | rfl
    · exact safe_of (ann := []) (fuel := 600) okX5_addBetween (snX5_addBetween _ _ cA (Or.inl rfl)) (fun q hq => by cases hq) (by decide) (by decide +kernel)
    · exact safe_of (ann := []) (fuel := 600) okX5_addBetween (snX5_addBetween _ _ cB (Or.inr rfl)) (fun q hq => by cases hq) (by decide) (by decide +kernel)
set_option maxRecDepth 100000 in
def adX5_load (D : KK) : List ACE := (0, 1, some (aAl 0)) :: (1, 1, some (aIc (0))) :: (2, 3, some (aPutI D 5 8)) :: (5, 1, some (aIc (0))) :: (6, 2, some (aIs 4)) :: (8, 0, none) :: (8, 2, some (aIl 4)) :: (10, 1, some (aAl 1)) :: (11, 3, some (aGetI D 4 7)) :: (14, 3, some (aCm (fun C x y => bLe C y x) bLt 146)) :: (17, 1, some (aIc (1))) :: (18, 1, some (aAl 1)) :: (19, 3, some (aGetR [(452, 164312), (836, 164696)])) :: (22, 2, some (aIl 4)) :: (24, 1, some (aIald D)) :: (25, 1, some (aBin fTop)) :: (26, 1, some (aIc (1))) :: (27, 1, some (aAl 1)) :: (28, 3, some (aGetR [(452, 164328), (836, 164712)])) :: (31, 2, some (aIl 4)) :: (33, 1, some (aIald D)) :: (34, 1, some (aBin fTop)) :: (35, 1, some (aBin fTop)) :: (36, 2, some (aIs 5)) :: (38, 1, some (aAl 1)) :: (39, 3, some (aGetR [(452, 164360), (836, 164744)])) :: (42, 2, some (aIl 4)) :: (44, 1, some (aIald D)) :: (45, 1, some (aIl 2)) :: (46, 3, some (aCm bNe bEq 140)) :: (49, 2, some (aIl 5)) :: (51, 1, some (aIl 3)) :: (52, 1, some (aBin fAnd)) :: (53, 3, some (aIf bNe bEq 140)) :: (56, 1, some (aAl 0)) :: (57, 3, some (aGetR [(197, 164056)])) :: (60, 1, some (aAl 0)) :: (61, 3, some (aGetI D 5 8)) :: (64, 1, some (aAl 1)) :: (65, 3, some (aGetR [(452, 164312), (836, 164696)])) :: (68, 2, some (aIl 4)) :: (70, 1, some (aIald D)) :: (71, 1, some (aIast D)) :: (72, 1, some (aAl 0)) :: (73, 3, some (aGetR [(197, 164072)])) :: (76, 1, some (aAl 0)) :: (77, 3, some (aGetI D 5 8)) :: (80, 1, some (aAl 1)) :: (81, 3, some (aGetR [(452, 164328), (836, 164712)])) :: (84, 2, some (aIl 4)) :: (86, 1, some (aIald D)) :: (87, 1, some (aIast D)) :: (88, 1, some (aAl 0)) :: (89, 3, some (aGetR [(197, 164088)])) :: (92, 1, some (aAl 0)) :: (93, 3, some (aGetI D 5 8)) :: (96, 1, some (aAl 1)) :: (97, 3, some (aGetR [(452, 164392), (836, 164776)])) :: (100, 2, some (aIl 4)) :: (102, 1, some (aIald D)) :: (103, 1, some (aIast D)) :: (104, 1, some (aAl 0)) :: (105, 3, some (aGetR [(197, 164104)])) :: (108, 1, some (aAl 0)) :: (109, 3, some (aGetI D 5 8)) :: (112, 1, some (aAl 1)) :: (113, 3, some (aGetR [(452, 164344), (836, 164728)])) :: (116, 2, some (aIl 4)) :: (118, 1, some (aIald D)) :: (119, 1, some (aIast D)) :: (120, 1, some (aAl 0)) :: (121, 3, some (aGetR [(197, 164120)])) :: (124, 1, some (aAl 0)) :: (125, 3, some (aGetI D 5 8)) :: (128, 1, some (aIc (0))) :: (129, 1, some (aIast D)) :: (130, 1, some (aAl 0)) :: (131, 1, some (aDup)) :: (132, 3, some (aGetI D 5 8)) :: (135, 1, some (aIc (1))) :: (136, 1, some (aBin fAdd)) :: (137, 3, some (aPutI D 5 8)) :: (140, 3, some (aInc 4 (1))) :: (143, 3, some (aGoto 8)) :: (146, 1, some (aIc (0))) :: (147, 2, some (aIs 4)) :: (149, 0, none) :: (149, 2, some (aIl 4)) :: (151, 1, some (aAl 0)) :: (152, 3, some (aGetI D 5 8)) :: (155, 1, some (aAl 0)) :: (156, 3, some (aGetI D 5 8)) :: (159, 1, some (aBin fMul)) :: (160, 3, some (aCm (fun C x y => bLe C y x) bLt 177)) :: (163, 1, some (aAl 0)) :: (164, 3, some (aGetR [(197, 6553896)])) :: (167, 2, some (aIl 4)) :: (169, 1, some (aIc (0))) :: (170, 1, some (aIast D)) :: (171, 3, some (aInc 4 (1))) :: (174, 3, some (aGoto 149)) :: (177, 1, some (aVret)) :: []
set_option maxRecDepth 100000 in
set_option maxHeartbeats 4000000 in
theorem snX5_load (d : Nat) (W : List Nat) (c : Nat × Nat) (hc : c = cA ∨ c = cB) : SndAll (d, TYg, c, W) cdX5_load (adX5_load (d, TYg, c, W)) := by
  unfold cdX5_load adX5_load
  refine sn_op sAl ?_
  refine sn_op (sIc (n := 0) (by decide)) ?_
  refine sn_op sPutI ?_
  refine sn_op (sIc (n := 0) (by decide)) ?_
  refine sn_op sIs ?_
  refine sn_st ?_
  refine sn_op sIl ?_
  refine sn_op sAl ?_
  refine sn_op sGetI ?_
  refine sn_op sCmGe ?_
  refine sn_op (sIc (n := 1) (by decide)) ?_
  refine sn_op sAl ?_
  refine sn_op sGetR ?_
  refine sn_op sIl ?_
  refine sn_op sIald ?_
  refine sn_op sIshl ?_
  refine sn_op (sIc (n := 1) (by decide)) ?_
  refine sn_op sAl ?_
  refine sn_op sGetR ?_
  refine sn_op sIl ?_
  refine sn_op sIald ?_
  refine sn_op sIshl ?_
  refine sn_op sIor ?_
  refine sn_op sIs ?_
  refine sn_op sAl ?_
  refine sn_op sGetR ?_
  refine sn_op sIl ?_
  refine sn_op sIald ?_
  refine sn_op sIl ?_
  refine sn_op sCmNe ?_
  refine sn_op sIl ?_
  refine sn_op sIl ?_
  refine sn_op sIand ?_
  refine sn_op sIfNe ?_
  refine sn_op sAl ?_
  refine sn_op sGetR ?_
  refine sn_op sAl ?_
  refine sn_op sGetI ?_
  refine sn_op sAl ?_
  refine sn_op sGetR ?_
  refine sn_op sIl ?_
  refine sn_op sIald ?_
  refine sn_op sIast ?_
  refine sn_op sAl ?_
  refine sn_op sGetR ?_
  refine sn_op sAl ?_
  refine sn_op sGetI ?_
  refine sn_op sAl ?_
  refine sn_op sGetR ?_
  refine sn_op sIl ?_
  refine sn_op sIald ?_
  refine sn_op sIast ?_
  refine sn_op sAl ?_
  refine sn_op sGetR ?_
  refine sn_op sAl ?_
  refine sn_op sGetI ?_
  refine sn_op sAl ?_
  refine sn_op sGetR ?_
  refine sn_op sIl ?_
  refine sn_op sIald ?_
  refine sn_op sIast ?_
  refine sn_op sAl ?_
  refine sn_op sGetR ?_
  refine sn_op sAl ?_
  refine sn_op sGetI ?_
  refine sn_op sAl ?_
  refine sn_op sGetR ?_
  refine sn_op sIl ?_
  refine sn_op sIald ?_
  refine sn_op sIast ?_
  refine sn_op sAl ?_
  refine sn_op sGetR ?_
  refine sn_op sAl ?_
  refine sn_op sGetI ?_
  refine sn_op (sIc (n := 0) (by decide)) ?_
  refine sn_op sIast ?_
  refine sn_op sAl ?_
  refine sn_op sDup ?_
  refine sn_op sGetI ?_
  refine sn_op (sIc (n := 1) (by decide)) ?_
  refine sn_op sIadd ?_
  refine sn_op sPutI ?_
  refine sn_op (sInc (n := 1) (by decide)) ?_
  refine sn_op sGoto ?_
  refine sn_op (sIc (n := 0) (by decide)) ?_
  refine sn_op sIs ?_
  refine sn_st ?_
  refine sn_op sIl ?_
  refine sn_op sAl ?_
  refine sn_op sGetI ?_
  refine sn_op sAl ?_
  refine sn_op sGetI ?_
  refine sn_op sImul ?_
  refine sn_op sCmGe ?_
  refine sn_op sAl ?_
  refine sn_op sGetR ?_
  refine sn_op sIl ?_
  refine sn_op (sIc (n := 0) (by decide)) ?_
  refine sn_op sIast ?_
  refine sn_op (sInc (n := 1) (by decide)) ?_
  refine sn_op sGoto ?_
  refine sn_op sVret ?_
  exact sn_nil
def csX5_load : List AC := [([(2, 197, 0), (2, 452, 0), (0, 0, 11), (0, -2147483648, 2147483647)], 1, [((9, 0, 0), [], [])], [164056, 164072, 164088, 164104, 164120, 6553896, 38654705861], []), ([(2, 197, 0), (2, 836, 0), (0, 0, 11), (0, -2147483648, 2147483647)], 1, [((9, 0, 0), [], [])], [164056, 164072, 164088, 164104, 164120, 6553896, 38654705861], [])]
set_option maxRecDepth 100000 in
set_option maxHeartbeats 4000000 in
theorem sfX5_load (c : Nat × Nat) (hc : c = cA ∨ c = cB) : ∀ ac ∈ csX5_load, SafeC TYg c mX5_load ac := by
  intro ac hac
  simp only [csX5_load, List.mem_cons, List.not_mem_nil, or_false] at hac
  rcases hac with rfl | rfl
  · rcases hc with rfl | rfl
    · exact safe_ofF (ann := [(8, [(2, 197, 0), (2, 452, 0), (0, 0, 11), (0, -2147483648, 2147483647), (0, 0, 40), (4, 0, 0)], [(3, 0, 0, 2), (0, 4, 0, 4294967296), (1, 197, 8, 4294967296)], [(6, 4, 0)]), (149, [(2, 197, 0), (2, 452, 0), (0, 0, 11), (0, -2147483648, 2147483647), (0, 0, 4095), (4, 0, 0)], [(3, 0, 0, 1), (0, 4, 0, 4294967296)], [])]) (fuel := 600) okX5_load (snX5_load _ _ cA (Or.inl rfl)) (List.forall_mem_cons.mpr ⟨⟨_, _, rfl⟩, List.forall_mem_cons.mpr ⟨⟨_, _, rfl⟩, (fun q hq => by cases hq)⟩⟩) (by decide) (by decide +kernel)
    · exact safe_ofF (ann := [(8, [(2, 197, 0), (2, 452, 0), (0, 0, 11), (0, -2147483648, 2147483647), (0, 0, 40), (4, 0, 0)], [(3, 0, 0, 2), (0, 4, 0, 4294967296), (1, 197, 8, 4294967296)], [(6, 4, 0)]), (149, [(2, 197, 0), (2, 452, 0), (0, 0, 11), (0, -2147483648, 2147483647), (0, 0, 4095), (4, 0, 0)], [(3, 0, 0, 1), (0, 4, 0, 4294967296)], [])]) (fuel := 600) okX5_load (snX5_load _ _ cB (Or.inr rfl)) (List.forall_mem_cons.mpr ⟨⟨_, _, rfl⟩, List.forall_mem_cons.mpr ⟨⟨_, _, rfl⟩, (fun q hq => by cases hq)⟩⟩) (by decide) (by decide +kernel)
  · rcases hc with rfl | rfl
    · exact safe_ofF (ann := [(8, [(2, 197, 0), (2, 836, 0), (0, 0, 11), (0, -2147483648, 2147483647), (0, 0, 40), (4, 0, 0)], [(3, 0, 0, 2), (0, 4, 0, 4294967296), (1, 197, 8, 4294967296)], [(6, 4, 0)]), (149, [(2, 197, 0), (2, 836, 0), (0, 0, 11), (0, -2147483648, 2147483647), (0, 0, 4095), (4, 0, 0)], [(3, 0, 0, 1), (0, 4, 0, 4294967296)], [])]) (fuel := 600) okX5_load (snX5_load _ _ cA (Or.inl rfl)) (List.forall_mem_cons.mpr ⟨⟨_, _, rfl⟩, List.forall_mem_cons.mpr ⟨⟨_, _, rfl⟩, (fun q hq => by cases hq)⟩⟩) (by decide) (by decide +kernel)
    · exact safe_ofF (ann := [(8, [(2, 197, 0), (2, 836, 0), (0, 0, 11), (0, -2147483648, 2147483647), (0, 0, 40), (4, 0, 0)], [(3, 0, 0, 2), (0, 4, 0, 4294967296), (1, 197, 8, 4294967296)], [(6, 4, 0)]), (149, [(2, 197, 0), (2, 836, 0), (0, 0, 11), (0, -2147483648, 2147483647), (0, 0, 4095), (4, 0, 0)], [(3, 0, 0, 1), (0, 4, 0, 4294967296)], [])]) (fuel := 600) okX5_load (snX5_load _ _ cB (Or.inr rfl)) (List.forall_mem_cons.mpr ⟨⟨_, _, rfl⟩, List.forall_mem_cons.mpr ⟨⟨_, _, rfl⟩, (fun q hq => by cases hq)⟩⟩) (by decide) (by decide +kernel)
set_option maxRecDepth 100000 in
def adX5_space (D : KK) : List ACE := (0, 1, some (aIl 1)) :: (1, 1, some (aIc (2))) :: (2, 1, some (aDv fDiv)) :: (3, 1, some (aIs 3)) :: (4, 1, some (aIl 2)) :: (5, 1, some (aIc (2))) :: (6, 1, some (aDv fDiv)) :: (7, 2, some (aIs 4)) :: (9, 1, some (aIl 3)) :: (10, 2, some (aIl 4)) :: (12, 3, some (aCm bNe bEq 43)) :: (15, 1, some (aIl 1)) :: (16, 1, some (aIl 2)) :: (17, 3, some (aCm (fun C x y => bLe C y x) bLt 36)) :: (20, 1, some (aAl 0)) :: (21, 3, some (aGetR [(197, 164104)])) :: (24, 1, some (aIl 3)) :: (25, 1, some (aIald D)) :: (26, 1, some (aAl 0)) :: (27, 3, some (aGetR [(197, 164120)])) :: (30, 1, some (aIl 3)) :: (31, 1, some (aIald D)) :: (32, 1, some (aBin fSub)) :: (33, 3, some (aGoto 42)) :: (36, 1, some (aAl 0)) :: (37, 3, some (aGetR [(197, 164120)])) :: (40, 1, some (aIl 3)) :: (41, 1, some (aIald D)) :: (42, 1, some (aIret)) :: (43, 1, some (aIl 1)) :: (44, 1, some (aIc (2))) :: (45, 1, some (aDv fRem)) :: (46, 3, some (aIf bNe bEq 66)) :: (49, 1, some (aAl 0)) :: (50, 3, some (aGetR [(197, 6553896)])) :: (53, 2, some (aIl 4)) :: (55, 1, some (aAl 0)) :: (56, 3, some (aGetI D 5 8)) :: (59, 1, some (aBin fMul)) :: (60, 1, some (aIl 3)) :: (61, 1, some (aBin fAdd)) :: (62, 1, some (aIald D)) :: (63, 3, some (aGoto 69)) :: (66, 3, some (aIc (999))) :: (69, 1, some (aIret)) :: []
set_option maxRecDepth 100000 in
set_option maxHeartbeats 4000000 in
theorem snX5_space (d : Nat) (W : List Nat) (c : Nat × Nat) (hc : c = cA ∨ c = cB) : SndAll (d, TYg, c, W) cdX5_space (adX5_space (d, TYg, c, W)) := by
  unfold cdX5_space adX5_space
  refine sn_op sIl ?_
  refine sn_op (sIc (n := 2) (by decide)) ?_
  refine sn_op sIdiv ?_
  refine sn_op sIs ?_
  refine sn_op sIl ?_
  refine sn_op (sIc (n := 2) (by decide)) ?_
  refine sn_op sIdiv ?_
  refine sn_op sIs ?_
  refine sn_op sIl ?_
  refine sn_op sIl ?_
  refine sn_op sCmNe ?_
  refine sn_op sIl ?_
  refine sn_op sIl ?_
  refine sn_op sCmGe ?_
  refine sn_op sAl ?_
  refine sn_op sGetR ?_
  refine sn_op sIl ?_
  refine sn_op sIald ?_
  refine sn_op sAl ?_
  refine sn_op sGetR ?_
  refine sn_op sIl ?_
  refine sn_op sIald ?_
  refine sn_op sIsub ?_
  refine sn_op sGoto ?_
  refine sn_op sAl ?_
  refine sn_op sGetR ?_
  refine sn_op sIl ?_
  refine sn_op sIald ?_
  refine sn_op sIret ?_
  refine sn_op sIl ?_
  refine sn_op (sIc (n := 2) (by decide)) ?_
  refine sn_op sIrem ?_
  refine sn_op sIfNe ?_
  refine sn_op sAl ?_
  refine sn_op sGetR ?_
  refine sn_op sIl ?_
  refine sn_op sAl ?_
  refine sn_op sGetI ?_
  refine sn_op sImul ?_
  refine sn_op sIl ?_
  refine sn_op sIadd ?_
  refine sn_op sIald ?_
  refine sn_op sGoto ?_
  refine sn_op (sIc (n := 999) (by decide)) ?_
  refine sn_op sIret ?_
  exact sn_nil
def csX5_space : List AC := [([(2, 197, 0), (0, 0, 79), (0, 0, 79)], 1, [((0, -2147483648, 2147483647), [], []), ((0, 999, 999), [], [])], [], [])]
set_option maxRecDepth 100000 in
set_option maxHeartbeats 4000000 in
theorem sfX5_space (c : Nat × Nat) (hc : c = cA ∨ c = cB) : ∀ ac ∈ csX5_space, SafeC TYg c mX5_space ac := by
  intro ac hac
  simp only [csX5_space, List.mem_cons, List.not_mem_nil, or_false] at hac
  rcases hac with rfl
  · rcases hc with rfl | rfl
    · exact safe_of (ann := []) (fuel := 600) okX5_space (snX5_space _ _ cA (Or.inl rfl)) (fun q hq => by cases hq) (by decide) (by decide +kernel)
    · exact safe_of (ann := []) (fuel := 600) okX5_space (snX5_space _ _ cB (Or.inr rfl)) (fun q hq => by cases hq) (by decide) (by decide +kernel)
set_option maxRecDepth 100000 in
def adX5_narrowest (D : KK) : List ACE := (0, 3, some (aIc (999))) :: (3, 1, some (aIs 2)) :: (4, 1, some (aIl 1)) :: (5, 1, some (aIs 3)) :: (6, 1, some (aIc (0))) :: (7, 2, some (aIs 4)) :: (9, 0, none) :: (9, 2, some (aIl 4)) :: (11, 1, some (aAl 0)) :: (12, 3, some (aGetR [(197, 328008)])) :: (15, 1, some (aLen)) :: (16, 3, some (aCm (fun C x y => bLe C y x) bLt 57)) :: (19, 1, some (aAl 0)) :: (20, 3, some (aGetR [(197, 327992)])) :: (23, 1, some (aIl 3)) :: (24, 1, some (aIaldK D)) :: (25, 3, some (aIf bLt (fun C x y => bLe C y x) 57)) :: (28, 1, some (aIl 2)) :: (29, 1, some (aAl 0)) :: (30, 1, some (aAl 0)) :: (31, 3, some (aGetR [(197, 327992)])) :: (34, 1, some (aIl 3)) :: (35, 1, some (aIaldK D)) :: (36, 1, some (aIl 3)) :: (37, 3, some (aCall D 5 3 5 csX5_space)) :: (40, 3, some (aMin D)) :: (43, 1, some (aIs 2)) :: (44, 1, some (aAl 0)) :: (45, 3, some (aGetR [(197, 327992)])) :: (48, 1, some (aIl 3)) :: (49, 1, some (aIaldK D)) :: (50, 1, some (aIs 3)) :: (51, 3, some (aInc 4 (1))) :: (54, 3, some (aGoto 9)) :: (57, 1, some (aIl 2)) :: (58, 1, some (aIret)) :: []
set_option maxRecDepth 100000 in
set_option maxHeartbeats 4000000 in
theorem snX5_narrowest (d : Nat) (W : List Nat) (c : Nat × Nat) (hc : c = cA ∨ c = cB) : SndAll (d, TYg, c, W) cdX5_narrowest (adX5_narrowest (d, TYg, c, W)) := by
  unfold cdX5_narrowest adX5_narrowest
  refine sn_op (sIc (n := 999) (by decide)) ?_
  refine sn_op sIs ?_
  refine sn_op sIl ?_
  refine sn_op sIs ?_
  refine sn_op (sIc (n := 0) (by decide)) ?_
  refine sn_op sIs ?_
  refine sn_st ?_
  refine sn_op sIl ?_
  refine sn_op sAl ?_
  refine sn_op sGetR ?_
  refine sn_op sLen ?_
  refine sn_op sCmGe ?_
  refine sn_op sAl ?_
  refine sn_op sGetR ?_
  refine sn_op sIl ?_
  refine sn_op sIaldK ?_
  refine sn_op sIfLt ?_
  refine sn_op sIl ?_
  refine sn_op sAl ?_
  refine sn_op sAl ?_
  refine sn_op sGetR ?_
  refine sn_op sIl ?_
  refine sn_op sIaldK ?_
  refine sn_op sIl ?_
  refine sn_op (sCI (sfX5_space c hc) (by decide) (by decide +kernel)) ?_
  refine sn_op sMin ?_
  refine sn_op sIs ?_
  refine sn_op sAl ?_
  refine sn_op sGetR ?_
  refine sn_op sIl ?_
  refine sn_op sIaldK ?_
  refine sn_op sIs ?_
  refine sn_op (sInc (n := 1) (by decide)) ?_
  refine sn_op sGoto ?_
  refine sn_op sIl ?_
  refine sn_op sIret ?_
  exact sn_nil
def csX5_narrowest : List AC := [([(2, 197, 0), (0, 0, 79)], 2, [((0, -2147483648, 999), [], [])], [], [])]
set_option maxRecDepth 100000 in
set_option maxHeartbeats 4000000 in
theorem sfX5_narrowest (c : Nat × Nat) (hc : c = cA ∨ c = cB) : ∀ ac ∈ csX5_narrowest, SafeC TYg c mX5_narrowest ac := by
  intro ac hac
  simp only [csX5_narrowest, List.mem_cons, List.not_mem_nil, or_false] at hac
  rcases hac with rfl
  · rcases hc with rfl | rfl
    · exact safe_of (ann := [(9, [(2, 197, 0), (0, 0, 79), (0, -2147483648, 999), (0, 0, 79), (0, 0, 80)], [(0, 4, 0, 4294967296)])]) (fuel := 600) okX5_narrowest (snX5_narrowest _ _ cA (Or.inl rfl)) (List.forall_mem_cons.mpr ⟨⟨_, _, rfl⟩, (fun q hq => by cases hq)⟩) (by decide) (by decide +kernel)
    · exact safe_of (ann := [(9, [(2, 197, 0), (0, 0, 79), (0, -2147483648, 999), (0, 0, 79), (0, 0, 80)], [(0, 4, 0, 4294967296)])]) (fuel := 600) okX5_narrowest (snX5_narrowest _ _ cB (Or.inr rfl)) (List.forall_mem_cons.mpr ⟨⟨_, _, rfl⟩, (fun q hq => by cases hq)⟩) (by decide) (by decide +kernel)
set_option maxRecDepth 100000 in
def adX5_visit (D : KK) : List ACE := (0, 1, some (aAl 0)) :: (1, 3, some (aGetR [(197, 327992)])) :: (4, 1, some (aIl 1)) :: (5, 1, some (aIald D)) :: (6, 1, some (aIc (-1))) :: (7, 3, some (aCm bNe bEq 49)) :: (10, 1, some (aAl 0)) :: (11, 3, some (aGetI D 5 9)) :: (14, 1, some (aAl 0)) :: (15, 3, some (aGetR [(197, 328008)])) :: (18, 1, some (aLen)) :: (19, 3, some (aCm (fun C x y => bLe C y x) bLt 49)) :: (22, 1, some (aAl 0)) :: (23, 3, some (aGetR [(197, 327992)])) :: (26, 1, some (aIl 1)) :: (27, 1, some (aIl 2)) :: (28, 1, some (aIast D)) :: (29, 1, some (aAl 0)) :: (30, 3, some (aGetR [(197, 328008)])) :: (33, 1, some (aAl 0)) :: (34, 3, some (aGetI D 5 9)) :: (37, 1, some (aIl 1)) :: (38, 1, some (aIast D)) :: (39, 1, some (aAl 0)) :: (40, 1, some (aDup)) :: (41, 3, some (aGetI D 5 9)) :: (44, 1, some (aIc (1))) :: (45, 1, some (aBin fAdd)) :: (46, 3, some (aPutI D 5 9)) :: (49, 1, some (aVret)) :: []
set_option maxRecDepth 100000 in
set_option maxHeartbeats 4000000 in
theorem snX5_visit (d : Nat) (W : List Nat) (c : Nat × Nat) (hc : c = cA ∨ c = cB) : SndAll (d, TYg, c, W) cdX5_visit (adX5_visit (d, TYg, c, W)) := by
  unfold cdX5_visit adX5_visit
  refine sn_op sAl ?_
  refine sn_op sGetR ?_
  refine sn_op sIl ?_
  refine sn_op sIald ?_
  refine sn_op (sIc (n := -1) (by decide)) ?_
  refine sn_op sCmNe ?_
  refine sn_op sAl ?_
  refine sn_op sGetI ?_
  refine sn_op sAl ?_
  refine sn_op sGetR ?_
  refine sn_op sLen ?_
  refine sn_op sCmGe ?_
  refine sn_op sAl ?_
  refine sn_op sGetR ?_
  refine sn_op sIl ?_
  refine sn_op sIl ?_
  refine sn_op sIast ?_
  refine sn_op sAl ?_
  refine sn_op sGetR ?_
  refine sn_op sAl ?_
  refine sn_op sGetI ?_
  refine sn_op sIl ?_
  refine sn_op sIast ?_
  refine sn_op sAl ?_
  refine sn_op sDup ?_
  refine sn_op sGetI ?_
  refine sn_op (sIc (n := 1) (by decide)) ?_
  refine sn_op sIadd ?_
  refine sn_op sPutI ?_
  refine sn_op sVret ?_
  exact sn_nil
def csX5_visit : List AC := [([(2, 197, 0), (0, 0, 0), (0, -2, -2)], 1, [((9, 0, 0), [], [])], [327992, 328008, 42949673157], []), ([(2, 197, 0), (0, 1, 1), (0, 0, 78)], 1, [((9, 0, 0), [], [])], [327992, 328008, 42949673157], []), ([(2, 197, 0), (0, 0, 0), (0, 1, 79)], 1, [((9, 0, 0), [], [])], [327992, 328008, 42949673157], []), ([(2, 197, 0), (0, 0, 79), (0, -2, -2)], 1, [((9, 0, 0), [], [])], [327992, 328008, 42949673157], []), ([(2, 197, 0), (0, 0, 79), (0, 0, 79)], 1, [((9, 0, 0), [], [])], [327992, 328008, 42949673157], [])]
set_option maxRecDepth 100000 in
set_option maxHeartbeats 4000000 in
theorem sfX5_visit (c : Nat × Nat) (hc : c = cA ∨ c = cB) : ∀ ac ∈ csX5_visit, SafeC TYg c mX5_visit ac := by
  intro ac hac
  simp only [csX5_visit, List.mem_cons, List.not_mem_nil, or_false] at hac
  rcases hac with rfl | rfl | rfl | rfl | rfl
  · rcases hc with rfl | rfl
    · exact safe_of (ann := []) (fuel := 600) okX5_visit (snX5_visit _ _ cA (Or.inl rfl)) (fun q hq => by cases hq) (by decide) (by decide +kernel)
    · exact safe_of (ann := []) (fuel := 600) okX5_visit (snX5_visit _ _ cB (Or.inr rfl)) (fun q hq => by cases hq) (by decide) (by decide +kernel)
  · rcases hc with rfl | rfl
    · exact safe_of (ann := []) (fuel := 600) okX5_visit (snX5_visit _ _ cA (Or.inl rfl)) (fun q hq => by cases hq) (by decide) (by decide +kernel)
    · exact safe_of (ann := []) (fuel := 600) okX5_visit (snX5_visit _ _ cB (Or.inr rfl)) (fun q hq => by cases hq) (by decide) (by decide +kernel)
  · rcases hc with rfl | rfl
    · exact safe_of (ann := []) (fuel := 600) okX5_visit (snX5_visit _ _ cA (Or.inl rfl)) (fun q hq => by cases hq) (by decide) (by decide +kernel)
    · exact safe_of (ann := []) (fuel := 600) okX5_visit (snX5_visit _ _ cB (Or.inr rfl)) (fun q hq => by cases hq) (by decide) (by decide +kernel)
  · rcases hc with rfl | rfl
    · exact safe_of (ann := []) (fuel := 600) okX5_visit (snX5_visit _ _ cA (Or.inl rfl)) (fun q hq => by cases hq) (by decide) (by decide +kernel)
    · exact safe_of (ann := []) (fuel := 600) okX5_visit (snX5_visit _ _ cB (Or.inr rfl)) (fun q hq => by cases hq) (by decide) (by decide +kernel)
  · rcases hc with rfl | rfl
    · exact safe_of (ann := []) (fuel := 600) okX5_visit (snX5_visit _ _ cA (Or.inl rfl)) (fun q hq => by cases hq) (by decide) (by decide +kernel)
    · exact safe_of (ann := []) (fuel := 600) okX5_visit (snX5_visit _ _ cB (Or.inr rfl)) (fun q hq => by cases hq) (by decide) (by decide +kernel)
set_option maxRecDepth 100000 in
def adX5_spreadOut (D : KK) : List ACE := (0, 1, some (aAl 0)) :: (1, 3, some (aGetR [(197, 164120)])) :: (4, 1, some (aIl 1)) :: (5, 1, some (aIald D)) :: (6, 3, some (aIf bLe (fun C x y => bLt C y x) 21)) :: (9, 1, some (aAl 0)) :: (10, 1, some (aIc (2))) :: (11, 1, some (aIl 1)) :: (12, 1, some (aBin fMul)) :: (13, 1, some (aIc (2))) :: (14, 1, some (aIl 1)) :: (15, 1, some (aBin fMul)) :: (16, 1, some (aIc (1))) :: (17, 1, some (aBin fAdd)) :: (18, 3, some (aCall D 5 3 3 csX5_visit)) :: (21, 1, some (aIc (0))) :: (22, 1, some (aIs 2)) :: (23, 0, none) :: (23, 1, some (aIl 2)) :: (24, 1, some (aAl 0)) :: (25, 3, some (aGetI D 5 8)) :: (28, 3, some (aCm (fun C x y => bLe C y x) bLt 79)) :: (31, 1, some (aAl 0)) :: (32, 3, some (aGetR [(197, 164056)])) :: (35, 1, some (aIl 2)) :: (36, 1, some (aIald D)) :: (37, 1, some (aAl 0)) :: (38, 3, some (aGetR [(197, 164072)])) :: (41, 1, some (aIl 1)) :: (42, 1, some (aIald D)) :: (43, 3, some (aCm bNe bEq 73)) :: (46, 1, some (aAl 0)) :: (47, 3, some (aGetR [(197, 164088)])) :: (50, 1, some (aIl 2)) :: (51, 1, some (aIald D)) :: (52, 1, some (aAl 0)) :: (53, 3, some (aGetR [(197, 164088)])) :: (56, 1, some (aIl 1)) :: (57, 1, some (aIald D)) :: (58, 3, some (aCm bLt (fun C x y => bLe C y x) 73)) :: (61, 1, some (aAl 0)) :: (62, 1, some (aIc (2))) :: (63, 1, some (aIl 2)) :: (64, 1, some (aBin fMul)) :: (65, 1, some (aIc (2))) :: (66, 1, some (aIl 1)) :: (67, 1, some (aBin fMul)) :: (68, 1, some (aIc (1))) :: (69, 1, some (aBin fAdd)) :: (70, 3, some (aCall D 5 3 3 csX5_visit)) :: (73, 3, some (aInc 2 (1))) :: (76, 3, some (aGoto 23)) :: (79, 1, some (aVret)) :: []
set_option maxRecDepth 100000 in
set_option maxHeartbeats 4000000 in
theorem snX5_spreadOut (d : Nat) (W : List Nat) (c : Nat × Nat) (hc : c = cA ∨ c = cB) : SndAll (d, TYg, c, W) cdX5_spreadOut (adX5_spreadOut (d, TYg, c, W)) := by
  unfold cdX5_spreadOut adX5_spreadOut
  refine sn_op sAl ?_
  refine sn_op sGetR ?_
  refine sn_op sIl ?_
  refine sn_op sIald ?_
  refine sn_op sIfLe ?_
  refine sn_op sAl ?_
  refine sn_op (sIc (n := 2) (by decide)) ?_
  refine sn_op sIl ?_
  refine sn_op sImul ?_
  refine sn_op (sIc (n := 2) (by decide)) ?_
  refine sn_op sIl ?_
  refine sn_op sImul ?_
  refine sn_op (sIc (n := 1) (by decide)) ?_
  refine sn_op sIadd ?_
  refine sn_op (sCV (sfX5_visit c hc) (by decide) (by decide +kernel)) ?_
  refine sn_op (sIc (n := 0) (by decide)) ?_
  refine sn_op sIs ?_
  refine sn_st ?_
  refine sn_op sIl ?_
  refine sn_op sAl ?_
  refine sn_op sGetI ?_
  refine sn_op sCmGe ?_
  refine sn_op sAl ?_
  refine sn_op sGetR ?_
  refine sn_op sIl ?_
  refine sn_op sIald ?_
  refine sn_op sAl ?_
  refine sn_op sGetR ?_
  refine sn_op sIl ?_
  refine sn_op sIald ?_
  refine sn_op sCmNe ?_
  refine sn_op sAl ?_
  refine sn_op sGetR ?_
  refine sn_op sIl ?_
  refine sn_op sIald ?_
  refine sn_op sAl ?_
  refine sn_op sGetR ?_
  refine sn_op sIl ?_
  refine sn_op sIald ?_
  refine sn_op sCmLt ?_
  refine sn_op sAl ?_
  refine sn_op (sIc (n := 2) (by decide)) ?_
  refine sn_op sIl ?_
  refine sn_op sImul ?_
  refine sn_op (sIc (n := 2) (by decide)) ?_
  refine sn_op sIl ?_
  refine sn_op sImul ?_
  refine sn_op (sIc (n := 1) (by decide)) ?_
  refine sn_op sIadd ?_
  refine sn_op (sCV (sfX5_visit c hc) (by decide) (by decide +kernel)) ?_
  refine sn_op (sInc (n := 1) (by decide)) ?_
  refine sn_op sGoto ?_
  refine sn_op sVret ?_
  exact sn_nil
def csX5_spreadOut : List AC := [([(2, 197, 0), (0, 0, 39)], 2, [((9, 0, 0), [], [])], [327992, 328008, 42949673157], [])]
set_option maxRecDepth 100000 in
set_option maxHeartbeats 4000000 in
theorem sfX5_spreadOut (c : Nat × Nat) (hc : c = cA ∨ c = cB) : ∀ ac ∈ csX5_spreadOut, SafeC TYg c mX5_spreadOut ac := by
  intro ac hac
  simp only [csX5_spreadOut, List.mem_cons, List.not_mem_nil, or_false] at hac
  rcases hac with rfl
  · rcases hc with rfl | rfl
    · exact safe_of (ann := [(23, [(2, 197, 0), (0, 0, 39), (0, 0, 40)], [(0, 2, 0, 4294967296)])]) (fuel := 600) okX5_spreadOut (snX5_spreadOut _ _ cA (Or.inl rfl)) (List.forall_mem_cons.mpr ⟨⟨_, _, rfl⟩, (fun q hq => by cases hq)⟩) (by decide) (by decide +kernel)
    · exact safe_of (ann := [(23, [(2, 197, 0), (0, 0, 39), (0, 0, 40)], [(0, 2, 0, 4294967296)])]) (fuel := 600) okX5_spreadOut (snX5_spreadOut _ _ cB (Or.inr rfl)) (List.forall_mem_cons.mpr ⟨⟨_, _, rfl⟩, (fun q hq => by cases hq)⟩) (by decide) (by decide +kernel)
set_option maxRecDepth 100000 in
def adX5_spreadIn (D : KK) : List ACE := (0, 1, some (aAl 0)) :: (1, 3, some (aGetR [(197, 164120)])) :: (4, 1, some (aIl 1)) :: (5, 1, some (aIald D)) :: (6, 1, some (aAl 0)) :: (7, 3, some (aGetR [(197, 164104)])) :: (10, 1, some (aIl 1)) :: (11, 1, some (aIald D)) :: (12, 3, some (aCm (fun C x y => bLe C y x) bLt 27)) :: (15, 1, some (aAl 0)) :: (16, 1, some (aIc (2))) :: (17, 1, some (aIl 1)) :: (18, 1, some (aBin fMul)) :: (19, 1, some (aIc (1))) :: (20, 1, some (aBin fAdd)) :: (21, 1, some (aIc (2))) :: (22, 1, some (aIl 1)) :: (23, 1, some (aBin fMul)) :: (24, 3, some (aCall D 5 3 3 csX5_visit)) :: (27, 1, some (aIc (0))) :: (28, 1, some (aIs 2)) :: (29, 0, none) :: (29, 1, some (aIl 2)) :: (30, 1, some (aAl 0)) :: (31, 3, some (aGetI D 5 8)) :: (34, 3, some (aCm (fun C x y => bLe C y x) bLt 71)) :: (37, 1, some (aAl 0)) :: (38, 3, some (aGetR [(197, 6553896)])) :: (41, 1, some (aIl 2)) :: (42, 1, some (aAl 0)) :: (43, 3, some (aGetI D 5 8)) :: (46, 1, some (aBin fMul)) :: (47, 1, some (aIl 1)) :: (48, 1, some (aBin fAdd)) :: (49, 1, some (aIald D)) :: (50, 3, some (aIf bLe (fun C x y => bLt C y x) 65)) :: (53, 1, some (aAl 0)) :: (54, 1, some (aIc (2))) :: (55, 1, some (aIl 2)) :: (56, 1, some (aBin fMul)) :: (57, 1, some (aIc (1))) :: (58, 1, some (aBin fAdd)) :: (59, 1, some (aIc (2))) :: (60, 1, some (aIl 1)) :: (61, 1, some (aBin fMul)) :: (62, 3, some (aCall D 5 3 3 csX5_visit)) :: (65, 3, some (aInc 2 (1))) :: (68, 3, some (aGoto 29)) :: (71, 1, some (aVret)) :: []
set_option maxRecDepth 100000 in
set_option maxHeartbeats 4000000 in
theorem snX5_spreadIn (d : Nat) (W : List Nat) (c : Nat × Nat) (hc : c = cA ∨ c = cB) : SndAll (d, TYg, c, W) cdX5_spreadIn (adX5_spreadIn (d, TYg, c, W)) := by
  unfold cdX5_spreadIn adX5_spreadIn
  refine sn_op sAl ?_
  refine sn_op sGetR ?_
  refine sn_op sIl ?_
  refine sn_op sIald ?_
  refine sn_op sAl ?_
  refine sn_op sGetR ?_
  refine sn_op sIl ?_
  refine sn_op sIald ?_
  refine sn_op sCmGe ?_
  refine sn_op sAl ?_
  refine sn_op (sIc (n := 2) (by decide)) ?_
  refine sn_op sIl ?_
  refine sn_op sImul ?_
  refine sn_op (sIc (n := 1) (by decide)) ?_
  refine sn_op sIadd ?_
  refine sn_op (sIc (n := 2) (by decide)) ?_
  refine sn_op sIl ?_
  refine sn_op sImul ?_
  refine sn_op (sCV (sfX5_visit c hc) (by decide) (by decide +kernel)) ?_
  refine sn_op (sIc (n := 0) (by decide)) ?_
  refine sn_op sIs ?_
  refine sn_st ?_
  refine sn_op sIl ?_
  refine sn_op sAl ?_
  refine sn_op sGetI ?_
  refine sn_op sCmGe ?_
  refine sn_op sAl ?_
  refine sn_op sGetR ?_
  refine sn_op sIl ?_
  refine sn_op sAl ?_
  refine sn_op sGetI ?_
  refine sn_op sImul ?_
  refine sn_op sIl ?_
  refine sn_op sIadd ?_
  refine sn_op sIald ?_
  refine sn_op sIfLe ?_
  refine sn_op sAl ?_
  refine sn_op (sIc (n := 2) (by decide)) ?_
  refine sn_op sIl ?_
  refine sn_op sImul ?_
  refine sn_op (sIc (n := 1) (by decide)) ?_
  refine sn_op sIadd ?_
  refine sn_op (sIc (n := 2) (by decide)) ?_
  refine sn_op sIl ?_
  refine sn_op sImul ?_
  refine sn_op (sCV (sfX5_visit c hc) (by decide) (by decide +kernel)) ?_
  refine sn_op (sInc (n := 1) (by decide)) ?_
  refine sn_op sGoto ?_
  refine sn_op sVret ?_
  exact sn_nil
def csX5_spreadIn : List AC := [([(2, 197, 0), (0, 0, 39)], 2, [((9, 0, 0), [], [])], [327992, 328008, 42949673157], [])]
set_option maxRecDepth 100000 in
set_option maxHeartbeats 4000000 in
theorem sfX5_spreadIn (c : Nat × Nat) (hc : c = cA ∨ c = cB) : ∀ ac ∈ csX5_spreadIn, SafeC TYg c mX5_spreadIn ac := by
  intro ac hac
  simp only [csX5_spreadIn, List.mem_cons, List.not_mem_nil, or_false] at hac
  rcases hac with rfl
  · rcases hc with rfl | rfl
    · exact safe_of (ann := [(29, [(2, 197, 0), (0, 0, 39), (0, 0, 40)], [(0, 2, 0, 4294967296)])]) (fuel := 600) okX5_spreadIn (snX5_spreadIn _ _ cA (Or.inl rfl)) (List.forall_mem_cons.mpr ⟨⟨_, _, rfl⟩, (fun q hq => by cases hq)⟩) (by decide) (by decide +kernel)
    · exact safe_of (ann := [(29, [(2, 197, 0), (0, 0, 39), (0, 0, 40)], [(0, 2, 0, 4294967296)])]) (fuel := 600) okX5_spreadIn (snX5_spreadIn _ _ cB (Or.inr rfl)) (List.forall_mem_cons.mpr ⟨⟨_, _, rfl⟩, (fun q hq => by cases hq)⟩) (by decide) (by decide +kernel)
set_option maxRecDepth 100000 in
def adX5_seekHome (D : KK) : List ACE := (0, 1, some (aAl 0)) :: (1, 1, some (aIc (0))) :: (2, 3, some (aPutI D 5 9)) :: (5, 1, some (aIc (0))) :: (6, 1, some (aIs 1)) :: (7, 0, none) :: (7, 1, some (aIl 1)) :: (8, 1, some (aAl 0)) :: (9, 3, some (aGetI D 5 8)) :: (12, 3, some (aCm (fun C x y => bLe C y x) bLt 63)) :: (15, 1, some (aAl 0)) :: (16, 3, some (aGetR [(197, 327992)])) :: (19, 1, some (aIc (2))) :: (20, 1, some (aIl 1)) :: (21, 1, some (aBin fMul)) :: (22, 1, some (aIc (-1))) :: (23, 1, some (aIast D)) :: (24, 1, some (aAl 0)) :: (25, 3, some (aGetR [(197, 327992)])) :: (28, 1, some (aIc (2))) :: (29, 1, some (aIl 1)) :: (30, 1, some (aBin fMul)) :: (31, 1, some (aIc (1))) :: (32, 1, some (aBin fAdd)) :: (33, 1, some (aIc (-1))) :: (34, 1, some (aIast D)) :: (35, 1, some (aAl 0)) :: (36, 3, some (aGetR [(197, 164056)])) :: (39, 1, some (aIl 1)) :: (40, 1, some (aIald D)) :: (41, 1, some (aAl 0)) :: (42, 3, some (aGetI D 5 10)) :: (45, 3, some (aCm bNe bEq 57)) :: (48, 1, some (aAl 0)) :: (49, 1, some (aIc (2))) :: (50, 1, some (aIl 1)) :: (51, 1, some (aBin fMul)) :: (52, 2, some (aIc (-2))) :: (54, 3, some (aCall D 5 3 3 csX5_visit)) :: (57, 3, some (aInc 1 (1))) :: (60, 3, some (aGoto 7)) :: (63, 1, some (aIc (0))) :: (64, 1, some (aIs 1)) :: (65, 0, none) :: (65, 1, some (aIl 1)) :: (66, 1, some (aAl 0)) :: (67, 3, some (aGetI D 5 9)) :: (70, 3, some (aCm (fun C x y => bLe C y x) bLt 133)) :: (73, 1, some (aIl 1)) :: (74, 1, some (aAl 0)) :: (75, 3, some (aGetR [(197, 328008)])) :: (78, 1, some (aLen)) :: (79, 3, some (aCm (fun C x y => bLe C y x) bLt 133)) :: (82, 1, some (aAl 0)) :: (83, 3, some (aGetR [(197, 328008)])) :: (86, 1, some (aIl 1)) :: (87, 1, some (aIald D)) :: (88, 1, some (aIs 2)) :: (89, 1, some (aIl 2)) :: (90, 1, some (aIc (2))) :: (91, 1, some (aDv fDiv)) :: (92, 1, some (aIs 3)) :: (93, 1, some (aIl 2)) :: (94, 1, some (aIc (2))) :: (95, 1, some (aDv fRem)) :: (96, 3, some (aIf bNe bEq 107)) :: (99, 1, some (aAl 0)) :: (100, 1, some (aIl 3)) :: (101, 3, some (aCall D 5 2 3 csX5_spreadIn)) :: (104, 3, some (aGoto 127)) :: (107, 1, some (aAl 0)) :: (108, 3, some (aGetR [(197, 164072)])) :: (111, 1, some (aIl 3)) :: (112, 1, some (aIald D)) :: (113, 1, some (aAl 0)) :: (114, 3, some (aGetI D 5 10)) :: (117, 3, some (aCm bNe bEq 122)) :: (120, 1, some (aIl 2)) :: (121, 1, some (aIret)) :: (122, 1, some (aAl 0)) :: (123, 1, some (aIl 3)) :: (124, 3, some (aCall D 5 2 3 csX5_spreadOut)) :: (127, 3, some (aInc 1 (1))) :: (130, 3, some (aGoto 65)) :: (133, 1, some (aIc (-1))) :: (134, 1, some (aIret)) :: []
set_option maxRecDepth 100000 in
set_option maxHeartbeats 4000000 in
theorem snX5_seekHome (d : Nat) (W : List Nat) (c : Nat × Nat) (hc : c = cA ∨ c = cB) : SndAll (d, TYg, c, W) cdX5_seekHome (adX5_seekHome (d, TYg, c, W)) := by
  unfold cdX5_seekHome adX5_seekHome
  refine sn_op sAl ?_
  refine sn_op (sIc (n := 0) (by decide)) ?_
  refine sn_op sPutI ?_
  refine sn_op (sIc (n := 0) (by decide)) ?_
  refine sn_op sIs ?_
  refine sn_st ?_
  refine sn_op sIl ?_
  refine sn_op sAl ?_
  refine sn_op sGetI ?_
  refine sn_op sCmGe ?_
  refine sn_op sAl ?_
  refine sn_op sGetR ?_
  refine sn_op (sIc (n := 2) (by decide)) ?_
  refine sn_op sIl ?_
  refine sn_op sImul ?_
  refine sn_op (sIc (n := -1) (by decide)) ?_
  refine sn_op sIast ?_
  refine sn_op sAl ?_
  refine sn_op sGetR ?_
  refine sn_op (sIc (n := 2) (by decide)) ?_
  refine sn_op sIl ?_
  refine sn_op sImul ?_
  refine sn_op (sIc (n := 1) (by decide)) ?_
  refine sn_op sIadd ?_
  refine sn_op (sIc (n := -1) (by decide)) ?_
  refine sn_op sIast ?_
  refine sn_op sAl ?_
  refine sn_op sGetR ?_
  refine sn_op sIl ?_
  refine sn_op sIald ?_
  refine sn_op sAl ?_
  refine sn_op sGetI ?_
  refine sn_op sCmNe ?_
  refine sn_op sAl ?_
  refine sn_op (sIc (n := 2) (by decide)) ?_
  refine sn_op sIl ?_
  refine sn_op sImul ?_
  refine sn_op (sIc (n := -2) (by decide)) ?_
  refine sn_op (sCV (sfX5_visit c hc) (by decide) (by decide +kernel)) ?_
  refine sn_op (sInc (n := 1) (by decide)) ?_
  refine sn_op sGoto ?_
  refine sn_op (sIc (n := 0) (by decide)) ?_
  refine sn_op sIs ?_
  refine sn_st ?_
  refine sn_op sIl ?_
  refine sn_op sAl ?_
  refine sn_op sGetI ?_
  refine sn_op sCmGe ?_
  refine sn_op sIl ?_
  refine sn_op sAl ?_
  refine sn_op sGetR ?_
  refine sn_op sLen ?_
  refine sn_op sCmGe ?_
  refine sn_op sAl ?_
  refine sn_op sGetR ?_
  refine sn_op sIl ?_
  refine sn_op sIald ?_
  refine sn_op sIs ?_
  refine sn_op sIl ?_
  refine sn_op (sIc (n := 2) (by decide)) ?_
  refine sn_op sIdiv ?_
  refine sn_op sIs ?_
  refine sn_op sIl ?_
  refine sn_op (sIc (n := 2) (by decide)) ?_
  refine sn_op sIrem ?_
  refine sn_op sIfNe ?_
  refine sn_op sAl ?_
  refine sn_op sIl ?_
  refine sn_op (sCV (sfX5_spreadIn c hc) (by decide) (by decide +kernel)) ?_
  refine sn_op sGoto ?_
  refine sn_op sAl ?_
  refine sn_op sGetR ?_
  refine sn_op sIl ?_
  refine sn_op sIald ?_
  refine sn_op sAl ?_
  refine sn_op sGetI ?_
  refine sn_op sCmNe ?_
  refine sn_op sIl ?_
  refine sn_op sIret ?_
  refine sn_op sAl ?_
  refine sn_op sIl ?_
  refine sn_op (sCV (sfX5_spreadOut c hc) (by decide) (by decide +kernel)) ?_
  refine sn_op (sInc (n := 1) (by decide)) ?_
  refine sn_op sGoto ?_
  refine sn_op (sIc (n := -1) (by decide)) ?_
  refine sn_op sIret ?_
  exact sn_nil
def csX5_seekHome : List AC := [([(2, 197, 0)], 3, [((0, -1, -1), [], []), ((0, 0, 79), [((197, 9), (1, 80))], [])], [327992, 328008, 42949673157], [])]
set_option maxRecDepth 100000 in
set_option maxHeartbeats 4000000 in
theorem sfX5_seekHome (c : Nat × Nat) (hc : c = cA ∨ c = cB) : ∀ ac ∈ csX5_seekHome, SafeC TYg c mX5_seekHome ac := by
  intro ac hac
  simp only [csX5_seekHome, List.mem_cons, List.not_mem_nil, or_false] at hac
  rcases hac with rfl
  · rcases hc with rfl | rfl
    · exact safe_of (ann := [(7, [(2, 197, 0), (0, 0, 40), (4, 0, 0), (4, 0, 0)], [(3, 0, 0, 2), (0, 1, 0, 4294967296)]), (65, [(2, 197, 0), (0, 0, 80), (4, 0, 0), (4, 0, 0)], [(3, 0, 0, 1), (0, 1, 0, 4294967296)])]) (fuel := 600) okX5_seekHome (snX5_seekHome _ _ cA (Or.inl rfl)) (List.forall_mem_cons.mpr ⟨⟨_, _, rfl⟩, List.forall_mem_cons.mpr ⟨⟨_, _, rfl⟩, (fun q hq => by cases hq)⟩⟩) (by decide) (by decide +kernel)
    · exact safe_of (ann := [(7, [(2, 197, 0), (0, 0, 40), (4, 0, 0), (4, 0, 0)], [(3, 0, 0, 2), (0, 1, 0, 4294967296)]), (65, [(2, 197, 0), (0, 0, 80), (4, 0, 0), (4, 0, 0)], [(3, 0, 0, 1), (0, 1, 0, 4294967296)])]) (fuel := 600) okX5_seekHome (snX5_seekHome _ _ cB (Or.inr rfl)) (List.forall_mem_cons.mpr ⟨⟨_, _, rfl⟩, List.forall_mem_cons.mpr ⟨⟨_, _, rfl⟩, (fun q hq => by cases hq)⟩⟩) (by decide) (by decide +kernel)
set_option maxRecDepth 100000 in
def adX5_send (D : KK) : List ACE := (0, 1, some (aIl 1)) :: (1, 1, some (aIs 3)) :: (2, 1, some (aIc (0))) :: (3, 2, some (aIs 4)) :: (5, 0, none) :: (5, 2, some (aIl 4)) :: (7, 1, some (aAl 0)) :: (8, 3, some (aGetR [(197, 328008)])) :: (11, 1, some (aLen)) :: (12, 3, some (aCm (fun C x y => bLe C y x) bLt 49)) :: (15, 1, some (aAl 0)) :: (16, 3, some (aGetR [(197, 327992)])) :: (19, 1, some (aIl 3)) :: (20, 1, some (aIaldK D)) :: (21, 3, some (aIf bLt (fun C x y => bLe C y x) 49)) :: (24, 1, some (aAl 0)) :: (25, 1, some (aAl 0)) :: (26, 3, some (aGetR [(197, 327992)])) :: (29, 1, some (aIl 3)) :: (30, 1, some (aIaldK D)) :: (31, 1, some (aIl 3)) :: (32, 1, some (aIl 2)) :: (33, 3, some (aCall D 5 4 6 csX5_addBetween)) :: (36, 1, some (aAl 0)) :: (37, 3, some (aGetR [(197, 327992)])) :: (40, 1, some (aIl 3)) :: (41, 1, some (aIaldK D)) :: (42, 1, some (aIs 3)) :: (43, 3, some (aInc 4 (1))) :: (46, 3, some (aGoto 5)) :: (49, 1, some (aVret)) :: []
set_option maxRecDepth 100000 in
set_option maxHeartbeats 4000000 in
theorem snX5_send (d : Nat) (W : List Nat) (c : Nat × Nat) (hc : c = cA ∨ c = cB) : SndAll (d, TYg, c, W) cdX5_send (adX5_send (d, TYg, c, W)) := by
  unfold cdX5_send adX5_send
  refine sn_op sIl ?_
  refine sn_op sIs ?_
  refine sn_op (sIc (n := 0) (by decide)) ?_
  refine sn_op sIs ?_
  refine sn_st ?_
  refine sn_op sIl ?_
  refine sn_op sAl ?_
  refine sn_op sGetR ?_
  refine sn_op sLen ?_
  refine sn_op sCmGe ?_
  refine sn_op sAl ?_
  refine sn_op sGetR ?_
  refine sn_op sIl ?_
  refine sn_op sIaldK ?_
  refine sn_op sIfLt ?_
  refine sn_op sAl ?_
  refine sn_op sAl ?_
  refine sn_op sGetR ?_
  refine sn_op sIl ?_
  refine sn_op sIaldK ?_
  refine sn_op sIl ?_
  refine sn_op sIl ?_
  refine sn_op (sCV (sfX5_addBetween c hc) (by decide) (by decide +kernel)) ?_
  refine sn_op sAl ?_
  refine sn_op sGetR ?_
  refine sn_op sIl ?_
  refine sn_op sIaldK ?_
  refine sn_op sIs ?_
  refine sn_op (sInc (n := 1) (by decide)) ?_
  refine sn_op sGoto ?_
  refine sn_op sVret ?_
  exact sn_nil
def csX5_send : List AC := [([(2, 197, 0), (0, 0, 79), (0, 999, 999)], 2, [((9, 0, 0), [], [])], [164120, 6553896], []), ([(2, 197, 0), (0, 0, 79), (0, -2147483648, 999)], 2, [((9, 0, 0), [], [])], [164120, 6553896], [])]
set_option maxRecDepth 100000 in
set_option maxHeartbeats 4000000 in
theorem sfX5_send (c : Nat × Nat) (hc : c = cA ∨ c = cB) : ∀ ac ∈ csX5_send, SafeC TYg c mX5_send ac := by
  intro ac hac
  simp only [csX5_send, List.mem_cons, List.not_mem_nil, or_false] at hac
  rcases hac with rfl | rfl
  · rcases hc with rfl | rfl
    · exact safe_of (ann := [(5, [(2, 197, 0), (0, 0, 79), (0, 999, 999), (0, 0, 79), (0, 0, 80)], [(0, 4, 0, 4294967296)])]) (fuel := 600) okX5_send (snX5_send _ _ cA (Or.inl rfl)) (List.forall_mem_cons.mpr ⟨⟨_, _, rfl⟩, (fun q hq => by cases hq)⟩) (by decide) (by decide +kernel)
    · exact safe_of (ann := [(5, [(2, 197, 0), (0, 0, 79), (0, 999, 999), (0, 0, 79), (0, 0, 80)], [(0, 4, 0, 4294967296)])]) (fuel := 600) okX5_send (snX5_send _ _ cB (Or.inr rfl)) (List.forall_mem_cons.mpr ⟨⟨_, _, rfl⟩, (fun q hq => by cases hq)⟩) (by decide) (by decide +kernel)
  · rcases hc with rfl | rfl
    · exact safe_of (ann := [(5, [(2, 197, 0), (0, 0, 79), (0, -2147483648, 999), (0, 0, 79), (0, 0, 80)], [(0, 4, 0, 4294967296)])]) (fuel := 600) okX5_send (snX5_send _ _ cA (Or.inl rfl)) (List.forall_mem_cons.mpr ⟨⟨_, _, rfl⟩, (fun q hq => by cases hq)⟩) (by decide) (by decide +kernel)
    · exact safe_of (ann := [(5, [(2, 197, 0), (0, 0, 79), (0, -2147483648, 999), (0, 0, 79), (0, 0, 80)], [(0, 4, 0, 4294967296)])]) (fuel := 600) okX5_send (snX5_send _ _ cB (Or.inr rfl)) (List.forall_mem_cons.mpr ⟨⟨_, _, rfl⟩, (fun q hq => by cases hq)⟩) (by decide) (by decide +kernel)
set_option maxRecDepth 100000 in
def adX5_most (D : KK) : List ACE := (0, 1, some (aAl 0)) :: (1, 1, some (aAl 1)) :: (2, 1, some (aIl 3)) :: (3, 2, some (aIl 4)) :: (5, 3, some (aCall D 5 4 6 csX5_load)) :: (8, 1, some (aAl 0)) :: (9, 1, some (aIl 2)) :: (10, 3, some (aPutI D 5 10)) :: (13, 1, some (aIc (0))) :: (14, 2, some (aIs 5)) :: (16, 1, some (aIc (0))) :: (17, 2, some (aIs 6)) :: (19, 0, none) :: (19, 2, some (aIl 6)) :: (21, 2, some (aIc (39960))) :: (23, 3, some (aCm (fun C x y => bLe C y x) bLt 69)) :: (26, 1, some (aAl 0)) :: (27, 3, some (aCall D 5 1 4 csX5_seekHome)) :: (30, 2, some (aIs 7)) :: (32, 2, some (aIl 7)) :: (34, 3, some (aIf (fun C x y => bLe C y x) bLt 40)) :: (37, 2, some (aIl 5)) :: (39, 1, some (aIret)) :: (40, 1, some (aAl 0)) :: (41, 2, some (aIl 7)) :: (43, 3, some (aCall D 5 2 5 csX5_narrowest)) :: (46, 2, some (aIs 8)) :: (48, 1, some (aAl 0)) :: (49, 2, some (aIl 7)) :: (51, 2, some (aIl 8)) :: (53, 3, some (aCall D 5 3 5 csX5_send)) :: (56, 2, some (aIl 5)) :: (58, 2, some (aIl 8)) :: (60, 1, some (aBin fAdd)) :: (61, 2, some (aIs 5)) :: (63, 3, some (aInc 6 (1))) :: (66, 3, some (aGoto 19)) :: (69, 2, some (aIl 5)) :: (71, 1, some (aIret)) :: []
set_option maxRecDepth 100000 in
set_option maxHeartbeats 4000000 in
theorem snX5_most (d : Nat) (W : List Nat) (c : Nat × Nat) (hc : c = cA ∨ c = cB) : SndAll (d, TYg, c, W) cdX5_most (adX5_most (d, TYg, c, W)) := by
  unfold cdX5_most adX5_most
  refine sn_op sAl ?_
  refine sn_op sAl ?_
  refine sn_op sIl ?_
  refine sn_op sIl ?_
  refine sn_op (sCV (sfX5_load c hc) (by decide) (by decide +kernel)) ?_
  refine sn_op sAl ?_
  refine sn_op sIl ?_
  refine sn_op sPutI ?_
  refine sn_op (sIc (n := 0) (by decide)) ?_
  refine sn_op sIs ?_
  refine sn_op (sIc (n := 0) (by decide)) ?_
  refine sn_op sIs ?_
  refine sn_st ?_
  refine sn_op sIl ?_
  refine sn_op (sIc (n := 39960) (by decide)) ?_
  refine sn_op sCmGe ?_
  refine sn_op sAl ?_
  refine sn_op (sCI (sfX5_seekHome c hc) (by decide) (by decide +kernel)) ?_
  refine sn_op sIs ?_
  refine sn_op sIl ?_
  refine sn_op sIfGe ?_
  refine sn_op sIl ?_
  refine sn_op sIret ?_
  refine sn_op sAl ?_
  refine sn_op sIl ?_
  refine sn_op (sCI (sfX5_narrowest c hc) (by decide) (by decide +kernel)) ?_
  refine sn_op sIs ?_
  refine sn_op sAl ?_
  refine sn_op sIl ?_
  refine sn_op sIl ?_
  refine sn_op (sCV (sfX5_send c hc) (by decide) (by decide +kernel)) ?_
  refine sn_op sIl ?_
  refine sn_op sIl ?_
  refine sn_op sIadd ?_
  refine sn_op sIs ?_
  refine sn_op (sInc (n := 1) (by decide)) ?_
  refine sn_op sGoto ?_
  refine sn_op sIl ?_
  refine sn_op sIret ?_
  exact sn_nil
def csX5_most : List AC := [([(2, 197, 0), (2, 452, 0), (0, 0, 11), (0, 0, 11), (0, -2147483648, 2147483647)], 4, [((0, -2147483648, 2147483647), [], [])], [164056, 164072, 164088, 164104, 164120, 327992, 328008, 6553896, 38654705861, 42949673157, 47244640453], []), ([(2, 197, 0), (2, 836, 0), (0, 0, 11), (0, 0, 11), (0, -2147483648, 2147483647)], 4, [((0, -2147483648, 2147483647), [], [])], [164056, 164072, 164088, 164104, 164120, 327992, 328008, 6553896, 38654705861, 42949673157, 47244640453], [])]
set_option maxRecDepth 100000 in
set_option maxHeartbeats 4000000 in
theorem sfX5_most (c : Nat × Nat) (hc : c = cA ∨ c = cB) : ∀ ac ∈ csX5_most, SafeC TYg c mX5_most ac := by
  intro ac hac
  simp only [csX5_most, List.mem_cons, List.not_mem_nil, or_false] at hac
  rcases hac with rfl | rfl
  · rcases hc with rfl | rfl
    · exact safe_of (ann := [(19, [(2, 197, 0), (2, 452, 0), (0, 0, 11), (0, 0, 11), (0, -2147483648, 2147483647), (0, -2147483648, 2147483647), (0, 0, 99999), (4, 0, 0), (4, 0, 0)], [(0, 6, 0, 4294967296)])]) (fuel := 600) okX5_most (snX5_most _ _ cA (Or.inl rfl)) (List.forall_mem_cons.mpr ⟨⟨_, _, rfl⟩, (fun q hq => by cases hq)⟩) (by decide) (by decide +kernel)
    · exact safe_of (ann := [(19, [(2, 197, 0), (2, 452, 0), (0, 0, 11), (0, 0, 11), (0, -2147483648, 2147483647), (0, -2147483648, 2147483647), (0, 0, 99999), (4, 0, 0), (4, 0, 0)], [(0, 6, 0, 4294967296)])]) (fuel := 600) okX5_most (snX5_most _ _ cB (Or.inr rfl)) (List.forall_mem_cons.mpr ⟨⟨_, _, rfl⟩, (fun q hq => by cases hq)⟩) (by decide) (by decide +kernel)
  · rcases hc with rfl | rfl
    · exact safe_of (ann := [(19, [(2, 197, 0), (2, 836, 0), (0, 0, 11), (0, 0, 11), (0, -2147483648, 2147483647), (0, -2147483648, 2147483647), (0, 0, 99999), (4, 0, 0), (4, 0, 0)], [(0, 6, 0, 4294967296)])]) (fuel := 600) okX5_most (snX5_most _ _ cA (Or.inl rfl)) (List.forall_mem_cons.mpr ⟨⟨_, _, rfl⟩, (fun q hq => by cases hq)⟩) (by decide) (by decide +kernel)
    · exact safe_of (ann := [(19, [(2, 197, 0), (2, 836, 0), (0, 0, 11), (0, 0, 11), (0, -2147483648, 2147483647), (0, -2147483648, 2147483647), (0, 0, 99999), (4, 0, 0), (4, 0, 0)], [(0, 6, 0, 4294967296)])]) (fuel := 600) okX5_most (snX5_most _ _ cB (Or.inr rfl)) (List.forall_mem_cons.mpr ⟨⟨_, _, rfl⟩, (fun q hq => by cases hq)⟩) (by decide) (by decide +kernel)
