/-! contracts -/
set_option maxRecDepth 100000 in
def adX1_load (D : KK) : List ACE := (0, 1, some (aAl 0)) :: (1, 1, some (aAl 1)) :: (2, 3, some (aGetI D 4 7)) :: (5, 3, some (aPutI D 1 8)) :: (8, 1, some (aIc (0))) :: (9, 2, some (aIs 4)) :: (11, 0, none) :: (11, 2, some (aIl 4)) :: (13, 1, some (aAl 0)) :: (14, 3, some (aGetI D 1 8)) :: (17, 3, some (aCm (fun C x y => bLe C y x) bLt 148)) :: (20, 1, some (aAl 0)) :: (21, 3, some (aGetR [(49, 163944)])) :: (24, 2, some (aIl 4)) :: (26, 1, some (aAl 1)) :: (27, 3, some (aGetR [(452, 164312), (836, 164696)])) :: (30, 2, some (aIl 4)) :: (32, 1, some (aIald D)) :: (33, 1, some (aIast D)) :: (34, 1, some (aAl 0)) :: (35, 3, some (aGetR [(49, 163960)])) :: (38, 2, some (aIl 4)) :: (40, 1, some (aAl 1)) :: (41, 3, some (aGetR [(452, 164328), (836, 164712)])) :: (44, 2, some (aIl 4)) :: (46, 1, some (aIald D)) :: (47, 1, some (aIast D)) :: (48, 1, some (aAl 0)) :: (49, 3, some (aGetR [(49, 163976)])) :: (52, 2, some (aIl 4)) :: (54, 1, some (aAl 1)) :: (55, 3, some (aGetR [(452, 164392), (836, 164776)])) :: (58, 2, some (aIl 4)) :: (60, 1, some (aIald D)) :: (61, 1, some (aIast D)) :: (62, 1, some (aAl 0)) :: (63, 3, some (aGetR [(49, 163992)])) :: (66, 2, some (aIl 4)) :: (68, 1, some (aAl 1)) :: (69, 3, some (aGetR [(452, 164360), (836, 164744)])) :: (72, 2, some (aIl 4)) :: (74, 1, some (aIald D)) :: (75, 1, some (aIl 2)) :: (76, 3, some (aIf bNe bEq 91)) :: (79, 1, some (aIc (4))) :: (80, 1, some (aAl 1)) :: (81, 3, some (aGetR [(452, 164408), (836, 164792)])) :: (84, 2, some (aIl 4)) :: (86, 1, some (aIald D)) :: (87, 1, some (aBin fMul)) :: (88, 3, some (aGoto 92)) :: (91, 1, some (aIc (0))) :: (92, 1, some (aBin fAdd)) :: (93, 1, some (aIast D)) :: (94, 1, some (aIl 2)) :: (95, 3, some (aIf bNe bEq 112)) :: (98, 1, some (aAl 1)) :: (99, 3, some (aGetR [(452, 164408), (836, 164792)])) :: (102, 2, some (aIl 4)) :: (104, 1, some (aIald D)) :: (105, 3, some (aIf bNe bEq 112)) :: (108, 1, some (aIc (1))) :: (109, 3, some (aGoto 113)) :: (112, 1, some (aIc (0))) :: (113, 2, some (aIs 5)) :: (115, 2, some (aIl 5)) :: (117, 3, some (aIf bNe bEq 134)) :: (120, 1, some (aIl 3)) :: (121, 1, some (aAl 0)) :: (122, 3, some (aGetR [(49, 163944)])) :: (125, 2, some (aIl 4)) :: (127, 1, some (aIald D)) :: (128, 1, some (aBin fShr)) :: (129, 1, some (aIc (1))) :: (130, 1, some (aBin fAnd)) :: (131, 3, some (aIf bEq bNe 142)) :: (134, 1, some (aAl 0)) :: (135, 3, some (aGetR [(49, 163992)])) :: (138, 2, some (aIl 4)) :: (140, 1, some (aIc (-1))) :: (141, 1, some (aIast D)) :: (142, 3, some (aInc 4 (1))) :: (145, 3, some (aGoto 11)) :: (148, 1, some (aVret)) :: []
set_option maxRecDepth 100000 in
set_option maxHeartbeats 4000000 in
theorem snX1_load (d : Nat) (W : List Nat) (c : Nat × Nat) (hc : c = cA ∨ c = cB) : SndAll (d, TYg, c, W) cdX1_load (adX1_load (d, TYg, c, W)) := by
  unfold cdX1_load adX1_load
  refine sn_op sAl ?_
  refine sn_op sAl ?_
  refine sn_op sGetI ?_
  refine sn_op sPutI ?_
  refine sn_op (sIc (n := 0) (by decide)) ?_
  refine sn_op sIs ?_
  refine sn_st ?_
  refine sn_op sIl ?_
  refine sn_op sAl ?_
  refine sn_op sGetI ?_
  refine sn_op sCmGe ?_
  refine sn_op sAl ?_
  refine sn_op sGetR ?_
  refine sn_op sIl ?_
  refine sn_op sAl ?_
  refine sn_op sGetR ?_
  refine sn_op sIl ?_
  refine sn_op sIald ?_
  refine sn_op sIast ?_
  refine sn_op sAl ?_
  refine sn_op sGetR ?_
  refine sn_op sIl ?_
  refine sn_op sAl ?_
  refine sn_op sGetR ?_
  refine sn_op sIl ?_
  refine sn_op sIald ?_
  refine sn_op sIast ?_
  refine sn_op sAl ?_
  refine sn_op sGetR ?_
  refine sn_op sIl ?_
  refine sn_op sAl ?_
  refine sn_op sGetR ?_
  refine sn_op sIl ?_
  refine sn_op sIald ?_
  refine sn_op sIast ?_
  refine sn_op sAl ?_
  refine sn_op sGetR ?_
  refine sn_op sIl ?_
  refine sn_op sAl ?_
  refine sn_op sGetR ?_
  refine sn_op sIl ?_
  refine sn_op sIald ?_
  refine sn_op sIl ?_
  refine sn_op sIfNe ?_
  refine sn_op (sIc (n := 4) (by decide)) ?_
  refine sn_op sAl ?_
  refine sn_op sGetR ?_
  refine sn_op sIl ?_
  refine sn_op sIald ?_
  refine sn_op sImul ?_
  refine sn_op sGoto ?_
  refine sn_op (sIc (n := 0) (by decide)) ?_
  refine sn_op sIadd ?_
  refine sn_op sIast ?_
  refine sn_op sIl ?_
  refine sn_op sIfNe ?_
  refine sn_op sAl ?_
  refine sn_op sGetR ?_
  refine sn_op sIl ?_
  refine sn_op sIald ?_
  refine sn_op sIfNe ?_
  refine sn_op (sIc (n := 1) (by decide)) ?_
  refine sn_op sGoto ?_
  refine sn_op (sIc (n := 0) (by decide)) ?_
  refine sn_op sIs ?_
  refine sn_op sIl ?_
  refine sn_op sIfNe ?_
  refine sn_op sIl ?_
  refine sn_op sAl ?_
  refine sn_op sGetR ?_
  refine sn_op sIl ?_
  refine sn_op sIald ?_
  refine sn_op sIshr ?_
  refine sn_op (sIc (n := 1) (by decide)) ?_
  refine sn_op sIand ?_
  refine sn_op sIfEq ?_
  refine sn_op sAl ?_
  refine sn_op sGetR ?_
  refine sn_op sIl ?_
  refine sn_op (sIc (n := -1) (by decide)) ?_
  refine sn_op sIast ?_
  refine sn_op (sInc (n := 1) (by decide)) ?_
  refine sn_op sGoto ?_
  refine sn_op sVret ?_
  exact sn_nil
def csX1_load : List AC := [([(2, 49, 0), (2, 452, 0), (0, 0, 1), (0, -2147483648, 2147483647)], 1, [((9, 0, 0), [], [])], [163944, 163960, 163976, 163992, 38654705713], []), ([(2, 49, 0), (2, 836, 0), (0, 0, 1), (0, -2147483648, 2147483647)], 1, [((9, 0, 0), [], [])], [163944, 163960, 163976, 163992, 38654705713], [])]
set_option maxRecDepth 100000 in
set_option maxHeartbeats 4000000 in
theorem sfX1_load (c : Nat × Nat) (hc : c = cA ∨ c = cB) : ∀ ac ∈ csX1_load, SafeC TYg c mX1_load ac := by
  intro ac hac
  simp only [csX1_load, List.mem_cons, List.not_mem_nil, or_false] at hac
  rcases hac with rfl | rfl
  · rcases hc with rfl | rfl
    · exact safe_of (ann := [(11, [(2, 49, 0), (2, 452, 0), (0, 0, 1), (0, -2147483648, 2147483647), (0, 0, 40), (4, 0, 0)], [(0, 4, 0, 4294967296)])]) (fuel := 600) okX1_load (snX1_load _ _ cA (Or.inl rfl)) (List.forall_mem_cons.mpr ⟨⟨_, _, rfl⟩, (fun q hq => by cases hq)⟩) (by decide) (by decide +kernel)
    · exact safe_of (ann := [(11, [(2, 49, 0), (2, 452, 0), (0, 0, 1), (0, -2147483648, 2147483647), (0, 0, 40), (4, 0, 0)], [(0, 4, 0, 4294967296)])]) (fuel := 600) okX1_load (snX1_load _ _ cB (Or.inr rfl)) (List.forall_mem_cons.mpr ⟨⟨_, _, rfl⟩, (fun q hq => by cases hq)⟩) (by decide) (by decide +kernel)
  · rcases hc with rfl | rfl
    · exact safe_of (ann := [(11, [(2, 49, 0), (2, 836, 0), (0, 0, 1), (0, -2147483648, 2147483647), (0, 0, 40), (4, 0, 0)], [(0, 4, 0, 4294967296)])]) (fuel := 600) okX1_load (snX1_load _ _ cA (Or.inl rfl)) (List.forall_mem_cons.mpr ⟨⟨_, _, rfl⟩, (fun q hq => by cases hq)⟩) (by decide) (by decide +kernel)
    · exact safe_of (ann := [(11, [(2, 49, 0), (2, 836, 0), (0, 0, 1), (0, -2147483648, 2147483647), (0, 0, 40), (4, 0, 0)], [(0, 4, 0, 4294967296)])]) (fuel := 600) okX1_load (snX1_load _ _ cB (Or.inr rfl)) (List.forall_mem_cons.mpr ⟨⟨_, _, rfl⟩, (fun q hq => by cases hq)⟩) (by decide) (by decide +kernel)
set_option maxRecDepth 100000 in
def adX1_find (D : KK) : List ACE := (0, 1, some (aIl 2)) :: (1, 1, some (aAl 0)) :: (2, 3, some (aGetI D 1 14)) :: (5, 3, some (aCm bNe bEq 38)) :: (8, 1, some (aIl 3)) :: (9, 1, some (aAl 0)) :: (10, 3, some (aGetI D 1 10)) :: (13, 3, some (aCm bNe bEq 38)) :: (16, 2, some (aIl 4)) :: (18, 1, some (aAl 0)) :: (19, 3, some (aGetI D 1 15)) :: (22, 3, some (aCm bNe bEq 38)) :: (25, 2, some (aIl 5)) :: (27, 1, some (aAl 0)) :: (28, 3, some (aGetI D 1 16)) :: (31, 3, some (aCm bNe bEq 38)) :: (34, 1, some (aIc (1))) :: (35, 3, some (aGoto 39)) :: (38, 1, some (aIc (0))) :: (39, 2, some (aIs 6)) :: (41, 1, some (aAl 0)) :: (42, 3, some (aGetI D 1 13)) :: (45, 3, some (aIf bEq bNe 73)) :: (48, 2, some (aIl 6)) :: (50, 3, some (aIf bEq bNe 73)) :: (53, 1, some (aAl 0)) :: (54, 3, some (aGetI D 1 9)) :: (57, 3, some (aIc (200))) :: (60, 3, some (aCm bLe (fun C x y => bLt C y x) 68)) :: (63, 2, some (aIc (-2))) :: (65, 3, some (aGoto 72)) :: (68, 1, some (aAl 0)) :: (69, 3, some (aGetI D 1 9)) :: (72, 1, some (aIret)) :: (73, 1, some (aAl 0)) :: (74, 1, some (aAl 1)) :: (75, 1, some (aIl 2)) :: (76, 2, some (aIl 5)) :: (78, 3, some (aCall D 1 4 6 csX1_load)) :: (81, 1, some (aAl 0)) :: (82, 1, some (aIl 2)) :: (83, 3, some (aPutI D 1 14)) :: (86, 1, some (aAl 0)) :: (87, 2, some (aIl 4)) :: (89, 3, some (aPutI D 1 15)) :: (92, 1, some (aAl 0)) :: (93, 2, some (aIl 5)) :: (95, 3, some (aPutI D 1 16)) :: (98, 1, some (aAl 0)) :: (99, 1, some (aIc (1))) :: (100, 3, some (aPutZ D 1 13)) :: (103, 1, some (aAl 0)) :: (104, 1, some (aIl 3)) :: (105, 2, some (aIl 4)) :: (107, 3, some (aCall D 1 3 4 csX1_search)) :: (110, 1, some (aIret)) :: []
set_option maxRecDepth 100000 in
set_option maxHeartbeats 4000000 in
theorem snX1_find (d : Nat) (W : List Nat) (c : Nat × Nat) (hc : c = cA ∨ c = cB) : SndAll (d, TYg, c, W) cdX1_find (adX1_find (d, TYg, c, W)) := by
  unfold cdX1_find adX1_find
  refine sn_op sIl ?_
  refine sn_op sAl ?_
  refine sn_op sGetI ?_
  refine sn_op sCmNe ?_
  refine sn_op sIl ?_
  refine sn_op sAl ?_
  refine sn_op sGetI ?_
  refine sn_op sCmNe ?_
  refine sn_op sIl ?_
  refine sn_op sAl ?_
  refine sn_op sGetI ?_
  refine sn_op sCmNe ?_
  refine sn_op sIl ?_
  refine sn_op sAl ?_
  refine sn_op sGetI ?_
  refine sn_op sCmNe ?_
  refine sn_op (sIc (n := 1) (by decide)) ?_
  refine sn_op sGoto ?_
  refine sn_op (sIc (n := 0) (by decide)) ?_
  refine sn_op sIs ?_
  refine sn_op sAl ?_
  refine sn_op sGetI ?_
  refine sn_op sIfEq ?_
  refine sn_op sIl ?_
  refine sn_op sIfEq ?_
  refine sn_op sAl ?_
  refine sn_op sGetI ?_
  refine sn_op (sIc (n := 200) (by decide)) ?_
  refine sn_op sCmLe ?_
  refine sn_op (sIc (n := -2) (by decide)) ?_
  refine sn_op sGoto ?_
  refine sn_op sAl ?_
  refine sn_op sGetI ?_
  refine sn_op sIret ?_
  refine sn_op sAl ?_
  refine sn_op sAl ?_
  refine sn_op sIl ?_
  refine sn_op sIl ?_
  refine sn_op (sCV (sfX1_load c hc) (by decide) (by decide +kernel)) ?_
  refine sn_op sAl ?_
  refine sn_op sIl ?_
  refine sn_op sPutI ?_
  refine sn_op sAl ?_
  refine sn_op sIl ?_
  refine sn_op sPutI ?_
  refine sn_op sAl ?_
  refine sn_op sIl ?_
  refine sn_op sPutI ?_
  refine sn_op sAl ?_
  refine sn_op (sIc (n := 1) (by decide)) ?_
  refine sn_op sPutZ ?_
  refine sn_op sAl ?_
  refine sn_op sIl ?_
  refine sn_op sIl ?_
  refine sn_op (sCI (sfX1_search c hc) (by decide) (by decide +kernel)) ?_
  refine sn_op sIret ?_
  exact sn_nil
def csX1_find : List AC := [([(2, 49, 0), (2, 452, 0), (0, 0, 1), (0, 2, 6), (0, 0, 400), (0, -2147483648, 2147483647)], 9, [((0, -2, -2), [((49, 9), (201, 201)), ((49, 13), (1, 1)), ((49, 14), (0, 1)), ((49, 15), (0, 400))], []), ((0, 0, 200), [((49, 9), (0, 200)), ((49, 13), (1, 1)), ((49, 14), (0, 1)), ((49, 15), (0, 400))], [])], [163944, 163960, 163976, 163992, 164009, 295097, 819273, 819288, 38654705713, 42949673009, 47244640305, 51539607601, 55834574897, 60129542193, 64424509489, 68719476785, 73014444081], []), ([(2, 49, 0), (2, 836, 0), (0, 0, 1), (0, 2, 6), (0, 0, 400), (0, -2147483648, 2147483647)], 9, [((0, -2, -2), [((49, 9), (201, 201)), ((49, 13), (1, 1)), ((49, 14), (0, 1)), ((49, 15), (0, 400))], []), ((0, 0, 200), [((49, 9), (0, 200)), ((49, 13), (1, 1)), ((49, 14), (0, 1)), ((49, 15), (0, 400))], [])], [163944, 163960, 163976, 163992, 164009, 295097, 819273, 819288, 38654705713, 42949673009, 47244640305, 51539607601, 55834574897, 60129542193, 64424509489, 68719476785, 73014444081], [])]
set_option maxRecDepth 100000 in
set_option maxHeartbeats 4000000 in
theorem sfX1_find (c : Nat × Nat) (hc : c = cA ∨ c = cB) : ∀ ac ∈ csX1_find, SafeC TYg c mX1_find ac := by
  intro ac hac
  simp only [csX1_find, List.mem_cons, List.not_mem_nil, or_false] at hac
  rcases hac with rfl | rfl
  · rcases hc with rfl | rfl
    · exact safe_of (ann := []) (fuel := 600) okX1_find (snX1_find _ _ cA (Or.inl rfl)) (fun q hq => by cases hq) (by decide) (by decide +kernel)
    · exact safe_of (ann := []) (fuel := 600) okX1_find (snX1_find _ _ cB (Or.inr rfl)) (fun q hq => by cases hq) (by decide) (by decide +kernel)
  · rcases hc with rfl | rfl
    · exact safe_of (ann := []) (fuel := 600) okX1_find (snX1_find _ _ cA (Or.inl rfl)) (fun q hq => by cases hq) (by decide) (by decide +kernel)
    · exact safe_of (ann := []) (fuel := 600) okX1_find (snX1_find _ _ cB (Or.inr rfl)) (fun q hq => by cases hq) (by decide) (by decide +kernel)
set_option maxRecDepth 100000 in
def adX1_forget (D : KK) : List ACE := (0, 1, some (aAl 0)) :: (1, 1, some (aIc (0))) :: (2, 3, some (aPutZ D 1 13)) :: (5, 1, some (aVret)) :: []
set_option maxRecDepth 100000 in
set_option maxHeartbeats 4000000 in
theorem snX1_forget (d : Nat) (W : List Nat) (c : Nat × Nat) (hc : c = cA ∨ c = cB) : SndAll (d, TYg, c, W) cdX1_forget (adX1_forget (d, TYg, c, W)) := by
  unfold cdX1_forget adX1_forget
  refine sn_op sAl ?_
  refine sn_op (sIc (n := 0) (by decide)) ?_
  refine sn_op sPutZ ?_
  refine sn_op sVret ?_
  exact sn_nil
def csX1_forget : List AC := [([(2, 49, 0)], 1, [((9, 0, 0), [((49, 13), (0, 0))], [])], [60129542193], [])]
set_option maxRecDepth 100000 in
set_option maxHeartbeats 4000000 in
theorem sfX1_forget (c : Nat × Nat) (hc : c = cA ∨ c = cB) : ∀ ac ∈ csX1_forget, SafeC TYg c mX1_forget ac := by
  intro ac hac
  simp only [csX1_forget, List.mem_cons, List.not_mem_nil, or_false] at hac
  rcases hac with rfl
  · rcases hc with rfl | rfl
    · exact safe_of (ann := []) (fuel := 600) okX1_forget (snX1_forget _ _ cA (Or.inl rfl)) (fun q hq => by cases hq) (by decide) (by decide +kernel)
    · exact safe_of (ann := []) (fuel := 600) okX1_forget (snX1_forget _ _ cB (Or.inr rfl)) (fun q hq => by cases hq) (by decide) (by decide +kernel)
set_option maxRecDepth 100000 in
def adX1_shuffle (D : KK) : List ACE := (0, 1, some (aJl 1)) :: (1, 1, some (aJs 3)) :: (2, 1, some (aAl 0)) :: (3, 3, some (aGetI D 1 8)) :: (6, 1, some (aIc (1))) :: (7, 1, some (aBin fSub)) :: (8, 2, some (aIs 5)) :: (10, 0, none) :: (10, 2, some (aIl 5)) :: (12, 1, some (aIc (1))) :: (13, 3, some (aCm bLt (fun C x y => bLe C y x) 82)) :: (16, 1, some (aJl 3)) :: (17, 3, some (aJc (1103515245))) :: (20, 1, some (aLL)) :: (21, 3, some (aJc (12345))) :: (24, 1, some (aLL)) :: (25, 3, some (aJc (2147483647))) :: (28, 1, some (aLandR)) :: (29, 1, some (aJs 3)) :: (30, 1, some (aJl 3)) :: (31, 3, some (aJc (65536))) :: (34, 1, some (aLdivR)) :: (35, 2, some (aIl 5)) :: (37, 1, some (aIc (1))) :: (38, 1, some (aBin fAdd)) :: (39, 1, some (aUn (fun C x => (6, rng C x)))) :: (40, 1, some (aLremR)) :: (41, 1, some (aL2iR)) :: (42, 2, some (aIs 6)) :: (44, 1, some (aAl 0)) :: (45, 3, some (aGetR [(49, 163960)])) :: (48, 2, some (aIl 5)) :: (50, 1, some (aIald D)) :: (51, 2, some (aIs 7)) :: (53, 1, some (aAl 0)) :: (54, 3, some (aGetR [(49, 163960)])) :: (57, 2, some (aIl 5)) :: (59, 1, some (aAl 0)) :: (60, 3, some (aGetR [(49, 163960)])) :: (63, 2, some (aIl 6)) :: (65, 1, some (aIald D)) :: (66, 1, some (aIast D)) :: (67, 1, some (aAl 0)) :: (68, 3, some (aGetR [(49, 163960)])) :: (71, 2, some (aIl 6)) :: (73, 2, some (aIl 7)) :: (75, 1, some (aIast D)) :: (76, 3, some (aInc 5 (-1))) :: (79, 3, some (aGoto 10)) :: (82, 1, some (aJl 3)) :: (83, 1, some (aJret)) :: []
set_option maxRecDepth 100000 in
set_option maxHeartbeats 4000000 in
theorem snX1_shuffle (d : Nat) (W : List Nat) (c : Nat × Nat) (hc : c = cA ∨ c = cB) : SndAll (d, TYg, c, W) cdX1_shuffle (adX1_shuffle (d, TYg, c, W)) := by
  unfold cdX1_shuffle adX1_shuffle
  refine sn_op sJl ?_
  refine sn_op sJs ?_
  refine sn_op sAl ?_
  refine sn_op sGetI ?_
  refine sn_op (sIc (n := 1) (by decide)) ?_
  refine sn_op sIsub ?_
  refine sn_op sIs ?_
  refine sn_st ?_
  refine sn_op sIl ?_
  refine sn_op (sIc (n := 1) (by decide)) ?_
  refine sn_op sCmLt ?_
  refine sn_op sJl ?_
  refine sn_op (sJc (n := 1103515245) (by decide)) ?_
  refine sn_op sLmul ?_
  refine sn_op (sJc (n := 12345) (by decide)) ?_
  refine sn_op sLadd ?_
  refine sn_op (sJc (n := 2147483647) (by decide)) ?_
  refine sn_op sLandR ?_
  refine sn_op sJs ?_
  refine sn_op sJl ?_
  refine sn_op (sJc (n := 65536) (by decide)) ?_
  refine sn_op sLdivR ?_
  refine sn_op sIl ?_
  refine sn_op (sIc (n := 1) (by decide)) ?_
  refine sn_op sIadd ?_
  refine sn_op sI2l ?_
  refine sn_op sLremR ?_
  refine sn_op sL2iR ?_
  refine sn_op sIs ?_
  refine sn_op sAl ?_
  refine sn_op sGetR ?_
  refine sn_op sIl ?_
  refine sn_op sIald ?_
  refine sn_op sIs ?_
  refine sn_op sAl ?_
  refine sn_op sGetR ?_
  refine sn_op sIl ?_
  refine sn_op sAl ?_
  refine sn_op sGetR ?_
  refine sn_op sIl ?_
  refine sn_op sIald ?_
  refine sn_op sIast ?_
  refine sn_op sAl ?_
  refine sn_op sGetR ?_
  refine sn_op sIl ?_
  refine sn_op sIl ?_
  refine sn_op sIast ?_
  refine sn_op (sInc (n := -1) (by decide)) ?_
  refine sn_op sGoto ?_
  refine sn_op sJl ?_
  refine sn_op sJret ?_
  exact sn_nil
def csX1_shuffle : List AC := [([(2, 49, 0), (8, 0, 0)], 1, [((8, 0, 0), [], [])], [163960], [])]
set_option maxRecDepth 100000 in
set_option maxHeartbeats 4000000 in
theorem sfX1_shuffle (c : Nat × Nat) (hc : c = cA ∨ c = cB) : ∀ ac ∈ csX1_shuffle, SafeC TYg c mX1_shuffle ac := by
  intro ac hac
  simp only [csX1_shuffle, List.mem_cons, List.not_mem_nil, or_false] at hac
  rcases hac with rfl
  · rcases hc with rfl | rfl
    · exact safe_of (ann := [(10, [(2, 49, 0), (8, 0, 0), (4, 0, 0), (8, 0, 0), (4, 0, 0), (0, -1, 39), (4, 0, 0), (4, 0, 0)], [(2, 5, 0, -4294967296)])]) (fuel := 600) okX1_shuffle (snX1_shuffle _ _ cA (Or.inl rfl)) (List.forall_mem_cons.mpr ⟨⟨_, _, rfl⟩, (fun q hq => by cases hq)⟩) (by decide) (by decide +kernel)
    · exact safe_of (ann := [(10, [(2, 49, 0), (8, 0, 0), (4, 0, 0), (8, 0, 0), (4, 0, 0), (0, -1, 39), (4, 0, 0), (4, 0, 0)], [(2, 5, 0, -4294967296)])]) (fuel := 600) okX1_shuffle (snX1_shuffle _ _ cB (Or.inr rfl)) (List.forall_mem_cons.mpr ⟨⟨_, _, rfl⟩, (fun q hq => by cases hq)⟩) (by decide) (by decide +kernel)
set_option maxRecDepth 100000 in
def adX2_find (D : KK) : List ACE := (0, 1, some (aIc (0))) :: (1, 1, some (aIs 2)) :: (2, 0, none) :: (2, 1, some (aIl 2)) :: (3, 1, some (aAl 0)) :: (4, 3, some (aGetI D 2 1)) :: (7, 3, some (aCm (fun C x y => bLe C y x) bLt 28)) :: (10, 1, some (aAl 0)) :: (11, 3, some (aGetR [(354, 49528), (386, 49560), (418, 49592), (738, 49912), (770, 49944), (802, 49976)])) :: (14, 1, some (aIl 2)) :: (15, 1, some (aIald D)) :: (16, 1, some (aIl 1)) :: (17, 3, some (aCm bNe bEq 22)) :: (20, 1, some (aIl 2)) :: (21, 1, some (aIret)) :: (22, 3, some (aInc 2 (1))) :: (25, 3, some (aGoto 2)) :: (28, 1, some (aIc (-1))) :: (29, 1, some (aIret)) :: []
set_option maxRecDepth 100000 in
set_option maxHeartbeats 4000000 in
theorem snX2_find (d : Nat) (W : List Nat) (c : Nat × Nat) (hc : c = cA ∨ c = cB) : SndAll (d, TYg, c, W) cdX2_find (adX2_find (d, TYg, c, W)) := by
  unfold cdX2_find adX2_find
  refine sn_op (sIc (n := 0) (by decide)) ?_
  refine sn_op sIs ?_
  refine sn_st ?_
  refine sn_op sIl ?_
  refine sn_op sAl ?_
  refine sn_op sGetI ?_
  refine sn_op sCmGe ?_
  refine sn_op sAl ?_
  refine sn_op sGetR ?_
  refine sn_op sIl ?_
  refine sn_op sIald ?_
  refine sn_op sIl ?_
  refine sn_op sCmNe ?_
  refine sn_op sIl ?_
  refine sn_op sIret ?_
  refine sn_op (sInc (n := 1) (by decide)) ?_
  refine sn_op sGoto ?_
  refine sn_op (sIc (n := -1) (by decide)) ?_
  refine sn_op sIret ?_
  exact sn_nil
def csX2_find : List AC := [([(2, 418, 0), (0, -2147483648, 2147483647)], 1, [((0, -1, -1), [], []), ((0, 0, 11), [((418, 1), (1, 12))], [])], [], []), ([(2, 386, 0), (0, -2147483648, 2147483647)], 1, [((0, -1, -1), [], []), ((0, 0, 11), [((386, 1), (1, 12))], [])], [], []), ([(2, 354, 0), (0, -2147483648, 2147483647)], 1, [((0, -1, -1), [], []), ((0, 0, 4), [((354, 1), (1, 5))], [])], [], []), ([(2, 802, 0), (0, -2147483648, 2147483647)], 1, [((0, -1, -1), [], []), ((0, 0, 11), [((802, 1), (1, 12))], [])], [], []), ([(2, 738, 0), (0, -2147483648, 2147483647)], 1, [((0, -1, -1), [], []), ((0, 0, 4), [((738, 1), (1, 5))], [])], [], []), ([(2, 770, 0), (0, -2147483648, 2147483647)], 1, [((0, -1, -1), [], []), ((0, 0, 11), [((770, 1), (1, 12))], [])], [], [])]
set_option maxRecDepth 100000 in
set_option maxHeartbeats 4000000 in
theorem sfX2_find (c : Nat × Nat) (hc : c = cA ∨ c = cB) : ∀ ac ∈ csX2_find, SafeC TYg c mX2_find ac := by
  intro ac hac
  simp only [csX2_find, List.mem_cons, List.not_mem_nil, or_false] at hac
  rcases hac with rfl | rfl | rfl | rfl | rfl | rfl
  · rcases hc with rfl | rfl
    · exact safe_of (ann := [(2, [(2, 418, 0), (0, -2147483648, 2147483647), (0, 0, 12)], [(0, 2, 0, 4294967296)])]) (fuel := 600) okX2_find (snX2_find _ _ cA (Or.inl rfl)) (List.forall_mem_cons.mpr ⟨⟨_, _, rfl⟩, (fun q hq => by cases hq)⟩) (by decide) (by decide +kernel)
    · exact safe_of (ann := [(2, [(2, 418, 0), (0, -2147483648, 2147483647), (0, 0, 12)], [(0, 2, 0, 4294967296)])]) (fuel := 600) okX2_find (snX2_find _ _ cB (Or.inr rfl)) (List.forall_mem_cons.mpr ⟨⟨_, _, rfl⟩, (fun q hq => by cases hq)⟩) (by decide) (by decide +kernel)
  · rcases hc with rfl | rfl
    · exact safe_of (ann := [(2, [(2, 386, 0), (0, -2147483648, 2147483647), (0, 0, 12)], [(0, 2, 0, 4294967296)])]) (fuel := 600) okX2_find (snX2_find _ _ cA (Or.inl rfl)) (List.forall_mem_cons.mpr ⟨⟨_, _, rfl⟩, (fun q hq => by cases hq)⟩) (by decide) (by decide +kernel)
    · exact safe_of (ann := [(2, [(2, 386, 0), (0, -2147483648, 2147483647), (0, 0, 12)], [(0, 2, 0, 4294967296)])]) (fuel := 600) okX2_find (snX2_find _ _ cB (Or.inr rfl)) (List.forall_mem_cons.mpr ⟨⟨_, _, rfl⟩, (fun q hq => by cases hq)⟩) (by decide) (by decide +kernel)
  · rcases hc with rfl | rfl
    · exact safe_of (ann := [(2, [(2, 354, 0), (0, -2147483648, 2147483647), (0, 0, 5)], [(0, 2, 0, 4294967296)])]) (fuel := 600) okX2_find (snX2_find _ _ cA (Or.inl rfl)) (List.forall_mem_cons.mpr ⟨⟨_, _, rfl⟩, (fun q hq => by cases hq)⟩) (by decide) (by decide +kernel)
    · exact safe_of (ann := [(2, [(2, 354, 0), (0, -2147483648, 2147483647), (0, 0, 5)], [(0, 2, 0, 4294967296)])]) (fuel := 600) okX2_find (snX2_find _ _ cB (Or.inr rfl)) (List.forall_mem_cons.mpr ⟨⟨_, _, rfl⟩, (fun q hq => by cases hq)⟩) (by decide) (by decide +kernel)
  · rcases hc with rfl | rfl
    · exact safe_of (ann := [(2, [(2, 802, 0), (0, -2147483648, 2147483647), (0, 0, 12)], [(0, 2, 0, 4294967296)])]) (fuel := 600) okX2_find (snX2_find _ _ cA (Or.inl rfl)) (List.forall_mem_cons.mpr ⟨⟨_, _, rfl⟩, (fun q hq => by cases hq)⟩) (by decide) (by decide +kernel)
    · exact safe_of (ann := [(2, [(2, 802, 0), (0, -2147483648, 2147483647), (0, 0, 12)], [(0, 2, 0, 4294967296)])]) (fuel := 600) okX2_find (snX2_find _ _ cB (Or.inr rfl)) (List.forall_mem_cons.mpr ⟨⟨_, _, rfl⟩, (fun q hq => by cases hq)⟩) (by decide) (by decide +kernel)
  · rcases hc with rfl | rfl
    · exact safe_of (ann := [(2, [(2, 738, 0), (0, -2147483648, 2147483647), (0, 0, 5)], [(0, 2, 0, 4294967296)])]) (fuel := 600) okX2_find (snX2_find _ _ cA (Or.inl rfl)) (List.forall_mem_cons.mpr ⟨⟨_, _, rfl⟩, (fun q hq => by cases hq)⟩) (by decide) (by decide +kernel)
    · exact safe_of (ann := [(2, [(2, 738, 0), (0, -2147483648, 2147483647), (0, 0, 5)], [(0, 2, 0, 4294967296)])]) (fuel := 600) okX2_find (snX2_find _ _ cB (Or.inr rfl)) (List.forall_mem_cons.mpr ⟨⟨_, _, rfl⟩, (fun q hq => by cases hq)⟩) (by decide) (by decide +kernel)
  · rcases hc with rfl | rfl
    · exact safe_of (ann := [(2, [(2, 770, 0), (0, -2147483648, 2147483647), (0, 0, 12)], [(0, 2, 0, 4294967296)])]) (fuel := 600) okX2_find (snX2_find _ _ cA (Or.inl rfl)) (List.forall_mem_cons.mpr ⟨⟨_, _, rfl⟩, (fun q hq => by cases hq)⟩) (by decide) (by decide +kernel)
    · exact safe_of (ann := [(2, [(2, 770, 0), (0, -2147483648, 2147483647), (0, 0, 12)], [(0, 2, 0, 4294967296)])]) (fuel := 600) okX2_find (snX2_find _ _ cB (Or.inr rfl)) (List.forall_mem_cons.mpr ⟨⟨_, _, rfl⟩, (fun q hq => by cases hq)⟩) (by decide) (by decide +kernel)
set_option maxRecDepth 100000 in
def adX2_has (D : KK) : List ACE := (0, 1, some (aIl 1)) :: (1, 3, some (aIf bLt (fun C x y => bLe C y x) 16)) :: (4, 1, some (aIl 1)) :: (5, 1, some (aAl 0)) :: (6, 3, some (aGetI D 2 1)) :: (9, 3, some (aCm (fun C x y => bLe C y x) bLt 16)) :: (12, 1, some (aIc (1))) :: (13, 3, some (aGoto 17)) :: (16, 1, some (aIc (0))) :: (17, 1, some (aZret)) :: []
set_option maxRecDepth 100000 in
set_option maxHeartbeats 4000000 in
theorem snX2_has (d : Nat) (W : List Nat) (c : Nat × Nat) (hc : c = cA ∨ c = cB) : SndAll (d, TYg, c, W) cdX2_has (adX2_has (d, TYg, c, W)) := by
  unfold cdX2_has adX2_has
  refine sn_op sIl ?_
  refine sn_op sIfLt ?_
  refine sn_op sIl ?_
  refine sn_op sAl ?_
  refine sn_op sGetI ?_
  refine sn_op sCmGe ?_
  refine sn_op (sIc (n := 1) (by decide)) ?_
  refine sn_op sGoto ?_
  refine sn_op (sIc (n := 0) (by decide)) ?_
  refine sn_op sZret ?_
  exact sn_nil
def csX2_has : List AC := [([(2, 418, 0), (0, -2147483648, 2147483647)], 1, [((0, 0, 0), [], []), ((0, 1, 1), [((418, 1), (1, 12))], [(1, (0, 11))])], [], []), ([(2, 354, 0), (0, -2147483648, 2147483647)], 1, [((0, 0, 0), [], []), ((0, 1, 1), [((354, 1), (1, 5))], [(1, (0, 4))])], [], []), ([(2, 386, 0), (0, -2147483648, 2147483647)], 1, [((0, 0, 0), [], []), ((0, 1, 1), [((386, 1), (1, 12))], [(1, (0, 11))])], [], []), ([(2, 802, 0), (0, -2147483648, 2147483647)], 1, [((0, 0, 0), [], []), ((0, 1, 1), [((802, 1), (1, 12))], [(1, (0, 11))])], [], []), ([(2, 738, 0), (0, -2147483648, 2147483647)], 1, [((0, 0, 0), [], []), ((0, 1, 1), [((738, 1), (1, 5))], [(1, (0, 4))])], [], []), ([(2, 770, 0), (0, -2147483648, 2147483647)], 1, [((0, 0, 0), [], []), ((0, 1, 1), [((770, 1), (1, 12))], [(1, (0, 11))])], [], [])]
set_option maxRecDepth 100000 in
set_option maxHeartbeats 4000000 in
theorem sfX2_has (c : Nat × Nat) (hc : c = cA ∨ c = cB) : ∀ ac ∈ csX2_has, SafeC TYg c mX2_has ac := by
  intro ac hac
  simp only [csX2_has, List.mem_cons, List.not_mem_nil, or_false] at hac
  rcases hac with rfl | rfl | rfl | rfl | rfl | rfl
  · rcases hc with rfl | rfl
    · exact safe_of (ann := []) (fuel := 600) okX2_has (snX2_has _ _ cA (Or.inl rfl)) (fun q hq => by cases hq) (by decide) (by decide +kernel)
    · exact safe_of (ann := []) (fuel := 600) okX2_has (snX2_has _ _ cB (Or.inr rfl)) (fun q hq => by cases hq) (by decide) (by decide +kernel)
  · rcases hc with rfl | rfl
    · exact safe_of (ann := []) (fuel := 600) okX2_has (snX2_has _ _ cA (Or.inl rfl)) (fun q hq => by cases hq) (by decide) (by decide +kernel)
    · exact safe_of (ann := []) (fuel := 600) okX2_has (snX2_has _ _ cB (Or.inr rfl)) (fun q hq => by cases hq) (by decide) (by decide +kernel)
  · rcases hc with rfl | rfl
    · exact safe_of (ann := []) (fuel := 600) okX2_has (snX2_has _ _ cA (Or.inl rfl)) (fun q hq => by cases hq) (by decide) (by decide +kernel)
    · exact safe_of (ann := []) (fuel := 600) okX2_has (snX2_has _ _ cB (Or.inr rfl)) (fun q hq => by cases hq) (by decide) (by decide +kernel)
  · rcases hc with rfl | rfl
    · exact safe_of (ann := []) (fuel := 600) okX2_has (snX2_has _ _ cA (Or.inl rfl)) (fun q hq => by cases hq) (by decide) (by decide +kernel)
    · exact safe_of (ann := []) (fuel := 600) okX2_has (snX2_has _ _ cB (Or.inr rfl)) (fun q hq => by cases hq) (by decide) (by decide +kernel)
  · rcases hc with rfl | rfl
    · exact safe_of (ann := []) (fuel := 600) okX2_has (snX2_has _ _ cA (Or.inl rfl)) (fun q hq => by cases hq) (by decide) (by decide +kernel)
    · exact safe_of (ann := []) (fuel := 600) okX2_has (snX2_has _ _ cB (Or.inr rfl)) (fun q hq => by cases hq) (by decide) (by decide +kernel)
  · rcases hc with rfl | rfl
    · exact safe_of (ann := []) (fuel := 600) okX2_has (snX2_has _ _ cA (Or.inl rfl)) (fun q hq => by cases hq) (by decide) (by decide +kernel)
    · exact safe_of (ann := []) (fuel := 600) okX2_has (snX2_has _ _ cB (Or.inr rfl)) (fun q hq => by cases hq) (by decide) (by decide +kernel)
set_option maxRecDepth 100000 in
def adX3_isDigit (D : KK) : List ACE := (0, 1, some (aIl 0)) :: (1, 2, some (aIc (48))) :: (3, 3, some (aCm bLt (fun C x y => bLe C y x) 16)) :: (6, 1, some (aIl 0)) :: (7, 2, some (aIc (57))) :: (9, 3, some (aCm (fun C x y => bLt C y x) bLe 16)) :: (12, 1, some (aIc (1))) :: (13, 3, some (aGoto 17)) :: (16, 1, some (aIc (0))) :: (17, 1, some (aZret)) :: []
set_option maxRecDepth 100000 in
set_option maxHeartbeats 4000000 in
theorem snX3_isDigit (d : Nat) (W : List Nat) (c : Nat × Nat) (hc : c = cA ∨ c = cB) : SndAll (d, TYg, c, W) cdX3_isDigit (adX3_isDigit (d, TYg, c, W)) := by
  unfold cdX3_isDigit adX3_isDigit
  refine sn_op sIl ?_
  refine sn_op (sIc (n := 48) (by decide)) ?_
  refine sn_op sCmLt ?_
  refine sn_op sIl ?_
  refine sn_op (sIc (n := 57) (by decide)) ?_
  refine sn_op sCmGt ?_
  refine sn_op (sIc (n := 1) (by decide)) ?_
  refine sn_op sGoto ?_
  refine sn_op (sIc (n := 0) (by decide)) ?_
  refine sn_op sZret ?_
  exact sn_nil
def csX3_isDigit : List AC := [([(0, -128, 127)], 1, [((0, 0, 0), [], []), ((0, 1, 1), [], [(0, (48, 57))])], [], [])]
set_option maxRecDepth 100000 in
set_option maxHeartbeats 4000000 in
theorem sfX3_isDigit (c : Nat × Nat) (hc : c = cA ∨ c = cB) : ∀ ac ∈ csX3_isDigit, SafeC TYg c mX3_isDigit ac := by
  intro ac hac
  simp only [csX3_isDigit, List.mem_cons, List.not_mem_nil, or_false] at hac
  rcases hac with rfl
  · rcases hc with rfl | rfl
    · exact safe_of (ann := []) (fuel := 600) okX3_isDigit (snX3_isDigit _ _ cA (Or.inl rfl)) (fun q hq => by cases hq) (by decide) (by decide +kernel)
    · exact safe_of (ann := []) (fuel := 600) okX3_isDigit (snX3_isDigit _ _ cB (Or.inr rfl)) (fun q hq => by cases hq) (by decide) (by decide +kernel)
set_option maxRecDepth 100000 in
def adX3_isLetter (D : KK) : List ACE := (0, 1, some (aIl 0)) :: (1, 2, some (aIc (97))) :: (3, 3, some (aCm bLt (fun C x y => bLe C y x) 16)) :: (6, 1, some (aIl 0)) :: (7, 2, some (aIc (122))) :: (9, 3, some (aCm (fun C x y => bLt C y x) bLe 16)) :: (12, 1, some (aIc (1))) :: (13, 3, some (aGoto 17)) :: (16, 1, some (aIc (0))) :: (17, 1, some (aZret)) :: []
set_option maxRecDepth 100000 in
set_option maxHeartbeats 4000000 in
theorem snX3_isLetter (d : Nat) (W : List Nat) (c : Nat × Nat) (hc : c = cA ∨ c = cB) : SndAll (d, TYg, c, W) cdX3_isLetter (adX3_isLetter (d, TYg, c, W)) := by
  unfold cdX3_isLetter adX3_isLetter
  refine sn_op sIl ?_
  refine sn_op (sIc (n := 97) (by decide)) ?_
  refine sn_op sCmLt ?_
  refine sn_op sIl ?_
  refine sn_op (sIc (n := 122) (by decide)) ?_
  refine sn_op sCmGt ?_
  refine sn_op (sIc (n := 1) (by decide)) ?_
  refine sn_op sGoto ?_
  refine sn_op (sIc (n := 0) (by decide)) ?_
  refine sn_op sZret ?_
  exact sn_nil
def csX3_isLetter : List AC := [([(0, -128, 127)], 1, [((0, 0, 0), [], []), ((0, 1, 1), [], [(0, (97, 122))])], [], [])]
set_option maxRecDepth 100000 in
set_option maxHeartbeats 4000000 in
theorem sfX3_isLetter (c : Nat × Nat) (hc : c = cA ∨ c = cB) : ∀ ac ∈ csX3_isLetter, SafeC TYg c mX3_isLetter ac := by
  intro ac hac
  simp only [csX3_isLetter, List.mem_cons, List.not_mem_nil, or_false] at hac
  rcases hac with rfl
  · rcases hc with rfl | rfl
    · exact safe_of (ann := []) (fuel := 600) okX3_isLetter (snX3_isLetter _ _ cA (Or.inl rfl)) (fun q hq => by cases hq) (by decide) (by decide +kernel)
    · exact safe_of (ann := []) (fuel := 600) okX3_isLetter (snX3_isLetter _ _ cB (Or.inr rfl)) (fun q hq => by cases hq) (by decide) (by decide +kernel)
set_option maxRecDepth 100000 in
def adX3_takeNumber (D : KK) : List ACE := (0, 1, some (aAl 0)) :: (1, 1, some (aIc (2))) :: (2, 3, some (aPutI D 3 6)) :: (5, 0, none) :: (5, 1, some (aAl 0)) :: (6, 3, some (aGetI D 3 5)) :: (9, 1, some (aAl 0)) :: (10, 3, some (aGetI D 3 4)) :: (13, 3, some (aCm (fun C x y => bLe C y x) bLt 73)) :: (16, 1, some (aAl 0)) :: (17, 3, some (aGetR [(19, 3276842)])) :: (20, 1, some (aAl 0)) :: (21, 3, some (aGetI D 3 5)) :: (24, 1, some (aBald D)) :: (25, 3, some (aCall D 16 1 1 csX3_isDigit)) :: (28, 3, some (aIf bEq bNe 73)) :: (31, 1, some (aAl 0)) :: (32, 2, some (aIc (10))) :: (34, 1, some (aAl 0)) :: (35, 3, some (aGetI D 3 8)) :: (38, 1, some (aBin fMul)) :: (39, 1, some (aAl 0)) :: (40, 3, some (aGetR [(19, 3276842)])) :: (43, 1, some (aAl 0)) :: (44, 3, some (aGetI D 3 5)) :: (47, 1, some (aBald D)) :: (48, 1, some (aBin fAdd)) :: (49, 2, some (aIc (48))) :: (51, 1, some (aBin fSub)) :: (52, 2, some (aIc (1000000))) :: (54, 3, some (aMin D)) :: (57, 3, some (aPutI D 3 8)) :: (60, 1, some (aAl 0)) :: (61, 1, some (aDup)) :: (62, 3, some (aGetI D 3 5)) :: (65, 1, some (aIc (1))) :: (66, 1, some (aBin fAdd)) :: (67, 3, some (aPutI D 3 5)) :: (70, 3, some (aGoto 5)) :: (73, 1, some (aVret)) :: []
set_option maxRecDepth 100000 in
set_option maxHeartbeats 4000000 in
theorem snX3_takeNumber (d : Nat) (W : List Nat) (c : Nat × Nat) (hc : c = cA ∨ c = cB) : SndAll (d, TYg, c, W) cdX3_takeNumber (adX3_takeNumber (d, TYg, c, W)) := by
  unfold cdX3_takeNumber adX3_takeNumber
  refine sn_op sAl ?_
  refine sn_op (sIc (n := 2) (by decide)) ?_
  refine sn_op sPutI ?_
  refine sn_st ?_
  refine sn_op sAl ?_
  refine sn_op sGetI ?_
  refine sn_op sAl ?_
  refine sn_op sGetI ?_
  refine sn_op sCmGe ?_
  refine sn_op sAl ?_
  refine sn_op sGetR ?_
  refine sn_op sAl ?_
  refine sn_op sGetI ?_
  refine sn_op sBald ?_
  refine sn_op (sCI (sfX3_isDigit c hc) (by decide) (by decide +kernel)) ?_
  refine sn_op sIfEq ?_
  refine sn_op sAl ?_
  refine sn_op (sIc (n := 10) (by decide)) ?_
  refine sn_op sAl ?_
  refine sn_op sGetI ?_
  refine sn_op sImul ?_
  refine sn_op sAl ?_
  refine sn_op sGetR ?_
  refine sn_op sAl ?_
  refine sn_op sGetI ?_
  refine sn_op sBald ?_
  refine sn_op sIadd ?_
  refine sn_op (sIc (n := 48) (by decide)) ?_
  refine sn_op sIsub ?_
  refine sn_op (sIc (n := 1000000) (by decide)) ?_
  refine sn_op sMin ?_
  refine sn_op sPutI ?_
  refine sn_op sAl ?_
  refine sn_op sDup ?_
  refine sn_op sGetI ?_
  refine sn_op (sIc (n := 1) (by decide)) ?_
  refine sn_op sIadd ?_
  refine sn_op sPutI ?_
  refine sn_op sGoto ?_
  refine sn_op sVret ?_
  exact sn_nil
def csX3_takeNumber : List AC := [([(2, 19, 0)], 2, [((9, 0, 0), [], [])], [25769803795, 30064771091, 38654705683], [])]
set_option maxRecDepth 100000 in
set_option maxHeartbeats 4000000 in
theorem sfX3_takeNumber (c : Nat × Nat) (hc : c = cA ∨ c = cB) : ∀ ac ∈ csX3_takeNumber, SafeC TYg c mX3_takeNumber ac := by
  intro ac hac
  simp only [csX3_takeNumber, List.mem_cons, List.not_mem_nil, or_false] at hac
  rcases hac with rfl
  · rcases hc with rfl | rfl
    · exact safe_of (ann := [(5, [(2, 19, 0)], [(1, 19, 5, 4294967296)])]) (fuel := 600) okX3_takeNumber (snX3_takeNumber _ _ cA (Or.inl rfl)) (List.forall_mem_cons.mpr ⟨⟨_, _, rfl⟩, (fun q hq => by cases hq)⟩) (by decide) (by decide +kernel)
    · exact safe_of (ann := [(5, [(2, 19, 0)], [(1, 19, 5, 4294967296)])]) (fuel := 600) okX3_takeNumber (snX3_takeNumber _ _ cB (Or.inr rfl)) (List.forall_mem_cons.mpr ⟨⟨_, _, rfl⟩, (fun q hq => by cases hq)⟩) (by decide) (by decide +kernel)
set_option maxRecDepth 100000 in
def adX3_takeWord (D : KK) : List ACE := (0, 0, none) :: (0, 1, some (aAl 0)) :: (1, 3, some (aGetI D 3 5)) :: (4, 1, some (aAl 0)) :: (5, 3, some (aGetI D 3 4)) :: (8, 3, some (aCm (fun C x y => bLe C y x) bLt 85)) :: (11, 1, some (aAl 0)) :: (12, 3, some (aGetR [(19, 3276842)])) :: (15, 1, some (aAl 0)) :: (16, 3, some (aGetI D 3 5)) :: (19, 1, some (aBald D)) :: (20, 3, some (aCall D 16 1 1 csX3_isLetter)) :: (23, 3, some (aIf bEq bNe 85)) :: (26, 1, some (aAl 0)) :: (27, 3, some (aGetI D 3 5)) :: (30, 1, some (aAl 0)) :: (31, 3, some (aGetI D 3 7)) :: (34, 1, some (aBin fSub)) :: (35, 1, some (aIs 1)) :: (36, 1, some (aIl 1)) :: (37, 2, some (aIc (6))) :: (39, 3, some (aCm (fun C x y => bLe C y x) bLt 72)) :: (42, 1, some (aAl 0)) :: (43, 1, some (aDup)) :: (44, 3, some (aGetI D 3 8)) :: (47, 1, some (aAl 0)) :: (48, 3, some (aGetR [(19, 3276842)])) :: (51, 1, some (aAl 0)) :: (52, 3, some (aGetI D 3 5)) :: (55, 1, some (aBald D)) :: (56, 2, some (aIc (97))) :: (58, 1, some (aBin fSub)) :: (59, 1, some (aIc (1))) :: (60, 1, some (aBin fAdd)) :: (61, 2, some (aIc (25))) :: (63, 1, some (aIc (5))) :: (64, 1, some (aIl 1)) :: (65, 1, some (aBin fMul)) :: (66, 1, some (aBin fSub)) :: (67, 1, some (aBin fTop)) :: (68, 1, some (aBin fTop)) :: (69, 3, some (aPutI D 3 8)) :: (72, 1, some (aAl 0)) :: (73, 1, some (aDup)) :: (74, 3, some (aGetI D 3 5)) :: (77, 1, some (aIc (1))) :: (78, 1, some (aBin fAdd)) :: (79, 3, some (aPutI D 3 5)) :: (82, 3, some (aGoto 0)) :: (85, 1, some (aAl 0)) :: (86, 1, some (aAl 0)) :: (87, 3, some (aGetI D 3 5)) :: (90, 1, some (aAl 0)) :: (91, 3, some (aGetI D 3 7)) :: (94, 1, some (aBin fSub)) :: (95, 2, some (aIc (6))) :: (97, 3, some (aCm (fun C x y => bLt C y x) bLe 104)) :: (100, 1, some (aIc (1))) :: (101, 3, some (aGoto 105)) :: (104, 1, some (aIc (4))) :: (105, 3, some (aPutI D 3 6)) :: (108, 1, some (aVret)) :: []
set_option maxRecDepth 100000 in
set_option maxHeartbeats 4000000 in
theorem snX3_takeWord (d : Nat) (W : List Nat) (c : Nat × Nat) (hc : c = cA ∨ c = cB) : SndAll (d, TYg, c, W) cdX3_takeWord (adX3_takeWord (d, TYg, c, W)) := by
  unfold cdX3_takeWord adX3_takeWord
  refine sn_st ?_
  refine sn_op sAl ?_
  refine sn_op sGetI ?_
  refine sn_op sAl ?_
  refine sn_op sGetI ?_
  refine sn_op sCmGe ?_
  refine sn_op sAl ?_
  refine sn_op sGetR ?_
  refine sn_op sAl ?_
  refine sn_op sGetI ?_
  refine sn_op sBald ?_
  refine sn_op (sCI (sfX3_isLetter c hc) (by decide) (by decide +kernel)) ?_
  refine sn_op sIfEq ?_
  refine sn_op sAl ?_
  refine sn_op sGetI ?_
  refine sn_op sAl ?_
  refine sn_op sGetI ?_
  refine sn_op sIsub ?_
  refine sn_op sIs ?_
  refine sn_op sIl ?_
  refine sn_op (sIc (n := 6) (by decide)) ?_
  refine sn_op sCmGe ?_
  refine sn_op sAl ?_
  refine sn_op sDup ?_
  refine sn_op sGetI ?_
  refine sn_op sAl ?_
  refine sn_op sGetR ?_
  refine sn_op sAl ?_
  refine sn_op sGetI ?_
  refine sn_op sBald ?_
  refine sn_op (sIc (n := 97) (by decide)) ?_
  refine sn_op sIsub ?_
  refine sn_op (sIc (n := 1) (by decide)) ?_
  refine sn_op sIadd ?_
  refine sn_op (sIc (n := 25) (by decide)) ?_
  refine sn_op (sIc (n := 5) (by decide)) ?_
  refine sn_op sIl ?_
  refine sn_op sImul ?_
  refine sn_op sIsub ?_
  refine sn_op sIshl ?_
  refine sn_op sIor ?_
  refine sn_op sPutI ?_
  refine sn_op sAl ?_
  refine sn_op sDup ?_
  refine sn_op sGetI ?_
  refine sn_op (sIc (n := 1) (by decide)) ?_
  refine sn_op sIadd ?_
  refine sn_op sPutI ?_
  refine sn_op sGoto ?_
  refine sn_op sAl ?_
  refine sn_op sAl ?_
  refine sn_op sGetI ?_
  refine sn_op sAl ?_
  refine sn_op sGetI ?_
  refine sn_op sIsub ?_
  refine sn_op (sIc (n := 6) (by decide)) ?_
  refine sn_op sCmGt ?_
  refine sn_op (sIc (n := 1) (by decide)) ?_
  refine sn_op sGoto ?_
  refine sn_op (sIc (n := 4) (by decide)) ?_
  refine sn_op sPutI ?_
  refine sn_op sVret ?_
  exact sn_nil
def csX3_takeWord : List AC := [([(2, 19, 0)], 2, [((9, 0, 0), [((19, 6), (1, 4))], [])], [25769803795, 30064771091, 38654705683], [])]
set_option maxRecDepth 100000 in
set_option maxHeartbeats 4000000 in
theorem sfX3_takeWord (c : Nat × Nat) (hc : c = cA ∨ c = cB) : ∀ ac ∈ csX3_takeWord, SafeC TYg c mX3_takeWord ac := by
  intro ac hac
  simp only [csX3_takeWord, List.mem_cons, List.not_mem_nil, or_false] at hac
  rcases hac with rfl
  · rcases hc with rfl | rfl
    · exact safe_of (ann := [(0, [(2, 19, 0), (4, 0, 0)], [(1, 19, 5, 4294967296)])]) (fuel := 600) okX3_takeWord (snX3_takeWord _ _ cA (Or.inl rfl)) (List.forall_mem_cons.mpr ⟨⟨_, _, rfl⟩, (fun q hq => by cases hq)⟩) (by decide) (by decide +kernel)
    · exact safe_of (ann := [(0, [(2, 19, 0), (4, 0, 0)], [(1, 19, 5, 4294967296)])]) (fuel := 600) okX3_takeWord (snX3_takeWord _ _ cB (Or.inr rfl)) (List.forall_mem_cons.mpr ⟨⟨_, _, rfl⟩, (fun q hq => by cases hq)⟩) (by decide) (by decide +kernel)
set_option maxRecDepth 100000 in
def adX3_advance (D : KK) : List ACE := (0, 0, none) :: (0, 1, some (aAl 0)) :: (1, 3, some (aGetI D 3 5)) :: (4, 1, some (aAl 0)) :: (5, 3, some (aGetI D 3 4)) :: (8, 3, some (aCm (fun C x y => bLe C y x) bLt 52)) :: (11, 1, some (aAl 0)) :: (12, 3, some (aGetR [(19, 3276842)])) :: (15, 1, some (aAl 0)) :: (16, 3, some (aGetI D 3 5)) :: (19, 1, some (aBald D)) :: (20, 2, some (aIc (10))) :: (22, 3, some (aCm bEq bNe 39)) :: (25, 1, some (aAl 0)) :: (26, 3, some (aGetR [(19, 3276842)])) :: (29, 1, some (aAl 0)) :: (30, 3, some (aGetI D 3 5)) :: (33, 1, some (aBald D)) :: (34, 2, some (aIc (32))) :: (36, 3, some (aCm bNe bEq 52)) :: (39, 1, some (aAl 0)) :: (40, 1, some (aDup)) :: (41, 3, some (aGetI D 3 5)) :: (44, 1, some (aIc (1))) :: (45, 1, some (aBin fAdd)) :: (46, 3, some (aPutI D 3 5)) :: (49, 3, some (aGoto 0)) :: (52, 1, some (aAl 0)) :: (53, 1, some (aAl 0)) :: (54, 3, some (aGetI D 3 5)) :: (57, 3, some (aPutI D 3 7)) :: (60, 1, some (aAl 0)) :: (61, 1, some (aIc (0))) :: (62, 3, some (aPutI D 3 8)) :: (65, 1, some (aAl 0)) :: (66, 3, some (aGetI D 3 5)) :: (69, 1, some (aAl 0)) :: (70, 3, some (aGetI D 3 4)) :: (73, 3, some (aCm bLt (fun C x y => bLe C y x) 84)) :: (76, 1, some (aAl 0)) :: (77, 1, some (aIc (0))) :: (78, 3, some (aPutI D 3 6)) :: (81, 3, some (aGoto 161)) :: (84, 1, some (aAl 0)) :: (85, 3, some (aGetR [(19, 3276842)])) :: (88, 1, some (aAl 0)) :: (89, 3, some (aGetI D 3 5)) :: (92, 1, some (aBald D)) :: (93, 3, some (aCall D 16 1 1 csX3_isLetter)) :: (96, 3, some (aIf bEq bNe 106)) :: (99, 1, some (aAl 0)) :: (100, 3, some (aCall D 3 1 2 csX3_takeWord)) :: (103, 3, some (aGoto 161)) :: (106, 1, some (aAl 0)) :: (107, 3, some (aGetR [(19, 3276842)])) :: (110, 1, some (aAl 0)) :: (111, 3, some (aGetI D 3 5)) :: (114, 1, some (aBald D)) :: (115, 3, some (aCall D 16 1 1 csX3_isDigit)) :: (118, 3, some (aIf bEq bNe 128)) :: (121, 1, some (aAl 0)) :: (122, 3, some (aCall D 3 1 1 csX3_takeNumber)) :: (125, 3, some (aGoto 161)) :: (128, 1, some (aAl 0)) :: (129, 1, some (aAl 0)) :: (130, 3, some (aGetR [(19, 3276842)])) :: (133, 1, some (aAl 0)) :: (134, 3, some (aGetI D 3 5)) :: (137, 1, some (aBald D)) :: (138, 2, some (aIc (59))) :: (140, 3, some (aCm bNe bEq 147)) :: (143, 1, some (aIc (3))) :: (144, 3, some (aGoto 148)) :: (147, 1, some (aIc (4))) :: (148, 3, some (aPutI D 3 6)) :: (151, 1, some (aAl 0)) :: (152, 1, some (aDup)) :: (153, 3, some (aGetI D 3 5)) :: (156, 1, some (aIc (1))) :: (157, 1, some (aBin fAdd)) :: (158, 3, some (aPutI D 3 5)) :: (161, 1, some (aVret)) :: []
set_option maxRecDepth 100000 in
set_option maxHeartbeats 4000000 in
theorem snX3_advance (d : Nat) (W : List Nat) (c : Nat × Nat) (hc : c = cA ∨ c = cB) : SndAll (d, TYg, c, W) cdX3_advance (adX3_advance (d, TYg, c, W)) := by
  unfold cdX3_advance adX3_advance
  refine sn_st ?_
  refine sn_op sAl ?_
  refine sn_op sGetI ?_
  refine sn_op sAl ?_
  refine sn_op sGetI ?_
  refine sn_op sCmGe ?_
  refine sn_op sAl ?_
  refine sn_op sGetR ?_
  refine sn_op sAl ?_
  refine sn_op sGetI ?_
  refine sn_op sBald ?_
  refine sn_op (sIc (n := 10) (by decide)) ?_
  refine sn_op sCmEq ?_
  refine sn_op sAl ?_
  refine sn_op sGetR ?_
  refine sn_op sAl ?_
  refine sn_op sGetI ?_
  refine sn_op sBald ?_
  refine sn_op (sIc (n := 32) (by decide)) ?_
  refine sn_op sCmNe ?_
  refine sn_op sAl ?_
  refine sn_op sDup ?_
  refine sn_op sGetI ?_
  refine sn_op (sIc (n := 1) (by decide)) ?_
  refine sn_op sIadd ?_
  refine sn_op sPutI ?_
  refine sn_op sGoto ?_
  refine sn_op sAl ?_
  refine sn_op sAl ?_
  refine sn_op sGetI ?_
  refine sn_op sPutI ?_
  refine sn_op sAl ?_
  refine sn_op (sIc (n := 0) (by decide)) ?_
  refine sn_op sPutI ?_
  refine sn_op sAl ?_
  refine sn_op sGetI ?_
  refine sn_op sAl ?_
  refine sn_op sGetI ?_
  refine sn_op sCmLt ?_
  refine sn_op sAl ?_
  refine sn_op (sIc (n := 0) (by decide)) ?_
  refine sn_op sPutI ?_
  refine sn_op sGoto ?_
  refine sn_op sAl ?_
  refine sn_op sGetR ?_
  refine sn_op sAl ?_
  refine sn_op sGetI ?_
  refine sn_op sBald ?_
  refine sn_op (sCI (sfX3_isLetter c hc) (by decide) (by decide +kernel)) ?_
  refine sn_op sIfEq ?_
  refine sn_op sAl ?_
  refine sn_op (sCV (sfX3_takeWord c hc) (by decide) (by decide +kernel)) ?_
  refine sn_op sGoto ?_
  refine sn_op sAl ?_
  refine sn_op sGetR ?_
  refine sn_op sAl ?_
  refine sn_op sGetI ?_
  refine sn_op sBald ?_
  refine sn_op (sCI (sfX3_isDigit c hc) (by decide) (by decide +kernel)) ?_
  refine sn_op sIfEq ?_
  refine sn_op sAl ?_
  refine sn_op (sCV (sfX3_takeNumber c hc) (by decide) (by decide +kernel)) ?_
  refine sn_op sGoto ?_
  refine sn_op sAl ?_
  refine sn_op sAl ?_
  refine sn_op sGetR ?_
  refine sn_op sAl ?_
  refine sn_op sGetI ?_
  refine sn_op sBald ?_
  refine sn_op (sIc (n := 59) (by decide)) ?_
  refine sn_op sCmNe ?_
  refine sn_op (sIc (n := 3) (by decide)) ?_
  refine sn_op sGoto ?_
  refine sn_op (sIc (n := 4) (by decide)) ?_
  refine sn_op sPutI ?_
  refine sn_op sAl ?_
  refine sn_op sDup ?_
  refine sn_op sGetI ?_
  refine sn_op (sIc (n := 1) (by decide)) ?_
  refine sn_op sIadd ?_
  refine sn_op sPutI ?_
  refine sn_op sVret ?_
  exact sn_nil
def csX3_advance : List AC := [([(2, 19, 0)], 3, [((9, 0, 0), [], [])], [25769803795, 30064771091, 34359738387, 38654705683], [])]
set_option maxRecDepth 100000 in
set_option maxHeartbeats 4000000 in
theorem sfX3_advance (c : Nat × Nat) (hc : c = cA ∨ c = cB) : ∀ ac ∈ csX3_advance, SafeC TYg c mX3_advance ac := by
  intro ac hac
  simp only [csX3_advance, List.mem_cons, List.not_mem_nil, or_false] at hac
  rcases hac with rfl
  · rcases hc with rfl | rfl
    · exact safe_of (ann := [(0, [(2, 19, 0)], [(1, 19, 5, 4294967296)])]) (fuel := 600) okX3_advance (snX3_advance _ _ cA (Or.inl rfl)) (List.forall_mem_cons.mpr ⟨⟨_, _, rfl⟩, (fun q hq => by cases hq)⟩) (by decide) (by decide +kernel)
    · exact safe_of (ann := [(0, [(2, 19, 0)], [(1, 19, 5, 4294967296)])]) (fuel := 600) okX3_advance (snX3_advance _ _ cB (Or.inr rfl)) (List.forall_mem_cons.mpr ⟨⟨_, _, rfl⟩, (fun q hq => by cases hq)⟩) (by decide) (by decide +kernel)
set_option maxRecDepth 100000 in
def adX3_fail (D : KK) : List ACE := (0, 1, some (aAl 0)) :: (1, 1, some (aIl 1)) :: (2, 3, some (aPutI D 3 2)) :: (5, 1, some (aAl 0)) :: (6, 1, some (aAl 0)) :: (7, 3, some (aGetI D 3 7)) :: (10, 3, some (aPutI D 3 3)) :: (13, 1, some (aIc (0))) :: (14, 1, some (aZret)) :: []
set_option maxRecDepth 100000 in
set_option maxHeartbeats 4000000 in
theorem snX3_fail (d : Nat) (W : List Nat) (c : Nat × Nat) (hc : c = cA ∨ c = cB) : SndAll (d, TYg, c, W) cdX3_fail (adX3_fail (d, TYg, c, W)) := by
  unfold cdX3_fail adX3_fail
  refine sn_op sAl ?_
  refine sn_op sIl ?_
  refine sn_op sPutI ?_
  refine sn_op sAl ?_
  refine sn_op sAl ?_
  refine sn_op sGetI ?_
  refine sn_op sPutI ?_
  refine sn_op (sIc (n := 0) (by decide)) ?_
  refine sn_op sZret ?_
  exact sn_nil
def csX3_fail : List AC := [([(2, 19, 0), (0, 1, 1)], 1, [((0, 0, 0), [((19, 2), (1, 1)), ((19, 3), (0, 800))], [])], [12884901907, 17179869203], []), ([(2, 19, 0), (0, 2, 2)], 1, [((0, 0, 0), [((19, 2), (2, 2)), ((19, 3), (0, 800))], [])], [12884901907, 17179869203], []), ([(2, 19, 0), (0, 3, 3)], 1, [((0, 0, 0), [((19, 2), (3, 3)), ((19, 3), (0, 800))], [])], [12884901907, 17179869203], []), ([(2, 19, 0), (0, 4, 4)], 1, [((0, 0, 0), [((19, 2), (4, 4)), ((19, 3), (0, 800))], [])], [12884901907, 17179869203], [])]
set_option maxRecDepth 100000 in
set_option maxHeartbeats 4000000 in
theorem sfX3_fail (c : Nat × Nat) (hc : c = cA ∨ c = cB) : ∀ ac ∈ csX3_fail, SafeC TYg c mX3_fail ac := by
  intro ac hac
  simp only [csX3_fail, List.mem_cons, List.not_mem_nil, or_false] at hac
  rcases hac with rfl | rfl | rfl | rfl
  · rcases hc with rfl | rfl
    · exact safe_of (ann := []) (fuel := 600) okX3_fail (snX3_fail _ _ cA (Or.inl rfl)) (fun q hq => by cases hq) (by decide) (by decide +kernel)
    · exact safe_of (ann := []) (fuel := 600) okX3_fail (snX3_fail _ _ cB (Or.inr rfl)) (fun q hq => by cases hq) (by decide) (by decide +kernel)
  · rcases hc with rfl | rfl
    · exact safe_of (ann := []) (fuel := 600) okX3_fail (snX3_fail _ _ cA (Or.inl rfl)) (fun q hq => by cases hq) (by decide) (by decide +kernel)
    · exact safe_of (ann := []) (fuel := 600) okX3_fail (snX3_fail _ _ cB (Or.inr rfl)) (fun q hq => by cases hq) (by decide) (by decide +kernel)
  · rcases hc with rfl | rfl
    · exact safe_of (ann := []) (fuel := 600) okX3_fail (snX3_fail _ _ cA (Or.inl rfl)) (fun q hq => by cases hq) (by decide) (by decide +kernel)
    · exact safe_of (ann := []) (fuel := 600) okX3_fail (snX3_fail _ _ cB (Or.inr rfl)) (fun q hq => by cases hq) (by decide) (by decide +kernel)
  · rcases hc with rfl | rfl
    · exact safe_of (ann := []) (fuel := 600) okX3_fail (snX3_fail _ _ cA (Or.inl rfl)) (fun q hq => by cases hq) (by decide) (by decide +kernel)
    · exact safe_of (ann := []) (fuel := 600) okX3_fail (snX3_fail _ _ cB (Or.inr rfl)) (fun q hq => by cases hq) (by decide) (by decide +kernel)
set_option maxRecDepth 100000 in
def adX3_hasSpace (D : KK) : List ACE := (0, 1, some (aAl 0)) :: (1, 3, some (aGetI D 3 1)) :: (4, 1, some (aIl 1)) :: (5, 1, some (aBin fAdd)) :: (6, 3, some (aIc (800))) :: (9, 3, some (aCm (fun C x y => bLt C y x) bLe 16)) :: (12, 1, some (aIc (1))) :: (13, 3, some (aGoto 17)) :: (16, 1, some (aIc (0))) :: (17, 1, some (aZret)) :: []
set_option maxRecDepth 100000 in
set_option maxHeartbeats 4000000 in
theorem snX3_hasSpace (d : Nat) (W : List Nat) (c : Nat × Nat) (hc : c = cA ∨ c = cB) : SndAll (d, TYg, c, W) cdX3_hasSpace (adX3_hasSpace (d, TYg, c, W)) := by
  unfold cdX3_hasSpace adX3_hasSpace
  refine sn_op sAl ?_
  refine sn_op sGetI ?_
  refine sn_op sIl ?_
  refine sn_op sIadd ?_
  refine sn_op (sIc (n := 800) (by decide)) ?_
  refine sn_op sCmGt ?_
  refine sn_op (sIc (n := 1) (by decide)) ?_
  refine sn_op sGoto ?_
  refine sn_op (sIc (n := 0) (by decide)) ?_
  refine sn_op sZret ?_
  exact sn_nil
def csX3_hasSpace : List AC := [([(2, 19, 0), (0, 20, 20)], 1, [((0, 0, 0), [((19, 1), (781, 800))], []), ((0, 1, 1), [((19, 1), (0, 780))], [])], [], []), ([(2, 19, 0), (0, 4, 4)], 1, [((0, 0, 0), [((19, 1), (797, 800))], []), ((0, 1, 1), [((19, 1), (0, 796))], [])], [], [])]
set_option maxRecDepth 100000 in
set_option maxHeartbeats 4000000 in
theorem sfX3_hasSpace (c : Nat × Nat) (hc : c = cA ∨ c = cB) : ∀ ac ∈ csX3_hasSpace, SafeC TYg c mX3_hasSpace ac := by
  intro ac hac
  simp only [csX3_hasSpace, List.mem_cons, List.not_mem_nil, or_false] at hac
  rcases hac with rfl | rfl
  · rcases hc with rfl | rfl
    · exact safe_of (ann := []) (fuel := 600) okX3_hasSpace (snX3_hasSpace _ _ cA (Or.inl rfl)) (fun q hq => by cases hq) (by decide) (by decide +kernel)
    · exact safe_of (ann := []) (fuel := 600) okX3_hasSpace (snX3_hasSpace _ _ cB (Or.inr rfl)) (fun q hq => by cases hq) (by decide) (by decide +kernel)
  · rcases hc with rfl | rfl
    · exact safe_of (ann := []) (fuel := 600) okX3_hasSpace (snX3_hasSpace _ _ cA (Or.inl rfl)) (fun q hq => by cases hq) (by decide) (by decide +kernel)
    · exact safe_of (ann := []) (fuel := 600) okX3_hasSpace (snX3_hasSpace _ _ cB (Or.inr rfl)) (fun q hq => by cases hq) (by decide) (by decide +kernel)
set_option maxRecDepth 100000 in
def adX3_isOfLanguage (D : KK) : List ACE := (0, 1, some (aIl 0)) :: (1, 83, some (aSw [(136085504, 84), (211366912, 84), (251105280, 84), (269946880, 84), (404164608, 84), (437857280, 84), (538218496, 84), (620213248, 84), (638981120, 84)] 86)) :: (84, 1, some (aIc (1))) :: (85, 1, some (aZret)) :: (86, 1, some (aIc (0))) :: (87, 1, some (aZret)) :: []
set_option maxRecDepth 100000 in
set_option maxHeartbeats 4000000 in
theorem snX3_isOfLanguage (d : Nat) (W : List Nat) (c : Nat × Nat) (hc : c = cA ∨ c = cB) : SndAll (d, TYg, c, W) cdX3_isOfLanguage (adX3_isOfLanguage (d, TYg, c, W)) := by
  unfold cdX3_isOfLanguage adX3_isOfLanguage
  refine sn_op sIl ?_
  refine sn_op (sSw (by decide)) ?_
  refine sn_op (sIc (n := 1) (by decide)) ?_
  refine sn_op sZret ?_
  refine sn_op (sIc (n := 0) (by decide)) ?_
  refine sn_op sZret ?_
  exact sn_nil
def csX3_isOfLanguage : List AC := [([(0, -2147483648, 2147483647)], 1, [((0, 0, 0), [], []), ((0, 1, 1), [], [(0, (136085504, 638981120))])], [], [])]
set_option maxRecDepth 100000 in
set_option maxHeartbeats 4000000 in
theorem sfX3_isOfLanguage (c : Nat × Nat) (hc : c = cA ∨ c = cB) : ∀ ac ∈ csX3_isOfLanguage, SafeC TYg c mX3_isOfLanguage ac := by
  intro ac hac
  simp only [csX3_isOfLanguage, List.mem_cons, List.not_mem_nil, or_false] at hac
  rcases hac with rfl
  · rcases hc with rfl | rfl
    · exact safe_of (ann := []) (fuel := 600) okX3_isOfLanguage (snX3_isOfLanguage _ _ cA (Or.inl rfl)) (fun q hq => by cases hq) (by decide) (by decide +kernel)
    · exact safe_of (ann := []) (fuel := 600) okX3_isOfLanguage (snX3_isOfLanguage _ _ cB (Or.inr rfl)) (fun q hq => by cases hq) (by decide) (by decide +kernel)
set_option maxRecDepth 100000 in
def adX3_lineEnds (D : KK) : List ACE := (0, 1, some (aAl 0)) :: (1, 3, some (aGetI D 3 6)) :: (4, 1, some (aIc (3))) :: (5, 3, some (aCm bEq bNe 14)) :: (8, 1, some (aAl 0)) :: (9, 1, some (aIc (1))) :: (10, 3, some (aCall D 3 2 2 csX3_fail)) :: (13, 1, some (aZret)) :: (14, 1, some (aAl 0)) :: (15, 3, some (aCall D 3 1 1 csX3_advance)) :: (18, 1, some (aIc (1))) :: (19, 1, some (aZret)) :: []
set_option maxRecDepth 100000 in
set_option maxHeartbeats 4000000 in
theorem snX3_lineEnds (d : Nat) (W : List Nat) (c : Nat × Nat) (hc : c = cA ∨ c = cB) : SndAll (d, TYg, c, W) cdX3_lineEnds (adX3_lineEnds (d, TYg, c, W)) := by
  unfold cdX3_lineEnds adX3_lineEnds
  refine sn_op sAl ?_
  refine sn_op sGetI ?_
  refine sn_op (sIc (n := 3) (by decide)) ?_
  refine sn_op sCmEq ?_
  refine sn_op sAl ?_
  refine sn_op (sIc (n := 1) (by decide)) ?_
  refine sn_op (sCI (sfX3_fail c hc) (by decide) (by decide +kernel)) ?_
  refine sn_op sZret ?_
  refine sn_op sAl ?_
  refine sn_op (sCV (sfX3_advance c hc) (by decide) (by decide +kernel)) ?_
  refine sn_op (sIc (n := 1) (by decide)) ?_
  refine sn_op sZret ?_
  exact sn_nil
def csX3_lineEnds : List AC := [([(2, 19, 0)], 4, [((0, 0, 0), [((19, 2), (1, 1)), ((19, 3), (0, 800))], []), ((0, 1, 1), [], [])], [12884901907, 17179869203, 25769803795, 30064771091, 34359738387, 38654705683], [])]
set_option maxRecDepth 100000 in
set_option maxHeartbeats 4000000 in
theorem sfX3_lineEnds (c : Nat × Nat) (hc : c = cA ∨ c = cB) : ∀ ac ∈ csX3_lineEnds, SafeC TYg c mX3_lineEnds ac := by
  intro ac hac
  simp only [csX3_lineEnds, List.mem_cons, List.not_mem_nil, or_false] at hac
  rcases hac with rfl
  · rcases hc with rfl | rfl
    · exact safe_of (ann := []) (fuel := 600) okX3_lineEnds (snX3_lineEnds _ _ cA (Or.inl rfl)) (fun q hq => by cases hq) (by decide) (by decide +kernel)
    · exact safe_of (ann := []) (fuel := 600) okX3_lineEnds (snX3_lineEnds _ _ cB (Or.inr rfl)) (fun q hq => by cases hq) (by decide) (by decide +kernel)
set_option maxRecDepth 100000 in
def adX3_newName (D : KK) : List ACE := (0, 1, some (aAl 1)) :: (1, 3, some (aGetI D 2 1)) :: (4, 1, some (aIl 2)) :: (5, 3, some (aCm bLt (fun C x y => bLe C y x) 16)) :: (8, 1, some (aAl 0)) :: (9, 1, some (aIc (2))) :: (10, 3, some (aCall D 3 2 2 csX3_fail)) :: (13, 1, some (aPop)) :: (14, 1, some (aIc (-1))) :: (15, 1, some (aIret)) :: (16, 1, some (aAl 0)) :: (17, 3, some (aCall D 3 1 1 csX3_advance)) :: (20, 1, some (aAl 0)) :: (21, 3, some (aGetI D 3 6)) :: (24, 1, some (aIc (1))) :: (25, 3, some (aCm bNe bEq 38)) :: (28, 1, some (aAl 0)) :: (29, 3, some (aGetI D 3 8)) :: (32, 3, some (aCall D 16 1 1 csX3_isOfLanguage)) :: (35, 3, some (aIf bEq bNe 46)) :: (38, 1, some (aAl 0)) :: (39, 1, some (aIc (1))) :: (40, 3, some (aCall D 3 2 2 csX3_fail)) :: (43, 1, some (aPop)) :: (44, 1, some (aIc (-1))) :: (45, 1, some (aIret)) :: (46, 1, some (aAl 1)) :: (47, 1, some (aAl 0)) :: (48, 3, some (aGetI D 3 8)) :: (51, 3, some (aCall D 2 2 3 csX2_find)) :: (54, 3, some (aIf bLt (fun C x y => bLe C y x) 65)) :: (57, 1, some (aAl 0)) :: (58, 1, some (aIc (3))) :: (59, 3, some (aCall D 3 2 2 csX3_fail)) :: (62, 1, some (aPop)) :: (63, 1, some (aIc (-1))) :: (64, 1, some (aIret)) :: (65, 1, some (aAl 0)) :: (66, 3, some (aGetI D 3 8)) :: (69, 1, some (aIs 3)) :: (70, 1, some (aAl 0)) :: (71, 3, some (aCall D 3 1 1 csX3_advance)) :: (74, 1, some (aIl 3)) :: (75, 1, some (aIret)) :: []
set_option maxRecDepth 100000 in
set_option maxHeartbeats 4000000 in
theorem snX3_newName (d : Nat) (W : List Nat) (c : Nat × Nat) (hc : c = cA ∨ c = cB) : SndAll (d, TYg, c, W) cdX3_newName (adX3_newName (d, TYg, c, W)) := by
  unfold cdX3_newName adX3_newName
  refine sn_op sAl ?_
  refine sn_op sGetI ?_
  refine sn_op sIl ?_
  refine sn_op sCmLt ?_
  refine sn_op sAl ?_
  refine sn_op (sIc (n := 2) (by decide)) ?_
  refine sn_op (sCI (sfX3_fail c hc) (by decide) (by decide +kernel)) ?_
  refine sn_op sPop ?_
  refine sn_op (sIc (n := -1) (by decide)) ?_
  refine sn_op sIret ?_
  refine sn_op sAl ?_
  refine sn_op (sCV (sfX3_advance c hc) (by decide) (by decide +kernel)) ?_
  refine sn_op sAl ?_
  refine sn_op sGetI ?_
  refine sn_op (sIc (n := 1) (by decide)) ?_
  refine sn_op sCmNe ?_
  refine sn_op sAl ?_
  refine sn_op sGetI ?_
  refine sn_op (sCI (sfX3_isOfLanguage c hc) (by decide) (by decide +kernel)) ?_
  refine sn_op sIfEq ?_
  refine sn_op sAl ?_
  refine sn_op (sIc (n := 1) (by decide)) ?_
  refine sn_op (sCI (sfX3_fail c hc) (by decide) (by decide +kernel)) ?_
  refine sn_op sPop ?_
  refine sn_op (sIc (n := -1) (by decide)) ?_
  refine sn_op sIret ?_
  refine sn_op sAl ?_
  refine sn_op sAl ?_
  refine sn_op sGetI ?_
  refine sn_op (sCI (sfX2_find c hc) (by decide) (by decide +kernel)) ?_
  refine sn_op sIfLt ?_
  refine sn_op sAl ?_
  refine sn_op (sIc (n := 3) (by decide)) ?_
  refine sn_op (sCI (sfX3_fail c hc) (by decide) (by decide +kernel)) ?_
  refine sn_op sPop ?_
  refine sn_op (sIc (n := -1) (by decide)) ?_
  refine sn_op sIret ?_
  refine sn_op sAl ?_
  refine sn_op sGetI ?_
  refine sn_op sIs ?_
  refine sn_op sAl ?_
  refine sn_op (sCV (sfX3_advance c hc) (by decide) (by decide +kernel)) ?_
  refine sn_op sIl ?_
  refine sn_op sIret ?_
  exact sn_nil
def csX3_newName : List AC := [([(2, 19, 0), (2, 354, 0), (0, 5, 5)], 4, [((0, -2147483648, 2147483647), [((354, 1), (0, 4))], []), ((0, -1, -1), [((19, 2), (1, 3)), ((19, 3), (0, 800))], [])], [12884901907, 17179869203, 25769803795, 30064771091, 34359738387, 38654705683], []), ([(2, 19, 0), (2, 386, 0), (0, 4, 4)], 4, [((0, -2147483648, 2147483647), [((386, 1), (0, 3))], []), ((0, -1, -1), [((19, 2), (1, 3)), ((19, 3), (0, 800))], [])], [12884901907, 17179869203, 25769803795, 30064771091, 34359738387, 38654705683], []), ([(2, 19, 0), (2, 418, 0), (0, 12, 12)], 4, [((0, -2147483648, 2147483647), [((418, 1), (0, 11))], []), ((0, -1, -1), [((19, 2), (1, 3)), ((19, 3), (0, 800))], [])], [12884901907, 17179869203, 25769803795, 30064771091, 34359738387, 38654705683], []), ([(2, 19, 0), (2, 738, 0), (0, 5, 5)], 4, [((0, -2147483648, 2147483647), [((738, 1), (0, 4))], []), ((0, -1, -1), [((19, 2), (1, 3)), ((19, 3), (0, 800))], [])], [12884901907, 17179869203, 25769803795, 30064771091, 34359738387, 38654705683], []), ([(2, 19, 0), (2, 770, 0), (0, 4, 4)], 4, [((0, -2147483648, 2147483647), [((770, 1), (0, 3))], []), ((0, -1, -1), [((19, 2), (1, 3)), ((19, 3), (0, 800))], [])], [12884901907, 17179869203, 25769803795, 30064771091, 34359738387, 38654705683], []), ([(2, 19, 0), (2, 802, 0), (0, 12, 12)], 4, [((0, -2147483648, 2147483647), [((802, 1), (0, 11))], []), ((0, -1, -1), [((19, 2), (1, 3)), ((19, 3), (0, 800))], [])], [12884901907, 17179869203, 25769803795, 30064771091, 34359738387, 38654705683], [])]
set_option maxRecDepth 100000 in
set_option maxHeartbeats 4000000 in
theorem sfX3_newName (c : Nat × Nat) (hc : c = cA ∨ c = cB) : ∀ ac ∈ csX3_newName, SafeC TYg c mX3_newName ac := by
  intro ac hac
  simp only [csX3_newName, List.mem_cons, List.not_mem_nil, or_false] at hac
  rcases hac with rfl | rfl | rfl | rfl | rfl | rfl
  · rcases hc with rfl | rfl
    · exact safe_of (ann := []) (fuel := 600) okX3_newName (snX3_newName _ _ cA (Or.inl rfl)) (fun q hq => by cases hq) (by decide) (by decide +kernel)
    · exact safe_of (ann := []) (fuel := 600) okX3_newName (snX3_newName _ _ cB (Or.inr rfl)) (fun q hq => by cases hq) (by decide) (by decide +kernel)
  · rcases hc with rfl | rfl
    · exact safe_of (ann := []) (fuel := 600) okX3_newName (snX3_newName _ _ cA (Or.inl rfl)) (fun q hq => by cases hq) (by decide) (by decide +kernel)
    · exact safe_of (ann := []) (fuel := 600) okX3_newName (snX3_newName _ _ cB (Or.inr rfl)) (fun q hq => by cases hq) (by decide) (by decide +kernel)
  · rcases hc with rfl | rfl
    · exact safe_of (ann := []) (fuel := 600) okX3_newName (snX3_newName _ _ cA (Or.inl rfl)) (fun q hq => by cases hq) (by decide) (by decide +kernel)
    · exact safe_of (ann := []) (fuel := 600) okX3_newName (snX3_newName _ _ cB (Or.inr rfl)) (fun q hq => by cases hq) (by decide) (by decide +kernel)
  · rcases hc with rfl | rfl
    · exact safe_of (ann := []) (fuel := 600) okX3_newName (snX3_newName _ _ cA (Or.inl rfl)) (fun q hq => by cases hq) (by decide) (by decide +kernel)
    · exact safe_of (ann := []) (fuel := 600) okX3_newName (snX3_newName _ _ cB (Or.inr rfl)) (fun q hq => by cases hq) (by decide) (by decide +kernel)
  · rcases hc with rfl | rfl
    · exact safe_of (ann := []) (fuel := 600) okX3_newName (snX3_newName _ _ cA (Or.inl rfl)) (fun q hq => by cases hq) (by decide) (by decide +kernel)
    · exact safe_of (ann := []) (fuel := 600) okX3_newName (snX3_newName _ _ cB (Or.inr rfl)) (fun q hq => by cases hq) (by decide) (by decide +kernel)
  · rcases hc with rfl | rfl
    · exact safe_of (ann := []) (fuel := 600) okX3_newName (snX3_newName _ _ cA (Or.inl rfl)) (fun q hq => by cases hq) (by decide) (by decide +kernel)
    · exact safe_of (ann := []) (fuel := 600) okX3_newName (snX3_newName _ _ cB (Or.inr rfl)) (fun q hq => by cases hq) (by decide) (by decide +kernel)
set_option maxRecDepth 100000 in
def adX6_within (D : KK) : List ACE := (0, 1, some (aIl 0)) :: (1, 1, some (aIl 1)) :: (2, 3, some (aCm bLt (fun C x y => bLe C y x) 14)) :: (5, 1, some (aIl 0)) :: (6, 1, some (aIl 2)) :: (7, 3, some (aCm (fun C x y => bLt C y x) bLe 14)) :: (10, 1, some (aIc (1))) :: (11, 3, some (aGoto 15)) :: (14, 1, some (aIc (0))) :: (15, 1, some (aZret)) :: []
set_option maxRecDepth 100000 in
set_option maxHeartbeats 4000000 in
theorem snX6_within (d : Nat) (W : List Nat) (c : Nat × Nat) (hc : c = cA ∨ c = cB) : SndAll (d, TYg, c, W) cdX6_within (adX6_within (d, TYg, c, W)) := by
  unfold cdX6_within adX6_within
  refine sn_op sIl ?_
  refine sn_op sIl ?_
  refine sn_op sCmLt ?_
  refine sn_op sIl ?_
  refine sn_op sIl ?_
  refine sn_op sCmGt ?_
  refine sn_op (sIc (n := 1) (by decide)) ?_
  refine sn_op sGoto ?_
  refine sn_op (sIc (n := 0) (by decide)) ?_
  refine sn_op sZret ?_
  exact sn_nil
def csX6_within : List AC := [([(0, -2147483648, 2147483647), (0, 2, 2), (0, 6, 6)], 1, [((0, 0, 0), [], []), ((0, 1, 1), [], [(0, (2, 6))])], [], []), ([(0, -2147483648, 2147483647), (0, 0, 0), (0, 1, 1)], 1, [((0, 0, 0), [], []), ((0, 1, 1), [], [(0, (0, 1))])], [], []), ([(0, -2147483648, 2147483647), (0, 1, 1), (0, 10, 10)], 1, [((0, 0, 0), [], []), ((0, 1, 1), [], [(0, (1, 10))])], [], []), ([(0, -2147483648, 2147483647), (0, 1, 1), (0, 15, 15)], 1, [((0, 0, 0), [], []), ((0, 1, 1), [], [(0, (1, 15))])], [], []), ([(0, -2147483648, 2147483647), (0, 1, 1), (0, 99, 99)], 1, [((0, 0, 0), [], []), ((0, 1, 1), [], [(0, (1, 99))])], [], []), ([(0, -2147483648, 2147483647), (0, 0, 0), (0, 2, 2)], 1, [((0, 0, 0), [], []), ((0, 1, 1), [], [(0, (0, 2))])], [], []), ([(0, -2147483648, 2147483647), (0, 0, 0), (0, 400, 400)], 1, [((0, 0, 0), [], []), ((0, 1, 1), [], [(0, (0, 400))])], [], []), ([(0, -2147483648, 2147483647), (0, 1, 1), (0, 999, 999)], 1, [((0, 0, 0), [], []), ((0, 1, 1), [], [(0, (1, 999))])], [], []), ([(0, -2147483648, 2147483647), (0, 0, 0), (0, 99, 99)], 1, [((0, 0, 0), [], []), ((0, 1, 1), [], [(0, (0, 99))])], [], []), ([(0, -2147483648, 2147483647), (0, 0, 0), (0, 40, 40)], 1, [((0, 0, 0), [], []), ((0, 1, 1), [], [(0, (0, 40))])], [], []), ([(0, -2147483648, 2147483647), (0, 0, 0), (0, 999999, 999999)], 1, [((0, 0, 0), [], []), ((0, 1, 1), [], [(0, (0, 999999))])], [], []), ([(0, -2147483648, 2147483647), (0, 0, 0), (0, -2147483648, 2147483647)], 1, [((0, 0, 0), [], []), ((0, 1, 1), [], [(0, (0, 2147483647)), (2, (0, 2147483647))])], [], [])]
set_option maxRecDepth 100000 in
set_option maxHeartbeats 4000000 in
theorem sfX6_within (c : Nat × Nat) (hc : c = cA ∨ c = cB) : ∀ ac ∈ csX6_within, SafeC TYg c mX6_within ac := by
  intro ac hac
  simp only [csX6_within, List.mem_cons, List.not_mem_nil, or_false] at hac
  rcases hac with rfl | rfl | rfl | rfl | rfl | rfl | rfl | rfl | rfl | rfl | rfl | rfl
  · rcases hc with rfl | rfl
    · exact safe_of (ann := []) (fuel := 600) okX6_within (snX6_within _ _ cA (Or.inl rfl)) (fun q hq => by cases hq) (by decide) (by decide +kernel)
    · exact safe_of (ann := []) (fuel := 600) okX6_within (snX6_within _ _ cB (Or.inr rfl)) (fun q hq => by cases hq) (by decide) (by decide +kernel)
  · rcases hc with rfl | rfl
    · exact safe_of (ann := []) (fuel := 600) okX6_within (snX6_within _ _ cA (Or.inl rfl)) (fun q hq => by cases hq) (by decide) (by decide +kernel)
    · exact safe_of (ann := []) (fuel := 600) okX6_within (snX6_within _ _ cB (Or.inr rfl)) (fun q hq => by cases hq) (by decide) (by decide +kernel)
  · rcases hc with rfl | rfl
    · exact safe_of (ann := []) (fuel := 600) okX6_within (snX6_within _ _ cA (Or.inl rfl)) (fun q hq => by cases hq) (by decide) (by decide +kernel)
    · exact safe_of (ann := []) (fuel := 600) okX6_within (snX6_within _ _ cB (Or.inr rfl)) (fun q hq => by cases hq) (by decide) (by decide +kernel)
  · rcases hc with rfl | rfl
    · exact safe_of (ann := []) (fuel := 600) okX6_within (snX6_within _ _ cA (Or.inl rfl)) (fun q hq => by cases hq) (by decide) (by decide +kernel)
    · exact safe_of (ann := []) (fuel := 600) okX6_within (snX6_within _ _ cB (Or.inr rfl)) (fun q hq => by cases hq) (by decide) (by decide +kernel)
  · rcases hc with rfl | rfl
    · exact safe_of (ann := []) (fuel := 600) okX6_within (snX6_within _ _ cA (Or.inl rfl)) (fun q hq => by cases hq) (by decide) (by decide +kernel)
    · exact safe_of (ann := []) (fuel := 600) okX6_within (snX6_within _ _ cB (Or.inr rfl)) (fun q hq => by cases hq) (by decide) (by decide +kernel)
  · rcases hc with rfl | rfl
    · exact safe_of (ann := []) (fuel := 600) okX6_within (snX6_within _ _ cA (Or.inl rfl)) (fun q hq => by cases hq) (by decide) (by decide +kernel)
    · exact safe_of (ann := []) (fuel := 600) okX6_within (snX6_within _ _ cB (Or.inr rfl)) (fun q hq => by cases hq) (by decide) (by decide +kernel)
  · rcases hc with rfl | rfl
    · exact safe_of (ann := []) (fuel := 600) okX6_within (snX6_within _ _ cA (Or.inl rfl)) (fun q hq => by cases hq) (by decide) (by decide +kernel)
    · exact safe_of (ann := []) (fuel := 600) okX6_within (snX6_within _ _ cB (Or.inr rfl)) (fun q hq => by cases hq) (by decide) (by decide +kernel)
  · rcases hc with rfl | rfl
    · exact safe_of (ann := []) (fuel := 600) okX6_within (snX6_within _ _ cA (Or.inl rfl)) (fun q hq => by cases hq) (by decide) (by decide +kernel)
    · exact safe_of (ann := []) (fuel := 600) okX6_within (snX6_within _ _ cB (Or.inr rfl)) (fun q hq => by cases hq) (by decide) (by decide +kernel)
  · rcases hc with rfl | rfl
    · exact safe_of (ann := []) (fuel := 600) okX6_within (snX6_within _ _ cA (Or.inl rfl)) (fun q hq => by cases hq) (by decide) (by decide +kernel)
    · exact safe_of (ann := []) (fuel := 600) okX6_within (snX6_within _ _ cB (Or.inr rfl)) (fun q hq => by cases hq) (by decide) (by decide +kernel)
  · rcases hc with rfl | rfl
    · exact safe_of (ann := []) (fuel := 600) okX6_within (snX6_within _ _ cA (Or.inl rfl)) (fun q hq => by cases hq) (by decide) (by decide +kernel)
    · exact safe_of (ann := []) (fuel := 600) okX6_within (snX6_within _ _ cB (Or.inr rfl)) (fun q hq => by cases hq) (by decide) (by decide +kernel)
  · rcases hc with rfl | rfl
    · exact safe_of (ann := []) (fuel := 600) okX6_within (snX6_within _ _ cA (Or.inl rfl)) (fun q hq => by cases hq) (by decide) (by decide +kernel)
    · exact safe_of (ann := []) (fuel := 600) okX6_within (snX6_within _ _ cB (Or.inr rfl)) (fun q hq => by cases hq) (by decide) (by decide +kernel)
  · rcases hc with rfl | rfl
    · exact safe_of (ann := []) (fuel := 600) okX6_within (snX6_within _ _ cA (Or.inl rfl)) (fun q hq => by cases hq) (by decide) (by decide +kernel)
    · exact safe_of (ann := []) (fuel := 600) okX6_within (snX6_within _ _ cB (Or.inr rfl)) (fun q hq => by cases hq) (by decide) (by decide +kernel)
set_option maxRecDepth 100000 in
def adX3_numberWithin (D : KK) : List ACE := (0, 1, some (aAl 0)) :: (1, 3, some (aGetI D 3 6)) :: (4, 1, some (aIc (2))) :: (5, 3, some (aCm bEq bNe 16)) :: (8, 1, some (aAl 0)) :: (9, 1, some (aIc (1))) :: (10, 3, some (aCall D 3 2 2 csX3_fail)) :: (13, 1, some (aPop)) :: (14, 1, some (aIc (-1))) :: (15, 1, some (aIret)) :: (16, 1, some (aAl 0)) :: (17, 3, some (aGetI D 3 8)) :: (20, 1, some (aIl 1)) :: (21, 1, some (aIl 2)) :: (22, 3, some (aCall D 16 3 3 csX6_within)) :: (25, 3, some (aIf bNe bEq 36)) :: (28, 1, some (aAl 0)) :: (29, 1, some (aIc (2))) :: (30, 3, some (aCall D 3 2 2 csX3_fail)) :: (33, 1, some (aPop)) :: (34, 1, some (aIc (-1))) :: (35, 1, some (aIret)) :: (36, 1, some (aAl 0)) :: (37, 3, some (aGetI D 3 8)) :: (40, 1, some (aIs 3)) :: (41, 1, some (aAl 0)) :: (42, 3, some (aCall D 3 1 1 csX3_advance)) :: (45, 1, some (aIl 3)) :: (46, 1, some (aIret)) :: []
set_option maxRecDepth 100000 in
set_option maxHeartbeats 4000000 in
theorem snX3_numberWithin (d : Nat) (W : List Nat) (c : Nat × Nat) (hc : c = cA ∨ c = cB) : SndAll (d, TYg, c, W) cdX3_numberWithin (adX3_numberWithin (d, TYg, c, W)) := by
  unfold cdX3_numberWithin adX3_numberWithin
  refine sn_op sAl ?_
  refine sn_op sGetI ?_
  refine sn_op (sIc (n := 2) (by decide)) ?_
  refine sn_op sCmEq ?_
  refine sn_op sAl ?_
  refine sn_op (sIc (n := 1) (by decide)) ?_
  refine sn_op (sCI (sfX3_fail c hc) (by decide) (by decide +kernel)) ?_
  refine sn_op sPop ?_
  refine sn_op (sIc (n := -1) (by decide)) ?_
  refine sn_op sIret ?_
  refine sn_op sAl ?_
  refine sn_op sGetI ?_
  refine sn_op sIl ?_
  refine sn_op sIl ?_
  refine sn_op (sCI (sfX6_within c hc) (by decide) (by decide +kernel)) ?_
  refine sn_op sIfNe ?_
  refine sn_op sAl ?_
  refine sn_op (sIc (n := 2) (by decide)) ?_
  refine sn_op (sCI (sfX3_fail c hc) (by decide) (by decide +kernel)) ?_
  refine sn_op sPop ?_
  refine sn_op (sIc (n := -1) (by decide)) ?_
  refine sn_op sIret ?_
  refine sn_op sAl ?_
  refine sn_op sGetI ?_
  refine sn_op sIs ?_
  refine sn_op sAl ?_
  refine sn_op (sCV (sfX3_advance c hc) (by decide) (by decide +kernel)) ?_
  refine sn_op sIl ?_
  refine sn_op sIret ?_
  exact sn_nil
def csX3_numberWithin : List AC := [([(2, 19, 0), (0, 0, 0), (0, 40, 40)], 4, [((0, -1, -1), [((19, 2), (1, 2)), ((19, 3), (0, 800))], []), ((0, 0, 40), [], [])], [12884901907, 17179869203, 25769803795, 30064771091, 34359738387, 38654705683], []), ([(2, 19, 0), (0, 0, 0), (0, 999999, 999999)], 4, [((0, -1, -1), [((19, 2), (1, 2)), ((19, 3), (0, 800))], []), ((0, 0, 999999), [], [])], [12884901907, 17179869203, 25769803795, 30064771091, 34359738387, 38654705683], []), ([(2, 19, 0), (0, 1, 1), (0, 999, 999)], 4, [((0, -1, -1), [((19, 2), (1, 2)), ((19, 3), (0, 800))], []), ((0, 1, 999), [], [])], [12884901907, 17179869203, 25769803795, 30064771091, 34359738387, 38654705683], []), ([(2, 19, 0), (0, 0, 0), (0, 400, 400)], 4, [((0, -1, -1), [((19, 2), (1, 2)), ((19, 3), (0, 800))], []), ((0, 0, 400), [], [])], [12884901907, 17179869203, 25769803795, 30064771091, 34359738387, 38654705683], []), ([(2, 19, 0), (0, 1, 1), (0, 99, 99)], 4, [((0, -1, -1), [((19, 2), (1, 2)), ((19, 3), (0, 800))], []), ((0, 1, 99), [], [])], [12884901907, 17179869203, 25769803795, 30064771091, 34359738387, 38654705683], [])]
set_option maxRecDepth 100000 in
set_option maxHeartbeats 4000000 in
theorem sfX3_numberWithin (c : Nat × Nat) (hc : c = cA ∨ c = cB) : ∀ ac ∈ csX3_numberWithin, SafeC TYg c mX3_numberWithin ac := by
  intro ac hac
  simp only [csX3_numberWithin, List.mem_cons, List.not_mem_nil, or_false] at hac
  rcases hac with rfl | rfl | rfl | rfl | rfl
  · rcases hc with rfl | rfl
    · exact safe_of (ann := []) (fuel := 600) okX3_numberWithin (snX3_numberWithin _ _ cA (Or.inl rfl)) (fun q hq => by cases hq) (by decide) (by decide +kernel)
    · exact safe_of (ann := []) (fuel := 600) okX3_numberWithin (snX3_numberWithin _ _ cB (Or.inr rfl)) (fun q hq => by cases hq) (by decide) (by decide +kernel)
  · rcases hc with rfl | rfl
    · exact safe_of (ann := []) (fuel := 600) okX3_numberWithin (snX3_numberWithin _ _ cA (Or.inl rfl)) (fun q hq => by cases hq) (by decide) (by decide +kernel)
    · exact safe_of (ann := []) (fuel := 600) okX3_numberWithin (snX3_numberWithin _ _ cB (Or.inr rfl)) (fun q hq => by cases hq) (by decide) (by decide +kernel)
  · rcases hc with rfl | rfl
    · exact safe_of (ann := []) (fuel := 600) okX3_numberWithin (snX3_numberWithin _ _ cA (Or.inl rfl)) (fun q hq => by cases hq) (by decide) (by decide +kernel)
    · exact safe_of (ann := []) (fuel := 600) okX3_numberWithin (snX3_numberWithin _ _ cB (Or.inr rfl)) (fun q hq => by cases hq) (by decide) (by decide +kernel)
  · rcases hc with rfl | rfl
    · exact safe_of (ann := []) (fuel := 600) okX3_numberWithin (snX3_numberWithin _ _ cA (Or.inl rfl)) (fun q hq => by cases hq) (by decide) (by decide +kernel)
    · exact safe_of (ann := []) (fuel := 600) okX3_numberWithin (snX3_numberWithin _ _ cB (Or.inr rfl)) (fun q hq => by cases hq) (by decide) (by decide +kernel)
  · rcases hc with rfl | rfl
    · exact safe_of (ann := []) (fuel := 600) okX3_numberWithin (snX3_numberWithin _ _ cA (Or.inl rfl)) (fun q hq => by cases hq) (by decide) (by decide +kernel)
    · exact safe_of (ann := []) (fuel := 600) okX3_numberWithin (snX3_numberWithin _ _ cB (Or.inr rfl)) (fun q hq => by cases hq) (by decide) (by decide +kernel)
set_option maxRecDepth 100000 in
def adX3_push (D : KK) : List ACE := (0, 1, some (aAl 0)) :: (1, 1, some (aIc (4))) :: (2, 3, some (aCall D 3 2 2 csX3_hasSpace)) :: (5, 3, some (aIf bEq bNe 77)) :: (8, 1, some (aAl 0)) :: (9, 3, some (aGetR [(19, 3276842)])) :: (12, 1, some (aAl 0)) :: (13, 3, some (aGetI D 3 1)) :: (16, 1, some (aIl 1)) :: (17, 2, some (aIc (24))) :: (19, 1, some (aBin fShr)) :: (20, 1, some (aUn (fun _ _ => (0, -128, 127)))) :: (21, 1, some (aBast D)) :: (22, 1, some (aAl 0)) :: (23, 3, some (aGetR [(19, 3276842)])) :: (26, 1, some (aAl 0)) :: (27, 3, some (aGetI D 3 1)) :: (30, 1, some (aIc (1))) :: (31, 1, some (aBin fAdd)) :: (32, 1, some (aIl 1)) :: (33, 2, some (aIc (16))) :: (35, 1, some (aBin fShr)) :: (36, 1, some (aUn (fun _ _ => (0, -128, 127)))) :: (37, 1, some (aBast D)) :: (38, 1, some (aAl 0)) :: (39, 3, some (aGetR [(19, 3276842)])) :: (42, 1, some (aAl 0)) :: (43, 3, some (aGetI D 3 1)) :: (46, 1, some (aIc (2))) :: (47, 1, some (aBin fAdd)) :: (48, 1, some (aIl 1)) :: (49, 2, some (aIc (8))) :: (51, 1, some (aBin fShr)) :: (52, 1, some (aUn (fun _ _ => (0, -128, 127)))) :: (53, 1, some (aBast D)) :: (54, 1, some (aAl 0)) :: (55, 3, some (aGetR [(19, 3276842)])) :: (58, 1, some (aAl 0)) :: (59, 3, some (aGetI D 3 1)) :: (62, 1, some (aIc (3))) :: (63, 1, some (aBin fAdd)) :: (64, 1, some (aIl 1)) :: (65, 1, some (aUn (fun _ _ => (0, -128, 127)))) :: (66, 1, some (aBast D)) :: (67, 1, some (aAl 0)) :: (68, 1, some (aDup)) :: (69, 3, some (aGetI D 3 1)) :: (72, 1, some (aIc (4))) :: (73, 1, some (aBin fAdd)) :: (74, 3, some (aPutI D 3 1)) :: (77, 1, some (aVret)) :: []
set_option maxRecDepth 100000 in
set_option maxHeartbeats 4000000 in
theorem snX3_push (d : Nat) (W : List Nat) (c : Nat × Nat) (hc : c = cA ∨ c = cB) : SndAll (d, TYg, c, W) cdX3_push (adX3_push (d, TYg, c, W)) := by
  unfold cdX3_push adX3_push
  refine sn_op sAl ?_
  refine sn_op (sIc (n := 4) (by decide)) ?_
  refine sn_op (sCI (sfX3_hasSpace c hc) (by decide) (by decide +kernel)) ?_
  refine sn_op sIfEq ?_
  refine sn_op sAl ?_
  refine sn_op sGetR ?_
  refine sn_op sAl ?_
  refine sn_op sGetI ?_
  refine sn_op sIl ?_
  refine sn_op (sIc (n := 24) (by decide)) ?_
  refine sn_op sIshr ?_
  refine sn_op sI2b ?_
  refine sn_op sBast ?_
  refine sn_op sAl ?_
  refine sn_op sGetR ?_
  refine sn_op sAl ?_
  refine sn_op sGetI ?_
  refine sn_op (sIc (n := 1) (by decide)) ?_
  refine sn_op sIadd ?_
  refine sn_op sIl ?_
  refine sn_op (sIc (n := 16) (by decide)) ?_
  refine sn_op sIshr ?_
  refine sn_op sI2b ?_
  refine sn_op sBast ?_
  refine sn_op sAl ?_
  refine sn_op sGetR ?_
  refine sn_op sAl ?_
  refine sn_op sGetI ?_
  refine sn_op (sIc (n := 2) (by decide)) ?_
  refine sn_op sIadd ?_
  refine sn_op sIl ?_
  refine sn_op (sIc (n := 8) (by decide)) ?_
  refine sn_op sIshr ?_
  refine sn_op sI2b ?_
  refine sn_op sBast ?_
  refine sn_op sAl ?_
  refine sn_op sGetR ?_
  refine sn_op sAl ?_
  refine sn_op sGetI ?_
  refine sn_op (sIc (n := 3) (by decide)) ?_
  refine sn_op sIadd ?_
  refine sn_op sIl ?_
  refine sn_op sI2b ?_
  refine sn_op sBast ?_
  refine sn_op sAl ?_
  refine sn_op sDup ?_
  refine sn_op sGetI ?_
  refine sn_op (sIc (n := 4) (by decide)) ?_
  refine sn_op sIadd ?_
  refine sn_op sPutI ?_
  refine sn_op sVret ?_
  exact sn_nil
def csX3_push : List AC := [([(2, 19, 0), (0, -2147483648, 2147483647)], 2, [((9, 0, 0), [((19, 1), (4, 800))], [])], [3276842, 8589934611], [])]
set_option maxRecDepth 100000 in
set_option maxHeartbeats 4000000 in
theorem sfX3_push (c : Nat × Nat) (hc : c = cA ∨ c = cB) : ∀ ac ∈ csX3_push, SafeC TYg c mX3_push ac := by
  intro ac hac
  simp only [csX3_push, List.mem_cons, List.not_mem_nil, or_false] at hac
  rcases hac with rfl
  · rcases hc with rfl | rfl
    · exact safe_of (ann := []) (fuel := 600) okX3_push (snX3_push _ _ cA (Or.inl rfl)) (fun q hq => by cases hq) (by decide) (by decide +kernel)
    · exact safe_of (ann := []) (fuel := 600) okX3_push (snX3_push _ _ cB (Or.inr rfl)) (fun q hq => by cases hq) (by decide) (by decide +kernel)
set_option maxRecDepth 100000 in
def adX3_toldName (D : KK) : List ACE := (0, 1, some (aAl 0)) :: (1, 3, some (aGetI D 3 6)) :: (4, 1, some (aIc (1))) :: (5, 3, some (aCm bNe bEq 18)) :: (8, 1, some (aAl 0)) :: (9, 3, some (aGetI D 3 8)) :: (12, 3, some (aCall D 16 1 1 csX3_isOfLanguage)) :: (15, 3, some (aIf bEq bNe 26)) :: (18, 1, some (aAl 0)) :: (19, 1, some (aIc (1))) :: (20, 3, some (aCall D 3 2 2 csX3_fail)) :: (23, 1, some (aPop)) :: (24, 1, some (aIc (-1))) :: (25, 1, some (aIret)) :: (26, 1, some (aAl 1)) :: (27, 1, some (aAl 0)) :: (28, 3, some (aGetI D 3 8)) :: (31, 3, some (aCall D 2 2 3 csX2_find)) :: (34, 1, some (aIs 2)) :: (35, 1, some (aIl 2)) :: (36, 3, some (aIf (fun C x y => bLe C y x) bLt 47)) :: (39, 1, some (aAl 0)) :: (40, 1, some (aIc (4))) :: (41, 3, some (aCall D 3 2 2 csX3_fail)) :: (44, 1, some (aPop)) :: (45, 1, some (aIc (-1))) :: (46, 1, some (aIret)) :: (47, 1, some (aAl 0)) :: (48, 3, some (aCall D 3 1 1 csX3_advance)) :: (51, 1, some (aIl 2)) :: (52, 1, some (aIret)) :: []
set_option maxRecDepth 100000 in
set_option maxHeartbeats 4000000 in
theorem snX3_toldName (d : Nat) (W : List Nat) (c : Nat × Nat) (hc : c = cA ∨ c = cB) : SndAll (d, TYg, c, W) cdX3_toldName (adX3_toldName (d, TYg, c, W)) := by
  unfold cdX3_toldName adX3_toldName
  refine sn_op sAl ?_
  refine sn_op sGetI ?_
  refine sn_op (sIc (n := 1) (by decide)) ?_
  refine sn_op sCmNe ?_
  refine sn_op sAl ?_
  refine sn_op sGetI ?_
  refine sn_op (sCI (sfX3_isOfLanguage c hc) (by decide) (by decide +kernel)) ?_
  refine sn_op sIfEq ?_
  refine sn_op sAl ?_
  refine sn_op (sIc (n := 1) (by decide)) ?_
  refine sn_op (sCI (sfX3_fail c hc) (by decide) (by decide +kernel)) ?_
  refine sn_op sPop ?_
  refine sn_op (sIc (n := -1) (by decide)) ?_
  refine sn_op sIret ?_
  refine sn_op sAl ?_
  refine sn_op sAl ?_
  refine sn_op sGetI ?_
  refine sn_op (sCI (sfX2_find c hc) (by decide) (by decide +kernel)) ?_
  refine sn_op sIs ?_
  refine sn_op sIl ?_
  refine sn_op sIfGe ?_
  refine sn_op sAl ?_
  refine sn_op (sIc (n := 4) (by decide)) ?_
  refine sn_op (sCI (sfX3_fail c hc) (by decide) (by decide +kernel)) ?_
  refine sn_op sPop ?_
  refine sn_op (sIc (n := -1) (by decide)) ?_
  refine sn_op sIret ?_
  refine sn_op sAl ?_
  refine sn_op (sCV (sfX3_advance c hc) (by decide) (by decide +kernel)) ?_
  refine sn_op sIl ?_
  refine sn_op sIret ?_
  exact sn_nil
def csX3_toldName : List AC := [([(2, 19, 0), (2, 418, 0)], 4, [((0, -1, -1), [((19, 2), (1, 4)), ((19, 3), (0, 800))], []), ((0, 0, 11), [((418, 1), (1, 12))], [])], [12884901907, 17179869203, 25769803795, 30064771091, 34359738387, 38654705683], []), ([(2, 19, 0), (2, 802, 0)], 4, [((0, -1, -1), [((19, 2), (1, 4)), ((19, 3), (0, 800))], []), ((0, 0, 11), [((802, 1), (1, 12))], [])], [12884901907, 17179869203, 25769803795, 30064771091, 34359738387, 38654705683], []), ([(2, 19, 0), (2, 354, 0)], 4, [((0, -1, -1), [((19, 2), (1, 4)), ((19, 3), (0, 800))], []), ((0, 0, 4), [((354, 1), (1, 5))], [])], [12884901907, 17179869203, 25769803795, 30064771091, 34359738387, 38654705683], []), ([(2, 19, 0), (2, 738, 0)], 4, [((0, -1, -1), [((19, 2), (1, 4)), ((19, 3), (0, 800))], []), ((0, 0, 4), [((738, 1), (1, 5))], [])], [12884901907, 17179869203, 25769803795, 30064771091, 34359738387, 38654705683], []), ([(2, 19, 0), (2, 386, 0)], 4, [((0, -1, -1), [((19, 2), (1, 4)), ((19, 3), (0, 800))], []), ((0, 0, 11), [((386, 1), (1, 12))], [])], [12884901907, 17179869203, 25769803795, 30064771091, 34359738387, 38654705683], []), ([(2, 19, 0), (2, 770, 0)], 4, [((0, -1, -1), [((19, 2), (1, 4)), ((19, 3), (0, 800))], []), ((0, 0, 11), [((770, 1), (1, 12))], [])], [12884901907, 17179869203, 25769803795, 30064771091, 34359738387, 38654705683], [])]
set_option maxRecDepth 100000 in
set_option maxHeartbeats 4000000 in
theorem sfX3_toldName (c : Nat × Nat) (hc : c = cA ∨ c = cB) : ∀ ac ∈ csX3_toldName, SafeC TYg c mX3_toldName ac := by
  intro ac hac
  simp only [csX3_toldName, List.mem_cons, List.not_mem_nil, or_false] at hac
  rcases hac with rfl | rfl | rfl | rfl | rfl | rfl
  · rcases hc with rfl | rfl
    · exact safe_of (ann := []) (fuel := 600) okX3_toldName (snX3_toldName _ _ cA (Or.inl rfl)) (fun q hq => by cases hq) (by decide) (by decide +kernel)
    · exact safe_of (ann := []) (fuel := 600) okX3_toldName (snX3_toldName _ _ cB (Or.inr rfl)) (fun q hq => by cases hq) (by decide) (by decide +kernel)
  · rcases hc with rfl | rfl
    · exact safe_of (ann := []) (fuel := 600) okX3_toldName (snX3_toldName _ _ cA (Or.inl rfl)) (fun q hq => by cases hq) (by decide) (by decide +kernel)
    · exact safe_of (ann := []) (fuel := 600) okX3_toldName (snX3_toldName _ _ cB (Or.inr rfl)) (fun q hq => by cases hq) (by decide) (by decide +kernel)
  · rcases hc with rfl | rfl
    · exact safe_of (ann := []) (fuel := 600) okX3_toldName (snX3_toldName _ _ cA (Or.inl rfl)) (fun q hq => by cases hq) (by decide) (by decide +kernel)
    · exact safe_of (ann := []) (fuel := 600) okX3_toldName (snX3_toldName _ _ cB (Or.inr rfl)) (fun q hq => by cases hq) (by decide) (by decide +kernel)
  · rcases hc with rfl | rfl
    · exact safe_of (ann := []) (fuel := 600) okX3_toldName (snX3_toldName _ _ cA (Or.inl rfl)) (fun q hq => by cases hq) (by decide) (by decide +kernel)
    · exact safe_of (ann := []) (fuel := 600) okX3_toldName (snX3_toldName _ _ cB (Or.inr rfl)) (fun q hq => by cases hq) (by decide) (by decide +kernel)
  · rcases hc with rfl | rfl
    · exact safe_of (ann := []) (fuel := 600) okX3_toldName (snX3_toldName _ _ cA (Or.inl rfl)) (fun q hq => by cases hq) (by decide) (by decide +kernel)
    · exact safe_of (ann := []) (fuel := 600) okX3_toldName (snX3_toldName _ _ cB (Or.inr rfl)) (fun q hq => by cases hq) (by decide) (by decide +kernel)
  · rcases hc with rfl | rfl
    · exact safe_of (ann := []) (fuel := 600) okX3_toldName (snX3_toldName _ _ cA (Or.inl rfl)) (fun q hq => by cases hq) (by decide) (by decide +kernel)
    · exact safe_of (ann := []) (fuel := 600) okX3_toldName (snX3_toldName _ _ cB (Or.inr rfl)) (fun q hq => by cases hq) (by decide) (by decide +kernel)
set_option maxRecDepth 100000 in
def adX3_readPaid (D : KK) : List ACE := (0, 1, some (aAl 0)) :: (1, 3, some (aCall D 3 1 1 csX3_advance)) :: (4, 1, some (aAl 0)) :: (5, 3, some (aGetI D 3 6)) :: (8, 1, some (aIc (1))) :: (9, 3, some (aCm bNe bEq 43)) :: (12, 1, some (aAl 1)) :: (13, 3, some (aGetR [(336, 418), (720, 802)])) :: (16, 1, some (aAl 0)) :: (17, 3, some (aGetI D 3 8)) :: (20, 3, some (aCall D 2 2 3 csX2_find)) :: (23, 1, some (aIs 2)) :: (24, 1, some (aIl 2)) :: (25, 3, some (aIf bLt (fun C x y => bLe C y x) 43)) :: (28, 1, some (aAl 1)) :: (29, 3, some (aGetR [(336, 49835), (720, 50219)])) :: (32, 1, some (aIl 2)) :: (33, 1, some (aBald D)) :: (34, 3, some (aIf bEq bNe 43)) :: (37, 1, some (aAl 0)) :: (38, 1, some (aIc (3))) :: (39, 3, some (aCall D 3 2 2 csX3_fail)) :: (42, 1, some (aZret)) :: (43, 1, some (aAl 0)) :: (44, 1, some (aAl 1)) :: (45, 3, some (aGetR [(336, 418), (720, 802)])) :: (48, 3, some (aCall D 3 2 3 csX3_toldName)) :: (51, 1, some (aIs 2)) :: (52, 1, some (aIl 2)) :: (53, 3, some (aIf (fun C x y => bLe C y x) bLt 58)) :: (56, 1, some (aIc (0))) :: (57, 1, some (aZret)) :: (58, 1, some (aAl 0)) :: (59, 1, some (aIc (0))) :: (60, 2, some (aIc (999999))) :: (62, 3, some (aCall D 3 3 4 csX3_numberWithin)) :: (65, 1, some (aIs 3)) :: (66, 1, some (aIl 3)) :: (67, 3, some (aIf (fun C x y => bLe C y x) bLt 72)) :: (70, 1, some (aIc (0))) :: (71, 1, some (aZret)) :: (72, 1, some (aAl 1)) :: (73, 3, some (aGetR [(336, 49816), (720, 50200)])) :: (76, 1, some (aIl 2)) :: (77, 1, some (aIl 3)) :: (78, 1, some (aIast D)) :: (79, 1, some (aAl 1)) :: (80, 3, some (aGetR [(336, 49835), (720, 50219)])) :: (83, 1, some (aIl 2)) :: (84, 1, some (aIc (1))) :: (85, 1, some (aBast D)) :: (86, 1, some (aIc (1))) :: (87, 1, some (aZret)) :: []
set_option maxRecDepth 100000 in
set_option maxHeartbeats 4000000 in
theorem snX3_readPaid (d : Nat) (W : List Nat) (c : Nat × Nat) (hc : c = cA ∨ c = cB) : SndAll (d, TYg, c, W) cdX3_readPaid (adX3_readPaid (d, TYg, c, W)) := by
  unfold cdX3_readPaid adX3_readPaid
  refine sn_op sAl ?_
  refine sn_op (sCV (sfX3_advance c hc) (by decide) (by decide +kernel)) ?_
  refine sn_op sAl ?_
  refine sn_op sGetI ?_
  refine sn_op (sIc (n := 1) (by decide)) ?_
  refine sn_op sCmNe ?_
  refine sn_op sAl ?_
  refine sn_op sGetR ?_
  refine sn_op sAl ?_
  refine sn_op sGetI ?_
  refine sn_op (sCI (sfX2_find c hc) (by decide) (by decide +kernel)) ?_
  refine sn_op sIs ?_
  refine sn_op sIl ?_
  refine sn_op sIfLt ?_
  refine sn_op sAl ?_
  refine sn_op sGetR ?_
  refine sn_op sIl ?_
  refine sn_op sBald ?_
  refine sn_op sIfEq ?_
  refine sn_op sAl ?_
  refine sn_op (sIc (n := 3) (by decide)) ?_
  refine sn_op (sCI (sfX3_fail c hc) (by decide) (by decide +kernel)) ?_
  refine sn_op sZret ?_
  refine sn_op sAl ?_
  refine sn_op sAl ?_
  refine sn_op sGetR ?_
  refine sn_op (sCI (sfX3_toldName c hc) (by decide) (by decide +kernel)) ?_
  refine sn_op sIs ?_
  refine sn_op sIl ?_
  refine sn_op sIfGe ?_
  refine sn_op (sIc (n := 0) (by decide)) ?_
  refine sn_op sZret ?_
  refine sn_op sAl ?_
  refine sn_op (sIc (n := 0) (by decide)) ?_
  refine sn_op (sIc (n := 999999) (by decide)) ?_
  refine sn_op (sCI (sfX3_numberWithin c hc) (by decide) (by decide +kernel)) ?_
  refine sn_op sIs ?_
  refine sn_op sIl ?_
  refine sn_op sIfGe ?_
  refine sn_op (sIc (n := 0) (by decide)) ?_
  refine sn_op sZret ?_
  refine sn_op sAl ?_
  refine sn_op sGetR ?_
  refine sn_op sIl ?_
  refine sn_op sIl ?_
  refine sn_op sIast ?_
  refine sn_op sAl ?_
  refine sn_op sGetR ?_
  refine sn_op sIl ?_
  refine sn_op (sIc (n := 1) (by decide)) ?_
  refine sn_op sBast ?_
  refine sn_op (sIc (n := 1) (by decide)) ?_
  refine sn_op sZret ?_
  exact sn_nil
def csX3_readPaid : List AC := [([(2, 19, 0), (2, 336, 0)], 5, [((0, 0, 0), [((19, 2), (1, 4)), ((19, 3), (0, 800))], []), ((0, 1, 1), [((418, 1), (1, 12))], [])], [49816, 49835, 12884901907, 17179869203, 25769803795, 30064771091, 34359738387, 38654705683], []), ([(2, 19, 0), (2, 720, 0)], 5, [((0, 0, 0), [((19, 2), (1, 4)), ((19, 3), (0, 800))], []), ((0, 1, 1), [((802, 1), (1, 12))], [])], [50200, 50219, 12884901907, 17179869203, 25769803795, 30064771091, 34359738387, 38654705683], [])]
set_option maxRecDepth 100000 in
set_option maxHeartbeats 4000000 in
theorem sfX3_readPaid (c : Nat × Nat) (hc : c = cA ∨ c = cB) : ∀ ac ∈ csX3_readPaid, SafeC TYg c mX3_readPaid ac := by
  intro ac hac
  simp only [csX3_readPaid, List.mem_cons, List.not_mem_nil, or_false] at hac
  rcases hac with rfl | rfl
  · rcases hc with rfl | rfl
    · exact safe_of (ann := []) (fuel := 600) okX3_readPaid (snX3_readPaid _ _ cA (Or.inl rfl)) (fun q hq => by cases hq) (by decide) (by decide +kernel)
    · exact safe_of (ann := []) (fuel := 600) okX3_readPaid (snX3_readPaid _ _ cB (Or.inr rfl)) (fun q hq => by cases hq) (by decide) (by decide +kernel)
  · rcases hc with rfl | rfl
    · exact safe_of (ann := []) (fuel := 600) okX3_readPaid (snX3_readPaid _ _ cA (Or.inl rfl)) (fun q hq => by cases hq) (by decide) (by decide +kernel)
    · exact safe_of (ann := []) (fuel := 600) okX3_readPaid (snX3_readPaid _ _ cB (Or.inr rfl)) (fun q hq => by cases hq) (by decide) (by decide +kernel)
set_option maxRecDepth 100000 in
def adX3_readLand (D : KK) : List ACE := (0, 1, some (aAl 0)) :: (1, 1, some (aAl 1)) :: (2, 3, some (aGetR [(336, 354), (720, 738)])) :: (5, 1, some (aIc (5))) :: (6, 3, some (aCall D 3 3 4 csX3_newName)) :: (9, 1, some (aIs 2)) :: (10, 1, some (aIl 2)) :: (11, 3, some (aIf (fun C x y => bLe C y x) bLt 16)) :: (14, 1, some (aIc (0))) :: (15, 1, some (aZret)) :: (16, 1, some (aAl 0)) :: (17, 1, some (aIc (0))) :: (18, 2, some (aIc (40))) :: (20, 3, some (aCall D 3 3 4 csX3_numberWithin)) :: (23, 1, some (aIs 3)) :: (24, 1, some (aIl 3)) :: (25, 3, some (aIf (fun C x y => bLe C y x) bLt 30)) :: (28, 1, some (aIc (0))) :: (29, 1, some (aZret)) :: (30, 1, some (aAl 1)) :: (31, 3, some (aGetR [(336, 354), (720, 738)])) :: (34, 1, some (aIl 2)) :: (35, 3, some (aCall D 2 2 2 csX2_add)) :: (38, 2, some (aIs 4)) :: (40, 2, some (aIl 4)) :: (42, 3, some (aIf bLt (fun C x y => bLe C y x) 59)) :: (45, 2, some (aIl 4)) :: (47, 1, some (aIc (5))) :: (48, 3, some (aCm (fun C x y => bLe C y x) bLt 59)) :: (51, 1, some (aAl 1)) :: (52, 3, some (aGetR [(336, 21064), (720, 21448)])) :: (55, 2, some (aIl 4)) :: (57, 1, some (aIl 3)) :: (58, 1, some (aIast D)) :: (59, 1, some (aIc (1))) :: (60, 1, some (aZret)) :: []
set_option maxRecDepth 100000 in
set_option maxHeartbeats 4000000 in
theorem snX3_readLand (d : Nat) (W : List Nat) (c : Nat × Nat) (hc : c = cA ∨ c = cB) : SndAll (d, TYg, c, W) cdX3_readLand (adX3_readLand (d, TYg, c, W)) := by
  unfold cdX3_readLand adX3_readLand
  refine sn_op sAl ?_
  refine sn_op sAl ?_
  refine sn_op sGetR ?_
  refine sn_op (sIc (n := 5) (by decide)) ?_
  refine sn_op (sCI (sfX3_newName c hc) (by decide) (by decide +kernel)) ?_
  refine sn_op sIs ?_
  refine sn_op sIl ?_
  refine sn_op sIfGe ?_
  refine sn_op (sIc (n := 0) (by decide)) ?_
  refine sn_op sZret ?_
  refine sn_op sAl ?_
  refine sn_op (sIc (n := 0) (by decide)) ?_
  refine sn_op (sIc (n := 40) (by decide)) ?_
  refine sn_op (sCI (sfX3_numberWithin c hc) (by decide) (by decide +kernel)) ?_
  refine sn_op sIs ?_
  refine sn_op sIl ?_
  refine sn_op sIfGe ?_
  refine sn_op (sIc (n := 0) (by decide)) ?_
  refine sn_op sZret ?_
  refine sn_op sAl ?_
  refine sn_op sGetR ?_
  refine sn_op sIl ?_
  refine sn_op (sCI (sfX2_add c hc) (by decide) (by decide +kernel)) ?_
  refine sn_op sIs ?_
  refine sn_op sIl ?_
  refine sn_op sIfLt ?_
  refine sn_op sIl ?_
  refine sn_op (sIc (n := 5) (by decide)) ?_
  refine sn_op sCmGe ?_
  refine sn_op sAl ?_
  refine sn_op sGetR ?_
  refine sn_op sIl ?_
  refine sn_op sIl ?_
  refine sn_op sIast ?_
  refine sn_op (sIc (n := 1) (by decide)) ?_
  refine sn_op sZret ?_
  exact sn_nil
def csX3_readLand : List AC := [([(2, 19, 0), (2, 336, 0)], 5, [((0, 0, 0), [], []), ((0, 1, 1), [((354, 1), (1, 5))], [])], [21064, 49528, 8589934946, 12884901907, 17179869203, 25769803795, 30064771091, 34359738387, 38654705683], []), ([(2, 19, 0), (2, 720, 0)], 5, [((0, 0, 0), [], []), ((0, 1, 1), [((738, 1), (1, 5))], [])], [21448, 49912, 8589935330, 12884901907, 17179869203, 25769803795, 30064771091, 34359738387, 38654705683], [])]
set_option maxRecDepth 100000 in
set_option maxHeartbeats 4000000 in
theorem sfX3_readLand (c : Nat × Nat) (hc : c = cA ∨ c = cB) : ∀ ac ∈ csX3_readLand, SafeC TYg c mX3_readLand ac := by
  intro ac hac
  simp only [csX3_readLand, List.mem_cons, List.not_mem_nil, or_false] at hac
  rcases hac with rfl | rfl
  · rcases hc with rfl | rfl
    · exact safe_of (ann := []) (fuel := 600) okX3_readLand (snX3_readLand _ _ cA (Or.inl rfl)) (fun q hq => by cases hq) (by decide) (by decide +kernel)
    · exact safe_of (ann := []) (fuel := 600) okX3_readLand (snX3_readLand _ _ cB (Or.inr rfl)) (fun q hq => by cases hq) (by decide) (by decide +kernel)
  · rcases hc with rfl | rfl
    · exact safe_of (ann := []) (fuel := 600) okX3_readLand (snX3_readLand _ _ cA (Or.inl rfl)) (fun q hq => by cases hq) (by decide) (by decide +kernel)
    · exact safe_of (ann := []) (fuel := 600) okX3_readLand (snX3_readLand _ _ cB (Or.inr rfl)) (fun q hq => by cases hq) (by decide) (by decide +kernel)
set_option maxRecDepth 100000 in
def adX3_readMark (D : KK) : List ACE := (0, 1, some (aAl 0)) :: (1, 3, some (aGetI D 3 6)) :: (4, 1, some (aIc (1))) :: (5, 3, some (aCm bNe bEq 17)) :: (8, 1, some (aAl 0)) :: (9, 3, some (aGetI D 3 8)) :: (12, 2, some (aIc (437857280))) :: (14, 3, some (aCm bEq bNe 19)) :: (17, 1, some (aIc (0))) :: (18, 1, some (aIret)) :: (19, 1, some (aAl 0)) :: (20, 3, some (aCall D 3 1 1 csX3_advance)) :: (23, 1, some (aAl 0)) :: (24, 1, some (aIc (1))) :: (25, 2, some (aIc (99))) :: (27, 3, some (aCall D 3 3 4 csX3_numberWithin)) :: (30, 1, some (aIret)) :: []
set_option maxRecDepth 100000 in
set_option maxHeartbeats 4000000 in
theorem snX3_readMark (d : Nat) (W : List Nat) (c : Nat × Nat) (hc : c = cA ∨ c = cB) : SndAll (d, TYg, c, W) cdX3_readMark (adX3_readMark (d, TYg, c, W)) := by
  unfold cdX3_readMark adX3_readMark
  refine sn_op sAl ?_
  refine sn_op sGetI ?_
  refine sn_op (sIc (n := 1) (by decide)) ?_
  refine sn_op sCmNe ?_
  refine sn_op sAl ?_
  refine sn_op sGetI ?_
  refine sn_op (sIc (n := 437857280) (by decide)) ?_
  refine sn_op sCmEq ?_
  refine sn_op (sIc (n := 0) (by decide)) ?_
  refine sn_op sIret ?_
  refine sn_op sAl ?_
  refine sn_op (sCV (sfX3_advance c hc) (by decide) (by decide +kernel)) ?_
  refine sn_op sAl ?_
  refine sn_op (sIc (n := 1) (by decide)) ?_
  refine sn_op (sIc (n := 99) (by decide)) ?_
  refine sn_op (sCI (sfX3_numberWithin c hc) (by decide) (by decide +kernel)) ?_
  refine sn_op sIret ?_
  exact sn_nil
def csX3_readMark : List AC := [([(2, 19, 0)], 5, [((0, -1, -1), [((19, 2), (1, 2)), ((19, 3), (0, 800))], []), ((0, 0, 99), [], [])], [12884901907, 17179869203, 25769803795, 30064771091, 34359738387, 38654705683], [])]
set_option maxRecDepth 100000 in
set_option maxHeartbeats 4000000 in
theorem sfX3_readMark (c : Nat × Nat) (hc : c = cA ∨ c = cB) : ∀ ac ∈ csX3_readMark, SafeC TYg c mX3_readMark ac := by
  intro ac hac
  simp only [csX3_readMark, List.mem_cons, List.not_mem_nil, or_false] at hac
  rcases hac with rfl
  · rcases hc with rfl | rfl
    · exact safe_of (ann := []) (fuel := 600) okX3_readMark (snX3_readMark _ _ cA (Or.inl rfl)) (fun q hq => by cases hq) (by decide) (by decide +kernel)
    · exact safe_of (ann := []) (fuel := 600) okX3_readMark (snX3_readMark _ _ cB (Or.inr rfl)) (fun q hq => by cases hq) (by decide) (by decide +kernel)
set_option maxRecDepth 100000 in
def adX4_add (D : KK) : List ACE := (0, 1, some (aAl 0)) :: (1, 3, some (aGetI D 4 7)) :: (4, 2, some (aIc (40))) :: (6, 3, some (aCm bLt (fun C x y => bLe C y x) 11)) :: (9, 1, some (aIc (0))) :: (10, 1, some (aZret)) :: (11, 1, some (aAl 0)) :: (12, 3, some (aGetR [(452, 164312), (836, 164696)])) :: (15, 1, some (aAl 0)) :: (16, 3, some (aGetI D 4 7)) :: (19, 1, some (aIl 1)) :: (20, 1, some (aIast D)) :: (21, 1, some (aAl 0)) :: (22, 3, some (aGetR [(452, 164328), (836, 164712)])) :: (25, 1, some (aAl 0)) :: (26, 3, some (aGetI D 4 7)) :: (29, 1, some (aIl 2)) :: (30, 1, some (aIast D)) :: (31, 1, some (aAl 0)) :: (32, 3, some (aGetR [(452, 164344), (836, 164728)])) :: (35, 1, some (aAl 0)) :: (36, 3, some (aGetI D 4 7)) :: (39, 1, some (aIl 3)) :: (40, 1, some (aIast D)) :: (41, 1, some (aAl 0)) :: (42, 3, some (aGetR [(452, 164360), (836, 164744)])) :: (45, 1, some (aAl 0)) :: (46, 3, some (aGetI D 4 7)) :: (49, 2, some (aIl 4)) :: (51, 1, some (aIast D)) :: (52, 1, some (aAl 0)) :: (53, 3, some (aGetR [(452, 164376), (836, 164760)])) :: (56, 1, some (aAl 0)) :: (57, 3, some (aGetI D 4 7)) :: (60, 2, some (aIl 5)) :: (62, 1, some (aIast D)) :: (63, 1, some (aAl 0)) :: (64, 3, some (aGetR [(452, 164392), (836, 164776)])) :: (67, 1, some (aAl 0)) :: (68, 3, some (aGetI D 4 7)) :: (71, 2, some (aIl 6)) :: (73, 1, some (aIast D)) :: (74, 1, some (aAl 0)) :: (75, 3, some (aGetR [(452, 164408), (836, 164792)])) :: (78, 1, some (aAl 0)) :: (79, 3, some (aGetI D 4 7)) :: (82, 2, some (aIl 7)) :: (84, 1, some (aIast D)) :: (85, 1, some (aAl 0)) :: (86, 1, some (aDup)) :: (87, 3, some (aGetI D 4 7)) :: (90, 1, some (aIc (1))) :: (91, 1, some (aBin fAdd)) :: (92, 3, some (aPutI D 4 7)) :: (95, 1, some (aIc (1))) :: (96, 1, some (aZret)) :: []
set_option maxRecDepth 100000 in
set_option maxHeartbeats 4000000 in
theorem snX4_add (d : Nat) (W : List Nat) (c : Nat × Nat) (hc : c = cA ∨ c = cB) : SndAll (d, TYg, c, W) cdX4_add (adX4_add (d, TYg, c, W)) := by
  unfold cdX4_add adX4_add
  refine sn_op sAl ?_
  refine sn_op sGetI ?_
  refine sn_op (sIc (n := 40) (by decide)) ?_
  refine sn_op sCmLt ?_
  refine sn_op (sIc (n := 0) (by decide)) ?_
  refine sn_op sZret ?_
  refine sn_op sAl ?_
  refine sn_op sGetR ?_
  refine sn_op sAl ?_
  refine sn_op sGetI ?_
  refine sn_op sIl ?_
  refine sn_op sIast ?_
  refine sn_op sAl ?_
  refine sn_op sGetR ?_
  refine sn_op sAl ?_
  refine sn_op sGetI ?_
  refine sn_op sIl ?_
  refine sn_op sIast ?_
  refine sn_op sAl ?_
  refine sn_op sGetR ?_
  refine sn_op sAl ?_
  refine sn_op sGetI ?_
  refine sn_op sIl ?_
  refine sn_op sIast ?_
  refine sn_op sAl ?_
  refine sn_op sGetR ?_
  refine sn_op sAl ?_
  refine sn_op sGetI ?_
  refine sn_op sIl ?_
  refine sn_op sIast ?_
  refine sn_op sAl ?_
  refine sn_op sGetR ?_
  refine sn_op sAl ?_
  refine sn_op sGetI ?_
  refine sn_op sIl ?_
  refine sn_op sIast ?_
  refine sn_op sAl ?_
  refine sn_op sGetR ?_
  refine sn_op sAl ?_
  refine sn_op sGetI ?_
  refine sn_op sIl ?_
  refine sn_op sIast ?_
  refine sn_op sAl ?_
  refine sn_op sGetR ?_
  refine sn_op sAl ?_
  refine sn_op sGetI ?_
  refine sn_op sIl ?_
  refine sn_op sIast ?_
  refine sn_op sAl ?_
  refine sn_op sDup ?_
  refine sn_op sGetI ?_
  refine sn_op (sIc (n := 1) (by decide)) ?_
  refine sn_op sIadd ?_
  refine sn_op sPutI ?_
  refine sn_op (sIc (n := 1) (by decide)) ?_
  refine sn_op sZret ?_
  exact sn_nil
def csX4_add : List AC := [([(2, 452, 0), (0, 0, 11), (0, 0, 11), (0, 1, 999), (0, 0, 11), (0, 1, 999), (0, 0, 400), (0, 0, 0)], 1, [((0, 0, 0), [((452, 7), (40, 40))], []), ((0, 1, 1), [((452, 7), (1, 40))], [])], [164312, 164328, 164344, 164360, 164376, 164392, 164408, 34359738820], []), ([(2, 836, 0), (0, 0, 11), (0, 0, 11), (0, 1, 999), (0, 0, 11), (0, 1, 999), (0, 0, 400), (0, 0, 0)], 1, [((0, 0, 0), [((836, 7), (40, 40))], []), ((0, 1, 1), [((836, 7), (1, 40))], [])], [164696, 164712, 164728, 164744, 164760, 164776, 164792, 34359739204], []), ([(2, 452, 0), (0, 0, 11), (0, 0, 11), (0, 1, 999), (0, 0, 11), (0, 1, 999), (0, 0, 400), (0, 0, 99)], 1, [((0, 0, 0), [((452, 7), (40, 40))], []), ((0, 1, 1), [((452, 7), (1, 40))], [])], [164312, 164328, 164344, 164360, 164376, 164392, 164408, 34359738820], []), ([(2, 836, 0), (0, 0, 11), (0, 0, 11), (0, 1, 999), (0, 0, 11), (0, 1, 999), (0, 0, 400), (0, 0, 99)], 1, [((0, 0, 0), [((836, 7), (40, 40))], []), ((0, 1, 1), [((836, 7), (1, 40))], [])], [164696, 164712, 164728, 164744, 164760, 164776, 164792, 34359739204], [])]
set_option maxRecDepth 100000 in
set_option maxHeartbeats 4000000 in
theorem sfX4_add (c : Nat × Nat) (hc : c = cA ∨ c = cB) : ∀ ac ∈ csX4_add, SafeC TYg c mX4_add ac := by
  intro ac hac
  simp only [csX4_add, List.mem_cons, List.not_mem_nil, or_false] at hac
  rcases hac with rfl | rfl | rfl | rfl
  · rcases hc with rfl | rfl
    · exact safe_of (ann := []) (fuel := 600) okX4_add (snX4_add _ _ cA (Or.inl rfl)) (fun q hq => by cases hq) (by decide) (by decide +kernel)
    · exact safe_of (ann := []) (fuel := 600) okX4_add (snX4_add _ _ cB (Or.inr rfl)) (fun q hq => by cases hq) (by decide) (by decide +kernel)
  · rcases hc with rfl | rfl
    · exact safe_of (ann := []) (fuel := 600) okX4_add (snX4_add _ _ cA (Or.inl rfl)) (fun q hq => by cases hq) (by decide) (by decide +kernel)
    · exact safe_of (ann := []) (fuel := 600) okX4_add (snX4_add _ _ cB (Or.inr rfl)) (fun q hq => by cases hq) (by decide) (by decide +kernel)
  · rcases hc with rfl | rfl
    · exact safe_of (ann := []) (fuel := 600) okX4_add (snX4_add _ _ cA (Or.inl rfl)) (fun q hq => by cases hq) (by decide) (by decide +kernel)
    · exact safe_of (ann := []) (fuel := 600) okX4_add (snX4_add _ _ cB (Or.inr rfl)) (fun q hq => by cases hq) (by decide) (by decide +kernel)
  · rcases hc with rfl | rfl
    · exact safe_of (ann := []) (fuel := 600) okX4_add (snX4_add _ _ cA (Or.inl rfl)) (fun q hq => by cases hq) (by decide) (by decide +kernel)
    · exact safe_of (ann := []) (fuel := 600) okX4_add (snX4_add _ _ cB (Or.inr rfl)) (fun q hq => by cases hq) (by decide) (by decide +kernel)
set_option maxRecDepth 100000 in
def adX3_readDay (D : KK) : List ACE := (0, 1, some (aAl 0)) :: (1, 3, some (aGetI D 3 6)) :: (4, 1, some (aIc (1))) :: (5, 3, some (aCm bNe bEq 17)) :: (8, 1, some (aAl 0)) :: (9, 3, some (aGetI D 3 8)) :: (12, 2, some (aIc (136085504))) :: (14, 3, some (aCm bEq bNe 25)) :: (17, 1, some (aAl 0)) :: (18, 1, some (aIc (1))) :: (19, 3, some (aCall D 3 2 2 csX3_fail)) :: (22, 1, some (aPop)) :: (23, 1, some (aIc (-1))) :: (24, 1, some (aIret)) :: (25, 1, some (aAl 0)) :: (26, 3, some (aCall D 3 1 1 csX3_advance)) :: (29, 1, some (aAl 0)) :: (30, 3, some (aGetI D 3 7)) :: (33, 1, some (aIs 2)) :: (34, 1, some (aAl 0)) :: (35, 1, some (aIc (0))) :: (36, 3, some (aIc (400))) :: (39, 3, some (aCall D 3 3 4 csX3_numberWithin)) :: (42, 1, some (aIs 3)) :: (43, 1, some (aIl 3)) :: (44, 3, some (aIf bLt (fun C x y => bLe C y x) 64)) :: (47, 1, some (aIl 3)) :: (48, 1, some (aIl 1)) :: (49, 3, some (aCm (fun C x y => bLe C y x) bLt 64)) :: (52, 1, some (aAl 0)) :: (53, 1, some (aIc (5))) :: (54, 3, some (aPutI D 3 2)) :: (57, 1, some (aAl 0)) :: (58, 1, some (aIl 2)) :: (59, 3, some (aPutI D 3 3)) :: (62, 1, some (aIc (-1))) :: (63, 1, some (aIret)) :: (64, 1, some (aIl 3)) :: (65, 1, some (aIret)) :: []
set_option maxRecDepth 100000 in
set_option maxHeartbeats 4000000 in
theorem snX3_readDay (d : Nat) (W : List Nat) (c : Nat × Nat) (hc : c = cA ∨ c = cB) : SndAll (d, TYg, c, W) cdX3_readDay (adX3_readDay (d, TYg, c, W)) := by
  unfold cdX3_readDay adX3_readDay
  refine sn_op sAl ?_
  refine sn_op sGetI ?_
  refine sn_op (sIc (n := 1) (by decide)) ?_
  refine sn_op sCmNe ?_
  refine sn_op sAl ?_
  refine sn_op sGetI ?_
  refine sn_op (sIc (n := 136085504) (by decide)) ?_
  refine sn_op sCmEq ?_
  refine sn_op sAl ?_
  refine sn_op (sIc (n := 1) (by decide)) ?_
  refine sn_op (sCI (sfX3_fail c hc) (by decide) (by decide +kernel)) ?_
  refine sn_op sPop ?_
  refine sn_op (sIc (n := -1) (by decide)) ?_
  refine sn_op sIret ?_
  refine sn_op sAl ?_
  refine sn_op (sCV (sfX3_advance c hc) (by decide) (by decide +kernel)) ?_
  refine sn_op sAl ?_
  refine sn_op sGetI ?_
  refine sn_op sIs ?_
  refine sn_op sAl ?_
  refine sn_op (sIc (n := 0) (by decide)) ?_
  refine sn_op (sIc (n := 400) (by decide)) ?_
  refine sn_op (sCI (sfX3_numberWithin c hc) (by decide) (by decide +kernel)) ?_
  refine sn_op sIs ?_
  refine sn_op sIl ?_
  refine sn_op sIfLt ?_
  refine sn_op sIl ?_
  refine sn_op sIl ?_
  refine sn_op sCmGe ?_
  refine sn_op sAl ?_
  refine sn_op (sIc (n := 5) (by decide)) ?_
  refine sn_op sPutI ?_
  refine sn_op sAl ?_
  refine sn_op sIl ?_
  refine sn_op sPutI ?_
  refine sn_op (sIc (n := -1) (by decide)) ?_
  refine sn_op sIret ?_
  refine sn_op sIl ?_
  refine sn_op sIret ?_
  exact sn_nil
def csX3_readDay : List AC := [([(2, 19, 0), (0, -2147483648, 2147483647)], 5, [((0, -1, -1), [((19, 2), (1, 5)), ((19, 3), (0, 800))], []), ((0, 0, 400), [], [(1, (-2147483648, 400))])], [12884901907, 17179869203, 25769803795, 30064771091, 34359738387, 38654705683], [])]
set_option maxRecDepth 100000 in
set_option maxHeartbeats 4000000 in
theorem sfX3_readDay (c : Nat × Nat) (hc : c = cA ∨ c = cB) : ∀ ac ∈ csX3_readDay, SafeC TYg c mX3_readDay ac := by
  intro ac hac
  simp only [csX3_readDay, List.mem_cons, List.not_mem_nil, or_false] at hac
  rcases hac with rfl
  · rcases hc with rfl | rfl
    · exact safe_of (ann := []) (fuel := 600) okX3_readDay (snX3_readDay _ _ cA (Or.inl rfl)) (fun q hq => by cases hq) (by decide) (by decide +kernel)
    · exact safe_of (ann := []) (fuel := 600) okX3_readDay (snX3_readDay _ _ cB (Or.inr rfl)) (fun q hq => by cases hq) (by decide) (by decide +kernel)
