/-! contracts -/
set_option maxRecDepth 100000 in
def adX7_fits (D : KK) : List ACE := (0, 1, some (aAl 0)) :: (1, 3, some (aGetR [(1175, 329048)])) :: (4, 1, some (aIl 2)) :: (5, 1, some (aIald D)) :: (6, 1, some (aAl 0)) :: (7, 3, some (aGetR [(1175, 165384)])) :: (10, 1, some (aIl 2)) :: (11, 1, some (aIald D)) :: (12, 3, some (aCm bEq bNe 23)) :: (15, 1, some (aAl 0)) :: (16, 1, some (aIl 2)) :: (17, 3, some (aCall D 7 2 2 csX7_isStopped)) :: (20, 3, some (aIf bEq bNe 25)) :: (23, 1, some (aIc (0))) :: (24, 1, some (aZret)) :: (25, 1, some (aAl 0)) :: (26, 3, some (aGetR [(1175, 26104)])) :: (29, 1, some (aIc (0))) :: (30, 1, some (aIald D)) :: (31, 1, some (aIs 3)) :: (32, 1, some (aAl 0)) :: (33, 3, some (aGetR [(1175, 26104)])) :: (36, 1, some (aIl 1)) :: (37, 1, some (aIc (1))) :: (38, 1, some (aBin fSub)) :: (39, 1, some (aIald D)) :: (40, 2, some (aIs 4)) :: (42, 1, some (aAl 0)) :: (43, 3, some (aGetR [(1175, 329048)])) :: (46, 1, some (aIl 2)) :: (47, 1, some (aIald D)) :: (48, 1, some (aAl 0)) :: (49, 3, some (aGetR [(1175, 165384)])) :: (52, 2, some (aIl 4)) :: (54, 1, some (aIald D)) :: (55, 3, some (aCm bNe bEq 111)) :: (58, 1, some (aAl 0)) :: (59, 3, some (aGetR [(1175, 329096)])) :: (62, 1, some (aIl 2)) :: (63, 1, some (aIald D)) :: (64, 1, some (aAl 0)) :: (65, 3, some (aGetR [(1175, 329096)])) :: (68, 1, some (aIl 3)) :: (69, 1, some (aIald D)) :: (70, 3, some (aCm bNe bEq 111)) :: (73, 1, some (aAl 0)) :: (74, 3, some (aGetI D 7 48)) :: (77, 3, some (aIf bNe bEq 95)) :: (80, 1, some (aAl 0)) :: (81, 3, some (aGetR [(1175, 329144)])) :: (84, 1, some (aIl 2)) :: (85, 1, some (aIald D)) :: (86, 1, some (aAl 0)) :: (87, 3, some (aGetR [(1175, 329144)])) :: (90, 1, some (aIl 3)) :: (91, 1, some (aIald D)) :: (92, 3, some (aCm bNe bEq 111)) :: (95, 1, some (aAl 0)) :: (96, 3, some (aGetR [(1175, 329128)])) :: (99, 1, some (aIl 2)) :: (100, 1, some (aIald D)) :: (101, 1, some (aAl 0)) :: (102, 3, some (aGetR [(1175, 329128)])) :: (105, 2, some (aIl 4)) :: (107, 1, some (aIald D)) :: (108, 3, some (aCm (fun C x y => bLe C y x) bLt 113)) :: (111, 1, some (aIc (0))) :: (112, 1, some (aZret)) :: (113, 1, some (aIc (0))) :: (114, 2, some (aIs 5)) :: (116, 0, none) :: (116, 2, some (aIl 5)) :: (118, 1, some (aIl 1)) :: (119, 3, some (aCm (fun C x y => bLe C y x) bLt 151)) :: (122, 1, some (aAl 0)) :: (123, 3, some (aGetR [(1175, 329048)])) :: (126, 1, some (aAl 0)) :: (127, 3, some (aGetR [(1175, 26104)])) :: (130, 2, some (aIl 5)) :: (132, 1, some (aIald D)) :: (133, 1, some (aIald D)) :: (134, 1, some (aAl 0)) :: (135, 3, some (aGetR [(1175, 329048)])) :: (138, 1, some (aIl 2)) :: (139, 1, some (aIald D)) :: (140, 3, some (aCm bNe bEq 145)) :: (143, 1, some (aIc (0))) :: (144, 1, some (aZret)) :: (145, 3, some (aInc 5 (1))) :: (148, 3, some (aGoto 116)) :: (151, 1, some (aIc (1))) :: (152, 1, some (aZret)) :: []
set_option maxRecDepth 100000 in
set_option maxHeartbeats 4000000 in
theorem snX7_fits (d : Nat) (W : List Nat) (c : Nat × Nat) (hc : c = cA ∨ c = cB) : SndAll (d, TYg, c, W) cdX7_fits (adX7_fits (d, TYg, c, W)) := by
  unfold cdX7_fits adX7_fits
  refine sn_op sAl ?_
  refine sn_op sGetR ?_
  refine sn_op sIl ?_
  refine sn_op sIald ?_
  refine sn_op sAl ?_
  refine sn_op sGetR ?_
  refine sn_op sIl ?_
  refine sn_op sIald ?_
  refine sn_op sCmEq ?_
  refine sn_op sAl ?_
  refine sn_op sIl ?_
  refine sn_op (sCI (sfX7_isStopped c hc) (by decide) (by decide +kernel)) ?_
  refine sn_op sIfEq ?_
  refine sn_op (sIc (n := 0) (by decide)) ?_
  refine sn_op sZret ?_
  refine sn_op sAl ?_
  refine sn_op sGetR ?_
  refine sn_op (sIc (n := 0) (by decide)) ?_
  refine sn_op sIald ?_
  refine sn_op sIs ?_
  refine sn_op sAl ?_
  refine sn_op sGetR ?_
  refine sn_op sIl ?_
  refine sn_op (sIc (n := 1) (by decide)) ?_
  refine sn_op sIsub ?_
  refine sn_op sIald ?_
  refine sn_op sIs ?_
  refine sn_op sAl ?_
  refine sn_op sGetR ?_
  refine sn_op sIl ?_
  refine sn_op sIald ?_
  refine sn_op sAl ?_
  refine sn_op sGetR ?_
  refine sn_op sIl ?_
  refine sn_op sIald ?_
  refine sn_op sCmNe ?_
  refine sn_op sAl ?_
  refine sn_op sGetR ?_
  refine sn_op sIl ?_
  refine sn_op sIald ?_
  refine sn_op sAl ?_
  refine sn_op sGetR ?_
  refine sn_op sIl ?_
  refine sn_op sIald ?_
  refine sn_op sCmNe ?_
  refine sn_op sAl ?_
  refine sn_op sGetI ?_
  refine sn_op sIfNe ?_
  refine sn_op sAl ?_
  refine sn_op sGetR ?_
  refine sn_op sIl ?_
  refine sn_op sIald ?_
  refine sn_op sAl ?_
  refine sn_op sGetR ?_
  refine sn_op sIl ?_
  refine sn_op sIald ?_
  refine sn_op sCmNe ?_
  refine sn_op sAl ?_
  refine sn_op sGetR ?_
  refine sn_op sIl ?_
  refine sn_op sIald ?_
  refine sn_op sAl ?_
  refine sn_op sGetR ?_
  refine sn_op sIl ?_
  refine sn_op sIald ?_
  refine sn_op sCmGe ?_
  refine sn_op (sIc (n := 0) (by decide)) ?_
  refine sn_op sZret ?_
  refine sn_op (sIc (n := 0) (by decide)) ?_
  refine sn_op sIs ?_
  refine sn_st ?_
  refine sn_op sIl ?_
  refine sn_op sIl ?_
  refine sn_op sCmGe ?_
  refine sn_op sAl ?_
  refine sn_op sGetR ?_
  refine sn_op sAl ?_
  refine sn_op sGetR ?_
  refine sn_op sIl ?_
  refine sn_op sIald ?_
  refine sn_op sIald ?_
  refine sn_op sAl ?_
  refine sn_op sGetR ?_
  refine sn_op sIl ?_
  refine sn_op sIald ?_
  refine sn_op sCmNe ?_
  refine sn_op (sIc (n := 0) (by decide)) ?_
  refine sn_op sZret ?_
  refine sn_op (sInc (n := 1) (by decide)) ?_
  refine sn_op sGoto ?_
  refine sn_op (sIc (n := 1) (by decide)) ?_
  refine sn_op sZret ?_
  exact sn_nil
def csX7_fits : List AC := [([(2, 1175, 0), (0, 1, 1), (0, 0, 0)], 2, [((0, 0, 0), [], []), ((0, 1, 1), [], [])], [], []), ([(2, 1175, 0), (0, 2, 2), (0, 0, 0)], 2, [((0, 0, 0), [], []), ((0, 1, 1), [], [])], [], []), ([(2, 1175, 0), (0, 3, 3), (0, 0, 0)], 2, [((0, 0, 0), [], []), ((0, 1, 1), [], [])], [], []), ([(2, 1175, 0), (0, 4, 4), (0, 0, 0)], 2, [((0, 0, 0), [], []), ((0, 1, 1), [], [])], [], []), ([(2, 1175, 0), (0, 5, 5), (0, 0, 0)], 2, [((0, 0, 0), [], []), ((0, 1, 1), [], [])], [], []), ([(2, 1175, 0), (0, 1, 1), (0, 0, 39)], 2, [((0, 0, 0), [], []), ((0, 1, 1), [], [])], [], []), ([(2, 1175, 0), (0, 2, 2), (0, 0, 39)], 2, [((0, 0, 0), [], []), ((0, 1, 1), [], [])], [], []), ([(2, 1175, 0), (0, 3, 3), (0, 0, 39)], 2, [((0, 0, 0), [], []), ((0, 1, 1), [], [])], [], []), ([(2, 1175, 0), (0, 4, 4), (0, 0, 39)], 2, [((0, 0, 0), [], []), ((0, 1, 1), [], [])], [], []), ([(2, 1175, 0), (0, 5, 5), (0, 0, 39)], 2, [((0, 0, 0), [], []), ((0, 1, 1), [], [])], [], []), ([(2, 1175, 0), (0, 1, 5), (0, 0, 39)], 2, [((0, 0, 0), [], []), ((0, 1, 1), [], [])], [], [])]
set_option maxRecDepth 100000 in
set_option maxHeartbeats 4000000 in
theorem sfX7_fits (c : Nat × Nat) (hc : c = cA ∨ c = cB) : ∀ ac ∈ csX7_fits, SafeC TYg c mX7_fits ac := by
  intro ac hac
  simp only [csX7_fits, List.mem_cons, List.not_mem_nil, or_false] at hac
  rcases hac with rfl | rfl | rfl | rfl | rfl | rfl | rfl | rfl | rfl | rfl | rfl
  · rcases hc with rfl | rfl
    · exact safe_of (ann := [(116, [(2, 1175, 0), (0, 1, 1), (0, 0, 0), (0, 0, 39), (0, 0, 39), (0, 0, 1)], [(0, 5, 0, 4294967296)])]) (fuel := 600) okX7_fits (snX7_fits _ _ cA (Or.inl rfl)) (List.forall_mem_cons.mpr ⟨⟨_, _, rfl⟩, (fun q hq => by cases hq)⟩) (by decide) (by decide +kernel)
    · exact safe_of (ann := [(116, [(2, 1175, 0), (0, 1, 1), (0, 0, 0), (0, 0, 39), (0, 0, 39), (0, 0, 1)], [(0, 5, 0, 4294967296)])]) (fuel := 600) okX7_fits (snX7_fits _ _ cB (Or.inr rfl)) (List.forall_mem_cons.mpr ⟨⟨_, _, rfl⟩, (fun q hq => by cases hq)⟩) (by decide) (by decide +kernel)
  · rcases hc with rfl | rfl
    · exact safe_of (ann := [(116, [(2, 1175, 0), (0, 2, 2), (0, 0, 0), (0, 0, 39), (0, 0, 39), (0, 0, 2)], [(0, 5, 0, 4294967296)])]) (fuel := 600) okX7_fits (snX7_fits _ _ cA (Or.inl rfl)) (List.forall_mem_cons.mpr ⟨⟨_, _, rfl⟩, (fun q hq => by cases hq)⟩) (by decide) (by decide +kernel)
    · exact safe_of (ann := [(116, [(2, 1175, 0), (0, 2, 2), (0, 0, 0), (0, 0, 39), (0, 0, 39), (0, 0, 2)], [(0, 5, 0, 4294967296)])]) (fuel := 600) okX7_fits (snX7_fits _ _ cB (Or.inr rfl)) (List.forall_mem_cons.mpr ⟨⟨_, _, rfl⟩, (fun q hq => by cases hq)⟩) (by decide) (by decide +kernel)
  · rcases hc with rfl | rfl
    · exact safe_of (ann := [(116, [(2, 1175, 0), (0, 3, 3), (0, 0, 0), (0, 0, 39), (0, 0, 39), (0, 0, 3)], [(0, 5, 0, 4294967296)])]) (fuel := 600) okX7_fits (snX7_fits _ _ cA (Or.inl rfl)) (List.forall_mem_cons.mpr ⟨⟨_, _, rfl⟩, (fun q hq => by cases hq)⟩) (by decide) (by decide +kernel)
    · exact safe_of (ann := [(116, [(2, 1175, 0), (0, 3, 3), (0, 0, 0), (0, 0, 39), (0, 0, 39), (0, 0, 3)], [(0, 5, 0, 4294967296)])]) (fuel := 600) okX7_fits (snX7_fits _ _ cB (Or.inr rfl)) (List.forall_mem_cons.mpr ⟨⟨_, _, rfl⟩, (fun q hq => by cases hq)⟩) (by decide) (by decide +kernel)
  · rcases hc with rfl | rfl
    · exact safe_of (ann := [(116, [(2, 1175, 0), (0, 4, 4), (0, 0, 0), (0, 0, 39), (0, 0, 39), (0, 0, 4)], [(0, 5, 0, 4294967296)])]) (fuel := 600) okX7_fits (snX7_fits _ _ cA (Or.inl rfl)) (List.forall_mem_cons.mpr ⟨⟨_, _, rfl⟩, (fun q hq => by cases hq)⟩) (by decide) (by decide +kernel)
    · exact safe_of (ann := [(116, [(2, 1175, 0), (0, 4, 4), (0, 0, 0), (0, 0, 39), (0, 0, 39), (0, 0, 4)], [(0, 5, 0, 4294967296)])]) (fuel := 600) okX7_fits (snX7_fits _ _ cB (Or.inr rfl)) (List.forall_mem_cons.mpr ⟨⟨_, _, rfl⟩, (fun q hq => by cases hq)⟩) (by decide) (by decide +kernel)
  · rcases hc with rfl | rfl
    · exact safe_of (ann := [(116, [(2, 1175, 0), (0, 5, 5), (0, 0, 0), (0, 0, 39), (0, 0, 39), (0, 0, 5)], [(0, 5, 0, 4294967296)])]) (fuel := 600) okX7_fits (snX7_fits _ _ cA (Or.inl rfl)) (List.forall_mem_cons.mpr ⟨⟨_, _, rfl⟩, (fun q hq => by cases hq)⟩) (by decide) (by decide +kernel)
    · exact safe_of (ann := [(116, [(2, 1175, 0), (0, 5, 5), (0, 0, 0), (0, 0, 39), (0, 0, 39), (0, 0, 5)], [(0, 5, 0, 4294967296)])]) (fuel := 600) okX7_fits (snX7_fits _ _ cB (Or.inr rfl)) (List.forall_mem_cons.mpr ⟨⟨_, _, rfl⟩, (fun q hq => by cases hq)⟩) (by decide) (by decide +kernel)
  · rcases hc with rfl | rfl
    · exact safe_of (ann := [(116, [(2, 1175, 0), (0, 1, 1), (0, 0, 39), (0, 0, 39), (0, 0, 39), (0, 0, 1)], [(0, 5, 0, 4294967296)])]) (fuel := 600) okX7_fits (snX7_fits _ _ cA (Or.inl rfl)) (List.forall_mem_cons.mpr ⟨⟨_, _, rfl⟩, (fun q hq => by cases hq)⟩) (by decide) (by decide +kernel)
    · exact safe_of (ann := [(116, [(2, 1175, 0), (0, 1, 1), (0, 0, 39), (0, 0, 39), (0, 0, 39), (0, 0, 1)], [(0, 5, 0, 4294967296)])]) (fuel := 600) okX7_fits (snX7_fits _ _ cB (Or.inr rfl)) (List.forall_mem_cons.mpr ⟨⟨_, _, rfl⟩, (fun q hq => by cases hq)⟩) (by decide) (by decide +kernel)
  · rcases hc with rfl | rfl
    · exact safe_of (ann := [(116, [(2, 1175, 0), (0, 2, 2), (0, 0, 39), (0, 0, 39), (0, 0, 39), (0, 0, 2)], [(0, 5, 0, 4294967296)])]) (fuel := 600) okX7_fits (snX7_fits _ _ cA (Or.inl rfl)) (List.forall_mem_cons.mpr ⟨⟨_, _, rfl⟩, (fun q hq => by cases hq)⟩) (by decide) (by decide +kernel)
    · exact safe_of (ann := [(116, [(2, 1175, 0), (0, 2, 2), (0, 0, 39), (0, 0, 39), (0, 0, 39), (0, 0, 2)], [(0, 5, 0, 4294967296)])]) (fuel := 600) okX7_fits (snX7_fits _ _ cB (Or.inr rfl)) (List.forall_mem_cons.mpr ⟨⟨_, _, rfl⟩, (fun q hq => by cases hq)⟩) (by decide) (by decide +kernel)
  · rcases hc with rfl | rfl
    · exact safe_of (ann := [(116, [(2, 1175, 0), (0, 3, 3), (0, 0, 39), (0, 0, 39), (0, 0, 39), (0, 0, 3)], [(0, 5, 0, 4294967296)])]) (fuel := 600) okX7_fits (snX7_fits _ _ cA (Or.inl rfl)) (List.forall_mem_cons.mpr ⟨⟨_, _, rfl⟩, (fun q hq => by cases hq)⟩) (by decide) (by decide +kernel)
    · exact safe_of (ann := [(116, [(2, 1175, 0), (0, 3, 3), (0, 0, 39), (0, 0, 39), (0, 0, 39), (0, 0, 3)], [(0, 5, 0, 4294967296)])]) (fuel := 600) okX7_fits (snX7_fits _ _ cB (Or.inr rfl)) (List.forall_mem_cons.mpr ⟨⟨_, _, rfl⟩, (fun q hq => by cases hq)⟩) (by decide) (by decide +kernel)
  · rcases hc with rfl | rfl
    · exact safe_of (ann := [(116, [(2, 1175, 0), (0, 4, 4), (0, 0, 39), (0, 0, 39), (0, 0, 39), (0, 0, 4)], [(0, 5, 0, 4294967296)])]) (fuel := 600) okX7_fits (snX7_fits _ _ cA (Or.inl rfl)) (List.forall_mem_cons.mpr ⟨⟨_, _, rfl⟩, (fun q hq => by cases hq)⟩) (by decide) (by decide +kernel)
    · exact safe_of (ann := [(116, [(2, 1175, 0), (0, 4, 4), (0, 0, 39), (0, 0, 39), (0, 0, 39), (0, 0, 4)], [(0, 5, 0, 4294967296)])]) (fuel := 600) okX7_fits (snX7_fits _ _ cB (Or.inr rfl)) (List.forall_mem_cons.mpr ⟨⟨_, _, rfl⟩, (fun q hq => by cases hq)⟩) (by decide) (by decide +kernel)
  · rcases hc with rfl | rfl
    · exact safe_of (ann := [(116, [(2, 1175, 0), (0, 5, 5), (0, 0, 39), (0, 0, 39), (0, 0, 39), (0, 0, 5)], [(0, 5, 0, 4294967296)])]) (fuel := 600) okX7_fits (snX7_fits _ _ cA (Or.inl rfl)) (List.forall_mem_cons.mpr ⟨⟨_, _, rfl⟩, (fun q hq => by cases hq)⟩) (by decide) (by decide +kernel)
    · exact safe_of (ann := [(116, [(2, 1175, 0), (0, 5, 5), (0, 0, 39), (0, 0, 39), (0, 0, 39), (0, 0, 5)], [(0, 5, 0, 4294967296)])]) (fuel := 600) okX7_fits (snX7_fits _ _ cB (Or.inr rfl)) (List.forall_mem_cons.mpr ⟨⟨_, _, rfl⟩, (fun q hq => by cases hq)⟩) (by decide) (by decide +kernel)
  · rcases hc with rfl | rfl
    · exact safe_of (ann := [(116, [(2, 1175, 0), (0, 1, 5), (0, 0, 39), (0, 0, 39), (0, 0, 39), (0, 0, 5)], [(0, 5, 0, 4294967296)])]) (fuel := 600) okX7_fits (snX7_fits _ _ cA (Or.inl rfl)) (List.forall_mem_cons.mpr ⟨⟨_, _, rfl⟩, (fun q hq => by cases hq)⟩) (by decide) (by decide +kernel)
    · exact safe_of (ann := [(116, [(2, 1175, 0), (0, 1, 5), (0, 0, 39), (0, 0, 39), (0, 0, 39), (0, 0, 5)], [(0, 5, 0, 4294967296)])]) (fuel := 600) okX7_fits (snX7_fits _ _ cB (Or.inr rfl)) (List.forall_mem_cons.mpr ⟨⟨_, _, rfl⟩, (fun q hq => by cases hq)⟩) (by decide) (by decide +kernel)
set_option maxRecDepth 100000 in
def adX7_grows_6 (D : KK) : List ACE := (0, 1, some (aAl 0)) :: (1, 3, some (aGetI D 7 47)) :: (4, 3, some (aIf bEq bNe 8)) :: (7, 1, some (aVret)) :: (8, 1, some (aIl 1)) :: (9, 1, some (aIc (1))) :: (10, 3, some (aCm bLe (fun C x y => bLt C y x) 110)) :: (13, 1, some (aAl 0)) :: (14, 3, some (aGetR [(1175, 165384)])) :: (17, 1, some (aAl 0)) :: (18, 3, some (aGetR [(1175, 26104)])) :: (21, 1, some (aIl 1)) :: (22, 1, some (aIc (1))) :: (23, 1, some (aBin fSub)) :: (24, 1, some (aIald D)) :: (25, 1, some (aIald D)) :: (26, 1, some (aAl 0)) :: (27, 3, some (aGetR [(1175, 329048)])) :: (30, 1, some (aAl 0)) :: (31, 3, some (aGetR [(1175, 26104)])) :: (34, 1, some (aIc (0))) :: (35, 1, some (aIald D)) :: (36, 1, some (aIald D)) :: (37, 3, some (aCm bNe bEq 110)) :: (40, 1, some (aAl 0)) :: (41, 3, some (aGetI D 7 42)) :: (44, 3, some (aIc (200))) :: (47, 3, some (aCm bNe bEq 56)) :: (50, 1, some (aAl 0)) :: (51, 1, some (aIc (1))) :: (52, 3, some (aPutZ D 7 47)) :: (55, 1, some (aVret)) :: (56, 1, some (aIc (0))) :: (57, 1, some (aIs 2)) :: (58, 0, none) :: (58, 1, some (aIl 2)) :: (59, 1, some (aIl 1)) :: (60, 3, some (aCm (fun C x y => bLe C y x) bLt 89)) :: (63, 1, some (aAl 0)) :: (64, 3, some (aGetR [(1175, 4916696)])) :: (67, 2, some (aIc (6))) :: (69, 1, some (aAl 0)) :: (70, 3, some (aGetI D 7 42)) :: (73, 1, some (aBin fMul)) :: (74, 1, some (aIl 2)) :: (75, 1, some (aBin fAdd)) :: (76, 1, some (aAl 0)) :: (77, 3, some (aGetR [(1175, 26104)])) :: (80, 1, some (aIl 2)) :: (81, 1, some (aIald D)) :: (82, 1, some (aIast D)) :: (83, 3, some (aInc 2 (1))) :: (86, 3, some (aGoto 58)) :: (89, 1, some (aAl 0)) :: (90, 3, some (aGetR [(1175, 820712)])) :: (93, 1, some (aAl 0)) :: (94, 3, some (aGetI D 7 42)) :: (97, 1, some (aIl 1)) :: (98, 1, some (aIast D)) :: (99, 1, some (aAl 0)) :: (100, 1, some (aDup)) :: (101, 3, some (aGetI D 7 42)) :: (104, 1, some (aIc (1))) :: (105, 1, some (aBin fAdd)) :: (106, 3, some (aPutI D 7 42)) :: (109, 1, some (aVret)) :: (110, 1, some (aIl 1)) :: (111, 1, some (aAl 0)) :: (112, 3, some (aGetI D 7 49)) :: (115, 3, some (aCm bNe bEq 119)) :: (118, 1, some (aVret)) :: (119, 1, some (aIc (0))) :: (120, 1, some (aIs 2)) :: (121, 0, none) :: (121, 1, some (aIl 2)) :: (122, 1, some (aAl 0)) :: (123, 3, some (aGetI D 7 6)) :: (126, 3, some (aCm (fun C x y => bLe C y x) bLt 186)) :: (129, 1, some (aAl 0)) :: (130, 1, some (aIl 1)) :: (131, 1, some (aIl 2)) :: (132, 3, some (aCall D 7 3 6 csX7_fits)) :: (135, 3, some (aIf bEq bNe 180)) :: (138, 1, some (aAl 0)) :: (139, 3, some (aGetR [(1175, 329128)])) :: (142, 1, some (aIl 2)) :: (143, 1, some (aIald D)) :: (144, 1, some (aAl 0)) :: (145, 3, some (aGetR [(1175, 329128)])) :: (148, 1, some (aAl 0)) :: (149, 3, some (aGetR [(1175, 26104)])) :: (152, 1, some (aIc (0))) :: (153, 1, some (aIald D)) :: (154, 1, some (aIald D)) :: (155, 1, some (aBin fSub)) :: (156, 1, some (aAl 0)) :: (157, 3, some (aGetI D 7 50)) :: (160, 3, some (aCm bLe (fun C x y => bLt C y x) 166)) :: (163, 3, some (aGoto 180)) :: (166, 1, some (aAl 0)) :: (167, 3, some (aGetR [(1175, 26104)])) :: (170, 1, some (aIl 1)) :: (171, 1, some (aIl 2)) :: (172, 1, some (aIast D)) :: (173, 1, some (aAl 0)) :: (174, 1, some (aIl 1)) :: (175, 1, some (aIc (1))) :: (176, 1, some (aBin fAdd)) :: (177, 3, some (aNo)) :: (180, 3, some (aInc 2 (1))) :: (183, 3, some (aGoto 121)) :: (186, 1, some (aVret)) :: []
set_option maxRecDepth 100000 in
set_option maxHeartbeats 4000000 in
theorem snX7_grows_6 (d : Nat) (W : List Nat) (c : Nat × Nat) (hc : c = cA ∨ c = cB) : SndAll (d, TYg, c, W) cdX7_grows (adX7_grows_6 (d, TYg, c, W)) := by
  unfold cdX7_grows adX7_grows_6
  refine sn_op sAl ?_
  refine sn_op sGetI ?_
  refine sn_op sIfEq ?_
  refine sn_op sVret ?_
  refine sn_op sIl ?_
  refine sn_op (sIc (n := 1) (by decide)) ?_
  refine sn_op sCmLe ?_
  refine sn_op sAl ?_
  refine sn_op sGetR ?_
  refine sn_op sAl ?_
  refine sn_op sGetR ?_
  refine sn_op sIl ?_
  refine sn_op (sIc (n := 1) (by decide)) ?_
  refine sn_op sIsub ?_
  refine sn_op sIald ?_
  refine sn_op sIald ?_
  refine sn_op sAl ?_
  refine sn_op sGetR ?_
  refine sn_op sAl ?_
  refine sn_op sGetR ?_
  refine sn_op (sIc (n := 0) (by decide)) ?_
  refine sn_op sIald ?_
  refine sn_op sIald ?_
  refine sn_op sCmNe ?_
  refine sn_op sAl ?_
  refine sn_op sGetI ?_
  refine sn_op (sIc (n := 200) (by decide)) ?_
  refine sn_op sCmNe ?_
  refine sn_op sAl ?_
  refine sn_op (sIc (n := 1) (by decide)) ?_
  refine sn_op sPutZ ?_
  refine sn_op sVret ?_
  refine sn_op (sIc (n := 0) (by decide)) ?_
  refine sn_op sIs ?_
  refine sn_st ?_
  refine sn_op sIl ?_
  refine sn_op sIl ?_
  refine sn_op sCmGe ?_
  refine sn_op sAl ?_
  refine sn_op sGetR ?_
  refine sn_op (sIc (n := 6) (by decide)) ?_
  refine sn_op sAl ?_
  refine sn_op sGetI ?_
  refine sn_op sImul ?_
  refine sn_op sIl ?_
  refine sn_op sIadd ?_
  refine sn_op sAl ?_
  refine sn_op sGetR ?_
  refine sn_op sIl ?_
  refine sn_op sIald ?_
  refine sn_op sIast ?_
  refine sn_op (sInc (n := 1) (by decide)) ?_
  refine sn_op sGoto ?_
  refine sn_op sAl ?_
  refine sn_op sGetR ?_
  refine sn_op sAl ?_
  refine sn_op sGetI ?_
  refine sn_op sIl ?_
  refine sn_op sIast ?_
  refine sn_op sAl ?_
  refine sn_op sDup ?_
  refine sn_op sGetI ?_
  refine sn_op (sIc (n := 1) (by decide)) ?_
  refine sn_op sIadd ?_
  refine sn_op sPutI ?_
  refine sn_op sVret ?_
  refine sn_op sIl ?_
  refine sn_op sAl ?_
  refine sn_op sGetI ?_
  refine sn_op sCmNe ?_
  refine sn_op sVret ?_
  refine sn_op (sIc (n := 0) (by decide)) ?_
  refine sn_op sIs ?_
  refine sn_st ?_
  refine sn_op sIl ?_
  refine sn_op sAl ?_
  refine sn_op sGetI ?_
  refine sn_op sCmGe ?_
  refine sn_op sAl ?_
  refine sn_op sIl ?_
  refine sn_op sIl ?_
  refine sn_op (sCI (sfX7_fits c hc) (by decide) (by decide +kernel)) ?_
  refine sn_op sIfEq ?_
  refine sn_op sAl ?_
  refine sn_op sGetR ?_
  refine sn_op sIl ?_
  refine sn_op sIald ?_
  refine sn_op sAl ?_
  refine sn_op sGetR ?_
  refine sn_op sAl ?_
  refine sn_op sGetR ?_
  refine sn_op (sIc (n := 0) (by decide)) ?_
  refine sn_op sIald ?_
  refine sn_op sIald ?_
  refine sn_op sIsub ?_
  refine sn_op sAl ?_
  refine sn_op sGetI ?_
  refine sn_op sCmLe ?_
  refine sn_op sGoto ?_
  refine sn_op sAl ?_
  refine sn_op sGetR ?_
  refine sn_op sIl ?_
  refine sn_op sIl ?_
  refine sn_op sIast ?_
  refine sn_op sAl ?_
  refine sn_op sIl ?_
  refine sn_op (sIc (n := 1) (by decide)) ?_
  refine sn_op sIadd ?_
  refine sn_op sNo ?_
  refine sn_op (sInc (n := 1) (by decide)) ?_
  refine sn_op sGoto ?_
  refine sn_op sVret ?_
  exact sn_nil
def csX7_grows_6 : List AC := [([(2, 1175, 0), (0, 6, 6)], 1, [((9, 0, 0), [], [])], [820712, 4916696, 184683594903, 206158431383], [((1175, 49), (6, 6))])]
set_option maxRecDepth 100000 in
set_option maxHeartbeats 4000000 in
theorem sfX7_grows_6 (c : Nat × Nat) (hc : c = cA ∨ c = cB) : ∀ ac ∈ csX7_grows_6, SafeC TYg c mX7_grows ac := by
  intro ac hac
  simp only [csX7_grows_6, List.mem_cons, List.not_mem_nil, or_false] at hac
  rcases hac with rfl
  · rcases hc with rfl | rfl
    · exact safe_ofF (ann := [(58, [(2, 1175, 0), (0, 6, 6), (0, 0, 6)], [(3, 0, 0, 2), (0, 2, 0, 4294967296), (1, 1175, 42, 4294967296)], [(3, 1, 193)])]) (fuel := 600) okX7_grows (snX7_grows_6 _ _ cA (Or.inl rfl)) (List.forall_mem_cons.mpr ⟨⟨_, _, rfl⟩, (fun q hq => by cases hq)⟩) (by decide) (by decide +kernel)
    · exact safe_ofF (ann := [(58, [(2, 1175, 0), (0, 6, 6), (0, 0, 6)], [(3, 0, 0, 2), (0, 2, 0, 4294967296), (1, 1175, 42, 4294967296)], [(3, 1, 193)])]) (fuel := 600) okX7_grows (snX7_grows_6 _ _ cB (Or.inr rfl)) (List.forall_mem_cons.mpr ⟨⟨_, _, rfl⟩, (fun q hq => by cases hq)⟩) (by decide) (by decide +kernel)
set_option maxRecDepth 100000 in
def adX7_grows_5 (D : KK) : List ACE := (0, 1, some (aAl 0)) :: (1, 3, some (aGetI D 7 47)) :: (4, 3, some (aIf bEq bNe 8)) :: (7, 1, some (aVret)) :: (8, 1, some (aIl 1)) :: (9, 1, some (aIc (1))) :: (10, 3, some (aCm bLe (fun C x y => bLt C y x) 110)) :: (13, 1, some (aAl 0)) :: (14, 3, some (aGetR [(1175, 165384)])) :: (17, 1, some (aAl 0)) :: (18, 3, some (aGetR [(1175, 26104)])) :: (21, 1, some (aIl 1)) :: (22, 1, some (aIc (1))) :: (23, 1, some (aBin fSub)) :: (24, 1, some (aIald D)) :: (25, 1, some (aIald D)) :: (26, 1, some (aAl 0)) :: (27, 3, some (aGetR [(1175, 329048)])) :: (30, 1, some (aAl 0)) :: (31, 3, some (aGetR [(1175, 26104)])) :: (34, 1, some (aIc (0))) :: (35, 1, some (aIald D)) :: (36, 1, some (aIald D)) :: (37, 3, some (aCm bNe bEq 110)) :: (40, 1, some (aAl 0)) :: (41, 3, some (aGetI D 7 42)) :: (44, 3, some (aIc (200))) :: (47, 3, some (aCm bNe bEq 56)) :: (50, 1, some (aAl 0)) :: (51, 1, some (aIc (1))) :: (52, 3, some (aPutZ D 7 47)) :: (55, 1, some (aVret)) :: (56, 1, some (aIc (0))) :: (57, 1, some (aIs 2)) :: (58, 0, none) :: (58, 1, some (aIl 2)) :: (59, 1, some (aIl 1)) :: (60, 3, some (aCm (fun C x y => bLe C y x) bLt 89)) :: (63, 1, some (aAl 0)) :: (64, 3, some (aGetR [(1175, 4916696)])) :: (67, 2, some (aIc (6))) :: (69, 1, some (aAl 0)) :: (70, 3, some (aGetI D 7 42)) :: (73, 1, some (aBin fMul)) :: (74, 1, some (aIl 2)) :: (75, 1, some (aBin fAdd)) :: (76, 1, some (aAl 0)) :: (77, 3, some (aGetR [(1175, 26104)])) :: (80, 1, some (aIl 2)) :: (81, 1, some (aIald D)) :: (82, 1, some (aIast D)) :: (83, 3, some (aInc 2 (1))) :: (86, 3, some (aGoto 58)) :: (89, 1, some (aAl 0)) :: (90, 3, some (aGetR [(1175, 820712)])) :: (93, 1, some (aAl 0)) :: (94, 3, some (aGetI D 7 42)) :: (97, 1, some (aIl 1)) :: (98, 1, some (aIast D)) :: (99, 1, some (aAl 0)) :: (100, 1, some (aDup)) :: (101, 3, some (aGetI D 7 42)) :: (104, 1, some (aIc (1))) :: (105, 1, some (aBin fAdd)) :: (106, 3, some (aPutI D 7 42)) :: (109, 1, some (aVret)) :: (110, 1, some (aIl 1)) :: (111, 1, some (aAl 0)) :: (112, 3, some (aGetI D 7 49)) :: (115, 3, some (aCm bNe bEq 119)) :: (118, 1, some (aVret)) :: (119, 1, some (aIc (0))) :: (120, 1, some (aIs 2)) :: (121, 0, none) :: (121, 1, some (aIl 2)) :: (122, 1, some (aAl 0)) :: (123, 3, some (aGetI D 7 6)) :: (126, 3, some (aCm (fun C x y => bLe C y x) bLt 186)) :: (129, 1, some (aAl 0)) :: (130, 1, some (aIl 1)) :: (131, 1, some (aIl 2)) :: (132, 3, some (aCall D 7 3 6 csX7_fits)) :: (135, 3, some (aIf bEq bNe 180)) :: (138, 1, some (aAl 0)) :: (139, 3, some (aGetR [(1175, 329128)])) :: (142, 1, some (aIl 2)) :: (143, 1, some (aIald D)) :: (144, 1, some (aAl 0)) :: (145, 3, some (aGetR [(1175, 329128)])) :: (148, 1, some (aAl 0)) :: (149, 3, some (aGetR [(1175, 26104)])) :: (152, 1, some (aIc (0))) :: (153, 1, some (aIald D)) :: (154, 1, some (aIald D)) :: (155, 1, some (aBin fSub)) :: (156, 1, some (aAl 0)) :: (157, 3, some (aGetI D 7 50)) :: (160, 3, some (aCm bLe (fun C x y => bLt C y x) 166)) :: (163, 3, some (aGoto 180)) :: (166, 1, some (aAl 0)) :: (167, 3, some (aGetR [(1175, 26104)])) :: (170, 1, some (aIl 1)) :: (171, 1, some (aIl 2)) :: (172, 1, some (aIast D)) :: (173, 1, some (aAl 0)) :: (174, 1, some (aIl 1)) :: (175, 1, some (aIc (1))) :: (176, 1, some (aBin fAdd)) :: (177, 3, some (aCall D 7 2 3 csX7_grows_6)) :: (180, 3, some (aInc 2 (1))) :: (183, 3, some (aGoto 121)) :: (186, 1, some (aVret)) :: []
set_option maxRecDepth 100000 in
set_option maxHeartbeats 4000000 in
theorem snX7_grows_5 (d : Nat) (W : List Nat) (c : Nat × Nat) (hc : c = cA ∨ c = cB) : SndAll (d, TYg, c, W) cdX7_grows (adX7_grows_5 (d, TYg, c, W)) := by
  unfold cdX7_grows adX7_grows_5
  refine sn_op sAl ?_
  refine sn_op sGetI ?_
  refine sn_op sIfEq ?_
  refine sn_op sVret ?_
  refine sn_op sIl ?_
  refine sn_op (sIc (n := 1) (by decide)) ?_
  refine sn_op sCmLe ?_
  refine sn_op sAl ?_
  refine sn_op sGetR ?_
  refine sn_op sAl ?_
  refine sn_op sGetR ?_
  refine sn_op sIl ?_
  refine sn_op (sIc (n := 1) (by decide)) ?_
  refine sn_op sIsub ?_
  refine sn_op sIald ?_
  refine sn_op sIald ?_
  refine sn_op sAl ?_
  refine sn_op sGetR ?_
  refine sn_op sAl ?_
  refine sn_op sGetR ?_
  refine sn_op (sIc (n := 0) (by decide)) ?_
  refine sn_op sIald ?_
  refine sn_op sIald ?_
  refine sn_op sCmNe ?_
  refine sn_op sAl ?_
  refine sn_op sGetI ?_
  refine sn_op (sIc (n := 200) (by decide)) ?_
  refine sn_op sCmNe ?_
  refine sn_op sAl ?_
  refine sn_op (sIc (n := 1) (by decide)) ?_
  refine sn_op sPutZ ?_
  refine sn_op sVret ?_
  refine sn_op (sIc (n := 0) (by decide)) ?_
  refine sn_op sIs ?_
  refine sn_st ?_
  refine sn_op sIl ?_
  refine sn_op sIl ?_
  refine sn_op sCmGe ?_
  refine sn_op sAl ?_
  refine sn_op sGetR ?_
  refine sn_op (sIc (n := 6) (by decide)) ?_
  refine sn_op sAl ?_
  refine sn_op sGetI ?_
  refine sn_op sImul ?_
  refine sn_op sIl ?_
  refine sn_op sIadd ?_
  refine sn_op sAl ?_
  refine sn_op sGetR ?_
  refine sn_op sIl ?_
  refine sn_op sIald ?_
  refine sn_op sIast ?_
  refine sn_op (sInc (n := 1) (by decide)) ?_
  refine sn_op sGoto ?_
  refine sn_op sAl ?_
  refine sn_op sGetR ?_
  refine sn_op sAl ?_
  refine sn_op sGetI ?_
  refine sn_op sIl ?_
  refine sn_op sIast ?_
  refine sn_op sAl ?_
  refine sn_op sDup ?_
  refine sn_op sGetI ?_
  refine sn_op (sIc (n := 1) (by decide)) ?_
  refine sn_op sIadd ?_
  refine sn_op sPutI ?_
  refine sn_op sVret ?_
  refine sn_op sIl ?_
  refine sn_op sAl ?_
  refine sn_op sGetI ?_
  refine sn_op sCmNe ?_
  refine sn_op sVret ?_
  refine sn_op (sIc (n := 0) (by decide)) ?_
  refine sn_op sIs ?_
  refine sn_st ?_
  refine sn_op sIl ?_
  refine sn_op sAl ?_
  refine sn_op sGetI ?_
  refine sn_op sCmGe ?_
  refine sn_op sAl ?_
  refine sn_op sIl ?_
  refine sn_op sIl ?_
  refine sn_op (sCI (sfX7_fits c hc) (by decide) (by decide +kernel)) ?_
  refine sn_op sIfEq ?_
  refine sn_op sAl ?_
  refine sn_op sGetR ?_
  refine sn_op sIl ?_
  refine sn_op sIald ?_
  refine sn_op sAl ?_
  refine sn_op sGetR ?_
  refine sn_op sAl ?_
  refine sn_op sGetR ?_
  refine sn_op (sIc (n := 0) (by decide)) ?_
  refine sn_op sIald ?_
  refine sn_op sIald ?_
  refine sn_op sIsub ?_
  refine sn_op sAl ?_
  refine sn_op sGetI ?_
  refine sn_op sCmLe ?_
  refine sn_op sGoto ?_
  refine sn_op sAl ?_
  refine sn_op sGetR ?_
  refine sn_op sIl ?_
  refine sn_op sIl ?_
  refine sn_op sIast ?_
  refine sn_op sAl ?_
  refine sn_op sIl ?_
  refine sn_op (sIc (n := 1) (by decide)) ?_
  refine sn_op sIadd ?_
  refine sn_op (sCV (sfX7_grows_6 c hc) (by decide) (by decide +kernel)) ?_
  refine sn_op (sInc (n := 1) (by decide)) ?_
  refine sn_op sGoto ?_
  refine sn_op sVret ?_
  exact sn_nil
def csX7_grows_5 : List AC := [([(2, 1175, 0), (0, 5, 5)], 3, [((9, 0, 0), [], [])], [26104, 820712, 4916696, 184683594903, 206158431383], [((1175, 49), (5, 6))])]
set_option maxRecDepth 100000 in
set_option maxHeartbeats 4000000 in
theorem sfX7_grows_5 (c : Nat × Nat) (hc : c = cA ∨ c = cB) : ∀ ac ∈ csX7_grows_5, SafeC TYg c mX7_grows ac := by
  intro ac hac
  simp only [csX7_grows_5, List.mem_cons, List.not_mem_nil, or_false] at hac
  rcases hac with rfl
  · rcases hc with rfl | rfl
    · exact safe_ofF (ann := [(58, [(2, 1175, 0), (0, 5, 5), (0, 0, 5)], [(3, 0, 0, 2), (0, 2, 0, 4294967296), (1, 1175, 42, 4294967296)], [(3, 1, 194)]), (121, [(2, 1175, 0), (0, 5, 5), (0, 0, 40)], [(3, 0, 0, 1), (0, 2, 0, 4294967296), (1, 1175, 49, 4294967296)], [(1, 3, -1)])]) (fuel := 600) okX7_grows (snX7_grows_5 _ _ cA (Or.inl rfl)) (List.forall_mem_cons.mpr ⟨⟨_, _, rfl⟩, List.forall_mem_cons.mpr ⟨⟨_, _, rfl⟩, (fun q hq => by cases hq)⟩⟩) (by decide) (by decide +kernel)
    · exact safe_ofF (ann := [(58, [(2, 1175, 0), (0, 5, 5), (0, 0, 5)], [(3, 0, 0, 2), (0, 2, 0, 4294967296), (1, 1175, 42, 4294967296)], [(3, 1, 194)]), (121, [(2, 1175, 0), (0, 5, 5), (0, 0, 40)], [(3, 0, 0, 1), (0, 2, 0, 4294967296), (1, 1175, 49, 4294967296)], [(1, 3, -1)])]) (fuel := 600) okX7_grows (snX7_grows_5 _ _ cB (Or.inr rfl)) (List.forall_mem_cons.mpr ⟨⟨_, _, rfl⟩, List.forall_mem_cons.mpr ⟨⟨_, _, rfl⟩, (fun q hq => by cases hq)⟩⟩) (by decide) (by decide +kernel)
set_option maxRecDepth 100000 in
def adX7_grows_4 (D : KK) : List ACE := (0, 1, some (aAl 0)) :: (1, 3, some (aGetI D 7 47)) :: (4, 3, some (aIf bEq bNe 8)) :: (7, 1, some (aVret)) :: (8, 1, some (aIl 1)) :: (9, 1, some (aIc (1))) :: (10, 3, some (aCm bLe (fun C x y => bLt C y x) 110)) :: (13, 1, some (aAl 0)) :: (14, 3, some (aGetR [(1175, 165384)])) :: (17, 1, some (aAl 0)) :: (18, 3, some (aGetR [(1175, 26104)])) :: (21, 1, some (aIl 1)) :: (22, 1, some (aIc (1))) :: (23, 1, some (aBin fSub)) :: (24, 1, some (aIald D)) :: (25, 1, some (aIald D)) :: (26, 1, some (aAl 0)) :: (27, 3, some (aGetR [(1175, 329048)])) :: (30, 1, some (aAl 0)) :: (31, 3, some (aGetR [(1175, 26104)])) :: (34, 1, some (aIc (0))) :: (35, 1, some (aIald D)) :: (36, 1, some (aIald D)) :: (37, 3, some (aCm bNe bEq 110)) :: (40, 1, some (aAl 0)) :: (41, 3, some (aGetI D 7 42)) :: (44, 3, some (aIc (200))) :: (47, 3, some (aCm bNe bEq 56)) :: (50, 1, some (aAl 0)) :: (51, 1, some (aIc (1))) :: (52, 3, some (aPutZ D 7 47)) :: (55, 1, some (aVret)) :: (56, 1, some (aIc (0))) :: (57, 1, some (aIs 2)) :: (58, 0, none) :: (58, 1, some (aIl 2)) :: (59, 1, some (aIl 1)) :: (60, 3, some (aCm (fun C x y => bLe C y x) bLt 89)) :: (63, 1, some (aAl 0)) :: (64, 3, some (aGetR [(1175, 4916696)])) :: (67, 2, some (aIc (6))) :: (69, 1, some (aAl 0)) :: (70, 3, some (aGetI D 7 42)) :: (73, 1, some (aBin fMul)) :: (74, 1, some (aIl 2)) :: (75, 1, some (aBin fAdd)) :: (76, 1, some (aAl 0)) :: (77, 3, some (aGetR [(1175, 26104)])) :: (80, 1, some (aIl 2)) :: (81, 1, some (aIald D)) :: (82, 1, some (aIast D)) :: (83, 3, some (aInc 2 (1))) :: (86, 3, some (aGoto 58)) :: (89, 1, some (aAl 0)) :: (90, 3, some (aGetR [(1175, 820712)])) :: (93, 1, some (aAl 0)) :: (94, 3, some (aGetI D 7 42)) :: (97, 1, some (aIl 1)) :: (98, 1, some (aIast D)) :: (99, 1, some (aAl 0)) :: (100, 1, some (aDup)) :: (101, 3, some (aGetI D 7 42)) :: (104, 1, some (aIc (1))) :: (105, 1, some (aBin fAdd)) :: (106, 3, some (aPutI D 7 42)) :: (109, 1, some (aVret)) :: (110, 1, some (aIl 1)) :: (111, 1, some (aAl 0)) :: (112, 3, some (aGetI D 7 49)) :: (115, 3, some (aCm bNe bEq 119)) :: (118, 1, some (aVret)) :: (119, 1, some (aIc (0))) :: (120, 1, some (aIs 2)) :: (121, 0, none) :: (121, 1, some (aIl 2)) :: (122, 1, some (aAl 0)) :: (123, 3, some (aGetI D 7 6)) :: (126, 3, some (aCm (fun C x y => bLe C y x) bLt 186)) :: (129, 1, some (aAl 0)) :: (130, 1, some (aIl 1)) :: (131, 1, some (aIl 2)) :: (132, 3, some (aCall D 7 3 6 csX7_fits)) :: (135, 3, some (aIf bEq bNe 180)) :: (138, 1, some (aAl 0)) :: (139, 3, some (aGetR [(1175, 329128)])) :: (142, 1, some (aIl 2)) :: (143, 1, some (aIald D)) :: (144, 1, some (aAl 0)) :: (145, 3, some (aGetR [(1175, 329128)])) :: (148, 1, some (aAl 0)) :: (149, 3, some (aGetR [(1175, 26104)])) :: (152, 1, some (aIc (0))) :: (153, 1, some (aIald D)) :: (154, 1, some (aIald D)) :: (155, 1, some (aBin fSub)) :: (156, 1, some (aAl 0)) :: (157, 3, some (aGetI D 7 50)) :: (160, 3, some (aCm bLe (fun C x y => bLt C y x) 166)) :: (163, 3, some (aGoto 180)) :: (166, 1, some (aAl 0)) :: (167, 3, some (aGetR [(1175, 26104)])) :: (170, 1, some (aIl 1)) :: (171, 1, some (aIl 2)) :: (172, 1, some (aIast D)) :: (173, 1, some (aAl 0)) :: (174, 1, some (aIl 1)) :: (175, 1, some (aIc (1))) :: (176, 1, some (aBin fAdd)) :: (177, 3, some (aCall D 7 2 3 csX7_grows_5)) :: (180, 3, some (aInc 2 (1))) :: (183, 3, some (aGoto 121)) :: (186, 1, some (aVret)) :: []
set_option maxRecDepth 100000 in
set_option maxHeartbeats 4000000 in
theorem snX7_grows_4 (d : Nat) (W : List Nat) (c : Nat × Nat) (hc : c = cA ∨ c = cB) : SndAll (d, TYg, c, W) cdX7_grows (adX7_grows_4 (d, TYg, c, W)) := by
  unfold cdX7_grows adX7_grows_4
  refine sn_op sAl ?_
  refine sn_op sGetI ?_
  refine sn_op sIfEq ?_
  refine sn_op sVret ?_
  refine sn_op sIl ?_
  refine sn_op (sIc (n := 1) (by decide)) ?_
  refine sn_op sCmLe ?_
  refine sn_op sAl ?_
  refine sn_op sGetR ?_
  refine sn_op sAl ?_
  refine sn_op sGetR ?_
  refine sn_op sIl ?_
  refine sn_op (sIc (n := 1) (by decide)) ?_
  refine sn_op sIsub ?_
  refine sn_op sIald ?_
  refine sn_op sIald ?_
  refine sn_op sAl ?_
  refine sn_op sGetR ?_
  refine sn_op sAl ?_
  refine sn_op sGetR ?_
  refine sn_op (sIc (n := 0) (by decide)) ?_
  refine sn_op sIald ?_
  refine sn_op sIald ?_
  refine sn_op sCmNe ?_
  refine sn_op sAl ?_
  refine sn_op sGetI ?_
  refine sn_op (sIc (n := 200) (by decide)) ?_
  refine sn_op sCmNe ?_
  refine sn_op sAl ?_
  refine sn_op (sIc (n := 1) (by decide)) ?_
  refine sn_op sPutZ ?_
  refine sn_op sVret ?_
  refine sn_op (sIc (n := 0) (by decide)) ?_
  refine sn_op sIs ?_
  refine sn_st ?_
  refine sn_op sIl ?_
  refine sn_op sIl ?_
  refine sn_op sCmGe ?_
  refine sn_op sAl ?_
  refine sn_op sGetR ?_
  refine sn_op (sIc (n := 6) (by decide)) ?_
  refine sn_op sAl ?_
  refine sn_op sGetI ?_
  refine sn_op sImul ?_
  refine sn_op sIl ?_
  refine sn_op sIadd ?_
  refine sn_op sAl ?_
  refine sn_op sGetR ?_
  refine sn_op sIl ?_
  refine sn_op sIald ?_
  refine sn_op sIast ?_
  refine sn_op (sInc (n := 1) (by decide)) ?_
  refine sn_op sGoto ?_
  refine sn_op sAl ?_
  refine sn_op sGetR ?_
  refine sn_op sAl ?_
  refine sn_op sGetI ?_
  refine sn_op sIl ?_
  refine sn_op sIast ?_
  refine sn_op sAl ?_
  refine sn_op sDup ?_
  refine sn_op sGetI ?_
  refine sn_op (sIc (n := 1) (by decide)) ?_
  refine sn_op sIadd ?_
  refine sn_op sPutI ?_
  refine sn_op sVret ?_
  refine sn_op sIl ?_
  refine sn_op sAl ?_
  refine sn_op sGetI ?_
  refine sn_op sCmNe ?_
  refine sn_op sVret ?_
  refine sn_op (sIc (n := 0) (by decide)) ?_
  refine sn_op sIs ?_
  refine sn_st ?_
  refine sn_op sIl ?_
  refine sn_op sAl ?_
  refine sn_op sGetI ?_
  refine sn_op sCmGe ?_
  refine sn_op sAl ?_
  refine sn_op sIl ?_
  refine sn_op sIl ?_
  refine sn_op (sCI (sfX7_fits c hc) (by decide) (by decide +kernel)) ?_
  refine sn_op sIfEq ?_
  refine sn_op sAl ?_
  refine sn_op sGetR ?_
  refine sn_op sIl ?_
  refine sn_op sIald ?_
  refine sn_op sAl ?_
  refine sn_op sGetR ?_
  refine sn_op sAl ?_
  refine sn_op sGetR ?_
  refine sn_op (sIc (n := 0) (by decide)) ?_
  refine sn_op sIald ?_
  refine sn_op sIald ?_
  refine sn_op sIsub ?_
  refine sn_op sAl ?_
  refine sn_op sGetI ?_
  refine sn_op sCmLe ?_
  refine sn_op sGoto ?_
  refine sn_op sAl ?_
  refine sn_op sGetR ?_
  refine sn_op sIl ?_
  refine sn_op sIl ?_
  refine sn_op sIast ?_
  refine sn_op sAl ?_
  refine sn_op sIl ?_
  refine sn_op (sIc (n := 1) (by decide)) ?_
  refine sn_op sIadd ?_
  refine sn_op (sCV (sfX7_grows_5 c hc) (by decide) (by decide +kernel)) ?_
  refine sn_op (sInc (n := 1) (by decide)) ?_
  refine sn_op sGoto ?_
  refine sn_op sVret ?_
  exact sn_nil
def csX7_grows_4 : List AC := [([(2, 1175, 0), (0, 4, 4)], 4, [((9, 0, 0), [], [])], [26104, 820712, 4916696, 184683594903, 206158431383], [((1175, 49), (4, 6))])]
set_option maxRecDepth 100000 in
set_option maxHeartbeats 4000000 in
theorem sfX7_grows_4 (c : Nat × Nat) (hc : c = cA ∨ c = cB) : ∀ ac ∈ csX7_grows_4, SafeC TYg c mX7_grows ac := by
  intro ac hac
  simp only [csX7_grows_4, List.mem_cons, List.not_mem_nil, or_false] at hac
  rcases hac with rfl
  · rcases hc with rfl | rfl
    · exact safe_ofF (ann := [(58, [(2, 1175, 0), (0, 4, 4), (0, 0, 4)], [(3, 0, 0, 2), (0, 2, 0, 4294967296), (1, 1175, 42, 4294967296)], [(3, 1, 195)]), (121, [(2, 1175, 0), (0, 4, 4), (0, 0, 40)], [(3, 0, 0, 1), (0, 2, 0, 4294967296), (1, 1175, 49, 4294967296)], [(1, 3, -1)])]) (fuel := 600) okX7_grows (snX7_grows_4 _ _ cA (Or.inl rfl)) (List.forall_mem_cons.mpr ⟨⟨_, _, rfl⟩, List.forall_mem_cons.mpr ⟨⟨_, _, rfl⟩, (fun q hq => by cases hq)⟩⟩) (by decide) (by decide +kernel)
    · exact safe_ofF (ann := [(58, [(2, 1175, 0), (0, 4, 4), (0, 0, 4)], [(3, 0, 0, 2), (0, 2, 0, 4294967296), (1, 1175, 42, 4294967296)], [(3, 1, 195)]), (121, [(2, 1175, 0), (0, 4, 4), (0, 0, 40)], [(3, 0, 0, 1), (0, 2, 0, 4294967296), (1, 1175, 49, 4294967296)], [(1, 3, -1)])]) (fuel := 600) okX7_grows (snX7_grows_4 _ _ cB (Or.inr rfl)) (List.forall_mem_cons.mpr ⟨⟨_, _, rfl⟩, List.forall_mem_cons.mpr ⟨⟨_, _, rfl⟩, (fun q hq => by cases hq)⟩⟩) (by decide) (by decide +kernel)
set_option maxRecDepth 100000 in
def adX7_grows_3 (D : KK) : List ACE := (0, 1, some (aAl 0)) :: (1, 3, some (aGetI D 7 47)) :: (4, 3, some (aIf bEq bNe 8)) :: (7, 1, some (aVret)) :: (8, 1, some (aIl 1)) :: (9, 1, some (aIc (1))) :: (10, 3, some (aCm bLe (fun C x y => bLt C y x) 110)) :: (13, 1, some (aAl 0)) :: (14, 3, some (aGetR [(1175, 165384)])) :: (17, 1, some (aAl 0)) :: (18, 3, some (aGetR [(1175, 26104)])) :: (21, 1, some (aIl 1)) :: (22, 1, some (aIc (1))) :: (23, 1, some (aBin fSub)) :: (24, 1, some (aIald D)) :: (25, 1, some (aIald D)) :: (26, 1, some (aAl 0)) :: (27, 3, some (aGetR [(1175, 329048)])) :: (30, 1, some (aAl 0)) :: (31, 3, some (aGetR [(1175, 26104)])) :: (34, 1, some (aIc (0))) :: (35, 1, some (aIald D)) :: (36, 1, some (aIald D)) :: (37, 3, some (aCm bNe bEq 110)) :: (40, 1, some (aAl 0)) :: (41, 3, some (aGetI D 7 42)) :: (44, 3, some (aIc (200))) :: (47, 3, some (aCm bNe bEq 56)) :: (50, 1, some (aAl 0)) :: (51, 1, some (aIc (1))) :: (52, 3, some (aPutZ D 7 47)) :: (55, 1, some (aVret)) :: (56, 1, some (aIc (0))) :: (57, 1, some (aIs 2)) :: (58, 0, none) :: (58, 1, some (aIl 2)) :: (59, 1, some (aIl 1)) :: (60, 3, some (aCm (fun C x y => bLe C y x) bLt 89)) :: (63, 1, some (aAl 0)) :: (64, 3, some (aGetR [(1175, 4916696)])) :: (67, 2, some (aIc (6))) :: (69, 1, some (aAl 0)) :: (70, 3, some (aGetI D 7 42)) :: (73, 1, some (aBin fMul)) :: (74, 1, some (aIl 2)) :: (75, 1, some (aBin fAdd)) :: (76, 1, some (aAl 0)) :: (77, 3, some (aGetR [(1175, 26104)])) :: (80, 1, some (aIl 2)) :: (81, 1, some (aIald D)) :: (82, 1, some (aIast D)) :: (83, 3, some (aInc 2 (1))) :: (86, 3, some (aGoto 58)) :: (89, 1, some (aAl 0)) :: (90, 3, some (aGetR [(1175, 820712)])) :: (93, 1, some (aAl 0)) :: (94, 3, some (aGetI D 7 42)) :: (97, 1, some (aIl 1)) :: (98, 1, some (aIast D)) :: (99, 1, some (aAl 0)) :: (100, 1, some (aDup)) :: (101, 3, some (aGetI D 7 42)) :: (104, 1, some (aIc (1))) :: (105, 1, some (aBin fAdd)) :: (106, 3, some (aPutI D 7 42)) :: (109, 1, some (aVret)) :: (110, 1, some (aIl 1)) :: (111, 1, some (aAl 0)) :: (112, 3, some (aGetI D 7 49)) :: (115, 3, some (aCm bNe bEq 119)) :: (118, 1, some (aVret)) :: (119, 1, some (aIc (0))) :: (120, 1, some (aIs 2)) :: (121, 0, none) :: (121, 1, some (aIl 2)) :: (122, 1, some (aAl 0)) :: (123, 3, some (aGetI D 7 6)) :: (126, 3, some (aCm (fun C x y => bLe C y x) bLt 186)) :: (129, 1, some (aAl 0)) :: (130, 1, some (aIl 1)) :: (131, 1, some (aIl 2)) :: (132, 3, some (aCall D 7 3 6 csX7_fits)) :: (135, 3, some (aIf bEq bNe 180)) :: (138, 1, some (aAl 0)) :: (139, 3, some (aGetR [(1175, 329128)])) :: (142, 1, some (aIl 2)) :: (143, 1, some (aIald D)) :: (144, 1, some (aAl 0)) :: (145, 3, some (aGetR [(1175, 329128)])) :: (148, 1, some (aAl 0)) :: (149, 3, some (aGetR [(1175, 26104)])) :: (152, 1, some (aIc (0))) :: (153, 1, some (aIald D)) :: (154, 1, some (aIald D)) :: (155, 1, some (aBin fSub)) :: (156, 1, some (aAl 0)) :: (157, 3, some (aGetI D 7 50)) :: (160, 3, some (aCm bLe (fun C x y => bLt C y x) 166)) :: (163, 3, some (aGoto 180)) :: (166, 1, some (aAl 0)) :: (167, 3, some (aGetR [(1175, 26104)])) :: (170, 1, some (aIl 1)) :: (171, 1, some (aIl 2)) :: (172, 1, some (aIast D)) :: (173, 1, some (aAl 0)) :: (174, 1, some (aIl 1)) :: (175, 1, some (aIc (1))) :: (176, 1, some (aBin fAdd)) :: (177, 3, some (aCall D 7 2 3 csX7_grows_4)) :: (180, 3, some (aInc 2 (1))) :: (183, 3, some (aGoto 121)) :: (186, 1, some (aVret)) :: []
set_option maxRecDepth 100000 in
set_option maxHeartbeats 4000000 in
theorem snX7_grows_3 (d : Nat) (W : List Nat) (c : Nat × Nat) (hc : c = cA ∨ c = cB) : SndAll (d, TYg, c, W) cdX7_grows (adX7_grows_3 (d, TYg, c, W)) := by
  unfold cdX7_grows adX7_grows_3
  refine sn_op sAl ?_
  refine sn_op sGetI ?_
  refine sn_op sIfEq ?_
  refine sn_op sVret ?_
  refine sn_op sIl ?_
  refine sn_op (sIc (n := 1) (by decide)) ?_
  refine sn_op sCmLe ?_
  refine sn_op sAl ?_
  refine sn_op sGetR ?_
  refine sn_op sAl ?_
  refine sn_op sGetR ?_
  refine sn_op sIl ?_
  refine sn_op (sIc (n := 1) (by decide)) ?_
  refine sn_op sIsub ?_
  refine sn_op sIald ?_
  refine sn_op sIald ?_
  refine sn_op sAl ?_
  refine sn_op sGetR ?_
  refine sn_op sAl ?_
  refine sn_op sGetR ?_
  refine sn_op (sIc (n := 0) (by decide)) ?_
  refine sn_op sIald ?_
  refine sn_op sIald ?_
  refine sn_op sCmNe ?_
  refine sn_op sAl ?_
  refine sn_op sGetI ?_
  refine sn_op (sIc (n := 200) (by decide)) ?_
  refine sn_op sCmNe ?_
  refine sn_op sAl ?_
  refine sn_op (sIc (n := 1) (by decide)) ?_
  refine sn_op sPutZ ?_
  refine sn_op sVret ?_
  refine sn_op (sIc (n := 0) (by decide)) ?_
  refine sn_op sIs ?_
  refine sn_st ?_
  refine sn_op sIl ?_
  refine sn_op sIl ?_
  refine sn_op sCmGe ?_
  refine sn_op sAl ?_
  refine sn_op sGetR ?_
  refine sn_op (sIc (n := 6) (by decide)) ?_
  refine sn_op sAl ?_
  refine sn_op sGetI ?_
  refine sn_op sImul ?_
  refine sn_op sIl ?_
  refine sn_op sIadd ?_
  refine sn_op sAl ?_
  refine sn_op sGetR ?_
  refine sn_op sIl ?_
  refine sn_op sIald ?_
  refine sn_op sIast ?_
  refine sn_op (sInc (n := 1) (by decide)) ?_
  refine sn_op sGoto ?_
  refine sn_op sAl ?_
  refine sn_op sGetR ?_
  refine sn_op sAl ?_
  refine sn_op sGetI ?_
  refine sn_op sIl ?_
  refine sn_op sIast ?_
  refine sn_op sAl ?_
  refine sn_op sDup ?_
  refine sn_op sGetI ?_
  refine sn_op (sIc (n := 1) (by decide)) ?_
  refine sn_op sIadd ?_
  refine sn_op sPutI ?_
  refine sn_op sVret ?_
  refine sn_op sIl ?_
  refine sn_op sAl ?_
  refine sn_op sGetI ?_
  refine sn_op sCmNe ?_
  refine sn_op sVret ?_
  refine sn_op (sIc (n := 0) (by decide)) ?_
  refine sn_op sIs ?_
  refine sn_st ?_
  refine sn_op sIl ?_
  refine sn_op sAl ?_
  refine sn_op sGetI ?_
  refine sn_op sCmGe ?_
  refine sn_op sAl ?_
  refine sn_op sIl ?_
  refine sn_op sIl ?_
  refine sn_op (sCI (sfX7_fits c hc) (by decide) (by decide +kernel)) ?_
  refine sn_op sIfEq ?_
  refine sn_op sAl ?_
  refine sn_op sGetR ?_
  refine sn_op sIl ?_
  refine sn_op sIald ?_
  refine sn_op sAl ?_
  refine sn_op sGetR ?_
  refine sn_op sAl ?_
  refine sn_op sGetR ?_
  refine sn_op (sIc (n := 0) (by decide)) ?_
  refine sn_op sIald ?_
  refine sn_op sIald ?_
  refine sn_op sIsub ?_
  refine sn_op sAl ?_
  refine sn_op sGetI ?_
  refine sn_op sCmLe ?_
  refine sn_op sGoto ?_
  refine sn_op sAl ?_
  refine sn_op sGetR ?_
  refine sn_op sIl ?_
  refine sn_op sIl ?_
  refine sn_op sIast ?_
  refine sn_op sAl ?_
  refine sn_op sIl ?_
  refine sn_op (sIc (n := 1) (by decide)) ?_
  refine sn_op sIadd ?_
  refine sn_op (sCV (sfX7_grows_4 c hc) (by decide) (by decide +kernel)) ?_
  refine sn_op (sInc (n := 1) (by decide)) ?_
  refine sn_op sGoto ?_
  refine sn_op sVret ?_
  exact sn_nil
def csX7_grows_3 : List AC := [([(2, 1175, 0), (0, 3, 3)], 5, [((9, 0, 0), [], [])], [26104, 820712, 4916696, 184683594903, 206158431383], [((1175, 49), (3, 6))])]
set_option maxRecDepth 100000 in
set_option maxHeartbeats 4000000 in
theorem sfX7_grows_3 (c : Nat × Nat) (hc : c = cA ∨ c = cB) : ∀ ac ∈ csX7_grows_3, SafeC TYg c mX7_grows ac := by
  intro ac hac
  simp only [csX7_grows_3, List.mem_cons, List.not_mem_nil, or_false] at hac
  rcases hac with rfl
  · rcases hc with rfl | rfl
    · exact safe_ofF (ann := [(58, [(2, 1175, 0), (0, 3, 3), (0, 0, 3)], [(3, 0, 0, 2), (0, 2, 0, 4294967296), (1, 1175, 42, 4294967296)], [(3, 1, 196)]), (121, [(2, 1175, 0), (0, 3, 3), (0, 0, 40)], [(3, 0, 0, 1), (0, 2, 0, 4294967296), (1, 1175, 49, 4294967296)], [(1, 3, -1)])]) (fuel := 600) okX7_grows (snX7_grows_3 _ _ cA (Or.inl rfl)) (List.forall_mem_cons.mpr ⟨⟨_, _, rfl⟩, List.forall_mem_cons.mpr ⟨⟨_, _, rfl⟩, (fun q hq => by cases hq)⟩⟩) (by decide) (by decide +kernel)
    · exact safe_ofF (ann := [(58, [(2, 1175, 0), (0, 3, 3), (0, 0, 3)], [(3, 0, 0, 2), (0, 2, 0, 4294967296), (1, 1175, 42, 4294967296)], [(3, 1, 196)]), (121, [(2, 1175, 0), (0, 3, 3), (0, 0, 40)], [(3, 0, 0, 1), (0, 2, 0, 4294967296), (1, 1175, 49, 4294967296)], [(1, 3, -1)])]) (fuel := 600) okX7_grows (snX7_grows_3 _ _ cB (Or.inr rfl)) (List.forall_mem_cons.mpr ⟨⟨_, _, rfl⟩, List.forall_mem_cons.mpr ⟨⟨_, _, rfl⟩, (fun q hq => by cases hq)⟩⟩) (by decide) (by decide +kernel)
set_option maxRecDepth 100000 in
def adX7_grows_2 (D : KK) : List ACE := (0, 1, some (aAl 0)) :: (1, 3, some (aGetI D 7 47)) :: (4, 3, some (aIf bEq bNe 8)) :: (7, 1, some (aVret)) :: (8, 1, some (aIl 1)) :: (9, 1, some (aIc (1))) :: (10, 3, some (aCm bLe (fun C x y => bLt C y x) 110)) :: (13, 1, some (aAl 0)) :: (14, 3, some (aGetR [(1175, 165384)])) :: (17, 1, some (aAl 0)) :: (18, 3, some (aGetR [(1175, 26104)])) :: (21, 1, some (aIl 1)) :: (22, 1, some (aIc (1))) :: (23, 1, some (aBin fSub)) :: (24, 1, some (aIald D)) :: (25, 1, some (aIald D)) :: (26, 1, some (aAl 0)) :: (27, 3, some (aGetR [(1175, 329048)])) :: (30, 1, some (aAl 0)) :: (31, 3, some (aGetR [(1175, 26104)])) :: (34, 1, some (aIc (0))) :: (35, 1, some (aIald D)) :: (36, 1, some (aIald D)) :: (37, 3, some (aCm bNe bEq 110)) :: (40, 1, some (aAl 0)) :: (41, 3, some (aGetI D 7 42)) :: (44, 3, some (aIc (200))) :: (47, 3, some (aCm bNe bEq 56)) :: (50, 1, some (aAl 0)) :: (51, 1, some (aIc (1))) :: (52, 3, some (aPutZ D 7 47)) :: (55, 1, some (aVret)) :: (56, 1, some (aIc (0))) :: (57, 1, some (aIs 2)) :: (58, 0, none) :: (58, 1, some (aIl 2)) :: (59, 1, some (aIl 1)) :: (60, 3, some (aCm (fun C x y => bLe C y x) bLt 89)) :: (63, 1, some (aAl 0)) :: (64, 3, some (aGetR [(1175, 4916696)])) :: (67, 2, some (aIc (6))) :: (69, 1, some (aAl 0)) :: (70, 3, some (aGetI D 7 42)) :: (73, 1, some (aBin fMul)) :: (74, 1, some (aIl 2)) :: (75, 1, some (aBin fAdd)) :: (76, 1, some (aAl 0)) :: (77, 3, some (aGetR [(1175, 26104)])) :: (80, 1, some (aIl 2)) :: (81, 1, some (aIald D)) :: (82, 1, some (aIast D)) :: (83, 3, some (aInc 2 (1))) :: (86, 3, some (aGoto 58)) :: (89, 1, some (aAl 0)) :: (90, 3, some (aGetR [(1175, 820712)])) :: (93, 1, some (aAl 0)) :: (94, 3, some (aGetI D 7 42)) :: (97, 1, some (aIl 1)) :: (98, 1, some (aIast D)) :: (99, 1, some (aAl 0)) :: (100, 1, some (aDup)) :: (101, 3, some (aGetI D 7 42)) :: (104, 1, some (aIc (1))) :: (105, 1, some (aBin fAdd)) :: (106, 3, some (aPutI D 7 42)) :: (109, 1, some (aVret)) :: (110, 1, some (aIl 1)) :: (111, 1, some (aAl 0)) :: (112, 3, some (aGetI D 7 49)) :: (115, 3, some (aCm bNe bEq 119)) :: (118, 1, some (aVret)) :: (119, 1, some (aIc (0))) :: (120, 1, some (aIs 2)) :: (121, 0, none) :: (121, 1, some (aIl 2)) :: (122, 1, some (aAl 0)) :: (123, 3, some (aGetI D 7 6)) :: (126, 3, some (aCm (fun C x y => bLe C y x) bLt 186)) :: (129, 1, some (aAl 0)) :: (130, 1, some (aIl 1)) :: (131, 1, some (aIl 2)) :: (132, 3, some (aCall D 7 3 6 csX7_fits)) :: (135, 3, some (aIf bEq bNe 180)) :: (138, 1, some (aAl 0)) :: (139, 3, some (aGetR [(1175, 329128)])) :: (142, 1, some (aIl 2)) :: (143, 1, some (aIald D)) :: (144, 1, some (aAl 0)) :: (145, 3, some (aGetR [(1175, 329128)])) :: (148, 1, some (aAl 0)) :: (149, 3, some (aGetR [(1175, 26104)])) :: (152, 1, some (aIc (0))) :: (153, 1, some (aIald D)) :: (154, 1, some (aIald D)) :: (155, 1, some (aBin fSub)) :: (156, 1, some (aAl 0)) :: (157, 3, some (aGetI D 7 50)) :: (160, 3, some (aCm bLe (fun C x y => bLt C y x) 166)) :: (163, 3, some (aGoto 180)) :: (166, 1, some (aAl 0)) :: (167, 3, some (aGetR [(1175, 26104)])) :: (170, 1, some (aIl 1)) :: (171, 1, some (aIl 2)) :: (172, 1, some (aIast D)) :: (173, 1, some (aAl 0)) :: (174, 1, some (aIl 1)) :: (175, 1, some (aIc (1))) :: (176, 1, some (aBin fAdd)) :: (177, 3, some (aCall D 7 2 3 csX7_grows_3)) :: (180, 3, some (aInc 2 (1))) :: (183, 3, some (aGoto 121)) :: (186, 1, some (aVret)) :: []
set_option maxRecDepth 100000 in
set_option maxHeartbeats 4000000 in
theorem snX7_grows_2 (d : Nat) (W : List Nat) (c : Nat × Nat) (hc : c = cA ∨ c = cB) : SndAll (d, TYg, c, W) cdX7_grows (adX7_grows_2 (d, TYg, c, W)) := by
  unfold cdX7_grows adX7_grows_2
  refine sn_op sAl ?_
  refine sn_op sGetI ?_
  refine sn_op sIfEq ?_
  refine sn_op sVret ?_
  refine sn_op sIl ?_
  refine sn_op (sIc (n := 1) (by decide)) ?_
  refine sn_op sCmLe ?_
  refine sn_op sAl ?_
  refine sn_op sGetR ?_
  refine sn_op sAl ?_
  refine sn_op sGetR ?_
  refine sn_op sIl ?_
  refine sn_op (sIc (n := 1) (by decide)) ?_
  refine sn_op sIsub ?_
  refine sn_op sIald ?_
  refine sn_op sIald ?_
  refine sn_op sAl ?_
  refine sn_op sGetR ?_
  refine sn_op sAl ?_
  refine sn_op sGetR ?_
  refine sn_op (sIc (n := 0) (by decide)) ?_
  refine sn_op sIald ?_
  refine sn_op sIald ?_
  refine sn_op sCmNe ?_
  refine sn_op sAl ?_
  refine sn_op sGetI ?_
  refine sn_op (sIc (n := 200) (by decide)) ?_
  refine sn_op sCmNe ?_
  refine sn_op sAl ?_
  refine sn_op (sIc (n := 1) (by decide)) ?_
  refine sn_op sPutZ ?_
  refine sn_op sVret ?_
  refine sn_op (sIc (n := 0) (by decide)) ?_
  refine sn_op sIs ?_
  refine sn_st ?_
  refine sn_op sIl ?_
  refine sn_op sIl ?_
  refine sn_op sCmGe ?_
  refine sn_op sAl ?_
  refine sn_op sGetR ?_
  refine sn_op (sIc (n := 6) (by decide)) ?_
  refine sn_op sAl ?_
  refine sn_op sGetI ?_
  refine sn_op sImul ?_
  refine sn_op sIl ?_
  refine sn_op sIadd ?_
  refine sn_op sAl ?_
  refine sn_op sGetR ?_
  refine sn_op sIl ?_
  refine sn_op sIald ?_
  refine sn_op sIast ?_
  refine sn_op (sInc (n := 1) (by decide)) ?_
  refine sn_op sGoto ?_
  refine sn_op sAl ?_
  refine sn_op sGetR ?_
  refine sn_op sAl ?_
  refine sn_op sGetI ?_
  refine sn_op sIl ?_
  refine sn_op sIast ?_
  refine sn_op sAl ?_
  refine sn_op sDup ?_
  refine sn_op sGetI ?_
  refine sn_op (sIc (n := 1) (by decide)) ?_
  refine sn_op sIadd ?_
  refine sn_op sPutI ?_
  refine sn_op sVret ?_
  refine sn_op sIl ?_
  refine sn_op sAl ?_
  refine sn_op sGetI ?_
  refine sn_op sCmNe ?_
  refine sn_op sVret ?_
  refine sn_op (sIc (n := 0) (by decide)) ?_
  refine sn_op sIs ?_
  refine sn_st ?_
  refine sn_op sIl ?_
  refine sn_op sAl ?_
  refine sn_op sGetI ?_
  refine sn_op sCmGe ?_
  refine sn_op sAl ?_
  refine sn_op sIl ?_
  refine sn_op sIl ?_
  refine sn_op (sCI (sfX7_fits c hc) (by decide) (by decide +kernel)) ?_
  refine sn_op sIfEq ?_
  refine sn_op sAl ?_
  refine sn_op sGetR ?_
  refine sn_op sIl ?_
  refine sn_op sIald ?_
  refine sn_op sAl ?_
  refine sn_op sGetR ?_
  refine sn_op sAl ?_
  refine sn_op sGetR ?_
  refine sn_op (sIc (n := 0) (by decide)) ?_
  refine sn_op sIald ?_
  refine sn_op sIald ?_
  refine sn_op sIsub ?_
  refine sn_op sAl ?_
  refine sn_op sGetI ?_
  refine sn_op sCmLe ?_
  refine sn_op sGoto ?_
  refine sn_op sAl ?_
  refine sn_op sGetR ?_
  refine sn_op sIl ?_
  refine sn_op sIl ?_
  refine sn_op sIast ?_
  refine sn_op sAl ?_
  refine sn_op sIl ?_
  refine sn_op (sIc (n := 1) (by decide)) ?_
  refine sn_op sIadd ?_
  refine sn_op (sCV (sfX7_grows_3 c hc) (by decide) (by decide +kernel)) ?_
  refine sn_op (sInc (n := 1) (by decide)) ?_
  refine sn_op sGoto ?_
  refine sn_op sVret ?_
  exact sn_nil
def csX7_grows_2 : List AC := [([(2, 1175, 0), (0, 2, 2)], 6, [((9, 0, 0), [], [])], [26104, 820712, 4916696, 184683594903, 206158431383], [((1175, 49), (2, 6))])]
set_option maxRecDepth 100000 in
set_option maxHeartbeats 4000000 in
theorem sfX7_grows_2 (c : Nat × Nat) (hc : c = cA ∨ c = cB) : ∀ ac ∈ csX7_grows_2, SafeC TYg c mX7_grows ac := by
  intro ac hac
  simp only [csX7_grows_2, List.mem_cons, List.not_mem_nil, or_false] at hac
  rcases hac with rfl
  · rcases hc with rfl | rfl
    · exact safe_ofF (ann := [(58, [(2, 1175, 0), (0, 2, 2), (0, 0, 2)], [(3, 0, 0, 2), (0, 2, 0, 4294967296), (1, 1175, 42, 4294967296)], [(3, 1, 197)]), (121, [(2, 1175, 0), (0, 2, 2), (0, 0, 40)], [(3, 0, 0, 1), (0, 2, 0, 4294967296), (1, 1175, 49, 4294967296)], [(1, 3, -1)])]) (fuel := 600) okX7_grows (snX7_grows_2 _ _ cA (Or.inl rfl)) (List.forall_mem_cons.mpr ⟨⟨_, _, rfl⟩, List.forall_mem_cons.mpr ⟨⟨_, _, rfl⟩, (fun q hq => by cases hq)⟩⟩) (by decide) (by decide +kernel)
    · exact safe_ofF (ann := [(58, [(2, 1175, 0), (0, 2, 2), (0, 0, 2)], [(3, 0, 0, 2), (0, 2, 0, 4294967296), (1, 1175, 42, 4294967296)], [(3, 1, 197)]), (121, [(2, 1175, 0), (0, 2, 2), (0, 0, 40)], [(3, 0, 0, 1), (0, 2, 0, 4294967296), (1, 1175, 49, 4294967296)], [(1, 3, -1)])]) (fuel := 600) okX7_grows (snX7_grows_2 _ _ cB (Or.inr rfl)) (List.forall_mem_cons.mpr ⟨⟨_, _, rfl⟩, List.forall_mem_cons.mpr ⟨⟨_, _, rfl⟩, (fun q hq => by cases hq)⟩⟩) (by decide) (by decide +kernel)
set_option maxRecDepth 100000 in
def adX7_grows_1 (D : KK) : List ACE := (0, 1, some (aAl 0)) :: (1, 3, some (aGetI D 7 47)) :: (4, 3, some (aIf bEq bNe 8)) :: (7, 1, some (aVret)) :: (8, 1, some (aIl 1)) :: (9, 1, some (aIc (1))) :: (10, 3, some (aCm bLe (fun C x y => bLt C y x) 110)) :: (13, 1, some (aAl 0)) :: (14, 3, some (aGetR [(1175, 165384)])) :: (17, 1, some (aAl 0)) :: (18, 3, some (aGetR [(1175, 26104)])) :: (21, 1, some (aIl 1)) :: (22, 1, some (aIc (1))) :: (23, 1, some (aBin fSub)) :: (24, 1, some (aIald D)) :: (25, 1, some (aIald D)) :: (26, 1, some (aAl 0)) :: (27, 3, some (aGetR [(1175, 329048)])) :: (30, 1, some (aAl 0)) :: (31, 3, some (aGetR [(1175, 26104)])) :: (34, 1, some (aIc (0))) :: (35, 1, some (aIald D)) :: (36, 1, some (aIald D)) :: (37, 3, some (aCm bNe bEq 110)) :: (40, 1, some (aAl 0)) :: (41, 3, some (aGetI D 7 42)) :: (44, 3, some (aIc (200))) :: (47, 3, some (aCm bNe bEq 56)) :: (50, 1, some (aAl 0)) :: (51, 1, some (aIc (1))) :: (52, 3, some (aPutZ D 7 47)) :: (55, 1, some (aVret)) :: (56, 1, some (aIc (0))) :: (57, 1, some (aIs 2)) :: (58, 0, none) :: (58, 1, some (aIl 2)) :: (59, 1, some (aIl 1)) :: (60, 3, some (aCm (fun C x y => bLe C y x) bLt 89)) :: (63, 1, some (aAl 0)) :: (64, 3, some (aGetR [(1175, 4916696)])) :: (67, 2, some (aIc (6))) :: (69, 1, some (aAl 0)) :: (70, 3, some (aGetI D 7 42)) :: (73, 1, some (aBin fMul)) :: (74, 1, some (aIl 2)) :: (75, 1, some (aBin fAdd)) :: (76, 1, some (aAl 0)) :: (77, 3, some (aGetR [(1175, 26104)])) :: (80, 1, some (aIl 2)) :: (81, 1, some (aIald D)) :: (82, 1, some (aIast D)) :: (83, 3, some (aInc 2 (1))) :: (86, 3, some (aGoto 58)) :: (89, 1, some (aAl 0)) :: (90, 3, some (aGetR [(1175, 820712)])) :: (93, 1, some (aAl 0)) :: (94, 3, some (aGetI D 7 42)) :: (97, 1, some (aIl 1)) :: (98, 1, some (aIast D)) :: (99, 1, some (aAl 0)) :: (100, 1, some (aDup)) :: (101, 3, some (aGetI D 7 42)) :: (104, 1, some (aIc (1))) :: (105, 1, some (aBin fAdd)) :: (106, 3, some (aPutI D 7 42)) :: (109, 1, some (aVret)) :: (110, 1, some (aIl 1)) :: (111, 1, some (aAl 0)) :: (112, 3, some (aGetI D 7 49)) :: (115, 3, some (aCm bNe bEq 119)) :: (118, 1, some (aVret)) :: (119, 1, some (aIc (0))) :: (120, 1, some (aIs 2)) :: (121, 0, none) :: (121, 1, some (aIl 2)) :: (122, 1, some (aAl 0)) :: (123, 3, some (aGetI D 7 6)) :: (126, 3, some (aCm (fun C x y => bLe C y x) bLt 186)) :: (129, 1, some (aAl 0)) :: (130, 1, some (aIl 1)) :: (131, 1, some (aIl 2)) :: (132, 3, some (aCall D 7 3 6 csX7_fits)) :: (135, 3, some (aIf bEq bNe 180)) :: (138, 1, some (aAl 0)) :: (139, 3, some (aGetR [(1175, 329128)])) :: (142, 1, some (aIl 2)) :: (143, 1, some (aIald D)) :: (144, 1, some (aAl 0)) :: (145, 3, some (aGetR [(1175, 329128)])) :: (148, 1, some (aAl 0)) :: (149, 3, some (aGetR [(1175, 26104)])) :: (152, 1, some (aIc (0))) :: (153, 1, some (aIald D)) :: (154, 1, some (aIald D)) :: (155, 1, some (aBin fSub)) :: (156, 1, some (aAl 0)) :: (157, 3, some (aGetI D 7 50)) :: (160, 3, some (aCm bLe (fun C x y => bLt C y x) 166)) :: (163, 3, some (aGoto 180)) :: (166, 1, some (aAl 0)) :: (167, 3, some (aGetR [(1175, 26104)])) :: (170, 1, some (aIl 1)) :: (171, 1, some (aIl 2)) :: (172, 1, some (aIast D)) :: (173, 1, some (aAl 0)) :: (174, 1, some (aIl 1)) :: (175, 1, some (aIc (1))) :: (176, 1, some (aBin fAdd)) :: (177, 3, some (aCall D 7 2 3 csX7_grows_2)) :: (180, 3, some (aInc 2 (1))) :: (183, 3, some (aGoto 121)) :: (186, 1, some (aVret)) :: []
set_option maxRecDepth 100000 in
set_option maxHeartbeats 4000000 in
theorem snX7_grows_1 (d : Nat) (W : List Nat) (c : Nat × Nat) (hc : c = cA ∨ c = cB) : SndAll (d, TYg, c, W) cdX7_grows (adX7_grows_1 (d, TYg, c, W)) := by
  unfold cdX7_grows adX7_grows_1
  refine sn_op sAl ?_
  refine sn_op sGetI ?_
  refine sn_op sIfEq ?_
  refine sn_op sVret ?_
  refine sn_op sIl ?_
  refine sn_op (sIc (n := 1) (by decide)) ?_
  refine sn_op sCmLe ?_
  refine sn_op sAl ?_
  refine sn_op sGetR ?_
  refine sn_op sAl ?_
  refine sn_op sGetR ?_
  refine sn_op sIl ?_
  refine sn_op (sIc (n := 1) (by decide)) ?_
  refine sn_op sIsub ?_
  refine sn_op sIald ?_
  refine sn_op sIald ?_
  refine sn_op sAl ?_
  refine sn_op sGetR ?_
  refine sn_op sAl ?_
  refine sn_op sGetR ?_
  refine sn_op (sIc (n := 0) (by decide)) ?_
  refine sn_op sIald ?_
  refine sn_op sIald ?_
  refine sn_op sCmNe ?_
  refine sn_op sAl ?_
  refine sn_op sGetI ?_
  refine sn_op (sIc (n := 200) (by decide)) ?_
  refine sn_op sCmNe ?_
  refine sn_op sAl ?_
  refine sn_op (sIc (n := 1) (by decide)) ?_
  refine sn_op sPutZ ?_
  refine sn_op sVret ?_
  refine sn_op (sIc (n := 0) (by decide)) ?_
  refine sn_op sIs ?_
  refine sn_st ?_
  refine sn_op sIl ?_
  refine sn_op sIl ?_
  refine sn_op sCmGe ?_
  refine sn_op sAl ?_
  refine sn_op sGetR ?_
  refine sn_op (sIc (n := 6) (by decide)) ?_
  refine sn_op sAl ?_
  refine sn_op sGetI ?_
  refine sn_op sImul ?_
  refine sn_op sIl ?_
  refine sn_op sIadd ?_
  refine sn_op sAl ?_
  refine sn_op sGetR ?_
  refine sn_op sIl ?_
  refine sn_op sIald ?_
  refine sn_op sIast ?_
  refine sn_op (sInc (n := 1) (by decide)) ?_
  refine sn_op sGoto ?_
  refine sn_op sAl ?_
  refine sn_op sGetR ?_
  refine sn_op sAl ?_
  refine sn_op sGetI ?_
  refine sn_op sIl ?_
  refine sn_op sIast ?_
  refine sn_op sAl ?_
  refine sn_op sDup ?_
  refine sn_op sGetI ?_
  refine sn_op (sIc (n := 1) (by decide)) ?_
  refine sn_op sIadd ?_
  refine sn_op sPutI ?_
  refine sn_op sVret ?_
  refine sn_op sIl ?_
  refine sn_op sAl ?_
  refine sn_op sGetI ?_
  refine sn_op sCmNe ?_
  refine sn_op sVret ?_
  refine sn_op (sIc (n := 0) (by decide)) ?_
  refine sn_op sIs ?_
  refine sn_st ?_
  refine sn_op sIl ?_
  refine sn_op sAl ?_
  refine sn_op sGetI ?_
  refine sn_op sCmGe ?_
  refine sn_op sAl ?_
  refine sn_op sIl ?_
  refine sn_op sIl ?_
  refine sn_op (sCI (sfX7_fits c hc) (by decide) (by decide +kernel)) ?_
  refine sn_op sIfEq ?_
  refine sn_op sAl ?_
  refine sn_op sGetR ?_
  refine sn_op sIl ?_
  refine sn_op sIald ?_
  refine sn_op sAl ?_
  refine sn_op sGetR ?_
  refine sn_op sAl ?_
  refine sn_op sGetR ?_
  refine sn_op (sIc (n := 0) (by decide)) ?_
  refine sn_op sIald ?_
  refine sn_op sIald ?_
  refine sn_op sIsub ?_
  refine sn_op sAl ?_
  refine sn_op sGetI ?_
  refine sn_op sCmLe ?_
  refine sn_op sGoto ?_
  refine sn_op sAl ?_
  refine sn_op sGetR ?_
  refine sn_op sIl ?_
  refine sn_op sIl ?_
  refine sn_op sIast ?_
  refine sn_op sAl ?_
  refine sn_op sIl ?_
  refine sn_op (sIc (n := 1) (by decide)) ?_
  refine sn_op sIadd ?_
  refine sn_op (sCV (sfX7_grows_2 c hc) (by decide) (by decide +kernel)) ?_
  refine sn_op (sInc (n := 1) (by decide)) ?_
  refine sn_op sGoto ?_
  refine sn_op sVret ?_
  exact sn_nil
def csX7_grows_1 : List AC := [([(2, 1175, 0), (0, 1, 1)], 7, [((9, 0, 0), [((1175, 49), (1, 6))], [])], [26104, 820712, 4916696, 184683594903, 206158431383], [((1175, 49), (1, 6))])]
set_option maxRecDepth 100000 in
set_option maxHeartbeats 4000000 in
theorem sfX7_grows_1 (c : Nat × Nat) (hc : c = cA ∨ c = cB) : ∀ ac ∈ csX7_grows_1, SafeC TYg c mX7_grows ac := by
  intro ac hac
  simp only [csX7_grows_1, List.mem_cons, List.not_mem_nil, or_false] at hac
  rcases hac with rfl
  · rcases hc with rfl | rfl
    · exact safe_ofF (ann := [(121, [(2, 1175, 0), (0, 1, 1), (0, 0, 40)], [(3, 0, 0, 1), (0, 2, 0, 4294967296), (1, 1175, 49, 4294967296)], [(1, 3, -1)])]) (fuel := 600) okX7_grows (snX7_grows_1 _ _ cA (Or.inl rfl)) (List.forall_mem_cons.mpr ⟨⟨_, _, rfl⟩, (fun q hq => by cases hq)⟩) (by decide) (by decide +kernel)
    · exact safe_ofF (ann := [(121, [(2, 1175, 0), (0, 1, 1), (0, 0, 40)], [(3, 0, 0, 1), (0, 2, 0, 4294967296), (1, 1175, 49, 4294967296)], [(1, 3, -1)])]) (fuel := 600) okX7_grows (snX7_grows_1 _ _ cB (Or.inr rfl)) (List.forall_mem_cons.mpr ⟨⟨_, _, rfl⟩, (fun q hq => by cases hq)⟩) (by decide) (by decide +kernel)
def csX7_grows : List AC := csX7_grows_1
theorem sfX7_grows (c : Nat × Nat) (hc : c = cA ∨ c = cB) : ∀ ac ∈ csX7_grows, SafeC TYg c mX7_grows ac := sfX7_grows_1 c hc
set_option maxRecDepth 100000 in
def adX7_seeks (D : KK) : List ACE := (0, 1, some (aAl 0)) :: (1, 1, some (aIl 1)) :: (2, 3, some (aPutI D 7 48)) :: (5, 1, some (aAl 0)) :: (6, 1, some (aIl 2)) :: (7, 3, some (aPutI D 7 49)) :: (10, 1, some (aAl 0)) :: (11, 1, some (aIl 3)) :: (12, 3, some (aPutI D 7 50)) :: (15, 1, some (aAl 0)) :: (16, 1, some (aIc (0))) :: (17, 3, some (aPutI D 7 42)) :: (20, 1, some (aAl 0)) :: (21, 1, some (aIc (0))) :: (22, 3, some (aPutZ D 7 47)) :: (25, 1, some (aIc (0))) :: (26, 2, some (aIs 4)) :: (28, 0, none) :: (28, 2, some (aIl 4)) :: (30, 1, some (aAl 0)) :: (31, 3, some (aGetI D 7 6)) :: (34, 3, some (aCm (fun C x y => bLe C y x) bLt 99)) :: (37, 1, some (aAl 0)) :: (38, 3, some (aGetR [(1175, 329048)])) :: (41, 2, some (aIl 4)) :: (43, 1, some (aIald D)) :: (44, 1, some (aAl 0)) :: (45, 3, some (aGetR [(1175, 165384)])) :: (48, 2, some (aIl 4)) :: (50, 1, some (aIald D)) :: (51, 3, some (aCm bEq bNe 93)) :: (54, 1, some (aAl 0)) :: (55, 2, some (aIl 4)) :: (57, 3, some (aCall D 7 2 2 csX7_isStopped)) :: (60, 3, some (aIf bNe bEq 93)) :: (63, 1, some (aIl 1)) :: (64, 3, some (aIf bNe bEq 80)) :: (67, 1, some (aAl 0)) :: (68, 3, some (aGetR [(1175, 329144)])) :: (71, 2, some (aIl 4)) :: (73, 1, some (aIald D)) :: (74, 3, some (aIf bNe bEq 80)) :: (77, 3, some (aGoto 93)) :: (80, 1, some (aAl 0)) :: (81, 3, some (aGetR [(1175, 26104)])) :: (84, 1, some (aIc (0))) :: (85, 2, some (aIl 4)) :: (87, 1, some (aIast D)) :: (88, 1, some (aAl 0)) :: (89, 1, some (aIc (1))) :: (90, 3, some (aCall D 7 2 3 csX7_grows)) :: (93, 3, some (aInc 4 (1))) :: (96, 3, some (aGoto 28)) :: (99, 1, some (aVret)) :: []
set_option maxRecDepth 100000 in
set_option maxHeartbeats 4000000 in
theorem snX7_seeks (d : Nat) (W : List Nat) (c : Nat × Nat) (hc : c = cA ∨ c = cB) : SndAll (d, TYg, c, W) cdX7_seeks (adX7_seeks (d, TYg, c, W)) := by
  unfold cdX7_seeks adX7_seeks
  refine sn_op sAl ?_
  refine sn_op sIl ?_
  refine sn_op sPutI ?_
  refine sn_op sAl ?_
  refine sn_op sIl ?_
  refine sn_op sPutI ?_
  refine sn_op sAl ?_
  refine sn_op sIl ?_
  refine sn_op sPutI ?_
  refine sn_op sAl ?_
  refine sn_op (sIc (n := 0) (by decide)) ?_
  refine sn_op sPutI ?_
  refine sn_op sAl ?_
  refine sn_op (sIc (n := 0) (by decide)) ?_
  refine sn_op sPutZ ?_
  refine sn_op (sIc (n := 0) (by decide)) ?_
  refine sn_op sIs ?_
  refine sn_st ?_
  refine sn_op sIl ?_
  refine sn_op sAl ?_
  refine sn_op sGetI ?_
  refine sn_op sCmGe ?_
  refine sn_op sAl ?_
  refine sn_op sGetR ?_
  refine sn_op sIl ?_
  refine sn_op sIald ?_
  refine sn_op sAl ?_
  refine sn_op sGetR ?_
  refine sn_op sIl ?_
  refine sn_op sIald ?_
  refine sn_op sCmEq ?_
  refine sn_op sAl ?_
  refine sn_op sIl ?_
  refine sn_op (sCI (sfX7_isStopped c hc) (by decide) (by decide +kernel)) ?_
  refine sn_op sIfNe ?_
  refine sn_op sIl ?_
  refine sn_op sIfNe ?_
  refine sn_op sAl ?_
  refine sn_op sGetR ?_
  refine sn_op sIl ?_
  refine sn_op sIald ?_
  refine sn_op sIfNe ?_
  refine sn_op sGoto ?_
  refine sn_op sAl ?_
  refine sn_op sGetR ?_
  refine sn_op (sIc (n := 0) (by decide)) ?_
  refine sn_op sIl ?_
  refine sn_op sIast ?_
  refine sn_op sAl ?_
  refine sn_op (sIc (n := 1) (by decide)) ?_
  refine sn_op (sCV (sfX7_grows c hc) (by decide) (by decide +kernel)) ?_
  refine sn_op (sInc (n := 1) (by decide)) ?_
  refine sn_op sGoto ?_
  refine sn_op sVret ?_
  exact sn_nil
def csX7_seeks : List AC := [([(2, 1175, 0), (0, 0, 1), (0, 2, 6), (0, 0, 400)], 8, [((9, 0, 0), [((1175, 49), (2, 6))], [])], [26104, 820712, 4916696, 184683594903, 206158431383, 210453398679, 214748365975, 219043333271], [])]
set_option maxRecDepth 100000 in
set_option maxHeartbeats 4000000 in
theorem sfX7_seeks (c : Nat × Nat) (hc : c = cA ∨ c = cB) : ∀ ac ∈ csX7_seeks, SafeC TYg c mX7_seeks ac := by
  intro ac hac
  simp only [csX7_seeks, List.mem_cons, List.not_mem_nil, or_false] at hac
  rcases hac with rfl
  · rcases hc with rfl | rfl
    · exact safe_ofF (ann := [(28, [(2, 1175, 0), (0, 0, 1), (0, 2, 6), (0, 0, 400), (0, 0, 40)], [(0, 4, 0, 4294967296), (1, 1175, 49, 4294967296)], [(2, 5, 0)])]) (fuel := 600) okX7_seeks (snX7_seeks _ _ cA (Or.inl rfl)) (List.forall_mem_cons.mpr ⟨⟨_, _, rfl⟩, (fun q hq => by cases hq)⟩) (by decide) (by decide +kernel)
    · exact safe_ofF (ann := [(28, [(2, 1175, 0), (0, 0, 1), (0, 2, 6), (0, 0, 400), (0, 0, 40)], [(0, 4, 0, 4294967296), (1, 1175, 49, 4294967296)], [(2, 5, 0)])]) (fuel := 600) okX7_seeks (snX7_seeks _ _ cB (Or.inr rfl)) (List.forall_mem_cons.mpr ⟨⟨_, _, rfl⟩, (fun q hq => by cases hq)⟩) (by decide) (by decide +kernel)
set_option maxRecDepth 100000 in
def adX7_seeksNow (D : KK) : List ACE := (0, 1, some (aIc (0))) :: (1, 2, some (aIs 4)) :: (3, 0, none) :: (3, 2, some (aIl 4)) :: (5, 1, some (aAl 0)) :: (6, 3, some (aGetI D 7 6)) :: (9, 3, some (aCm (fun C x y => bLe C y x) bLt 32)) :: (12, 1, some (aAl 0)) :: (13, 3, some (aGetR [(1175, 165384)])) :: (16, 2, some (aIl 4)) :: (18, 1, some (aAl 0)) :: (19, 3, some (aGetR [(1175, 329064)])) :: (22, 2, some (aIl 4)) :: (24, 1, some (aIald D)) :: (25, 1, some (aIast D)) :: (26, 3, some (aInc 4 (1))) :: (29, 3, some (aGoto 3)) :: (32, 1, some (aAl 0)) :: (33, 1, some (aIl 1)) :: (34, 1, some (aIl 2)) :: (35, 1, some (aIl 3)) :: (36, 3, some (aCall D 7 4 5 csX7_seeks)) :: (39, 1, some (aVret)) :: []
set_option maxRecDepth 100000 in
set_option maxHeartbeats 4000000 in
theorem snX7_seeksNow (d : Nat) (W : List Nat) (c : Nat × Nat) (hc : c = cA ∨ c = cB) : SndAll (d, TYg, c, W) cdX7_seeksNow (adX7_seeksNow (d, TYg, c, W)) := by
  unfold cdX7_seeksNow adX7_seeksNow
  refine sn_op (sIc (n := 0) (by decide)) ?_
  refine sn_op sIs ?_
  refine sn_st ?_
  refine sn_op sIl ?_
  refine sn_op sAl ?_
  refine sn_op sGetI ?_
  refine sn_op sCmGe ?_
  refine sn_op sAl ?_
  refine sn_op sGetR ?_
  refine sn_op sIl ?_
  refine sn_op sAl ?_
  refine sn_op sGetR ?_
  refine sn_op sIl ?_
  refine sn_op sIald ?_
  refine sn_op sIast ?_
  refine sn_op (sInc (n := 1) (by decide)) ?_
  refine sn_op sGoto ?_
  refine sn_op sAl ?_
  refine sn_op sIl ?_
  refine sn_op sIl ?_
  refine sn_op sIl ?_
  refine sn_op (sCV (sfX7_seeks c hc) (by decide) (by decide +kernel)) ?_
  refine sn_op sVret ?_
  exact sn_nil
def csX7_seeksNow : List AC := [([(2, 1175, 0), (0, 0, 1), (0, 2, 6), (0, 0, 400)], 9, [((9, 0, 0), [((1175, 49), (2, 6))], [])], [26104, 165384, 820712, 4916696, 184683594903, 206158431383, 210453398679, 214748365975, 219043333271], [])]
set_option maxRecDepth 100000 in
set_option maxHeartbeats 4000000 in
theorem sfX7_seeksNow (c : Nat × Nat) (hc : c = cA ∨ c = cB) : ∀ ac ∈ csX7_seeksNow, SafeC TYg c mX7_seeksNow ac := by
  intro ac hac
  simp only [csX7_seeksNow, List.mem_cons, List.not_mem_nil, or_false] at hac
  rcases hac with rfl
  · rcases hc with rfl | rfl
    · exact safe_of (ann := [(3, [(2, 1175, 0), (0, 0, 1), (0, 2, 6), (0, 0, 400), (0, 0, 40)], [(0, 4, 0, 4294967296)])]) (fuel := 600) okX7_seeksNow (snX7_seeksNow _ _ cA (Or.inl rfl)) (List.forall_mem_cons.mpr ⟨⟨_, _, rfl⟩, (fun q hq => by cases hq)⟩) (by decide) (by decide +kernel)
    · exact safe_of (ann := [(3, [(2, 1175, 0), (0, 0, 1), (0, 2, 6), (0, 0, 400), (0, 0, 40)], [(0, 4, 0, 4294967296)])]) (fuel := 600) okX7_seeksNow (snX7_seeksNow _ _ cB (Or.inr rfl)) (List.forall_mem_cons.mpr ⟨⟨_, _, rfl⟩, (fun q hq => by cases hq)⟩) (by decide) (by decide +kernel)
set_option maxRecDepth 100000 in
def adX7_isAsked (D : KK) : List ACE := (0, 1, some (aIl 0)) :: (1, 3, some (aIf bLt (fun C x y => bLe C y x) 35)) :: (4, 1, some (aIl 0)) :: (5, 1, some (aIc (1))) :: (6, 3, some (aCm (fun C x y => bLt C y x) bLe 35)) :: (9, 1, some (aIl 1)) :: (10, 1, some (aIc (2))) :: (11, 3, some (aCm bLt (fun C x y => bLe C y x) 35)) :: (14, 1, some (aIl 1)) :: (15, 2, some (aIc (6))) :: (17, 3, some (aCm (fun C x y => bLt C y x) bLe 35)) :: (20, 1, some (aIl 2)) :: (21, 3, some (aIf bLt (fun C x y => bLe C y x) 35)) :: (24, 1, some (aIl 2)) :: (25, 3, some (aIc (400))) :: (28, 3, some (aCm (fun C x y => bLt C y x) bLe 35)) :: (31, 1, some (aIc (1))) :: (32, 3, some (aGoto 36)) :: (35, 1, some (aIc (0))) :: (36, 1, some (aZret)) :: []
set_option maxRecDepth 100000 in
set_option maxHeartbeats 4000000 in
theorem snX7_isAsked (d : Nat) (W : List Nat) (c : Nat × Nat) (hc : c = cA ∨ c = cB) : SndAll (d, TYg, c, W) cdX7_isAsked (adX7_isAsked (d, TYg, c, W)) := by
  unfold cdX7_isAsked adX7_isAsked
  refine sn_op sIl ?_
  refine sn_op sIfLt ?_
  refine sn_op sIl ?_
  refine sn_op (sIc (n := 1) (by decide)) ?_
  refine sn_op sCmGt ?_
  refine sn_op sIl ?_
  refine sn_op (sIc (n := 2) (by decide)) ?_
  refine sn_op sCmLt ?_
  refine sn_op sIl ?_
  refine sn_op (sIc (n := 6) (by decide)) ?_
  refine sn_op sCmGt ?_
  refine sn_op sIl ?_
  refine sn_op sIfLt ?_
  refine sn_op sIl ?_
  refine sn_op (sIc (n := 400) (by decide)) ?_
  refine sn_op sCmGt ?_
  refine sn_op (sIc (n := 1) (by decide)) ?_
  refine sn_op sGoto ?_
  refine sn_op (sIc (n := 0) (by decide)) ?_
  refine sn_op sZret ?_
  exact sn_nil
def csX7_isAsked : List AC := [([(0, -2147483648, 2147483647), (0, -2147483648, 2147483647), (0, -2147483648, 2147483647)], 1, [((0, 0, 0), [], []), ((0, 1, 1), [], [(0, (0, 1)), (1, (2, 6)), (2, (0, 400))])], [], [])]
set_option maxRecDepth 100000 in
set_option maxHeartbeats 4000000 in
theorem sfX7_isAsked (c : Nat × Nat) (hc : c = cA ∨ c = cB) : ∀ ac ∈ csX7_isAsked, SafeC TYg c mX7_isAsked ac := by
  intro ac hac
  simp only [csX7_isAsked, List.mem_cons, List.not_mem_nil, or_false] at hac
  rcases hac with rfl
  · rcases hc with rfl | rfl
    · exact safe_of (ann := []) (fuel := 600) okX7_isAsked (snX7_isAsked _ _ cA (Or.inl rfl)) (fun q hq => by cases hq) (by decide) (by decide +kernel)
    · exact safe_of (ann := []) (fuel := 600) okX7_isAsked (snX7_isAsked _ _ cB (Or.inr rfl)) (fun q hq => by cases hq) (by decide) (by decide +kernel)
set_option maxRecDepth 100000 in
def adX7_fewest (D : KK) : List ACE := (0, 1, some (aAl 0)) :: (1, 1, some (aIc (0))) :: (2, 3, some (aPutI D 7 0)) :: (5, 1, some (aIl 1)) :: (6, 1, some (aIl 2)) :: (7, 1, some (aIl 3)) :: (8, 3, some (aCall D 16 3 3 csX7_isAsked)) :: (11, 3, some (aIf bEq bNe 21)) :: (14, 2, some (aJl 4)) :: (16, 1, some (aJc (0))) :: (17, 1, some (aLcmp)) :: (18, 3, some (aIf (fun C x y => bLe C y x) bLt 23)) :: (21, 1, some (aIc (-1))) :: (22, 1, some (aIret)) :: (23, 1, some (aAl 0)) :: (24, 1, some (aIl 1)) :: (25, 1, some (aIl 2)) :: (26, 1, some (aIl 3)) :: (27, 3, some (aCall D 7 4 5 csX7_seeksNow)) :: (30, 1, some (aAl 0)) :: (31, 3, some (aGetI D 7 47)) :: (34, 3, some (aIf bEq bNe 40)) :: (37, 2, some (aIc (-2))) :: (39, 1, some (aIret)) :: (40, 1, some (aIc (0))) :: (41, 2, some (aIs 6)) :: (43, 0, none) :: (43, 2, some (aIl 6)) :: (45, 1, some (aAl 0)) :: (46, 3, some (aGetI D 7 42)) :: (49, 3, some (aCm (fun C x y => bLe C y x) bLt 93)) :: (52, 1, some (aAl 0)) :: (53, 3, some (aGetR [(1175, 820809)])) :: (56, 2, some (aIl 6)) :: (58, 1, some (aAl 0)) :: (59, 2, some (aIl 6)) :: (61, 1, some (aAl 0)) :: (62, 3, some (aGetI D 7 40)) :: (65, 1, some (aAl 0)) :: (66, 3, some (aGetI D 7 40)) :: (69, 3, some (aCall D 7 4 8 csX7_takesOf)) :: (72, 1, some (aUn (fun C x => (6, rng C x)))) :: (73, 1, some (aJast D)) :: (74, 1, some (aAl 0)) :: (75, 3, some (aGetR [(1175, 820824)])) :: (78, 2, some (aIl 6)) :: (80, 1, some (aAl 0)) :: (81, 2, some (aIl 6)) :: (83, 3, some (aCall D 7 2 4 csX7_firmsOf)) :: (86, 1, some (aIast D)) :: (87, 3, some (aInc 6 (1))) :: (90, 3, some (aGoto 43)) :: (93, 1, some (aIc (-1))) :: (94, 2, some (aIs 6)) :: (96, 1, some (aIc (0))) :: (97, 2, some (aIs 7)) :: (99, 0, none) :: (99, 2, some (aIl 7)) :: (101, 1, some (aIc (1))) :: (102, 1, some (aAl 0)) :: (103, 3, some (aGetI D 7 5)) :: (106, 1, some (aBin fTop)) :: (107, 3, some (aCm (fun C x y => bLe C y x) bLt 200)) :: (110, 2, some (aIl 6)) :: (112, 1, some (aIc (-1))) :: (113, 3, some (aCm bEq bNe 132)) :: (116, 2, some (aIl 7)) :: (118, 3, some (aCall D 16 1 3 csX7_bits)) :: (121, 2, some (aIl 6)) :: (123, 3, some (aCall D 16 1 3 csX7_bits)) :: (126, 3, some (aCm bLt (fun C x y => bLe C y x) 132)) :: (129, 3, some (aGoto 194)) :: (132, 1, some (aJc (0))) :: (133, 2, some (aJs 8)) :: (135, 1, some (aIc (0))) :: (136, 2, some (aIs 10)) :: (138, 0, none) :: (138, 2, some (aIl 10)) :: (140, 1, some (aAl 0)) :: (141, 3, some (aGetI D 7 42)) :: (144, 3, some (aCm (fun C x y => bLe C y x) bLt 182)) :: (147, 2, some (aJl 8)) :: (149, 1, some (aAl 0)) :: (150, 3, some (aGetR [(1175, 820824)])) :: (153, 2, some (aIl 10)) :: (155, 1, some (aIald D)) :: (156, 2, some (aIl 7)) :: (158, 1, some (aBin fAnd)) :: (159, 3, some (aIf bEq bNe 166)) :: (162, 1, some (aJc (0))) :: (163, 3, some (aGoto 173)) :: (166, 1, some (aAl 0)) :: (167, 3, some (aGetR [(1175, 820809)])) :: (170, 2, some (aIl 10)) :: (172, 1, some (aJald)) :: (173, 1, some (aLL)) :: (174, 2, some (aJs 8)) :: (176, 3, some (aInc 10 (1))) :: (179, 3, some (aGoto 138)) :: (182, 2, some (aJl 8)) :: (184, 2, some (aJl 4)) :: (186, 1, some (aLcmp)) :: (187, 3, some (aIf (fun C x y => bLt C y x) bLe 194)) :: (190, 2, some (aIl 7)) :: (192, 2, some (aIs 6)) :: (194, 3, some (aInc 7 (1))) :: (197, 3, some (aGoto 99)) :: (200, 2, some (aIl 6)) :: (202, 1, some (aIret)) :: []
set_option maxRecDepth 100000 in
set_option maxHeartbeats 4000000 in
theorem snX7_fewest (d : Nat) (W : List Nat) (c : Nat × Nat) (hc : c = cA ∨ c = cB) : SndAll (d, TYg, c, W) cdX7_fewest (adX7_fewest (d, TYg, c, W)) := by
  unfold cdX7_fewest adX7_fewest
  refine sn_op sAl ?_
  refine sn_op (sIc (n := 0) (by decide)) ?_
  refine sn_op sPutI ?_
  refine sn_op sIl ?_
  refine sn_op sIl ?_
  refine sn_op sIl ?_
  refine sn_op (sCI (sfX7_isAsked c hc) (by decide) (by decide +kernel)) ?_
  refine sn_op sIfEq ?_
  refine sn_op sJl ?_
  refine sn_op (sJc (n := 0) (by decide)) ?_
  refine sn_op sLcmp ?_
  refine sn_op sIfGe ?_
  refine sn_op (sIc (n := -1) (by decide)) ?_
  refine sn_op sIret ?_
  refine sn_op sAl ?_
  refine sn_op sIl ?_
  refine sn_op sIl ?_
  refine sn_op sIl ?_
  refine sn_op (sCV (sfX7_seeksNow c hc) (by decide) (by decide +kernel)) ?_
  refine sn_op sAl ?_
  refine sn_op sGetI ?_
  refine sn_op sIfEq ?_
  refine sn_op (sIc (n := -2) (by decide)) ?_
  refine sn_op sIret ?_
  refine sn_op (sIc (n := 0) (by decide)) ?_
  refine sn_op sIs ?_
  refine sn_st ?_
  refine sn_op sIl ?_
  refine sn_op sAl ?_
  refine sn_op sGetI ?_
  refine sn_op sCmGe ?_
  refine sn_op sAl ?_
  refine sn_op sGetR ?_
  refine sn_op sIl ?_
  refine sn_op sAl ?_
  refine sn_op sIl ?_
  refine sn_op sAl ?_
  refine sn_op sGetI ?_
  refine sn_op sAl ?_
  refine sn_op sGetI ?_
  refine sn_op (sCI (sfX7_takesOf c hc) (by decide) (by decide +kernel)) ?_
  refine sn_op sI2l ?_
  refine sn_op sJast ?_
  refine sn_op sAl ?_
  refine sn_op sGetR ?_
  refine sn_op sIl ?_
  refine sn_op sAl ?_
  refine sn_op sIl ?_
  refine sn_op (sCI (sfX7_firmsOf c hc) (by decide) (by decide +kernel)) ?_
  refine sn_op sIast ?_
  refine sn_op (sInc (n := 1) (by decide)) ?_
  refine sn_op sGoto ?_
  refine sn_op (sIc (n := -1) (by decide)) ?_
  refine sn_op sIs ?_
  refine sn_op (sIc (n := 0) (by decide)) ?_
  refine sn_op sIs ?_
  refine sn_st ?_
  refine sn_op sIl ?_
  refine sn_op (sIc (n := 1) (by decide)) ?_
  refine sn_op sAl ?_
  refine sn_op sGetI ?_
  refine sn_op sIshl ?_
  refine sn_op sCmGe ?_
  refine sn_op sIl ?_
  refine sn_op (sIc (n := -1) (by decide)) ?_
  refine sn_op sCmEq ?_
  refine sn_op sIl ?_
  refine sn_op (sCI (sfX7_bits c hc) (by decide) (by decide +kernel)) ?_
  refine sn_op sIl ?_
  refine sn_op (sCI (sfX7_bits c hc) (by decide) (by decide +kernel)) ?_
  refine sn_op sCmLt ?_
  refine sn_op sGoto ?_
  refine sn_op (sJc (n := 0) (by decide)) ?_
  refine sn_op sJs ?_
  refine sn_op (sIc (n := 0) (by decide)) ?_
  refine sn_op sIs ?_
  refine sn_st ?_
  refine sn_op sIl ?_
  refine sn_op sAl ?_
  refine sn_op sGetI ?_
  refine sn_op sCmGe ?_
  refine sn_op sJl ?_
  refine sn_op sAl ?_
  refine sn_op sGetR ?_
  refine sn_op sIl ?_
  refine sn_op sIald ?_
  refine sn_op sIl ?_
  refine sn_op sIand ?_
  refine sn_op sIfEq ?_
  refine sn_op (sJc (n := 0) (by decide)) ?_
  refine sn_op sGoto ?_
  refine sn_op sAl ?_
  refine sn_op sGetR ?_
  refine sn_op sIl ?_
  refine sn_op sJald ?_
  refine sn_op sLadd ?_
  refine sn_op sJs ?_
  refine sn_op (sInc (n := 1) (by decide)) ?_
  refine sn_op sGoto ?_
  refine sn_op sJl ?_
  refine sn_op sJl ?_
  refine sn_op sLcmp ?_
  refine sn_op sIfGt ?_
  refine sn_op sIl ?_
  refine sn_op sIs ?_
  refine sn_op (sInc (n := 1) (by decide)) ?_
  refine sn_op sGoto ?_
  refine sn_op sIl ?_
  refine sn_op sIret ?_
  exact sn_nil
def csX7_fewest : List AC := [([(2, 1175, 0), (0, -2147483648, 2147483647), (0, -2147483648, 2147483647), (0, -2147483648, 2147483647), (8, 0, 0)], 10, [((0, -1, 2147483646), [], []), ((0, -2, -1), [((1175, 0), (0, 0))], [])], [26104, 165384, 820712, 820809, 820824, 4916696, 4294968471, 184683594903, 206158431383, 210453398679, 214748365975, 219043333271], [])]
set_option maxRecDepth 100000 in
set_option maxHeartbeats 4000000 in
theorem sfX7_fewest (c : Nat × Nat) (hc : c = cA ∨ c = cB) : ∀ ac ∈ csX7_fewest, SafeC TYg c mX7_fewest ac := by
  intro ac hac
  simp only [csX7_fewest, List.mem_cons, List.not_mem_nil, or_false] at hac
  rcases hac with rfl
  · rcases hc with rfl | rfl
    · exact safe_of (ann := [(43, [(2, 1175, 0), (0, 0, 1), (0, 2, 6), (0, 0, 400), (8, 0, 0), (4, 0, 0), (0, 0, 200), (4, 0, 0), (4, 0, 0), (4, 0, 0), (4, 0, 0)], [(3, 0, 0, 2), (0, 6, 0, 4294967296)]), (99, [(2, 1175, 0), (0, 0, 1), (0, 2, 6), (0, 0, 400), (8, 0, 0), (4, 0, 0), (0, -1, 2147483646), (0, 0, 2147483647), (4, 0, 0), (4, 0, 0), (4, 0, 0)], [(3, 0, 0, 1), (0, 7, 0, 4294967296), (3, 0, 0, 2)]), (138, [(2, 1175, 0), (0, 0, 1), (0, 2, 6), (0, 0, 400), (8, 0, 0), (4, 0, 0), (0, -1, 2147483646), (0, 0, 2147483646), (8, 0, 0), (4, 0, 0), (0, 0, 200)], [(3, 0, 0, 1), (0, 7, 0, 4294967296), (3, 0, 0, 1), (0, 10, 0, 4294967296)])]) (fuel := 600) okX7_fewest (snX7_fewest _ _ cA (Or.inl rfl)) (List.forall_mem_cons.mpr ⟨⟨_, _, rfl⟩, List.forall_mem_cons.mpr ⟨⟨_, _, rfl⟩, List.forall_mem_cons.mpr ⟨⟨_, _, rfl⟩, (fun q hq => by cases hq)⟩⟩⟩) (by decide) (by decide +kernel)
    · exact safe_of (ann := [(43, [(2, 1175, 0), (0, 0, 1), (0, 2, 6), (0, 0, 400), (8, 0, 0), (4, 0, 0), (0, 0, 200), (4, 0, 0), (4, 0, 0), (4, 0, 0), (4, 0, 0)], [(3, 0, 0, 2), (0, 6, 0, 4294967296)]), (99, [(2, 1175, 0), (0, 0, 1), (0, 2, 6), (0, 0, 400), (8, 0, 0), (4, 0, 0), (0, -1, 2147483646), (0, 0, 2147483647), (4, 0, 0), (4, 0, 0), (4, 0, 0)], [(3, 0, 0, 1), (0, 7, 0, 4294967296), (3, 0, 0, 2)]), (138, [(2, 1175, 0), (0, 0, 1), (0, 2, 6), (0, 0, 400), (8, 0, 0), (4, 0, 0), (0, -1, 2147483646), (0, 0, 2147483646), (8, 0, 0), (4, 0, 0), (0, 0, 200)], [(3, 0, 0, 1), (0, 7, 0, 4294967296), (3, 0, 0, 1), (0, 10, 0, 4294967296)])]) (fuel := 600) okX7_fewest (snX7_fewest _ _ cB (Or.inr rfl)) (List.forall_mem_cons.mpr ⟨⟨_, _, rfl⟩, List.forall_mem_cons.mpr ⟨⟨_, _, rfl⟩, List.forall_mem_cons.mpr ⟨⟨_, _, rfl⟩, (fun q hq => by cases hq)⟩⟩⟩) (by decide) (by decide +kernel)
set_option maxRecDepth 100000 in
def adX7_isFirm (D : KK) : List ACE := (0, 1, some (aIl 1)) :: (1, 3, some (aIf bLt (fun C x y => bLe C y x) 16)) :: (4, 1, some (aIl 1)) :: (5, 1, some (aAl 0)) :: (6, 3, some (aGetI D 7 5)) :: (9, 3, some (aCm (fun C x y => bLe C y x) bLt 16)) :: (12, 1, some (aIc (1))) :: (13, 3, some (aGoto 17)) :: (16, 1, some (aIc (0))) :: (17, 1, some (aZret)) :: []
set_option maxRecDepth 100000 in
set_option maxHeartbeats 4000000 in
theorem snX7_isFirm (d : Nat) (W : List Nat) (c : Nat × Nat) (hc : c = cA ∨ c = cB) : SndAll (d, TYg, c, W) cdX7_isFirm (adX7_isFirm (d, TYg, c, W)) := by
  unfold cdX7_isFirm adX7_isFirm
  refine sn_op sIl ?_
  refine sn_op sIfLt ?_
  refine sn_op sIl ?_
  refine sn_op sAl ?_
  refine sn_op sGetI ?_
  refine sn_op sCmGe ?_
  refine sn_op (sIc (n := 1) (by decide)) ?_
  refine sn_op sGoto ?_
  refine sn_op (sIc (n := 0) (by decide)) ?_
  refine sn_op sZret ?_
  exact sn_nil
def csX7_isFirm : List AC := [([(2, 1175, 0), (0, -2147483648, 2147483647)], 1, [((0, 0, 0), [], []), ((0, 1, 1), [((1175, 5), (1, 12))], [(1, (0, 11))])], [], [])]
set_option maxRecDepth 100000 in
set_option maxHeartbeats 4000000 in
theorem sfX7_isFirm (c : Nat × Nat) (hc : c = cA ∨ c = cB) : ∀ ac ∈ csX7_isFirm, SafeC TYg c mX7_isFirm ac := by
  intro ac hac
  simp only [csX7_isFirm, List.mem_cons, List.not_mem_nil, or_false] at hac
  rcases hac with rfl
  · rcases hc with rfl | rfl
    · exact safe_of (ann := []) (fuel := 600) okX7_isFirm (snX7_isFirm _ _ cA (Or.inl rfl)) (fun q hq => by cases hq) (by decide) (by decide +kernel)
    · exact safe_of (ann := []) (fuel := 600) okX7_isFirm (snX7_isFirm _ _ cB (Or.inr rfl)) (fun q hq => by cases hq) (by decide) (by decide +kernel)
set_option maxRecDepth 100000 in
def adX7_parties (D : KK) : List ACE := (0, 1, some (aIc (0))) :: (1, 1, some (aIs 1)) :: (2, 0, none) :: (2, 1, some (aIl 1)) :: (3, 1, some (aAl 0)) :: (4, 3, some (aGetI D 7 5)) :: (7, 3, some (aCm (fun C x y => bLe C y x) bLt 23)) :: (10, 1, some (aAl 0)) :: (11, 3, some (aGetR [(1175, 50632)])) :: (14, 1, some (aIl 1)) :: (15, 1, some (aIl 1)) :: (16, 1, some (aIast D)) :: (17, 3, some (aInc 1 (1))) :: (20, 3, some (aGoto 2)) :: (23, 1, some (aIc (0))) :: (24, 1, some (aIs 1)) :: (25, 0, none) :: (25, 1, some (aIl 1)) :: (26, 1, some (aAl 0)) :: (27, 3, some (aGetI D 7 5)) :: (30, 3, some (aCm (fun C x y => bLe C y x) bLt 140)) :: (33, 1, some (aIc (0))) :: (34, 1, some (aIs 2)) :: (35, 0, none) :: (35, 1, some (aIl 2)) :: (36, 1, some (aAl 0)) :: (37, 3, some (aGetI D 7 5)) :: (40, 3, some (aCm (fun C x y => bLe C y x) bLt 134)) :: (43, 1, some (aIc (0))) :: (44, 1, some (aIs 3)) :: (45, 0, none) :: (45, 1, some (aIl 3)) :: (46, 1, some (aAl 0)) :: (47, 3, some (aGetI D 7 5)) :: (50, 3, some (aCm (fun C x y => bLe C y x) bLt 128)) :: (53, 1, some (aAl 0)) :: (54, 3, some (aGetR [(1175, 99608)])) :: (57, 1, some (aIl 2)) :: (58, 1, some (aIald D)) :: (59, 3, some (aIf bEq bNe 77)) :: (62, 1, some (aAl 0)) :: (63, 3, some (aGetR [(1175, 99608)])) :: (66, 1, some (aIl 2)) :: (67, 1, some (aIald D)) :: (68, 1, some (aAl 0)) :: (69, 3, some (aGetR [(1175, 99608)])) :: (72, 1, some (aIl 3)) :: (73, 1, some (aIald D)) :: (74, 3, some (aCm bEq bNe 101)) :: (77, 1, some (aAl 0)) :: (78, 3, some (aGetR [(1175, 99624)])) :: (81, 1, some (aIl 2)) :: (82, 1, some (aIald D)) :: (83, 3, some (aIf bEq bNe 122)) :: (86, 1, some (aAl 0)) :: (87, 3, some (aGetR [(1175, 99624)])) :: (90, 1, some (aIl 2)) :: (91, 1, some (aIald D)) :: (92, 1, some (aAl 0)) :: (93, 3, some (aGetR [(1175, 99624)])) :: (96, 1, some (aIl 3)) :: (97, 1, some (aIald D)) :: (98, 3, some (aCm bNe bEq 122)) :: (101, 1, some (aAl 0)) :: (102, 3, some (aGetR [(1175, 50632)])) :: (105, 1, some (aIl 2)) :: (106, 1, some (aAl 0)) :: (107, 3, some (aGetR [(1175, 50632)])) :: (110, 1, some (aIl 2)) :: (111, 1, some (aIald D)) :: (112, 1, some (aAl 0)) :: (113, 3, some (aGetR [(1175, 50632)])) :: (116, 1, some (aIl 3)) :: (117, 1, some (aIald D)) :: (118, 3, some (aMin D)) :: (121, 1, some (aIast D)) :: (122, 3, some (aInc 3 (1))) :: (125, 3, some (aGoto 45)) :: (128, 3, some (aInc 2 (1))) :: (131, 3, some (aGoto 35)) :: (134, 3, some (aInc 1 (1))) :: (137, 3, some (aGoto 25)) :: (140, 1, some (aVret)) :: []
set_option maxRecDepth 100000 in
set_option maxHeartbeats 4000000 in
theorem snX7_parties (d : Nat) (W : List Nat) (c : Nat × Nat) (hc : c = cA ∨ c = cB) : SndAll (d, TYg, c, W) cdX7_parties (adX7_parties (d, TYg, c, W)) := by
  unfold cdX7_parties adX7_parties
  refine sn_op (sIc (n := 0) (by decide)) ?_
  refine sn_op sIs ?_
  refine sn_st ?_
  refine sn_op sIl ?_
  refine sn_op sAl ?_
  refine sn_op sGetI ?_
  refine sn_op sCmGe ?_
  refine sn_op sAl ?_
  refine sn_op sGetR ?_
  refine sn_op sIl ?_
  refine sn_op sIl ?_
  refine sn_op sIast ?_
  refine sn_op (sInc (n := 1) (by decide)) ?_
  refine sn_op sGoto ?_
  refine sn_op (sIc (n := 0) (by decide)) ?_
  refine sn_op sIs ?_
  refine sn_st ?_
  refine sn_op sIl ?_
  refine sn_op sAl ?_
  refine sn_op sGetI ?_
  refine sn_op sCmGe ?_
  refine sn_op (sIc (n := 0) (by decide)) ?_
  refine sn_op sIs ?_
  refine sn_st ?_
  refine sn_op sIl ?_
  refine sn_op sAl ?_
  refine sn_op sGetI ?_
  refine sn_op sCmGe ?_
  refine sn_op (sIc (n := 0) (by decide)) ?_
  refine sn_op sIs ?_
  refine sn_st ?_
  refine sn_op sIl ?_
  refine sn_op sAl ?_
  refine sn_op sGetI ?_
  refine sn_op sCmGe ?_
  refine sn_op sAl ?_
  refine sn_op sGetR ?_
  refine sn_op sIl ?_
  refine sn_op sIald ?_
  refine sn_op sIfEq ?_
  refine sn_op sAl ?_
  refine sn_op sGetR ?_
  refine sn_op sIl ?_
  refine sn_op sIald ?_
  refine sn_op sAl ?_
  refine sn_op sGetR ?_
  refine sn_op sIl ?_
  refine sn_op sIald ?_
  refine sn_op sCmEq ?_
  refine sn_op sAl ?_
  refine sn_op sGetR ?_
  refine sn_op sIl ?_
  refine sn_op sIald ?_
  refine sn_op sIfEq ?_
  refine sn_op sAl ?_
  refine sn_op sGetR ?_
  refine sn_op sIl ?_
  refine sn_op sIald ?_
  refine sn_op sAl ?_
  refine sn_op sGetR ?_
  refine sn_op sIl ?_
  refine sn_op sIald ?_
  refine sn_op sCmNe ?_
  refine sn_op sAl ?_
  refine sn_op sGetR ?_
  refine sn_op sIl ?_
  refine sn_op sAl ?_
  refine sn_op sGetR ?_
  refine sn_op sIl ?_
  refine sn_op sIald ?_
  refine sn_op sAl ?_
  refine sn_op sGetR ?_
  refine sn_op sIl ?_
  refine sn_op sIald ?_
  refine sn_op sMin ?_
  refine sn_op sIast ?_
  refine sn_op (sInc (n := 1) (by decide)) ?_
  refine sn_op sGoto ?_
  refine sn_op (sInc (n := 1) (by decide)) ?_
  refine sn_op sGoto ?_
  refine sn_op (sInc (n := 1) (by decide)) ?_
  refine sn_op sGoto ?_
  refine sn_op sVret ?_
  exact sn_nil
def csX7_parties : List AC := [([(2, 1175, 0)], 1, [((9, 0, 0), [], [])], [50632], [])]
set_option maxRecDepth 100000 in
set_option maxHeartbeats 4000000 in
theorem sfX7_parties (c : Nat × Nat) (hc : c = cA ∨ c = cB) : ∀ ac ∈ csX7_parties, SafeC TYg c mX7_parties ac := by
  intro ac hac
  simp only [csX7_parties, List.mem_cons, List.not_mem_nil, or_false] at hac
  rcases hac with rfl
  · rcases hc with rfl | rfl
    · exact safe_of (ann := [(2, [(2, 1175, 0), (0, 0, 12), (4, 0, 0), (4, 0, 0)], [(3, 0, 0, 2), (0, 1, 0, 4294967296)]), (25, [(2, 1175, 0), (0, 0, 12), (4, 0, 0), (4, 0, 0)], [(3, 0, 0, 1), (0, 1, 0, 4294967296), (3, 0, 0, 2)]), (35, [(2, 1175, 0), (0, 0, 11), (0, 0, 12), (4, 0, 0)], [(3, 0, 0, 1), (0, 1, 0, 4294967296), (3, 0, 0, 1), (0, 2, 0, 4294967296), (3, 0, 0, 2)]), (45, [(2, 1175, 0), (0, 0, 11), (0, 0, 11), (0, 0, 12)], [(3, 0, 0, 1), (0, 1, 0, 4294967296), (3, 0, 0, 1), (0, 2, 0, 4294967296), (3, 0, 0, 1), (0, 3, 0, 4294967296)])]) (fuel := 600) okX7_parties (snX7_parties _ _ cA (Or.inl rfl)) (List.forall_mem_cons.mpr ⟨⟨_, _, rfl⟩, List.forall_mem_cons.mpr ⟨⟨_, _, rfl⟩, List.forall_mem_cons.mpr ⟨⟨_, _, rfl⟩, List.forall_mem_cons.mpr ⟨⟨_, _, rfl⟩, (fun q hq => by cases hq)⟩⟩⟩⟩) (by decide) (by decide +kernel)
    · exact safe_of (ann := [(2, [(2, 1175, 0), (0, 0, 12), (4, 0, 0), (4, 0, 0)], [(3, 0, 0, 2), (0, 1, 0, 4294967296)]), (25, [(2, 1175, 0), (0, 0, 12), (4, 0, 0), (4, 0, 0)], [(3, 0, 0, 1), (0, 1, 0, 4294967296), (3, 0, 0, 2)]), (35, [(2, 1175, 0), (0, 0, 11), (0, 0, 12), (4, 0, 0)], [(3, 0, 0, 1), (0, 1, 0, 4294967296), (3, 0, 0, 1), (0, 2, 0, 4294967296), (3, 0, 0, 2)]), (45, [(2, 1175, 0), (0, 0, 11), (0, 0, 11), (0, 0, 12)], [(3, 0, 0, 1), (0, 1, 0, 4294967296), (3, 0, 0, 1), (0, 2, 0, 4294967296), (3, 0, 0, 1), (0, 3, 0, 4294967296)])]) (fuel := 600) okX7_parties (snX7_parties _ _ cB (Or.inr rfl)) (List.forall_mem_cons.mpr ⟨⟨_, _, rfl⟩, List.forall_mem_cons.mpr ⟨⟨_, _, rfl⟩, List.forall_mem_cons.mpr ⟨⟨_, _, rfl⟩, List.forall_mem_cons.mpr ⟨⟨_, _, rfl⟩, (fun q hq => by cases hq)⟩⟩⟩⟩) (by decide) (by decide +kernel)
set_option maxRecDepth 100000 in
def adX7_firm (D : KK) : List ACE := (0, 1, some (aAl 0)) :: (1, 1, some (aIc (0))) :: (2, 3, some (aPutI D 7 0)) :: (5, 1, some (aAl 0)) :: (6, 1, some (aIl 1)) :: (7, 3, some (aCall D 7 2 2 csX7_isFirm)) :: (10, 3, some (aIf bEq bNe 23)) :: (13, 1, some (aIl 2)) :: (14, 3, some (aIf bLt (fun C x y => bLe C y x) 23)) :: (17, 1, some (aIl 2)) :: (18, 2, some (aIc (7))) :: (20, 3, some (aCm bLe (fun C x y => bLt C y x) 27)) :: (23, 3, some (aIc (-2147483648))) :: (26, 1, some (aIret)) :: (27, 1, some (aAl 0)) :: (28, 3, some (aCall D 7 1 4 csX7_parties)) :: (31, 1, some (aIl 2)) :: (32, 44, some (aSw [(0, 76), (1, 83), (2, 90), (3, 97), (4, 104), (5, 114), (6, 124)] 142)) :: (76, 1, some (aAl 0)) :: (77, 3, some (aGetR [(1175, 99576)])) :: (80, 1, some (aIl 1)) :: (81, 1, some (aIald D)) :: (82, 1, some (aIret)) :: (83, 1, some (aAl 0)) :: (84, 3, some (aGetR [(1175, 99592)])) :: (87, 1, some (aIl 1)) :: (88, 1, some (aIald D)) :: (89, 1, some (aIret)) :: (90, 1, some (aAl 0)) :: (91, 3, some (aGetR [(1175, 99608)])) :: (94, 1, some (aIl 1)) :: (95, 1, some (aIald D)) :: (96, 1, some (aIret)) :: (97, 1, some (aAl 0)) :: (98, 3, some (aGetR [(1175, 99624)])) :: (101, 1, some (aIl 1)) :: (102, 1, some (aIald D)) :: (103, 1, some (aIret)) :: (104, 1, some (aAl 0)) :: (105, 1, some (aIl 1)) :: (106, 1, some (aAl 0)) :: (107, 3, some (aGetI D 7 40)) :: (110, 3, some (aCall D 7 3 5 csX7_owes)) :: (113, 1, some (aIret)) :: (114, 2, some (aIc (100))) :: (116, 1, some (aAl 0)) :: (117, 3, some (aGetR [(1175, 99640)])) :: (120, 1, some (aIl 1)) :: (121, 1, some (aIald D)) :: (122, 1, some (aBin fMul)) :: (123, 1, some (aIret)) :: (124, 1, some (aAl 0)) :: (125, 1, some (aIl 1)) :: (126, 1, some (aAl 0)) :: (127, 3, some (aGetI D 7 40)) :: (130, 3, some (aCall D 7 3 3 csX7_isMissing)) :: (133, 3, some (aIf bEq bNe 140)) :: (136, 1, some (aIc (1))) :: (137, 3, some (aGoto 141)) :: (140, 1, some (aIc (0))) :: (141, 1, some (aIret)) :: (142, 1, some (aAl 0)) :: (143, 3, some (aGetR [(1175, 50632)])) :: (146, 1, some (aIl 1)) :: (147, 1, some (aIald D)) :: (148, 1, some (aIret)) :: []
set_option maxRecDepth 100000 in
set_option maxHeartbeats 4000000 in
theorem snX7_firm (d : Nat) (W : List Nat) (c : Nat × Nat) (hc : c = cA ∨ c = cB) : SndAll (d, TYg, c, W) cdX7_firm (adX7_firm (d, TYg, c, W)) := by
  unfold cdX7_firm adX7_firm
  refine sn_op sAl ?_
  refine sn_op (sIc (n := 0) (by decide)) ?_
  refine sn_op sPutI ?_
  refine sn_op sAl ?_
  refine sn_op sIl ?_
  refine sn_op (sCI (sfX7_isFirm c hc) (by decide) (by decide +kernel)) ?_
  refine sn_op sIfEq ?_
  refine sn_op sIl ?_
  refine sn_op sIfLt ?_
  refine sn_op sIl ?_
  refine sn_op (sIc (n := 7) (by decide)) ?_
  refine sn_op sCmLe ?_
  refine sn_op (sIc (n := -2147483648) (by decide)) ?_
  refine sn_op sIret ?_
  refine sn_op sAl ?_
  refine sn_op (sCV (sfX7_parties c hc) (by decide) (by decide +kernel)) ?_
  refine sn_op sIl ?_
  refine sn_op (sSw (by decide)) ?_
  refine sn_op sAl ?_
  refine sn_op sGetR ?_
  refine sn_op sIl ?_
  refine sn_op sIald ?_
  refine sn_op sIret ?_
  refine sn_op sAl ?_
  refine sn_op sGetR ?_
  refine sn_op sIl ?_
  refine sn_op sIald ?_
  refine sn_op sIret ?_
  refine sn_op sAl ?_
  refine sn_op sGetR ?_
  refine sn_op sIl ?_
  refine sn_op sIald ?_
  refine sn_op sIret ?_
  refine sn_op sAl ?_
  refine sn_op sGetR ?_
  refine sn_op sIl ?_
  refine sn_op sIald ?_
  refine sn_op sIret ?_
  refine sn_op sAl ?_
  refine sn_op sIl ?_
  refine sn_op sAl ?_
  refine sn_op sGetI ?_
  refine sn_op (sCI (sfX7_owes c hc) (by decide) (by decide +kernel)) ?_
  refine sn_op sIret ?_
  refine sn_op (sIc (n := 100) (by decide)) ?_
  refine sn_op sAl ?_
  refine sn_op sGetR ?_
  refine sn_op sIl ?_
  refine sn_op sIald ?_
  refine sn_op sImul ?_
  refine sn_op sIret ?_
  refine sn_op sAl ?_
  refine sn_op sIl ?_
  refine sn_op sAl ?_
  refine sn_op sGetI ?_
  refine sn_op (sCI (sfX7_isMissing c hc) (by decide) (by decide +kernel)) ?_
  refine sn_op sIfEq ?_
  refine sn_op (sIc (n := 1) (by decide)) ?_
  refine sn_op sGoto ?_
  refine sn_op (sIc (n := 0) (by decide)) ?_
  refine sn_op sIret ?_
  refine sn_op sAl ?_
  refine sn_op sGetR ?_
  refine sn_op sIl ?_
  refine sn_op sIald ?_
  refine sn_op sIret ?_
  exact sn_nil
def csX7_firm : List AC := [([(2, 1175, 0), (0, -2147483648, 2147483647), (0, -2147483648, 2147483647)], 5, [((0, -2147483648, 2147483647), [((1175, 0), (0, 0)), ((1175, 5), (1, 12))], [(1, (0, 11)), (2, (1, 7))]), ((0, -2147483648, -2147483648), [((1175, 0), (0, 0))], []), ((0, 0, 4), [((1175, 0), (0, 0)), ((1175, 5), (1, 12))], [(1, (0, 11)), (2, (0, 6))])], [50632, 4294968471], [])]
set_option maxRecDepth 100000 in
set_option maxHeartbeats 4000000 in
theorem sfX7_firm (c : Nat × Nat) (hc : c = cA ∨ c = cB) : ∀ ac ∈ csX7_firm, SafeC TYg c mX7_firm ac := by
  intro ac hac
  simp only [csX7_firm, List.mem_cons, List.not_mem_nil, or_false] at hac
  rcases hac with rfl
  · rcases hc with rfl | rfl
    · exact safe_of (ann := []) (fuel := 600) okX7_firm (snX7_firm _ _ cA (Or.inl rfl)) (fun q hq => by cases hq) (by decide) (by decide +kernel)
    · exact safe_of (ann := []) (fuel := 600) okX7_firm (snX7_firm _ _ cB (Or.inr rfl)) (fun q hq => by cases hq) (by decide) (by decide +kernel)
set_option maxRecDepth 100000 in
def adX7_found (D : KK) : List ACE := (0, 1, some (aIc (0))) :: (1, 2, some (aIs 4)) :: (3, 0, none) :: (3, 2, some (aIl 4)) :: (5, 1, some (aIl 2)) :: (6, 3, some (aCm (fun C x y => bLe C y x) bLt 28)) :: (9, 1, some (aAl 0)) :: (10, 1, some (aIl 1)) :: (11, 2, some (aIl 4)) :: (13, 1, some (aBin fAdd)) :: (14, 1, some (aIald D)) :: (15, 1, some (aIl 3)) :: (16, 3, some (aCm bNe bEq 22)) :: (19, 2, some (aIl 4)) :: (21, 1, some (aIret)) :: (22, 3, some (aInc 4 (1))) :: (25, 3, some (aGoto 3)) :: (28, 1, some (aIc (-1))) :: (29, 1, some (aIret)) :: []
set_option maxRecDepth 100000 in
set_option maxHeartbeats 4000000 in
theorem snX7_found (d : Nat) (W : List Nat) (c : Nat × Nat) (hc : c = cA ∨ c = cB) : SndAll (d, TYg, c, W) cdX7_found (adX7_found (d, TYg, c, W)) := by
  unfold cdX7_found adX7_found
  refine sn_op (sIc (n := 0) (by decide)) ?_
  refine sn_op sIs ?_
  refine sn_st ?_
  refine sn_op sIl ?_
  refine sn_op sIl ?_
  refine sn_op sCmGe ?_
  refine sn_op sAl ?_
  refine sn_op sIl ?_
  refine sn_op sIl ?_
  refine sn_op sIadd ?_
  refine sn_op sIald ?_
  refine sn_op sIl ?_
  refine sn_op sCmNe ?_
  refine sn_op sIl ?_
  refine sn_op sIret ?_
  refine sn_op (sInc (n := 1) (by decide)) ?_
  refine sn_op sGoto ?_
  refine sn_op (sIc (n := -1) (by decide)) ?_
  refine sn_op sIret ?_
  exact sn_nil
def csX7_found : List AC := [([(2, 34008, 0), (0, 4, 4), (0, 0, 3), (0, -2147483648, 2147483647)], 1, [((0, -1, -1), [], []), ((0, 0, 2), [], [])], [], []), ([(2, 34008, 0), (0, 0, 0), (0, 0, 4), (0, -2147483648, 2147483647)], 1, [((0, -1, -1), [], []), ((0, 0, 3), [], [])], [], []), ([(2, 42168, 0), (0, 5, 5), (0, 0, 4), (0, -2147483648, 2147483647)], 1, [((0, -1, -1), [], []), ((0, 0, 3), [], [])], [], []), ([(2, 42168, 0), (0, 0, 0), (0, 0, 5), (0, -2147483648, 2147483647)], 1, [((0, -1, -1), [], []), ((0, 0, 4), [], [])], [], []), ([(2, 99560, 0), (0, 12, 12), (0, 0, 11), (0, -2147483648, 2147483647)], 1, [((0, -1, -1), [], []), ((0, 0, 10), [], [])], [], []), ([(2, 99560, 0), (0, 0, 0), (0, 0, 12), (0, -2147483648, 2147483647)], 1, [((0, -1, -1), [], []), ((0, 0, 11), [], [])], [], [])]
set_option maxRecDepth 100000 in
set_option maxHeartbeats 4000000 in
theorem sfX7_found (c : Nat × Nat) (hc : c = cA ∨ c = cB) : ∀ ac ∈ csX7_found, SafeC TYg c mX7_found ac := by
  intro ac hac
  simp only [csX7_found, List.mem_cons, List.not_mem_nil, or_false] at hac
  rcases hac with rfl | rfl | rfl | rfl | rfl | rfl
  · rcases hc with rfl | rfl
    · exact safe_of (ann := [(3, [(2, 34008, 0), (0, 4, 4), (0, 0, 3), (0, -2147483648, 2147483647), (0, 0, 3)], [(0, 4, 0, 4294967296)])]) (fuel := 600) okX7_found (snX7_found _ _ cA (Or.inl rfl)) (List.forall_mem_cons.mpr ⟨⟨_, _, rfl⟩, (fun q hq => by cases hq)⟩) (by decide) (by decide +kernel)
    · exact safe_of (ann := [(3, [(2, 34008, 0), (0, 4, 4), (0, 0, 3), (0, -2147483648, 2147483647), (0, 0, 3)], [(0, 4, 0, 4294967296)])]) (fuel := 600) okX7_found (snX7_found _ _ cB (Or.inr rfl)) (List.forall_mem_cons.mpr ⟨⟨_, _, rfl⟩, (fun q hq => by cases hq)⟩) (by decide) (by decide +kernel)
  · rcases hc with rfl | rfl
    · exact safe_of (ann := [(3, [(2, 34008, 0), (0, 0, 0), (0, 0, 4), (0, -2147483648, 2147483647), (0, 0, 4)], [(0, 4, 0, 4294967296)])]) (fuel := 600) okX7_found (snX7_found _ _ cA (Or.inl rfl)) (List.forall_mem_cons.mpr ⟨⟨_, _, rfl⟩, (fun q hq => by cases hq)⟩) (by decide) (by decide +kernel)
    · exact safe_of (ann := [(3, [(2, 34008, 0), (0, 0, 0), (0, 0, 4), (0, -2147483648, 2147483647), (0, 0, 4)], [(0, 4, 0, 4294967296)])]) (fuel := 600) okX7_found (snX7_found _ _ cB (Or.inr rfl)) (List.forall_mem_cons.mpr ⟨⟨_, _, rfl⟩, (fun q hq => by cases hq)⟩) (by decide) (by decide +kernel)
  · rcases hc with rfl | rfl
    · exact safe_of (ann := [(3, [(2, 42168, 0), (0, 5, 5), (0, 0, 4), (0, -2147483648, 2147483647), (0, 0, 4)], [(0, 4, 0, 4294967296)])]) (fuel := 600) okX7_found (snX7_found _ _ cA (Or.inl rfl)) (List.forall_mem_cons.mpr ⟨⟨_, _, rfl⟩, (fun q hq => by cases hq)⟩) (by decide) (by decide +kernel)
    · exact safe_of (ann := [(3, [(2, 42168, 0), (0, 5, 5), (0, 0, 4), (0, -2147483648, 2147483647), (0, 0, 4)], [(0, 4, 0, 4294967296)])]) (fuel := 600) okX7_found (snX7_found _ _ cB (Or.inr rfl)) (List.forall_mem_cons.mpr ⟨⟨_, _, rfl⟩, (fun q hq => by cases hq)⟩) (by decide) (by decide +kernel)
  · rcases hc with rfl | rfl
    · exact safe_of (ann := [(3, [(2, 42168, 0), (0, 0, 0), (0, 0, 5), (0, -2147483648, 2147483647), (0, 0, 5)], [(0, 4, 0, 4294967296)])]) (fuel := 600) okX7_found (snX7_found _ _ cA (Or.inl rfl)) (List.forall_mem_cons.mpr ⟨⟨_, _, rfl⟩, (fun q hq => by cases hq)⟩) (by decide) (by decide +kernel)
    · exact safe_of (ann := [(3, [(2, 42168, 0), (0, 0, 0), (0, 0, 5), (0, -2147483648, 2147483647), (0, 0, 5)], [(0, 4, 0, 4294967296)])]) (fuel := 600) okX7_found (snX7_found _ _ cB (Or.inr rfl)) (List.forall_mem_cons.mpr ⟨⟨_, _, rfl⟩, (fun q hq => by cases hq)⟩) (by decide) (by decide +kernel)
  · rcases hc with rfl | rfl
    · exact safe_of (ann := [(3, [(2, 99560, 0), (0, 12, 12), (0, 0, 11), (0, -2147483648, 2147483647), (0, 0, 11)], [(0, 4, 0, 4294967296)])]) (fuel := 600) okX7_found (snX7_found _ _ cA (Or.inl rfl)) (List.forall_mem_cons.mpr ⟨⟨_, _, rfl⟩, (fun q hq => by cases hq)⟩) (by decide) (by decide +kernel)
    · exact safe_of (ann := [(3, [(2, 99560, 0), (0, 12, 12), (0, 0, 11), (0, -2147483648, 2147483647), (0, 0, 11)], [(0, 4, 0, 4294967296)])]) (fuel := 600) okX7_found (snX7_found _ _ cB (Or.inr rfl)) (List.forall_mem_cons.mpr ⟨⟨_, _, rfl⟩, (fun q hq => by cases hq)⟩) (by decide) (by decide +kernel)
  · rcases hc with rfl | rfl
    · exact safe_of (ann := [(3, [(2, 99560, 0), (0, 0, 0), (0, 0, 12), (0, -2147483648, 2147483647), (0, 0, 12)], [(0, 4, 0, 4294967296)])]) (fuel := 600) okX7_found (snX7_found _ _ cA (Or.inl rfl)) (List.forall_mem_cons.mpr ⟨⟨_, _, rfl⟩, (fun q hq => by cases hq)⟩) (by decide) (by decide +kernel)
    · exact safe_of (ann := [(3, [(2, 99560, 0), (0, 0, 0), (0, 0, 12), (0, -2147483648, 2147483647), (0, 0, 12)], [(0, 4, 0, 4294967296)])]) (fuel := 600) okX7_found (snX7_found _ _ cB (Or.inr rfl)) (List.forall_mem_cons.mpr ⟨⟨_, _, rfl⟩, (fun q hq => by cases hq)⟩) (by decide) (by decide +kernel)
set_option maxRecDepth 100000 in
def adX7_hands (D : KK) : List ACE := (0, 1, some (aAl 0)) :: (1, 1, some (aIc (0))) :: (2, 3, some (aPutI D 7 0)) :: (5, 1, some (aAl 0)) :: (6, 3, some (aCall D 7 1 4 csX7_parties)) :: (9, 1, some (aIc (0))) :: (10, 1, some (aIs 1)) :: (11, 1, some (aIc (0))) :: (12, 1, some (aIs 2)) :: (13, 0, none) :: (13, 1, some (aIl 2)) :: (14, 1, some (aAl 0)) :: (15, 3, some (aGetI D 7 5)) :: (18, 3, some (aCm (fun C x y => bLe C y x) bLt 45)) :: (21, 1, some (aIl 1)) :: (22, 1, some (aAl 0)) :: (23, 3, some (aGetR [(1175, 50632)])) :: (26, 1, some (aIl 2)) :: (27, 1, some (aIald D)) :: (28, 1, some (aIl 2)) :: (29, 3, some (aCm bNe bEq 36)) :: (32, 1, some (aIc (1))) :: (33, 3, some (aGoto 37)) :: (36, 1, some (aIc (0))) :: (37, 1, some (aBin fAdd)) :: (38, 1, some (aIs 1)) :: (39, 3, some (aInc 2 (1))) :: (42, 3, some (aGoto 13)) :: (45, 1, some (aIl 1)) :: (46, 1, some (aIret)) :: []
set_option maxRecDepth 100000 in
set_option maxHeartbeats 4000000 in
theorem snX7_hands (d : Nat) (W : List Nat) (c : Nat × Nat) (hc : c = cA ∨ c = cB) : SndAll (d, TYg, c, W) cdX7_hands (adX7_hands (d, TYg, c, W)) := by
  unfold cdX7_hands adX7_hands
  refine sn_op sAl ?_
  refine sn_op (sIc (n := 0) (by decide)) ?_
  refine sn_op sPutI ?_
  refine sn_op sAl ?_
  refine sn_op (sCV (sfX7_parties c hc) (by decide) (by decide +kernel)) ?_
  refine sn_op (sIc (n := 0) (by decide)) ?_
  refine sn_op sIs ?_
  refine sn_op (sIc (n := 0) (by decide)) ?_
  refine sn_op sIs ?_
  refine sn_st ?_
  refine sn_op sIl ?_
  refine sn_op sAl ?_
  refine sn_op sGetI ?_
  refine sn_op sCmGe ?_
  refine sn_op sIl ?_
  refine sn_op sAl ?_
  refine sn_op sGetR ?_
  refine sn_op sIl ?_
  refine sn_op sIald ?_
  refine sn_op sIl ?_
  refine sn_op sCmNe ?_
  refine sn_op (sIc (n := 1) (by decide)) ?_
  refine sn_op sGoto ?_
  refine sn_op (sIc (n := 0) (by decide)) ?_
  refine sn_op sIadd ?_
  refine sn_op sIs ?_
  refine sn_op (sInc (n := 1) (by decide)) ?_
  refine sn_op sGoto ?_
  refine sn_op sIl ?_
  refine sn_op sIret ?_
  exact sn_nil
def csX7_hands : List AC := [([(2, 1175, 0)], 2, [((0, -2147483648, 2147483647), [], [])], [50632, 4294968471], [])]
set_option maxRecDepth 100000 in
set_option maxHeartbeats 4000000 in
theorem sfX7_hands (c : Nat × Nat) (hc : c = cA ∨ c = cB) : ∀ ac ∈ csX7_hands, SafeC TYg c mX7_hands ac := by
  intro ac hac
  simp only [csX7_hands, List.mem_cons, List.not_mem_nil, or_false] at hac
  rcases hac with rfl
  · rcases hc with rfl | rfl
    · exact safe_of (ann := [(13, [(2, 1175, 0), (0, -2147483648, 2147483647), (0, 0, 12)], [(0, 2, 0, 4294967296)])]) (fuel := 600) okX7_hands (snX7_hands _ _ cA (Or.inl rfl)) (List.forall_mem_cons.mpr ⟨⟨_, _, rfl⟩, (fun q hq => by cases hq)⟩) (by decide) (by decide +kernel)
    · exact safe_of (ann := [(13, [(2, 1175, 0), (0, -2147483648, 2147483647), (0, 0, 12)], [(0, 2, 0, 4294967296)])]) (fuel := 600) okX7_hands (snX7_hands _ _ cB (Or.inr rfl)) (List.forall_mem_cons.mpr ⟨⟨_, _, rfl⟩, (fun q hq => by cases hq)⟩) (by decide) (by decide +kernel)
set_option maxRecDepth 100000 in
def adX7_hasMissing (D : KK) : List ACE := (0, 1, some (aIc (0))) :: (1, 1, some (aIs 2)) :: (2, 0, none) :: (2, 1, some (aIl 2)) :: (3, 1, some (aAl 0)) :: (4, 3, some (aGetI D 7 5)) :: (7, 3, some (aCm (fun C x y => bLe C y x) bLt 50)) :: (10, 1, some (aIl 2)) :: (11, 1, some (aIl 1)) :: (12, 3, some (aCm bEq bNe 44)) :: (15, 1, some (aAl 0)) :: (16, 3, some (aGetR [(1175, 50632)])) :: (19, 1, some (aIl 2)) :: (20, 1, some (aIald D)) :: (21, 1, some (aAl 0)) :: (22, 3, some (aGetR [(1175, 50632)])) :: (25, 1, some (aIl 1)) :: (26, 1, some (aIald D)) :: (27, 3, some (aCm bNe bEq 44)) :: (30, 1, some (aAl 0)) :: (31, 1, some (aIl 2)) :: (32, 1, some (aAl 0)) :: (33, 3, some (aGetI D 7 40)) :: (36, 3, some (aCall D 7 3 3 csX7_isMissing)) :: (39, 3, some (aIf bEq bNe 44)) :: (42, 1, some (aIc (1))) :: (43, 1, some (aZret)) :: (44, 3, some (aInc 2 (1))) :: (47, 3, some (aGoto 2)) :: (50, 1, some (aIc (0))) :: (51, 1, some (aZret)) :: []
set_option maxRecDepth 100000 in
set_option maxHeartbeats 4000000 in
theorem snX7_hasMissing (d : Nat) (W : List Nat) (c : Nat × Nat) (hc : c = cA ∨ c = cB) : SndAll (d, TYg, c, W) cdX7_hasMissing (adX7_hasMissing (d, TYg, c, W)) := by
  unfold cdX7_hasMissing adX7_hasMissing
  refine sn_op (sIc (n := 0) (by decide)) ?_
  refine sn_op sIs ?_
  refine sn_st ?_
  refine sn_op sIl ?_
  refine sn_op sAl ?_
  refine sn_op sGetI ?_
  refine sn_op sCmGe ?_
  refine sn_op sIl ?_
  refine sn_op sIl ?_
  refine sn_op sCmEq ?_
  refine sn_op sAl ?_
  refine sn_op sGetR ?_
  refine sn_op sIl ?_
  refine sn_op sIald ?_
  refine sn_op sAl ?_
  refine sn_op sGetR ?_
  refine sn_op sIl ?_
  refine sn_op sIald ?_
  refine sn_op sCmNe ?_
  refine sn_op sAl ?_
  refine sn_op sIl ?_
  refine sn_op sAl ?_
  refine sn_op sGetI ?_
  refine sn_op (sCI (sfX7_isMissing c hc) (by decide) (by decide +kernel)) ?_
  refine sn_op sIfEq ?_
  refine sn_op (sIc (n := 1) (by decide)) ?_
  refine sn_op sZret ?_
  refine sn_op (sInc (n := 1) (by decide)) ?_
  refine sn_op sGoto ?_
  refine sn_op (sIc (n := 0) (by decide)) ?_
  refine sn_op sZret ?_
  exact sn_nil
def csX7_hasMissing : List AC := [([(2, 1175, 0), (0, 0, 0)], 5, [((0, 0, 0), [], []), ((0, 1, 1), [((1175, 5), (1, 12))], [])], [], []), ([(2, 1175, 0), (0, 0, 11)], 5, [((0, 0, 0), [], []), ((0, 1, 1), [((1175, 5), (1, 12))], [])], [], [])]
set_option maxRecDepth 100000 in
set_option maxHeartbeats 4000000 in
theorem sfX7_hasMissing (c : Nat × Nat) (hc : c = cA ∨ c = cB) : ∀ ac ∈ csX7_hasMissing, SafeC TYg c mX7_hasMissing ac := by
  intro ac hac
  simp only [csX7_hasMissing, List.mem_cons, List.not_mem_nil, or_false] at hac
  rcases hac with rfl | rfl
  · rcases hc with rfl | rfl
    · exact safe_of (ann := [(2, [(2, 1175, 0), (0, 0, 0), (0, 0, 12)], [(0, 2, 0, 4294967296)])]) (fuel := 600) okX7_hasMissing (snX7_hasMissing _ _ cA (Or.inl rfl)) (List.forall_mem_cons.mpr ⟨⟨_, _, rfl⟩, (fun q hq => by cases hq)⟩) (by decide) (by decide +kernel)
    · exact safe_of (ann := [(2, [(2, 1175, 0), (0, 0, 0), (0, 0, 12)], [(0, 2, 0, 4294967296)])]) (fuel := 600) okX7_hasMissing (snX7_hasMissing _ _ cB (Or.inr rfl)) (List.forall_mem_cons.mpr ⟨⟨_, _, rfl⟩, (fun q hq => by cases hq)⟩) (by decide) (by decide +kernel)
  · rcases hc with rfl | rfl
    · exact safe_of (ann := [(2, [(2, 1175, 0), (0, 0, 11), (0, 0, 12)], [(0, 2, 0, 4294967296)])]) (fuel := 600) okX7_hasMissing (snX7_hasMissing _ _ cA (Or.inl rfl)) (List.forall_mem_cons.mpr ⟨⟨_, _, rfl⟩, (fun q hq => by cases hq)⟩) (by decide) (by decide +kernel)
    · exact safe_of (ann := [(2, [(2, 1175, 0), (0, 0, 11), (0, 0, 12)], [(0, 2, 0, 4294967296)])]) (fuel := 600) okX7_hasMissing (snX7_hasMissing _ _ cB (Or.inr rfl)) (List.forall_mem_cons.mpr ⟨⟨_, _, rfl⟩, (fun q hq => by cases hq)⟩) (by decide) (by decide +kernel)
set_option maxRecDepth 100000 in
def adX7_here (D : KK) : List ACE := (0, 1, some (aAl 0)) :: (1, 3, some (aGetI D 7 31)) :: (4, 1, some (aAl 0)) :: (5, 3, some (aGetI D 7 30)) :: (8, 3, some (aCm (fun C x y => bLe C y x) bLt 23)) :: (11, 1, some (aAl 0)) :: (12, 3, some (aGetR [(1175, 3277992)])) :: (15, 1, some (aAl 0)) :: (16, 3, some (aGetI D 7 31)) :: (19, 1, some (aIald D)) :: (20, 3, some (aGoto 24)) :: (23, 1, some (aIc (-1))) :: (24, 1, some (aIret)) :: []
set_option maxRecDepth 100000 in
set_option maxHeartbeats 4000000 in
theorem snX7_here (d : Nat) (W : List Nat) (c : Nat × Nat) (hc : c = cA ∨ c = cB) : SndAll (d, TYg, c, W) cdX7_here (adX7_here (d, TYg, c, W)) := by
  unfold cdX7_here adX7_here
  refine sn_op sAl ?_
  refine sn_op sGetI ?_
  refine sn_op sAl ?_
  refine sn_op sGetI ?_
  refine sn_op sCmGe ?_
  refine sn_op sAl ?_
  refine sn_op sGetR ?_
  refine sn_op sAl ?_
  refine sn_op sGetI ?_
  refine sn_op sIald ?_
  refine sn_op sGoto ?_
  refine sn_op (sIc (n := -1) (by decide)) ?_
  refine sn_op sIret ?_
  exact sn_nil
def csX7_here : List AC := [([(2, 1175, 0)], 1, [((0, -1, -1), [], []), ((0, 0, 255), [((1175, 30), (1, 800)), ((1175, 31), (0, 799))], [])], [], [])]
set_option maxRecDepth 100000 in
set_option maxHeartbeats 4000000 in
theorem sfX7_here (c : Nat × Nat) (hc : c = cA ∨ c = cB) : ∀ ac ∈ csX7_here, SafeC TYg c mX7_here ac := by
  intro ac hac
  simp only [csX7_here, List.mem_cons, List.not_mem_nil, or_false] at hac
  rcases hac with rfl
  · rcases hc with rfl | rfl
    · exact safe_of (ann := []) (fuel := 600) okX7_here (snX7_here _ _ cA (Or.inl rfl)) (fun q hq => by cases hq) (by decide) (by decide +kernel)
    · exact safe_of (ann := []) (fuel := 600) okX7_here (snX7_here _ _ cB (Or.inr rfl)) (fun q hq => by cases hq) (by decide) (by decide +kernel)
set_option maxRecDepth 100000 in
def adX7_isDigit (D : KK) : List ACE := (0, 1, some (aIl 0)) :: (1, 2, some (aIc (48))) :: (3, 3, some (aCm bLt (fun C x y => bLe C y x) 16)) :: (6, 1, some (aIl 0)) :: (7, 2, some (aIc (57))) :: (9, 3, some (aCm (fun C x y => bLt C y x) bLe 16)) :: (12, 1, some (aIc (1))) :: (13, 3, some (aGoto 17)) :: (16, 1, some (aIc (0))) :: (17, 1, some (aZret)) :: []
set_option maxRecDepth 100000 in
set_option maxHeartbeats 4000000 in
theorem snX7_isDigit (d : Nat) (W : List Nat) (c : Nat × Nat) (hc : c = cA ∨ c = cB) : SndAll (d, TYg, c, W) cdX7_isDigit (adX7_isDigit (d, TYg, c, W)) := by
  unfold cdX7_isDigit adX7_isDigit
  refine sn_op sIl ?_
  refine sn_op (sIc (n := 48) (by decide)) ?_
  refine sn_op sCmLt ?_
  refine sn_op sIl ?_
  refine sn_op (sIc (n := 57) (by decide)) ?_
  refine sn_op sCmGt ?_
  refine sn_op (sIc (n := 1) (by decide)) ?_
  refine sn_op sGoto ?_
  refine sn_op (sIc (n := 0) (by decide)) ?_
  refine sn_op sZret ?_
  exact sn_nil
def csX7_isDigit : List AC := [([(0, -1, -1)], 1, [((0, 0, 0), [], [])], [], []), ([(0, 0, 255)], 1, [((0, 0, 0), [], []), ((0, 1, 1), [], [(0, (48, 57))])], [], [])]
set_option maxRecDepth 100000 in
set_option maxHeartbeats 4000000 in
theorem sfX7_isDigit (c : Nat × Nat) (hc : c = cA ∨ c = cB) : ∀ ac ∈ csX7_isDigit, SafeC TYg c mX7_isDigit ac := by
  intro ac hac
  simp only [csX7_isDigit, List.mem_cons, List.not_mem_nil, or_false] at hac
  rcases hac with rfl | rfl
  · rcases hc with rfl | rfl
    · exact safe_of (ann := []) (fuel := 600) okX7_isDigit (snX7_isDigit _ _ cA (Or.inl rfl)) (fun q hq => by cases hq) (by decide) (by decide +kernel)
    · exact safe_of (ann := []) (fuel := 600) okX7_isDigit (snX7_isDigit _ _ cB (Or.inr rfl)) (fun q hq => by cases hq) (by decide) (by decide +kernel)
  · rcases hc with rfl | rfl
    · exact safe_of (ann := []) (fuel := 600) okX7_isDigit (snX7_isDigit _ _ cA (Or.inl rfl)) (fun q hq => by cases hq) (by decide) (by decide +kernel)
    · exact safe_of (ann := []) (fuel := 600) okX7_isDigit (snX7_isDigit _ _ cB (Or.inr rfl)) (fun q hq => by cases hq) (by decide) (by decide +kernel)
set_option maxRecDepth 100000 in
def adX7_isSale (D : KK) : List ACE := (0, 1, some (aIl 1)) :: (1, 3, some (aIf bLt (fun C x y => bLe C y x) 16)) :: (4, 1, some (aIl 1)) :: (5, 1, some (aAl 0)) :: (6, 3, some (aGetI D 7 6)) :: (9, 3, some (aCm (fun C x y => bLe C y x) bLt 16)) :: (12, 1, some (aIc (1))) :: (13, 3, some (aGoto 17)) :: (16, 1, some (aIc (0))) :: (17, 1, some (aZret)) :: []
set_option maxRecDepth 100000 in
set_option maxHeartbeats 4000000 in
theorem snX7_isSale (d : Nat) (W : List Nat) (c : Nat × Nat) (hc : c = cA ∨ c = cB) : SndAll (d, TYg, c, W) cdX7_isSale (adX7_isSale (d, TYg, c, W)) := by
  unfold cdX7_isSale adX7_isSale
  refine sn_op sIl ?_
  refine sn_op sIfLt ?_
  refine sn_op sIl ?_
  refine sn_op sAl ?_
  refine sn_op sGetI ?_
  refine sn_op sCmGe ?_
  refine sn_op (sIc (n := 1) (by decide)) ?_
  refine sn_op sGoto ?_
  refine sn_op (sIc (n := 0) (by decide)) ?_
  refine sn_op sZret ?_
  exact sn_nil
def csX7_isSale : List AC := [([(2, 1175, 0), (0, -2147483648, 2147483647)], 1, [((0, 0, 0), [], []), ((0, 1, 1), [((1175, 6), (1, 40))], [(1, (0, 39))])], [], [])]
set_option maxRecDepth 100000 in
set_option maxHeartbeats 4000000 in
theorem sfX7_isSale (c : Nat × Nat) (hc : c = cA ∨ c = cB) : ∀ ac ∈ csX7_isSale, SafeC TYg c mX7_isSale ac := by
  intro ac hac
  simp only [csX7_isSale, List.mem_cons, List.not_mem_nil, or_false] at hac
  rcases hac with rfl
  · rcases hc with rfl | rfl
    · exact safe_of (ann := []) (fuel := 600) okX7_isSale (snX7_isSale _ _ cA (Or.inl rfl)) (fun q hq => by cases hq) (by decide) (by decide +kernel)
    · exact safe_of (ann := []) (fuel := 600) okX7_isSale (snX7_isSale _ _ cB (Or.inr rfl)) (fun q hq => by cases hq) (by decide) (by decide +kernel)
set_option maxRecDepth 100000 in
def adX7_isSmall (D : KK) : List ACE := (0, 1, some (aIl 0)) :: (1, 2, some (aIc (97))) :: (3, 3, some (aCm bLt (fun C x y => bLe C y x) 16)) :: (6, 1, some (aIl 0)) :: (7, 2, some (aIc (122))) :: (9, 3, some (aCm (fun C x y => bLt C y x) bLe 16)) :: (12, 1, some (aIc (1))) :: (13, 3, some (aGoto 17)) :: (16, 1, some (aIc (0))) :: (17, 1, some (aZret)) :: []
set_option maxRecDepth 100000 in
set_option maxHeartbeats 4000000 in
theorem snX7_isSmall (d : Nat) (W : List Nat) (c : Nat × Nat) (hc : c = cA ∨ c = cB) : SndAll (d, TYg, c, W) cdX7_isSmall (adX7_isSmall (d, TYg, c, W)) := by
  unfold cdX7_isSmall adX7_isSmall
  refine sn_op sIl ?_
  refine sn_op (sIc (n := 97) (by decide)) ?_
  refine sn_op sCmLt ?_
  refine sn_op sIl ?_
  refine sn_op (sIc (n := 122) (by decide)) ?_
  refine sn_op sCmGt ?_
  refine sn_op (sIc (n := 1) (by decide)) ?_
  refine sn_op sGoto ?_
  refine sn_op (sIc (n := 0) (by decide)) ?_
  refine sn_op sZret ?_
  exact sn_nil
def csX7_isSmall : List AC := [([(0, -1, -1)], 1, [((0, 0, 0), [], [])], [], []), ([(0, 0, 255)], 1, [((0, 0, 0), [], []), ((0, 1, 1), [], [(0, (97, 122))])], [], [])]
set_option maxRecDepth 100000 in
set_option maxHeartbeats 4000000 in
theorem sfX7_isSmall (c : Nat × Nat) (hc : c = cA ∨ c = cB) : ∀ ac ∈ csX7_isSmall, SafeC TYg c mX7_isSmall ac := by
  intro ac hac
  simp only [csX7_isSmall, List.mem_cons, List.not_mem_nil, or_false] at hac
  rcases hac with rfl | rfl
  · rcases hc with rfl | rfl
    · exact safe_of (ann := []) (fuel := 600) okX7_isSmall (snX7_isSmall _ _ cA (Or.inl rfl)) (fun q hq => by cases hq) (by decide) (by decide +kernel)
    · exact safe_of (ann := []) (fuel := 600) okX7_isSmall (snX7_isSmall _ _ cB (Or.inr rfl)) (fun q hq => by cases hq) (by decide) (by decide +kernel)
  · rcases hc with rfl | rfl
    · exact safe_of (ann := []) (fuel := 600) okX7_isSmall (snX7_isSmall _ _ cA (Or.inl rfl)) (fun q hq => by cases hq) (by decide) (by decide +kernel)
    · exact safe_of (ann := []) (fuel := 600) okX7_isSmall (snX7_isSmall _ _ cB (Or.inr rfl)) (fun q hq => by cases hq) (by decide) (by decide +kernel)
set_option maxRecDepth 100000 in
def adX7_isWord (D : KK) : List ACE := (0, 1, some (aAl 0)) :: (1, 3, some (aGetI D 7 35)) :: (4, 3, some (aIf bNe bEq 26)) :: (7, 1, some (aAl 0)) :: (8, 3, some (aGetI D 7 33)) :: (11, 3, some (aIf bNe bEq 26)) :: (14, 1, some (aAl 0)) :: (15, 3, some (aGetI D 7 34)) :: (18, 1, some (aIl 1)) :: (19, 3, some (aCm bNe bEq 26)) :: (22, 1, some (aIc (1))) :: (23, 3, some (aGoto 27)) :: (26, 1, some (aIc (0))) :: (27, 1, some (aZret)) :: []
set_option maxRecDepth 100000 in
set_option maxHeartbeats 4000000 in
theorem snX7_isWord (d : Nat) (W : List Nat) (c : Nat × Nat) (hc : c = cA ∨ c = cB) : SndAll (d, TYg, c, W) cdX7_isWord (adX7_isWord (d, TYg, c, W)) := by
  unfold cdX7_isWord adX7_isWord
  refine sn_op sAl ?_
  refine sn_op sGetI ?_
  refine sn_op sIfNe ?_
  refine sn_op sAl ?_
  refine sn_op sGetI ?_
  refine sn_op sIfNe ?_
  refine sn_op sAl ?_
  refine sn_op sGetI ?_
  refine sn_op sIl ?_
  refine sn_op sCmNe ?_
  refine sn_op (sIc (n := 1) (by decide)) ?_
  refine sn_op sGoto ?_
  refine sn_op (sIc (n := 0) (by decide)) ?_
  refine sn_op sZret ?_
  exact sn_nil
def csX7_isWord : List AC := [([(2, 1175, 0), (0, 5, 5)], 1, [((0, 0, 0), [], []), ((0, 1, 1), [((1175, 33), (0, 0)), ((1175, 34), (5, 5)), ((1175, 35), (0, 0))], [])], [], []), ([(2, 1175, 0), (0, 7, 7)], 1, [((0, 0, 0), [], []), ((0, 1, 1), [((1175, 33), (0, 0)), ((1175, 34), (7, 7)), ((1175, 35), (0, 0))], [])], [], []), ([(2, 1175, 0), (0, 6, 6)], 1, [((0, 0, 0), [], []), ((0, 1, 1), [((1175, 33), (0, 0)), ((1175, 34), (6, 6)), ((1175, 35), (0, 0))], [])], [], []), ([(2, 1175, 0), (0, 8, 8)], 1, [((0, 0, 0), [], []), ((0, 1, 1), [((1175, 33), (0, 0)), ((1175, 34), (8, 8)), ((1175, 35), (0, 0))], [])], [], [])]
set_option maxRecDepth 100000 in
set_option maxHeartbeats 4000000 in
theorem sfX7_isWord (c : Nat × Nat) (hc : c = cA ∨ c = cB) : ∀ ac ∈ csX7_isWord, SafeC TYg c mX7_isWord ac := by
  intro ac hac
  simp only [csX7_isWord, List.mem_cons, List.not_mem_nil, or_false] at hac
  rcases hac with rfl | rfl | rfl | rfl
  · rcases hc with rfl | rfl
    · exact safe_of (ann := []) (fuel := 600) okX7_isWord (snX7_isWord _ _ cA (Or.inl rfl)) (fun q hq => by cases hq) (by decide) (by decide +kernel)
    · exact safe_of (ann := []) (fuel := 600) okX7_isWord (snX7_isWord _ _ cB (Or.inr rfl)) (fun q hq => by cases hq) (by decide) (by decide +kernel)
  · rcases hc with rfl | rfl
    · exact safe_of (ann := []) (fuel := 600) okX7_isWord (snX7_isWord _ _ cA (Or.inl rfl)) (fun q hq => by cases hq) (by decide) (by decide +kernel)
    · exact safe_of (ann := []) (fuel := 600) okX7_isWord (snX7_isWord _ _ cB (Or.inr rfl)) (fun q hq => by cases hq) (by decide) (by decide +kernel)
  · rcases hc with rfl | rfl
    · exact safe_of (ann := []) (fuel := 600) okX7_isWord (snX7_isWord _ _ cA (Or.inl rfl)) (fun q hq => by cases hq) (by decide) (by decide +kernel)
    · exact safe_of (ann := []) (fuel := 600) okX7_isWord (snX7_isWord _ _ cB (Or.inr rfl)) (fun q hq => by cases hq) (by decide) (by decide +kernel)
  · rcases hc with rfl | rfl
    · exact safe_of (ann := []) (fuel := 600) okX7_isWord (snX7_isWord _ _ cA (Or.inl rfl)) (fun q hq => by cases hq) (by decide) (by decide +kernel)
    · exact safe_of (ann := []) (fuel := 600) okX7_isWord (snX7_isWord _ _ cB (Or.inr rfl)) (fun q hq => by cases hq) (by decide) (by decide +kernel)
set_option maxRecDepth 100000 in
def adX7_roundsWith (D : KK) : List ACE := (0, 1, some (aIc (0))) :: (1, 1, some (aIs 2)) :: (2, 1, some (aIc (0))) :: (3, 1, some (aIs 3)) :: (4, 0, none) :: (4, 1, some (aIl 3)) :: (5, 1, some (aAl 0)) :: (6, 3, some (aGetI D 7 42)) :: (9, 3, some (aCm (fun C x y => bLe C y x) bLt 30)) :: (12, 1, some (aIl 2)) :: (13, 1, some (aAl 0)) :: (14, 1, some (aIl 3)) :: (15, 3, some (aCall D 7 2 4 csX7_firmsOf)) :: (18, 1, some (aIl 1)) :: (19, 1, some (aBin fShr)) :: (20, 1, some (aIc (1))) :: (21, 1, some (aBin fAnd)) :: (22, 1, some (aBin fAdd)) :: (23, 1, some (aIs 2)) :: (24, 3, some (aInc 3 (1))) :: (27, 3, some (aGoto 4)) :: (30, 1, some (aIl 2)) :: (31, 1, some (aIret)) :: []
set_option maxRecDepth 100000 in
set_option maxHeartbeats 4000000 in
theorem snX7_roundsWith (d : Nat) (W : List Nat) (c : Nat × Nat) (hc : c = cA ∨ c = cB) : SndAll (d, TYg, c, W) cdX7_roundsWith (adX7_roundsWith (d, TYg, c, W)) := by
  unfold cdX7_roundsWith adX7_roundsWith
  refine sn_op (sIc (n := 0) (by decide)) ?_
  refine sn_op sIs ?_
  refine sn_op (sIc (n := 0) (by decide)) ?_
  refine sn_op sIs ?_
  refine sn_st ?_
  refine sn_op sIl ?_
  refine sn_op sAl ?_
  refine sn_op sGetI ?_
  refine sn_op sCmGe ?_
  refine sn_op sIl ?_
  refine sn_op sAl ?_
  refine sn_op sIl ?_
  refine sn_op (sCI (sfX7_firmsOf c hc) (by decide) (by decide +kernel)) ?_
  refine sn_op sIl ?_
  refine sn_op sIshr ?_
  refine sn_op (sIc (n := 1) (by decide)) ?_
  refine sn_op sIand ?_
  refine sn_op sIadd ?_
  refine sn_op sIs ?_
  refine sn_op (sInc (n := 1) (by decide)) ?_
  refine sn_op sGoto ?_
  refine sn_op sIl ?_
  refine sn_op sIret ?_
  exact sn_nil
def csX7_roundsWith : List AC := [([(2, 1175, 0), (0, 0, 0)], 2, [((0, -2147483648, 2147483647), [], [])], [], []), ([(2, 1175, 0), (0, 0, 11)], 2, [((0, -2147483648, 2147483647), [], [])], [], [])]
set_option maxRecDepth 100000 in
set_option maxHeartbeats 4000000 in
theorem sfX7_roundsWith (c : Nat × Nat) (hc : c = cA ∨ c = cB) : ∀ ac ∈ csX7_roundsWith, SafeC TYg c mX7_roundsWith ac := by
  intro ac hac
  simp only [csX7_roundsWith, List.mem_cons, List.not_mem_nil, or_false] at hac
  rcases hac with rfl | rfl
  · rcases hc with rfl | rfl
    · exact safe_of (ann := [(4, [(2, 1175, 0), (0, 0, 0), (0, -2147483648, 2147483647), (0, 0, 200)], [(0, 3, 0, 4294967296)])]) (fuel := 600) okX7_roundsWith (snX7_roundsWith _ _ cA (Or.inl rfl)) (List.forall_mem_cons.mpr ⟨⟨_, _, rfl⟩, (fun q hq => by cases hq)⟩) (by decide) (by decide +kernel)
    · exact safe_of (ann := [(4, [(2, 1175, 0), (0, 0, 0), (0, -2147483648, 2147483647), (0, 0, 200)], [(0, 3, 0, 4294967296)])]) (fuel := 600) okX7_roundsWith (snX7_roundsWith _ _ cB (Or.inr rfl)) (List.forall_mem_cons.mpr ⟨⟨_, _, rfl⟩, (fun q hq => by cases hq)⟩) (by decide) (by decide +kernel)
  · rcases hc with rfl | rfl
    · exact safe_of (ann := [(4, [(2, 1175, 0), (0, 0, 11), (0, -2147483648, 2147483647), (0, 0, 200)], [(0, 3, 0, 4294967296)])]) (fuel := 600) okX7_roundsWith (snX7_roundsWith _ _ cA (Or.inl rfl)) (List.forall_mem_cons.mpr ⟨⟨_, _, rfl⟩, (fun q hq => by cases hq)⟩) (by decide) (by decide +kernel)
    · exact safe_of (ann := [(4, [(2, 1175, 0), (0, 0, 11), (0, -2147483648, 2147483647), (0, 0, 200)], [(0, 3, 0, 4294967296)])]) (fuel := 600) okX7_roundsWith (snX7_roundsWith _ _ cB (Or.inr rfl)) (List.forall_mem_cons.mpr ⟨⟨_, _, rfl⟩, (fun q hq => by cases hq)⟩) (by decide) (by decide +kernel)
set_option maxRecDepth 100000 in
def adX7_soldUnder (D : KK) : List ACE := (0, 1, some (aIc (0))) :: (1, 1, some (aIs 2)) :: (2, 0, none) :: (2, 1, some (aIl 2)) :: (3, 1, some (aAl 0)) :: (4, 3, some (aGetI D 7 6)) :: (7, 3, some (aCm (fun C x y => bLe C y x) bLt 99)) :: (10, 1, some (aIc (0))) :: (11, 1, some (aIs 3)) :: (12, 0, none) :: (12, 1, some (aIl 3)) :: (13, 1, some (aAl 0)) :: (14, 3, some (aGetI D 7 6)) :: (17, 3, some (aCm (fun C x y => bLe C y x) bLt 93)) :: (20, 1, some (aAl 0)) :: (21, 3, some (aGetR [(1175, 329048)])) :: (24, 1, some (aIl 2)) :: (25, 1, some (aIald D)) :: (26, 1, some (aIl 1)) :: (27, 3, some (aCm bNe bEq 93)) :: (30, 1, some (aAl 0)) :: (31, 3, some (aGetR [(1175, 329064)])) :: (34, 1, some (aIl 3)) :: (35, 1, some (aIald D)) :: (36, 1, some (aIl 1)) :: (37, 3, some (aCm bNe bEq 87)) :: (40, 1, some (aAl 0)) :: (41, 3, some (aGetR [(1175, 329096)])) :: (44, 1, some (aIl 3)) :: (45, 1, some (aIald D)) :: (46, 1, some (aAl 0)) :: (47, 3, some (aGetR [(1175, 329096)])) :: (50, 1, some (aIl 2)) :: (51, 1, some (aIald D)) :: (52, 3, some (aCm bNe bEq 87)) :: (55, 1, some (aAl 0)) :: (56, 3, some (aGetR [(1175, 329128)])) :: (59, 1, some (aIl 3)) :: (60, 1, some (aIald D)) :: (61, 1, some (aAl 0)) :: (62, 3, some (aGetR [(1175, 329128)])) :: (65, 1, some (aIl 2)) :: (66, 1, some (aIald D)) :: (67, 3, some (aCm (fun C x y => bLt C y x) bLe 87)) :: (70, 1, some (aAl 0)) :: (71, 3, some (aGetR [(1175, 329112)])) :: (74, 1, some (aIl 2)) :: (75, 1, some (aIald D)) :: (76, 1, some (aAl 0)) :: (77, 3, some (aGetR [(1175, 329112)])) :: (80, 1, some (aIl 3)) :: (81, 1, some (aIald D)) :: (82, 3, some (aCm (fun C x y => bLe C y x) bLt 87)) :: (85, 1, some (aIc (1))) :: (86, 1, some (aZret)) :: (87, 3, some (aInc 3 (1))) :: (90, 3, some (aGoto 12)) :: (93, 3, some (aInc 2 (1))) :: (96, 3, some (aGoto 2)) :: (99, 1, some (aIc (0))) :: (100, 1, some (aZret)) :: []
set_option maxRecDepth 100000 in
set_option maxHeartbeats 4000000 in
theorem snX7_soldUnder (d : Nat) (W : List Nat) (c : Nat × Nat) (hc : c = cA ∨ c = cB) : SndAll (d, TYg, c, W) cdX7_soldUnder (adX7_soldUnder (d, TYg, c, W)) := by
  unfold cdX7_soldUnder adX7_soldUnder
  refine sn_op (sIc (n := 0) (by decide)) ?_
  refine sn_op sIs ?_
  refine sn_st ?_
  refine sn_op sIl ?_
  refine sn_op sAl ?_
  refine sn_op sGetI ?_
  refine sn_op sCmGe ?_
  refine sn_op (sIc (n := 0) (by decide)) ?_
  refine sn_op sIs ?_
  refine sn_st ?_
  refine sn_op sIl ?_
  refine sn_op sAl ?_
  refine sn_op sGetI ?_
  refine sn_op sCmGe ?_
  refine sn_op sAl ?_
  refine sn_op sGetR ?_
  refine sn_op sIl ?_
  refine sn_op sIald ?_
  refine sn_op sIl ?_
  refine sn_op sCmNe ?_
  refine sn_op sAl ?_
  refine sn_op sGetR ?_
  refine sn_op sIl ?_
  refine sn_op sIald ?_
  refine sn_op sIl ?_
  refine sn_op sCmNe ?_
  refine sn_op sAl ?_
  refine sn_op sGetR ?_
  refine sn_op sIl ?_
  refine sn_op sIald ?_
  refine sn_op sAl ?_
  refine sn_op sGetR ?_
  refine sn_op sIl ?_
  refine sn_op sIald ?_
  refine sn_op sCmNe ?_
  refine sn_op sAl ?_
  refine sn_op sGetR ?_
  refine sn_op sIl ?_
  refine sn_op sIald ?_
  refine sn_op sAl ?_
  refine sn_op sGetR ?_
  refine sn_op sIl ?_
  refine sn_op sIald ?_
  refine sn_op sCmGt ?_
  refine sn_op sAl ?_
  refine sn_op sGetR ?_
  refine sn_op sIl ?_
  refine sn_op sIald ?_
  refine sn_op sAl ?_
  refine sn_op sGetR ?_
  refine sn_op sIl ?_
  refine sn_op sIald ?_
  refine sn_op sCmGe ?_
  refine sn_op (sIc (n := 1) (by decide)) ?_
  refine sn_op sZret ?_
  refine sn_op (sInc (n := 1) (by decide)) ?_
  refine sn_op sGoto ?_
  refine sn_op (sInc (n := 1) (by decide)) ?_
  refine sn_op sGoto ?_
  refine sn_op (sIc (n := 0) (by decide)) ?_
  refine sn_op sZret ?_
  exact sn_nil
def csX7_soldUnder : List AC := [([(2, 1175, 0), (0, 0, 0)], 1, [((0, 0, 0), [], []), ((0, 1, 1), [((1175, 6), (1, 40))], [])], [], []), ([(2, 1175, 0), (0, 0, 11)], 1, [((0, 0, 0), [], []), ((0, 1, 1), [((1175, 6), (1, 40))], [])], [], [])]
set_option maxRecDepth 100000 in
set_option maxHeartbeats 4000000 in
theorem sfX7_soldUnder (c : Nat × Nat) (hc : c = cA ∨ c = cB) : ∀ ac ∈ csX7_soldUnder, SafeC TYg c mX7_soldUnder ac := by
  intro ac hac
  simp only [csX7_soldUnder, List.mem_cons, List.not_mem_nil, or_false] at hac
  rcases hac with rfl | rfl
  · rcases hc with rfl | rfl
    · exact safe_of (ann := [(2, [(2, 1175, 0), (0, 0, 0), (0, 0, 40), (4, 0, 0)], [(0, 2, 0, 4294967296), (3, 0, 0, 2)]), (12, [(2, 1175, 0), (0, 0, 0), (0, 0, 39), (0, 0, 40)], [(0, 2, 0, 4294967296), (3, 0, 0, 1), (0, 3, 0, 4294967296)])]) (fuel := 600) okX7_soldUnder (snX7_soldUnder _ _ cA (Or.inl rfl)) (List.forall_mem_cons.mpr ⟨⟨_, _, rfl⟩, List.forall_mem_cons.mpr ⟨⟨_, _, rfl⟩, (fun q hq => by cases hq)⟩⟩) (by decide) (by decide +kernel)
    · exact safe_of (ann := [(2, [(2, 1175, 0), (0, 0, 0), (0, 0, 40), (4, 0, 0)], [(0, 2, 0, 4294967296), (3, 0, 0, 2)]), (12, [(2, 1175, 0), (0, 0, 0), (0, 0, 39), (0, 0, 40)], [(0, 2, 0, 4294967296), (3, 0, 0, 1), (0, 3, 0, 4294967296)])]) (fuel := 600) okX7_soldUnder (snX7_soldUnder _ _ cB (Or.inr rfl)) (List.forall_mem_cons.mpr ⟨⟨_, _, rfl⟩, List.forall_mem_cons.mpr ⟨⟨_, _, rfl⟩, (fun q hq => by cases hq)⟩⟩) (by decide) (by decide +kernel)
  · rcases hc with rfl | rfl
    · exact safe_of (ann := [(2, [(2, 1175, 0), (0, 0, 11), (0, 0, 40), (4, 0, 0)], [(0, 2, 0, 4294967296), (3, 0, 0, 2)]), (12, [(2, 1175, 0), (0, 0, 11), (0, 0, 39), (0, 0, 40)], [(0, 2, 0, 4294967296), (3, 0, 0, 1), (0, 3, 0, 4294967296)])]) (fuel := 600) okX7_soldUnder (snX7_soldUnder _ _ cA (Or.inl rfl)) (List.forall_mem_cons.mpr ⟨⟨_, _, rfl⟩, List.forall_mem_cons.mpr ⟨⟨_, _, rfl⟩, (fun q hq => by cases hq)⟩⟩) (by decide) (by decide +kernel)
    · exact safe_of (ann := [(2, [(2, 1175, 0), (0, 0, 11), (0, 0, 40), (4, 0, 0)], [(0, 2, 0, 4294967296), (3, 0, 0, 2)]), (12, [(2, 1175, 0), (0, 0, 11), (0, 0, 39), (0, 0, 40)], [(0, 2, 0, 4294967296), (3, 0, 0, 1), (0, 3, 0, 4294967296)])]) (fuel := 600) okX7_soldUnder (snX7_soldUnder _ _ cB (Or.inr rfl)) (List.forall_mem_cons.mpr ⟨⟨_, _, rfl⟩, List.forall_mem_cons.mpr ⟨⟨_, _, rfl⟩, (fun q hq => by cases hq)⟩⟩) (by decide) (by decide +kernel)
set_option maxRecDepth 100000 in
def adX7_signsOf (D : KK) : List ACE := (0, 1, some (aAl 0)) :: (1, 1, some (aIl 1)) :: (2, 3, some (aCall D 7 2 4 csX7_soldUnder)) :: (5, 3, some (aIf bEq bNe 12)) :: (8, 1, some (aIc (1))) :: (9, 3, some (aGoto 13)) :: (12, 1, some (aIc (0))) :: (13, 1, some (aAl 0)) :: (14, 1, some (aIl 1)) :: (15, 3, some (aCall D 7 2 4 csX7_boughtOfSuch)) :: (18, 3, some (aIf bEq bNe 25)) :: (21, 1, some (aIc (2))) :: (22, 3, some (aGoto 26)) :: (25, 1, some (aIc (0))) :: (26, 1, some (aBin fAdd)) :: (27, 1, some (aAl 0)) :: (28, 1, some (aIl 1)) :: (29, 3, some (aCall D 7 2 4 csX7_roundsWith)) :: (32, 1, some (aIc (1))) :: (33, 3, some (aCm bLe (fun C x y => bLt C y x) 40)) :: (36, 1, some (aIc (4))) :: (37, 3, some (aGoto 41)) :: (40, 1, some (aIc (0))) :: (41, 1, some (aBin fAdd)) :: (42, 1, some (aAl 0)) :: (43, 1, some (aIl 1)) :: (44, 3, some (aCall D 7 2 3 csX7_hasMissing)) :: (47, 3, some (aIf bEq bNe 55)) :: (50, 2, some (aIc (8))) :: (52, 3, some (aGoto 56)) :: (55, 1, some (aIc (0))) :: (56, 1, some (aBin fAdd)) :: (57, 1, some (aIret)) :: []
set_option maxRecDepth 100000 in
set_option maxHeartbeats 4000000 in
theorem snX7_signsOf (d : Nat) (W : List Nat) (c : Nat × Nat) (hc : c = cA ∨ c = cB) : SndAll (d, TYg, c, W) cdX7_signsOf (adX7_signsOf (d, TYg, c, W)) := by
  unfold cdX7_signsOf adX7_signsOf
  refine sn_op sAl ?_
  refine sn_op sIl ?_
  refine sn_op (sCI (sfX7_soldUnder c hc) (by decide) (by decide +kernel)) ?_
  refine sn_op sIfEq ?_
  refine sn_op (sIc (n := 1) (by decide)) ?_
  refine sn_op sGoto ?_
  refine sn_op (sIc (n := 0) (by decide)) ?_
  refine sn_op sAl ?_
  refine sn_op sIl ?_
  refine sn_op (sCI (sfX7_boughtOfSuch c hc) (by decide) (by decide +kernel)) ?_
  refine sn_op sIfEq ?_
  refine sn_op (sIc (n := 2) (by decide)) ?_
  refine sn_op sGoto ?_
  refine sn_op (sIc (n := 0) (by decide)) ?_
  refine sn_op sIadd ?_
  refine sn_op sAl ?_
  refine sn_op sIl ?_
  refine sn_op (sCI (sfX7_roundsWith c hc) (by decide) (by decide +kernel)) ?_
  refine sn_op (sIc (n := 1) (by decide)) ?_
  refine sn_op sCmLe ?_
  refine sn_op (sIc (n := 4) (by decide)) ?_
  refine sn_op sGoto ?_
  refine sn_op (sIc (n := 0) (by decide)) ?_
  refine sn_op sIadd ?_
  refine sn_op sAl ?_
  refine sn_op sIl ?_
  refine sn_op (sCI (sfX7_hasMissing c hc) (by decide) (by decide +kernel)) ?_
  refine sn_op sIfEq ?_
  refine sn_op (sIc (n := 8) (by decide)) ?_
  refine sn_op sGoto ?_
  refine sn_op (sIc (n := 0) (by decide)) ?_
  refine sn_op sIadd ?_
  refine sn_op sIret ?_
  exact sn_nil
def csX7_signsOf : List AC := [([(2, 1175, 0), (0, 0, 0)], 7, [((0, 0, 15), [], [])], [], []), ([(2, 1175, 0), (0, 0, 11)], 7, [((0, 0, 15), [], [])], [], [])]
set_option maxRecDepth 100000 in
set_option maxHeartbeats 4000000 in
theorem sfX7_signsOf (c : Nat × Nat) (hc : c = cA ∨ c = cB) : ∀ ac ∈ csX7_signsOf, SafeC TYg c mX7_signsOf ac := by
  intro ac hac
  simp only [csX7_signsOf, List.mem_cons, List.not_mem_nil, or_false] at hac
  rcases hac with rfl | rfl
  · rcases hc with rfl | rfl
    · exact safe_of (ann := []) (fuel := 600) okX7_signsOf (snX7_signsOf _ _ cA (Or.inl rfl)) (fun q hq => by cases hq) (by decide) (by decide +kernel)
    · exact safe_of (ann := []) (fuel := 600) okX7_signsOf (snX7_signsOf _ _ cB (Or.inr rfl)) (fun q hq => by cases hq) (by decide) (by decide +kernel)
  · rcases hc with rfl | rfl
    · exact safe_of (ann := []) (fuel := 600) okX7_signsOf (snX7_signsOf _ _ cA (Or.inl rfl)) (fun q hq => by cases hq) (by decide) (by decide +kernel)
    · exact safe_of (ann := []) (fuel := 600) okX7_signsOf (snX7_signsOf _ _ cB (Or.inr rfl)) (fun q hq => by cases hq) (by decide) (by decide +kernel)
set_option maxRecDepth 100000 in
def adX7_knew (D : KK) : List ACE := (0, 1, some (aAl 0)) :: (1, 1, some (aIc (0))) :: (2, 3, some (aPutI D 7 0)) :: (5, 1, some (aIl 1)) :: (6, 1, some (aIc (1))) :: (7, 3, some (aCm bLt (fun C x y => bLe C y x) 37)) :: (10, 1, some (aIl 1)) :: (11, 2, some (aIc (15))) :: (13, 3, some (aCm (fun C x y => bLt C y x) bLe 37)) :: (16, 1, some (aIl 2)) :: (17, 1, some (aIl 3)) :: (18, 2, some (aIl 4)) :: (20, 3, some (aCall D 16 3 3 csX7_isAsked)) :: (23, 3, some (aIf bEq bNe 37)) :: (26, 2, some (aIl 5)) :: (28, 3, some (aIf bLt (fun C x y => bLe C y x) 37)) :: (31, 2, some (aIl 5)) :: (33, 1, some (aIc (1))) :: (34, 3, some (aCm bLe (fun C x y => bLt C y x) 39)) :: (37, 1, some (aIc (-1))) :: (38, 1, some (aIret)) :: (39, 1, some (aAl 0)) :: (40, 1, some (aIl 2)) :: (41, 1, some (aIl 3)) :: (42, 2, some (aIl 4)) :: (44, 3, some (aCall D 7 4 5 csX7_seeksNow)) :: (47, 1, some (aAl 0)) :: (48, 3, some (aGetI D 7 47)) :: (51, 3, some (aIf bEq bNe 57)) :: (54, 2, some (aIc (-2))) :: (56, 1, some (aIret)) :: (57, 1, some (aAl 0)) :: (58, 3, some (aCall D 7 1 4 csX7_parties)) :: (61, 1, some (aIc (0))) :: (62, 2, some (aIs 6)) :: (64, 1, some (aIc (0))) :: (65, 2, some (aIs 7)) :: (67, 0, none) :: (67, 2, some (aIl 7)) :: (69, 1, some (aAl 0)) :: (70, 3, some (aGetI D 7 5)) :: (73, 3, some (aCm (fun C x y => bLe C y x) bLt 133)) :: (76, 1, some (aAl 0)) :: (77, 2, some (aIl 7)) :: (79, 3, some (aCall D 7 2 2 csX7_signsOf)) :: (82, 1, some (aIl 1)) :: (83, 1, some (aBin fAnd)) :: (84, 2, some (aIs 8)) :: (86, 1, some (aAl 0)) :: (87, 2, some (aIl 7)) :: (89, 1, some (aAl 0)) :: (90, 3, some (aGetI D 7 40)) :: (93, 3, some (aCall D 7 3 3 csX7_isMissing)) :: (96, 3, some (aIf bNe bEq 127)) :: (99, 2, some (aIl 5)) :: (101, 3, some (aIf bNe bEq 113)) :: (104, 2, some (aIl 8)) :: (106, 1, some (aIl 1)) :: (107, 3, some (aCm bNe bEq 127)) :: (110, 3, some (aGoto 118)) :: (113, 2, some (aIl 8)) :: (115, 3, some (aIf bEq bNe 127)) :: (118, 2, some (aIl 6)) :: (120, 1, some (aIc (1))) :: (121, 2, some (aIl 7)) :: (123, 1, some (aBin fTop)) :: (124, 1, some (aBin fTop)) :: (125, 2, some (aIs 6)) :: (127, 3, some (aInc 7 (1))) :: (130, 3, some (aGoto 67)) :: (133, 2, some (aIl 6)) :: (135, 1, some (aIret)) :: []
set_option maxRecDepth 100000 in
set_option maxHeartbeats 4000000 in
theorem snX7_knew (d : Nat) (W : List Nat) (c : Nat × Nat) (hc : c = cA ∨ c = cB) : SndAll (d, TYg, c, W) cdX7_knew (adX7_knew (d, TYg, c, W)) := by
  unfold cdX7_knew adX7_knew
  refine sn_op sAl ?_
  refine sn_op (sIc (n := 0) (by decide)) ?_
  refine sn_op sPutI ?_
  refine sn_op sIl ?_
  refine sn_op (sIc (n := 1) (by decide)) ?_
  refine sn_op sCmLt ?_
  refine sn_op sIl ?_
  refine sn_op (sIc (n := 15) (by decide)) ?_
  refine sn_op sCmGt ?_
  refine sn_op sIl ?_
  refine sn_op sIl ?_
  refine sn_op sIl ?_
  refine sn_op (sCI (sfX7_isAsked c hc) (by decide) (by decide +kernel)) ?_
  refine sn_op sIfEq ?_
  refine sn_op sIl ?_
  refine sn_op sIfLt ?_
  refine sn_op sIl ?_
  refine sn_op (sIc (n := 1) (by decide)) ?_
  refine sn_op sCmLe ?_
  refine sn_op (sIc (n := -1) (by decide)) ?_
  refine sn_op sIret ?_
  refine sn_op sAl ?_
  refine sn_op sIl ?_
  refine sn_op sIl ?_
  refine sn_op sIl ?_
  refine sn_op (sCV (sfX7_seeksNow c hc) (by decide) (by decide +kernel)) ?_
  refine sn_op sAl ?_
  refine sn_op sGetI ?_
  refine sn_op sIfEq ?_
  refine sn_op (sIc (n := -2) (by decide)) ?_
  refine sn_op sIret ?_
  refine sn_op sAl ?_
  refine sn_op (sCV (sfX7_parties c hc) (by decide) (by decide +kernel)) ?_
  refine sn_op (sIc (n := 0) (by decide)) ?_
  refine sn_op sIs ?_
  refine sn_op (sIc (n := 0) (by decide)) ?_
  refine sn_op sIs ?_
  refine sn_st ?_
  refine sn_op sIl ?_
  refine sn_op sAl ?_
  refine sn_op sGetI ?_
  refine sn_op sCmGe ?_
  refine sn_op sAl ?_
  refine sn_op sIl ?_
  refine sn_op (sCI (sfX7_signsOf c hc) (by decide) (by decide +kernel)) ?_
  refine sn_op sIl ?_
  refine sn_op sIand ?_
  refine sn_op sIs ?_
  refine sn_op sAl ?_
  refine sn_op sIl ?_
  refine sn_op sAl ?_
  refine sn_op sGetI ?_
  refine sn_op (sCI (sfX7_isMissing c hc) (by decide) (by decide +kernel)) ?_
  refine sn_op sIfNe ?_
  refine sn_op sIl ?_
  refine sn_op sIfNe ?_
  refine sn_op sIl ?_
  refine sn_op sIl ?_
  refine sn_op sCmNe ?_
  refine sn_op sGoto ?_
  refine sn_op sIl ?_
  refine sn_op sIfEq ?_
  refine sn_op sIl ?_
  refine sn_op (sIc (n := 1) (by decide)) ?_
  refine sn_op sIl ?_
  refine sn_op sIshl ?_
  refine sn_op sIor ?_
  refine sn_op sIs ?_
  refine sn_op (sInc (n := 1) (by decide)) ?_
  refine sn_op sGoto ?_
  refine sn_op sIl ?_
  refine sn_op sIret ?_
  exact sn_nil
def csX7_knew : List AC := [([(2, 1175, 0), (0, -2147483648, 2147483647), (0, -2147483648, 2147483647), (0, -2147483648, 2147483647), (0, -2147483648, 2147483647), (0, -2147483648, 2147483647)], 10, [((0, -2147483648, 2147483647), [], []), ((0, -2, -1), [((1175, 0), (0, 0))], [])], [26104, 50632, 165384, 820712, 4916696, 4294968471, 184683594903, 206158431383, 210453398679, 214748365975, 219043333271], [])]
set_option maxRecDepth 100000 in
set_option maxHeartbeats 4000000 in
theorem sfX7_knew (c : Nat × Nat) (hc : c = cA ∨ c = cB) : ∀ ac ∈ csX7_knew, SafeC TYg c mX7_knew ac := by
  intro ac hac
  simp only [csX7_knew, List.mem_cons, List.not_mem_nil, or_false] at hac
  rcases hac with rfl
  · rcases hc with rfl | rfl
    · exact safe_of (ann := [(67, [(2, 1175, 0), (0, 1, 15), (0, 0, 1), (0, 2, 6), (0, 0, 400), (0, 0, 1), (0, -2147483648, 2147483647), (0, 0, 12), (4, 0, 0)], [(0, 7, 0, 4294967296)])]) (fuel := 600) okX7_knew (snX7_knew _ _ cA (Or.inl rfl)) (List.forall_mem_cons.mpr ⟨⟨_, _, rfl⟩, (fun q hq => by cases hq)⟩) (by decide) (by decide +kernel)
    · exact safe_of (ann := [(67, [(2, 1175, 0), (0, 1, 15), (0, 0, 1), (0, 2, 6), (0, 0, 400), (0, 0, 1), (0, -2147483648, 2147483647), (0, 0, 12), (4, 0, 0)], [(0, 7, 0, 4294967296)])]) (fuel := 600) okX7_knew (snX7_knew _ _ cB (Or.inr rfl)) (List.forall_mem_cons.mpr ⟨⟨_, _, rfl⟩, (fun q hq => by cases hq)⟩) (by decide) (by decide +kernel)
set_option maxRecDepth 100000 in
def adX7_lacking (D : KK) : List ACE := (0, 1, some (aAl 0)) :: (1, 1, some (aIc (0))) :: (2, 3, some (aPutI D 7 0)) :: (5, 1, some (aIl 1)) :: (6, 1, some (aIc (1))) :: (7, 3, some (aCm bLt (fun C x y => bLe C y x) 16)) :: (10, 1, some (aIl 1)) :: (11, 2, some (aIc (99))) :: (13, 3, some (aCm bLe (fun C x y => bLt C y x) 18)) :: (16, 1, some (aIc (-1))) :: (17, 1, some (aIret)) :: (18, 1, some (aIc (0))) :: (19, 1, some (aIs 2)) :: (20, 1, some (aIc (-1))) :: (21, 1, some (aIs 3)) :: (22, 1, some (aIc (0))) :: (23, 2, some (aIs 4)) :: (25, 0, none) :: (25, 2, some (aIl 4)) :: (27, 3, some (aIc (400))) :: (30, 3, some (aCm (fun C x y => bLt C y x) bLe 115)) :: (33, 1, some (aIc (0))) :: (34, 2, some (aIs 5)) :: (36, 0, none) :: (36, 2, some (aIl 5)) :: (38, 1, some (aAl 0)) :: (39, 3, some (aGetI D 7 6)) :: (42, 3, some (aCm (fun C x y => bLe C y x) bLt 109)) :: (45, 1, some (aAl 0)) :: (46, 3, some (aGetR [(1175, 329128)])) :: (49, 2, some (aIl 5)) :: (51, 1, some (aIald D)) :: (52, 2, some (aIl 4)) :: (54, 3, some (aCm bNe bEq 103)) :: (57, 1, some (aAl 0)) :: (58, 3, some (aGetR [(1175, 329144)])) :: (61, 2, some (aIl 5)) :: (63, 1, some (aIald D)) :: (64, 1, some (aIl 1)) :: (65, 3, some (aCm bEq bNe 71)) :: (68, 3, some (aGoto 103)) :: (71, 1, some (aIl 2)) :: (72, 1, some (aIl 3)) :: (73, 1, some (aIc (-1))) :: (74, 3, some (aCm bEq bNe 97)) :: (77, 1, some (aAl 0)) :: (78, 3, some (aGetR [(1175, 329064)])) :: (81, 1, some (aIl 3)) :: (82, 1, some (aIald D)) :: (83, 1, some (aAl 0)) :: (84, 3, some (aGetR [(1175, 329048)])) :: (87, 2, some (aIl 5)) :: (89, 1, some (aIald D)) :: (90, 3, some (aCm bEq bNe 97)) :: (93, 1, some (aIc (1))) :: (94, 3, some (aGoto 98)) :: (97, 1, some (aIc (0))) :: (98, 1, some (aBin fAdd)) :: (99, 1, some (aIs 2)) :: (100, 2, some (aIl 5)) :: (102, 1, some (aIs 3)) :: (103, 3, some (aInc 5 (1))) :: (106, 3, some (aGoto 36)) :: (109, 3, some (aInc 4 (1))) :: (112, 3, some (aGoto 25)) :: (115, 1, some (aIl 2)) :: (116, 1, some (aIret)) :: []
set_option maxRecDepth 100000 in
set_option maxHeartbeats 4000000 in
theorem snX7_lacking (d : Nat) (W : List Nat) (c : Nat × Nat) (hc : c = cA ∨ c = cB) : SndAll (d, TYg, c, W) cdX7_lacking (adX7_lacking (d, TYg, c, W)) := by
  unfold cdX7_lacking adX7_lacking
  refine sn_op sAl ?_
  refine sn_op (sIc (n := 0) (by decide)) ?_
  refine sn_op sPutI ?_
  refine sn_op sIl ?_
  refine sn_op (sIc (n := 1) (by decide)) ?_
  refine sn_op sCmLt ?_
  refine sn_op sIl ?_
  refine sn_op (sIc (n := 99) (by decide)) ?_
  refine sn_op sCmLe ?_
  refine sn_op (sIc (n := -1) (by decide)) ?_
  refine sn_op sIret ?_
  refine sn_op (sIc (n := 0) (by decide)) ?_
  refine sn_op sIs ?_
  refine sn_op (sIc (n := -1) (by decide)) ?_
  refine sn_op sIs ?_
  refine sn_op (sIc (n := 0) (by decide)) ?_
  refine sn_op sIs ?_
  refine sn_st ?_
  refine sn_op sIl ?_
  refine sn_op (sIc (n := 400) (by decide)) ?_
  refine sn_op sCmGt ?_
  refine sn_op (sIc (n := 0) (by decide)) ?_
  refine sn_op sIs ?_
  refine sn_st ?_
  refine sn_op sIl ?_
  refine sn_op sAl ?_
  refine sn_op sGetI ?_
  refine sn_op sCmGe ?_
  refine sn_op sAl ?_
  refine sn_op sGetR ?_
  refine sn_op sIl ?_
  refine sn_op sIald ?_
  refine sn_op sIl ?_
  refine sn_op sCmNe ?_
  refine sn_op sAl ?_
  refine sn_op sGetR ?_
  refine sn_op sIl ?_
  refine sn_op sIald ?_
  refine sn_op sIl ?_
  refine sn_op sCmEq ?_
  refine sn_op sGoto ?_
  refine sn_op sIl ?_
  refine sn_op sIl ?_
  refine sn_op (sIc (n := -1) (by decide)) ?_
  refine sn_op sCmEq ?_
  refine sn_op sAl ?_
  refine sn_op sGetR ?_
  refine sn_op sIl ?_
  refine sn_op sIald ?_
  refine sn_op sAl ?_
  refine sn_op sGetR ?_
  refine sn_op sIl ?_
  refine sn_op sIald ?_
  refine sn_op sCmEq ?_
  refine sn_op (sIc (n := 1) (by decide)) ?_
  refine sn_op sGoto ?_
  refine sn_op (sIc (n := 0) (by decide)) ?_
  refine sn_op sIadd ?_
  refine sn_op sIs ?_
  refine sn_op sIl ?_
  refine sn_op sIs ?_
  refine sn_op (sInc (n := 1) (by decide)) ?_
  refine sn_op sGoto ?_
  refine sn_op (sInc (n := 1) (by decide)) ?_
  refine sn_op sGoto ?_
  refine sn_op sIl ?_
  refine sn_op sIret ?_
  exact sn_nil
def csX7_lacking : List AC := [([(2, 1175, 0), (0, -2147483648, 2147483647)], 1, [((0, -2147483648, 2147483647), [], []), ((0, -1, -1), [((1175, 0), (0, 0))], [])], [4294968471], [])]
set_option maxRecDepth 100000 in
set_option maxHeartbeats 4000000 in
theorem sfX7_lacking (c : Nat × Nat) (hc : c = cA ∨ c = cB) : ∀ ac ∈ csX7_lacking, SafeC TYg c mX7_lacking ac := by
  intro ac hac
  simp only [csX7_lacking, List.mem_cons, List.not_mem_nil, or_false] at hac
  rcases hac with rfl
  · rcases hc with rfl | rfl
    · exact safe_of (ann := [(25, [(2, 1175, 0), (0, 1, 99), (0, -2147483648, 2147483647), (0, -1, 39), (0, 0, 800), (4, 0, 0)], [(0, 4, 0, 4294967296), (3, 0, 0, 2)]), (36, [(2, 1175, 0), (0, 1, 99), (0, -2147483648, 2147483647), (0, -1, 39), (0, 0, 799), (0, 0, 40)], [(0, 4, 0, 4294967296), (3, 0, 0, 1), (0, 5, 0, 4294967296)])]) (fuel := 600) okX7_lacking (snX7_lacking _ _ cA (Or.inl rfl)) (List.forall_mem_cons.mpr ⟨⟨_, _, rfl⟩, List.forall_mem_cons.mpr ⟨⟨_, _, rfl⟩, (fun q hq => by cases hq)⟩⟩) (by decide) (by decide +kernel)
    · exact safe_of (ann := [(25, [(2, 1175, 0), (0, 1, 99), (0, -2147483648, 2147483647), (0, -1, 39), (0, 0, 800), (4, 0, 0)], [(0, 4, 0, 4294967296), (3, 0, 0, 2)]), (36, [(2, 1175, 0), (0, 1, 99), (0, -2147483648, 2147483647), (0, -1, 39), (0, 0, 799), (0, 0, 40)], [(0, 4, 0, 4294967296), (3, 0, 0, 1), (0, 5, 0, 4294967296)])]) (fuel := 600) okX7_lacking (snX7_lacking _ _ cB (Or.inr rfl)) (List.forall_mem_cons.mpr ⟨⟨_, _, rfl⟩, List.forall_mem_cons.mpr ⟨⟨_, _, rfl⟩, (fun q hq => by cases hq)⟩⟩) (by decide) (by decide +kernel)
set_option maxRecDepth 100000 in
def adX7_lays (D : KK) : List ACE := (0, 1, some (aAl 0)) :: (1, 1, some (aAl 0)) :: (2, 3, some (aGetI D 7 25)) :: (5, 3, some (aPutI D 7 3)) :: (8, 1, some (aAl 0)) :: (9, 1, some (aAl 0)) :: (10, 3, some (aGetI D 7 26)) :: (13, 3, some (aPutI D 7 4)) :: (16, 1, some (aAl 0)) :: (17, 1, some (aAl 0)) :: (18, 3, some (aGetI D 7 27)) :: (21, 3, some (aPutI D 7 5)) :: (24, 1, some (aAl 0)) :: (25, 1, some (aAl 0)) :: (26, 3, some (aGetI D 7 28)) :: (29, 3, some (aPutI D 7 6)) :: (32, 1, some (aAl 0)) :: (33, 1, some (aAl 0)) :: (34, 3, some (aGetI D 7 28)) :: (37, 3, some (aPutI D 7 7)) :: (40, 1, some (aAl 0)) :: (41, 1, some (aIc (0))) :: (42, 3, some (aPutI D 7 39)) :: (45, 1, some (aAl 0)) :: (46, 1, some (aIc (0))) :: (47, 3, some (aPutI D 7 40)) :: (50, 1, some (aIc (0))) :: (51, 1, some (aIs 1)) :: (52, 0, none) :: (52, 1, some (aIl 1)) :: (53, 1, some (aIc (5))) :: (54, 3, some (aCm (fun C x y => bLe C y x) bLt 91)) :: (57, 1, some (aAl 0)) :: (58, 3, some (aGetR [(1175, 42168)])) :: (61, 1, some (aIl 1)) :: (62, 1, some (aAl 0)) :: (63, 3, some (aGetR [(1175, 42168)])) :: (66, 1, some (aIc (5))) :: (67, 1, some (aIl 1)) :: (68, 1, some (aBin fAdd)) :: (69, 1, some (aIald D)) :: (70, 1, some (aIast D)) :: (71, 1, some (aAl 0)) :: (72, 3, some (aGetR [(1175, 42184)])) :: (75, 1, some (aIl 1)) :: (76, 1, some (aAl 0)) :: (77, 3, some (aGetR [(1175, 42184)])) :: (80, 1, some (aIc (5))) :: (81, 1, some (aIl 1)) :: (82, 1, some (aBin fAdd)) :: (83, 1, some (aIald D)) :: (84, 1, some (aIast D)) :: (85, 3, some (aInc 1 (1))) :: (88, 3, some (aGoto 52)) :: (91, 1, some (aIc (0))) :: (92, 1, some (aIs 1)) :: (93, 0, none) :: (93, 1, some (aIl 1)) :: (94, 1, some (aIc (4))) :: (95, 3, some (aCm (fun C x y => bLe C y x) bLt 118)) :: (98, 1, some (aAl 0)) :: (99, 3, some (aGetR [(1175, 34008)])) :: (102, 1, some (aIl 1)) :: (103, 1, some (aAl 0)) :: (104, 3, some (aGetR [(1175, 34008)])) :: (107, 1, some (aIc (4))) :: (108, 1, some (aIl 1)) :: (109, 1, some (aBin fAdd)) :: (110, 1, some (aIald D)) :: (111, 1, some (aIast D)) :: (112, 3, some (aInc 1 (1))) :: (115, 3, some (aGoto 93)) :: (118, 1, some (aIc (0))) :: (119, 1, some (aIs 1)) :: (120, 0, none) :: (120, 1, some (aIl 1)) :: (121, 2, some (aIc (12))) :: (123, 3, some (aCm (fun C x y => bLe C y x) bLt 222)) :: (126, 1, some (aAl 0)) :: (127, 3, some (aGetR [(1175, 99560)])) :: (130, 1, some (aIl 1)) :: (131, 1, some (aAl 0)) :: (132, 3, some (aGetR [(1175, 99560)])) :: (135, 2, some (aIc (12))) :: (137, 1, some (aIl 1)) :: (138, 1, some (aBin fAdd)) :: (139, 1, some (aIald D)) :: (140, 1, some (aIast D)) :: (141, 1, some (aAl 0)) :: (142, 3, some (aGetR [(1175, 99576)])) :: (145, 1, some (aIl 1)) :: (146, 1, some (aAl 0)) :: (147, 3, some (aGetR [(1175, 99576)])) :: (150, 2, some (aIc (12))) :: (152, 1, some (aIl 1)) :: (153, 1, some (aBin fAdd)) :: (154, 1, some (aIald D)) :: (155, 1, some (aIast D)) :: (156, 1, some (aAl 0)) :: (157, 3, some (aGetR [(1175, 99592)])) :: (160, 1, some (aIl 1)) :: (161, 1, some (aAl 0)) :: (162, 3, some (aGetR [(1175, 99592)])) :: (165, 2, some (aIc (12))) :: (167, 1, some (aIl 1)) :: (168, 1, some (aBin fAdd)) :: (169, 1, some (aIald D)) :: (170, 1, some (aIast D)) :: (171, 1, some (aAl 0)) :: (172, 3, some (aGetR [(1175, 99608)])) :: (175, 1, some (aIl 1)) :: (176, 1, some (aAl 0)) :: (177, 3, some (aGetR [(1175, 99608)])) :: (180, 2, some (aIc (12))) :: (182, 1, some (aIl 1)) :: (183, 1, some (aBin fAdd)) :: (184, 1, some (aIald D)) :: (185, 1, some (aIast D)) :: (186, 1, some (aAl 0)) :: (187, 3, some (aGetR [(1175, 99624)])) :: (190, 1, some (aIl 1)) :: (191, 1, some (aAl 0)) :: (192, 3, some (aGetR [(1175, 99624)])) :: (195, 2, some (aIc (12))) :: (197, 1, some (aIl 1)) :: (198, 1, some (aBin fAdd)) :: (199, 1, some (aIald D)) :: (200, 1, some (aIast D)) :: (201, 1, some (aAl 0)) :: (202, 3, some (aGetR [(1175, 99640)])) :: (205, 1, some (aIl 1)) :: (206, 1, some (aAl 0)) :: (207, 3, some (aGetR [(1175, 99640)])) :: (210, 2, some (aIc (12))) :: (212, 1, some (aIl 1)) :: (213, 1, some (aBin fAdd)) :: (214, 1, some (aIald D)) :: (215, 1, some (aIast D)) :: (216, 3, some (aInc 1 (1))) :: (219, 3, some (aGoto 120)) :: (222, 1, some (aIc (0))) :: (223, 1, some (aIs 1)) :: (224, 0, none) :: (224, 1, some (aIl 1)) :: (225, 2, some (aIc (40))) :: (227, 3, some (aCm (fun C x y => bLe C y x) bLt 341)) :: (230, 1, some (aAl 0)) :: (231, 3, some (aGetR [(1175, 329048)])) :: (234, 1, some (aIl 1)) :: (235, 1, some (aAl 0)) :: (236, 3, some (aGetR [(1175, 329048)])) :: (239, 2, some (aIc (40))) :: (241, 1, some (aIl 1)) :: (242, 1, some (aBin fAdd)) :: (243, 1, some (aIald D)) :: (244, 1, some (aIast D)) :: (245, 1, some (aAl 0)) :: (246, 3, some (aGetR [(1175, 329064)])) :: (249, 1, some (aIl 1)) :: (250, 1, some (aAl 0)) :: (251, 3, some (aGetR [(1175, 329064)])) :: (254, 2, some (aIc (40))) :: (256, 1, some (aIl 1)) :: (257, 1, some (aBin fAdd)) :: (258, 1, some (aIald D)) :: (259, 1, some (aIast D)) :: (260, 1, some (aAl 0)) :: (261, 3, some (aGetR [(1175, 329080)])) :: (264, 1, some (aIl 1)) :: (265, 1, some (aAl 0)) :: (266, 3, some (aGetR [(1175, 329080)])) :: (269, 2, some (aIc (40))) :: (271, 1, some (aIl 1)) :: (272, 1, some (aBin fAdd)) :: (273, 1, some (aIald D)) :: (274, 1, some (aIast D)) :: (275, 1, some (aAl 0)) :: (276, 3, some (aGetR [(1175, 329096)])) :: (279, 1, some (aIl 1)) :: (280, 1, some (aAl 0)) :: (281, 3, some (aGetR [(1175, 329096)])) :: (284, 2, some (aIc (40))) :: (286, 1, some (aIl 1)) :: (287, 1, some (aBin fAdd)) :: (288, 1, some (aIald D)) :: (289, 1, some (aIast D)) :: (290, 1, some (aAl 0)) :: (291, 3, some (aGetR [(1175, 329112)])) :: (294, 1, some (aIl 1)) :: (295, 1, some (aAl 0)) :: (296, 3, some (aGetR [(1175, 329112)])) :: (299, 2, some (aIc (40))) :: (301, 1, some (aIl 1)) :: (302, 1, some (aBin fAdd)) :: (303, 1, some (aIald D)) :: (304, 1, some (aIast D)) :: (305, 1, some (aAl 0)) :: (306, 3, some (aGetR [(1175, 329128)])) :: (309, 1, some (aIl 1)) :: (310, 1, some (aAl 0)) :: (311, 3, some (aGetR [(1175, 329128)])) :: (314, 2, some (aIc (40))) :: (316, 1, some (aIl 1)) :: (317, 1, some (aBin fAdd)) :: (318, 1, some (aIald D)) :: (319, 1, some (aIast D)) :: (320, 1, some (aAl 0)) :: (321, 3, some (aGetR [(1175, 329144)])) :: (324, 1, some (aIl 1)) :: (325, 1, some (aAl 0)) :: (326, 3, some (aGetR [(1175, 329144)])) :: (329, 2, some (aIc (40))) :: (331, 1, some (aIl 1)) :: (332, 1, some (aBin fAdd)) :: (333, 1, some (aIald D)) :: (334, 1, some (aIast D)) :: (335, 3, some (aInc 1 (1))) :: (338, 3, some (aGoto 224)) :: (341, 1, some (aVret)) :: []
set_option maxRecDepth 100000 in
set_option maxHeartbeats 4000000 in
theorem snX7_lays (d : Nat) (W : List Nat) (c : Nat × Nat) (hc : c = cA ∨ c = cB) : SndAll (d, TYg, c, W) cdX7_lays (adX7_lays (d, TYg, c, W)) := by
  unfold cdX7_lays adX7_lays
  refine sn_op sAl ?_
  refine sn_op sAl ?_
  refine sn_op sGetI ?_
  refine sn_op sPutI ?_
  refine sn_op sAl ?_
  refine sn_op sAl ?_
  refine sn_op sGetI ?_
  refine sn_op sPutI ?_
  refine sn_op sAl ?_
  refine sn_op sAl ?_
  refine sn_op sGetI ?_
  refine sn_op sPutI ?_
  refine sn_op sAl ?_
  refine sn_op sAl ?_
  refine sn_op sGetI ?_
  refine sn_op sPutI ?_
  refine sn_op sAl ?_
  refine sn_op sAl ?_
  refine sn_op sGetI ?_
  refine sn_op sPutI ?_
  refine sn_op sAl ?_
  refine sn_op (sIc (n := 0) (by decide)) ?_
  refine sn_op sPutI ?_
  refine sn_op sAl ?_
  refine sn_op (sIc (n := 0) (by decide)) ?_
  refine sn_op sPutI ?_
  refine sn_op (sIc (n := 0) (by decide)) ?_
  refine sn_op sIs ?_
  refine sn_st ?_
  refine sn_op sIl ?_
  refine sn_op (sIc (n := 5) (by decide)) ?_
  refine sn_op sCmGe ?_
  refine sn_op sAl ?_
  refine sn_op sGetR ?_
  refine sn_op sIl ?_
  refine sn_op sAl ?_
  refine sn_op sGetR ?_
  refine sn_op (sIc (n := 5) (by decide)) ?_
  refine sn_op sIl ?_
  refine sn_op sIadd ?_
  refine sn_op sIald ?_
  refine sn_op sIast ?_
  refine sn_op sAl ?_
  refine sn_op sGetR ?_
  refine sn_op sIl ?_
  refine sn_op sAl ?_
  refine sn_op sGetR ?_
  refine sn_op (sIc (n := 5) (by decide)) ?_
  refine sn_op sIl ?_
  refine sn_op sIadd ?_
  refine sn_op sIald ?_
  refine sn_op sIast ?_
  refine sn_op (sInc (n := 1) (by decide)) ?_
  refine sn_op sGoto ?_
  refine sn_op (sIc (n := 0) (by decide)) ?_
  refine sn_op sIs ?_
  refine sn_st ?_
  refine sn_op sIl ?_
  refine sn_op (sIc (n := 4) (by decide)) ?_
  refine sn_op sCmGe ?_
  refine sn_op sAl ?_
  refine sn_op sGetR ?_
  refine sn_op sIl ?_
  refine sn_op sAl ?_
  refine sn_op sGetR ?_
  refine sn_op (sIc (n := 4) (by decide)) ?_
  refine sn_op sIl ?_
  refine sn_op sIadd ?_
  refine sn_op sIald ?_
  refine sn_op sIast ?_
  refine sn_op (sInc (n := 1) (by decide)) ?_
  refine sn_op sGoto ?_
  refine sn_op (sIc (n := 0) (by decide)) ?_
  refine sn_op sIs ?_
  refine sn_st ?_
  refine sn_op sIl ?_
  refine sn_op (sIc (n := 12) (by decide)) ?_
  refine sn_op sCmGe ?_
  refine sn_op sAl ?_
  refine sn_op sGetR ?_
  refine sn_op sIl ?_
  refine sn_op sAl ?_
  refine sn_op sGetR ?_
  refine sn_op (sIc (n := 12) (by decide)) ?_
  refine sn_op sIl ?_
  refine sn_op sIadd ?_
  refine sn_op sIald ?_
  refine sn_op sIast ?_
  refine sn_op sAl ?_
  refine sn_op sGetR ?_
  refine sn_op sIl ?_
  refine sn_op sAl ?_
  refine sn_op sGetR ?_
  refine sn_op (sIc (n := 12) (by decide)) ?_
  refine sn_op sIl ?_
  refine sn_op sIadd ?_
  refine sn_op sIald ?_
  refine sn_op sIast ?_
  refine sn_op sAl ?_
  refine sn_op sGetR ?_
  refine sn_op sIl ?_
  refine sn_op sAl ?_
  refine sn_op sGetR ?_
  refine sn_op (sIc (n := 12) (by decide)) ?_
  refine sn_op sIl ?_
  refine sn_op sIadd ?_
  refine sn_op sIald ?_
  refine sn_op sIast ?_
  refine sn_op sAl ?_
  refine sn_op sGetR ?_
  refine sn_op sIl ?_
  refine sn_op sAl ?_
  refine sn_op sGetR ?_
  refine sn_op (sIc (n := 12) (by decide)) ?_
  refine sn_op sIl ?_
  refine sn_op sIadd ?_
  refine sn_op sIald ?_
  refine sn_op sIast ?_
  refine sn_op sAl ?_
  refine sn_op sGetR ?_
  refine sn_op sIl ?_
  refine sn_op sAl ?_
  refine sn_op sGetR ?_
  refine sn_op (sIc (n := 12) (by decide)) ?_
  refine sn_op sIl ?_
  refine sn_op sIadd ?_
  refine sn_op sIald ?_
  refine sn_op sIast ?_
  refine sn_op sAl ?_
  refine sn_op sGetR ?_
  refine sn_op sIl ?_
  refine sn_op sAl ?_
  refine sn_op sGetR ?_
  refine sn_op (sIc (n := 12) (by decide)) ?_
  refine sn_op sIl ?_
  refine sn_op sIadd ?_
  refine sn_op sIald ?_
  refine sn_op sIast ?_
  refine sn_op (sInc (n := 1) (by decide)) ?_
  refine sn_op sGoto ?_
  refine sn_op (sIc (n := 0) (by decide)) ?_
  refine sn_op sIs ?_
  refine sn_st ?_
  refine sn_op sIl ?_
  refine sn_op (sIc (n := 40) (by decide)) ?_
  refine sn_op sCmGe ?_
  refine sn_op sAl ?_
  refine sn_op sGetR ?_
  refine sn_op sIl ?_
  refine sn_op sAl ?_
  refine sn_op sGetR ?_
  refine sn_op (sIc (n := 40) (by decide)) ?_
  refine sn_op sIl ?_
  refine sn_op sIadd ?_
  refine sn_op sIald ?_
  refine sn_op sIast ?_
  refine sn_op sAl ?_
  refine sn_op sGetR ?_
  refine sn_op sIl ?_
  refine sn_op sAl ?_
  refine sn_op sGetR ?_
  refine sn_op (sIc (n := 40) (by decide)) ?_
  refine sn_op sIl ?_
  refine sn_op sIadd ?_
  refine sn_op sIald ?_
  refine sn_op sIast ?_
  refine sn_op sAl ?_
  refine sn_op sGetR ?_
  refine sn_op sIl ?_
  refine sn_op sAl ?_
  refine sn_op sGetR ?_
  refine sn_op (sIc (n := 40) (by decide)) ?_
  refine sn_op sIl ?_
  refine sn_op sIadd ?_
  refine sn_op sIald ?_
  refine sn_op sIast ?_
  refine sn_op sAl ?_
  refine sn_op sGetR ?_
  refine sn_op sIl ?_
  refine sn_op sAl ?_
  refine sn_op sGetR ?_
  refine sn_op (sIc (n := 40) (by decide)) ?_
  refine sn_op sIl ?_
  refine sn_op sIadd ?_
  refine sn_op sIald ?_
  refine sn_op sIast ?_
  refine sn_op sAl ?_
  refine sn_op sGetR ?_
  refine sn_op sIl ?_
  refine sn_op sAl ?_
  refine sn_op sGetR ?_
  refine sn_op (sIc (n := 40) (by decide)) ?_
  refine sn_op sIl ?_
  refine sn_op sIadd ?_
  refine sn_op sIald ?_
  refine sn_op sIast ?_
  refine sn_op sAl ?_
  refine sn_op sGetR ?_
  refine sn_op sIl ?_
  refine sn_op sAl ?_
  refine sn_op sGetR ?_
  refine sn_op (sIc (n := 40) (by decide)) ?_
  refine sn_op sIl ?_
  refine sn_op sIadd ?_
  refine sn_op sIald ?_
  refine sn_op sIast ?_
  refine sn_op sAl ?_
  refine sn_op sGetR ?_
  refine sn_op sIl ?_
  refine sn_op sAl ?_
  refine sn_op sGetR ?_
  refine sn_op (sIc (n := 40) (by decide)) ?_
  refine sn_op sIl ?_
  refine sn_op sIadd ?_
  refine sn_op sIald ?_
  refine sn_op sIast ?_
  refine sn_op (sInc (n := 1) (by decide)) ?_
  refine sn_op sGoto ?_
  refine sn_op sVret ?_
  exact sn_nil
def csX7_lays : List AC := [([(2, 1175, 0)], 1, [((9, 0, 0), [], [])], [34008, 42168, 42184, 99560, 99576, 99592, 99608, 99624, 99640, 329048, 329064, 329080, 329096, 329112, 329128, 329144, 17179870359, 21474837655, 25769804951, 30064772247, 34359739543, 171798693015, 176093660311], [])]
set_option maxRecDepth 100000 in
set_option maxHeartbeats 4000000 in
theorem sfX7_lays (c : Nat × Nat) (hc : c = cA ∨ c = cB) : ∀ ac ∈ csX7_lays, SafeC TYg c mX7_lays ac := by
  intro ac hac
  simp only [csX7_lays, List.mem_cons, List.not_mem_nil, or_false] at hac
  rcases hac with rfl
  · rcases hc with rfl | rfl
    · exact safe_of (ann := [(52, [(2, 1175, 0), (0, 0, 5)], [(3, 0, 0, 4), (0, 1, 0, 4294967296)]), (93, [(2, 1175, 0), (0, 0, 4)], [(3, 0, 0, 3), (0, 1, 0, 4294967296)]), (120, [(2, 1175, 0), (0, 0, 12)], [(3, 0, 0, 2), (0, 1, 0, 4294967296)]), (224, [(2, 1175, 0), (0, 0, 40)], [(3, 0, 0, 1), (0, 1, 0, 4294967296)])]) (fuel := 600) okX7_lays (snX7_lays _ _ cA (Or.inl rfl)) (List.forall_mem_cons.mpr ⟨⟨_, _, rfl⟩, List.forall_mem_cons.mpr ⟨⟨_, _, rfl⟩, List.forall_mem_cons.mpr ⟨⟨_, _, rfl⟩, List.forall_mem_cons.mpr ⟨⟨_, _, rfl⟩, (fun q hq => by cases hq)⟩⟩⟩⟩) (by decide) (by decide +kernel)
    · exact safe_of (ann := [(52, [(2, 1175, 0), (0, 0, 5)], [(3, 0, 0, 4), (0, 1, 0, 4294967296)]), (93, [(2, 1175, 0), (0, 0, 4)], [(3, 0, 0, 3), (0, 1, 0, 4294967296)]), (120, [(2, 1175, 0), (0, 0, 12)], [(3, 0, 0, 2), (0, 1, 0, 4294967296)]), (224, [(2, 1175, 0), (0, 0, 40)], [(3, 0, 0, 1), (0, 1, 0, 4294967296)])]) (fuel := 600) okX7_lays (snX7_lays _ _ cB (Or.inr rfl)) (List.forall_mem_cons.mpr ⟨⟨_, _, rfl⟩, List.forall_mem_cons.mpr ⟨⟨_, _, rfl⟩, List.forall_mem_cons.mpr ⟨⟨_, _, rfl⟩, List.forall_mem_cons.mpr ⟨⟨_, _, rfl⟩, (fun q hq => by cases hq)⟩⟩⟩⟩) (by decide) (by decide +kernel)
set_option maxRecDepth 100000 in
def adX7_look (D : KK) : List ACE := (0, 1, some (aAl 0)) :: (1, 1, some (aAl 0)) :: (2, 1, some (aIl 1)) :: (3, 3, some (aCall D 7 2 2 csX7_isSale)) :: (6, 3, some (aIf bNe bEq 13)) :: (9, 1, some (aIc (1))) :: (10, 3, some (aGoto 28)) :: (13, 1, some (aIl 2)) :: (14, 3, some (aIf bLt (fun C x y => bLe C y x) 23)) :: (17, 1, some (aIl 2)) :: (18, 2, some (aIc (7))) :: (20, 3, some (aCm bLe (fun C x y => bLt C y x) 27)) :: (23, 1, some (aIc (2))) :: (24, 3, some (aGoto 28)) :: (27, 1, some (aIc (0))) :: (28, 3, some (aPutI D 7 0)) :: (31, 1, some (aAl 0)) :: (32, 3, some (aGetI D 7 0)) :: (35, 3, some (aIf bEq bNe 40)) :: (38, 1, some (aIc (0))) :: (39, 1, some (aIret)) :: (40, 1, some (aIl 2)) :: (41, 43, some (aSw [(0, 84), (1, 91), (2, 98), (3, 105), (4, 112), (5, 119), (6, 126)] 133)) :: (84, 1, some (aAl 0)) :: (85, 3, some (aGetR [(1175, 329048)])) :: (88, 1, some (aIl 1)) :: (89, 1, some (aIald D)) :: (90, 1, some (aIret)) :: (91, 1, some (aAl 0)) :: (92, 3, some (aGetR [(1175, 329064)])) :: (95, 1, some (aIl 1)) :: (96, 1, some (aIald D)) :: (97, 1, some (aIret)) :: (98, 1, some (aAl 0)) :: (99, 3, some (aGetR [(1175, 329080)])) :: (102, 1, some (aIl 1)) :: (103, 1, some (aIald D)) :: (104, 1, some (aIret)) :: (105, 1, some (aAl 0)) :: (106, 3, some (aGetR [(1175, 329096)])) :: (109, 1, some (aIl 1)) :: (110, 1, some (aIald D)) :: (111, 1, some (aIret)) :: (112, 1, some (aAl 0)) :: (113, 3, some (aGetR [(1175, 329112)])) :: (116, 1, some (aIl 1)) :: (117, 1, some (aIald D)) :: (118, 1, some (aIret)) :: (119, 1, some (aAl 0)) :: (120, 3, some (aGetR [(1175, 329128)])) :: (123, 1, some (aIl 1)) :: (124, 1, some (aIald D)) :: (125, 1, some (aIret)) :: (126, 1, some (aAl 0)) :: (127, 3, some (aGetR [(1175, 329144)])) :: (130, 1, some (aIl 1)) :: (131, 1, some (aIald D)) :: (132, 1, some (aIret)) :: (133, 1, some (aAl 0)) :: (134, 1, some (aIl 1)) :: (135, 1, some (aAl 0)) :: (136, 3, some (aGetI D 7 40)) :: (139, 3, some (aCall D 7 3 3 csX7_taxOf)) :: (142, 1, some (aIret)) :: []
set_option maxRecDepth 100000 in
set_option maxHeartbeats 4000000 in
theorem snX7_look (d : Nat) (W : List Nat) (c : Nat × Nat) (hc : c = cA ∨ c = cB) : SndAll (d, TYg, c, W) cdX7_look (adX7_look (d, TYg, c, W)) := by
  unfold cdX7_look adX7_look
  refine sn_op sAl ?_
  refine sn_op sAl ?_
  refine sn_op sIl ?_
  refine sn_op (sCI (sfX7_isSale c hc) (by decide) (by decide +kernel)) ?_
  refine sn_op sIfNe ?_
  refine sn_op (sIc (n := 1) (by decide)) ?_
  refine sn_op sGoto ?_
  refine sn_op sIl ?_
  refine sn_op sIfLt ?_
  refine sn_op sIl ?_
  refine sn_op (sIc (n := 7) (by decide)) ?_
  refine sn_op sCmLe ?_
  refine sn_op (sIc (n := 2) (by decide)) ?_
  refine sn_op sGoto ?_
  refine sn_op (sIc (n := 0) (by decide)) ?_
  refine sn_op sPutI ?_
  refine sn_op sAl ?_
  refine sn_op sGetI ?_
  refine sn_op sIfEq ?_
  refine sn_op (sIc (n := 0) (by decide)) ?_
  refine sn_op sIret ?_
  refine sn_op sIl ?_
  refine sn_op (sSw (by decide)) ?_
  refine sn_op sAl ?_
  refine sn_op sGetR ?_
  refine sn_op sIl ?_
  refine sn_op sIald ?_
  refine sn_op sIret ?_
  refine sn_op sAl ?_
  refine sn_op sGetR ?_
  refine sn_op sIl ?_
  refine sn_op sIald ?_
  refine sn_op sIret ?_
  refine sn_op sAl ?_
  refine sn_op sGetR ?_
  refine sn_op sIl ?_
  refine sn_op sIald ?_
  refine sn_op sIret ?_
  refine sn_op sAl ?_
  refine sn_op sGetR ?_
  refine sn_op sIl ?_
  refine sn_op sIald ?_
  refine sn_op sIret ?_
  refine sn_op sAl ?_
  refine sn_op sGetR ?_
  refine sn_op sIl ?_
  refine sn_op sIald ?_
  refine sn_op sIret ?_
  refine sn_op sAl ?_
  refine sn_op sGetR ?_
  refine sn_op sIl ?_
  refine sn_op sIald ?_
  refine sn_op sIret ?_
  refine sn_op sAl ?_
  refine sn_op sGetR ?_
  refine sn_op sIl ?_
  refine sn_op sIald ?_
  refine sn_op sIret ?_
  refine sn_op sAl ?_
  refine sn_op sIl ?_
  refine sn_op sAl ?_
  refine sn_op sGetI ?_
  refine sn_op (sCI (sfX7_taxOf c hc) (by decide) (by decide +kernel)) ?_
  refine sn_op sIret ?_
  exact sn_nil
def csX7_look : List AC := [([(2, 1175, 0), (0, -2147483648, 2147483647), (0, -2147483648, 2147483647)], 3, [((0, -2147483648, 2147483647), [((1175, 0), (0, 0)), ((1175, 6), (1, 40))], [(1, (0, 39)), (2, (2, 7))]), ((0, 0, 11), [((1175, 0), (0, 2))], [])], [4294968471], [])]
set_option maxRecDepth 100000 in
set_option maxHeartbeats 4000000 in
theorem sfX7_look (c : Nat × Nat) (hc : c = cA ∨ c = cB) : ∀ ac ∈ csX7_look, SafeC TYg c mX7_look ac := by
  intro ac hac
  simp only [csX7_look, List.mem_cons, List.not_mem_nil, or_false] at hac
  rcases hac with rfl
  · rcases hc with rfl | rfl
    · exact safe_of (ann := []) (fuel := 600) okX7_look (snX7_look _ _ cA (Or.inl rfl)) (fun q hq => by cases hq) (by decide) (by decide +kernel)
    · exact safe_of (ann := []) (fuel := 600) okX7_look (snX7_look _ _ cB (Or.inr rfl)) (fun q hq => by cases hq) (by decide) (by decide +kernel)
set_option maxRecDepth 100000 in
def adX7_luck (D : KK) : List ACE := (0, 1, some (aAl 0)) :: (1, 1, some (aIc (0))) :: (2, 3, some (aPutI D 7 0)) :: (5, 1, some (aIl 1)) :: (6, 1, some (aIl 2)) :: (7, 1, some (aIl 3)) :: (8, 3, some (aCall D 16 3 3 csX7_isAsked)) :: (11, 3, some (aIf bEq bNe 32)) :: (14, 2, some (aIl 4)) :: (16, 3, some (aIf bLt (fun C x y => bLe C y x) 32)) :: (19, 2, some (aIl 5)) :: (21, 1, some (aIc (1))) :: (22, 3, some (aCm bLt (fun C x y => bLe C y x) 32)) :: (25, 2, some (aIl 5)) :: (27, 2, some (aIc (10))) :: (29, 3, some (aCm bLe (fun C x y => bLt C y x) 34)) :: (32, 1, some (aIc (-1))) :: (33, 1, some (aIret)) :: (34, 1, some (aAl 0)) :: (35, 1, some (aIl 1)) :: (36, 1, some (aIl 2)) :: (37, 1, some (aIl 3)) :: (38, 3, some (aCall D 7 4 5 csX7_seeksNow)) :: (41, 1, some (aAl 0)) :: (42, 3, some (aGetI D 7 47)) :: (45, 3, some (aIf bEq bNe 51)) :: (48, 2, some (aIc (-2))) :: (50, 1, some (aIret)) :: (51, 1, some (aAl 0)) :: (52, 3, some (aGetI D 7 42)) :: (55, 2, some (aIs 6)) :: (57, 2, some (aIl 4)) :: (59, 2, some (aIs 7)) :: (61, 1, some (aIc (0))) :: (62, 2, some (aIs 8)) :: (64, 1, some (aIc (0))) :: (65, 2, some (aIs 9)) :: (67, 0, none) :: (67, 2, some (aIl 9)) :: (69, 2, some (aIl 5)) :: (71, 3, some (aCm (fun C x y => bLe C y x) bLt 227)) :: (74, 1, some (aIc (0))) :: (75, 2, some (aIs 10)) :: (77, 0, none) :: (77, 2, some (aIl 10)) :: (79, 1, some (aAl 0)) :: (80, 3, some (aGetI D 7 6)) :: (83, 3, some (aCm (fun C x y => bLe C y x) bLt 106)) :: (86, 1, some (aAl 0)) :: (87, 3, some (aGetR [(1175, 165384)])) :: (90, 2, some (aIl 10)) :: (92, 1, some (aAl 0)) :: (93, 3, some (aGetR [(1175, 329064)])) :: (96, 2, some (aIl 10)) :: (98, 1, some (aIald D)) :: (99, 1, some (aIast D)) :: (100, 3, some (aInc 10 (1))) :: (103, 3, some (aGoto 77)) :: (106, 1, some (aAl 0)) :: (107, 3, some (aGetI D 7 6)) :: (110, 1, some (aIc (1))) :: (111, 1, some (aBin fSub)) :: (112, 2, some (aIs 10)) :: (114, 0, none) :: (114, 2, some (aIl 10)) :: (116, 3, some (aIf bLe (fun C x y => bLt C y x) 185)) :: (119, 2, some (aIl 7)) :: (121, 3, some (aIc (1103515245))) :: (124, 1, some (aBin fMul)) :: (125, 3, some (aIc (12345))) :: (128, 1, some (aBin fAdd)) :: (129, 3, some (aIc (2147483647))) :: (132, 1, some (aBin fAnd)) :: (133, 2, some (aIs 7)) :: (135, 2, some (aIl 7)) :: (137, 2, some (aIc (16))) :: (139, 1, some (aBin fShr)) :: (140, 2, some (aIl 10)) :: (142, 1, some (aIc (1))) :: (143, 1, some (aBin fAdd)) :: (144, 1, some (aDv fRem)) :: (145, 2, some (aIs 11)) :: (147, 1, some (aAl 0)) :: (148, 3, some (aGetR [(1175, 165384)])) :: (151, 2, some (aIl 10)) :: (153, 1, some (aIald D)) :: (154, 2, some (aIs 12)) :: (156, 1, some (aAl 0)) :: (157, 3, some (aGetR [(1175, 165384)])) :: (160, 2, some (aIl 10)) :: (162, 1, some (aAl 0)) :: (163, 3, some (aGetR [(1175, 165384)])) :: (166, 2, some (aIl 11)) :: (168, 1, some (aIald D)) :: (169, 1, some (aIast D)) :: (170, 1, some (aAl 0)) :: (171, 3, some (aGetR [(1175, 165384)])) :: (174, 2, some (aIl 11)) :: (176, 2, some (aIl 12)) :: (178, 1, some (aIast D)) :: (179, 3, some (aInc 10 (-1))) :: (182, 3, some (aGoto 114)) :: (185, 1, some (aAl 0)) :: (186, 1, some (aIl 1)) :: (187, 1, some (aIl 2)) :: (188, 1, some (aIl 3)) :: (189, 3, some (aCall D 7 4 5 csX7_seeks)) :: (192, 1, some (aAl 0)) :: (193, 3, some (aGetI D 7 47)) :: (196, 3, some (aIf bEq bNe 202)) :: (199, 2, some (aIc (-2))) :: (201, 1, some (aIret)) :: (202, 2, some (aIl 8)) :: (204, 1, some (aAl 0)) :: (205, 3, some (aGetI D 7 42)) :: (208, 2, some (aIl 6)) :: (210, 3, some (aCm bLt (fun C x y => bLe C y x) 217)) :: (213, 1, some (aIc (1))) :: (214, 3, some (aGoto 218)) :: (217, 1, some (aIc (0))) :: (218, 1, some (aBin fAdd)) :: (219, 2, some (aIs 8)) :: (221, 3, some (aInc 9 (1))) :: (224, 3, some (aGoto 67)) :: (227, 2, some (aIl 8)) :: (229, 1, some (aIret)) :: []
set_option maxRecDepth 100000 in
set_option maxHeartbeats 4000000 in
theorem snX7_luck (d : Nat) (W : List Nat) (c : Nat × Nat) (hc : c = cA ∨ c = cB) : SndAll (d, TYg, c, W) cdX7_luck (adX7_luck (d, TYg, c, W)) := by
  unfold cdX7_luck adX7_luck
  refine sn_op sAl ?_
  refine sn_op (sIc (n := 0) (by decide)) ?_
  refine sn_op sPutI ?_
  refine sn_op sIl ?_
  refine sn_op sIl ?_
  refine sn_op sIl ?_
  refine sn_op (sCI (sfX7_isAsked c hc) (by decide) (by decide +kernel)) ?_
  refine sn_op sIfEq ?_
  refine sn_op sIl ?_
  refine sn_op sIfLt ?_
  refine sn_op sIl ?_
  refine sn_op (sIc (n := 1) (by decide)) ?_
  refine sn_op sCmLt ?_
  refine sn_op sIl ?_
  refine sn_op (sIc (n := 10) (by decide)) ?_
  refine sn_op sCmLe ?_
  refine sn_op (sIc (n := -1) (by decide)) ?_
  refine sn_op sIret ?_
  refine sn_op sAl ?_
  refine sn_op sIl ?_
  refine sn_op sIl ?_
  refine sn_op sIl ?_
  refine sn_op (sCV (sfX7_seeksNow c hc) (by decide) (by decide +kernel)) ?_
  refine sn_op sAl ?_
  refine sn_op sGetI ?_
  refine sn_op sIfEq ?_
  refine sn_op (sIc (n := -2) (by decide)) ?_
  refine sn_op sIret ?_
  refine sn_op sAl ?_
  refine sn_op sGetI ?_
  refine sn_op sIs ?_
  refine sn_op sIl ?_
  refine sn_op sIs ?_
  refine sn_op (sIc (n := 0) (by decide)) ?_
  refine sn_op sIs ?_
  refine sn_op (sIc (n := 0) (by decide)) ?_
  refine sn_op sIs ?_
  refine sn_st ?_
  refine sn_op sIl ?_
  refine sn_op sIl ?_
  refine sn_op sCmGe ?_
  refine sn_op (sIc (n := 0) (by decide)) ?_
  refine sn_op sIs ?_
  refine sn_st ?_
  refine sn_op sIl ?_
  refine sn_op sAl ?_
  refine sn_op sGetI ?_
  refine sn_op sCmGe ?_
  refine sn_op sAl ?_
  refine sn_op sGetR ?_
  refine sn_op sIl ?_
  refine sn_op sAl ?_
  refine sn_op sGetR ?_
  refine sn_op sIl ?_
  refine sn_op sIald ?_
  refine sn_op sIast ?_
  refine sn_op (sInc (n := 1) (by decide)) ?_
  refine sn_op sGoto ?_
  refine sn_op sAl ?_
  refine sn_op sGetI ?_
  refine sn_op (sIc (n := 1) (by decide)) ?_
  refine sn_op sIsub ?_
  refine sn_op sIs ?_
  refine sn_st ?_
  refine sn_op sIl ?_
  refine sn_op sIfLe ?_
  refine sn_op sIl ?_
  refine sn_op (sIc (n := 1103515245) (by decide)) ?_
  refine sn_op sImul ?_
  refine sn_op (sIc (n := 12345) (by decide)) ?_
  refine sn_op sIadd ?_
  refine sn_op (sIc (n := 2147483647) (by decide)) ?_
  refine sn_op sIand ?_
  refine sn_op sIs ?_
  refine sn_op sIl ?_
  refine sn_op (sIc (n := 16) (by decide)) ?_
  refine sn_op sIshr ?_
  refine sn_op sIl ?_
  refine sn_op (sIc (n := 1) (by decide)) ?_
  refine sn_op sIadd ?_
  refine sn_op sIrem ?_
  refine sn_op sIs ?_
  refine sn_op sAl ?_
  refine sn_op sGetR ?_
  refine sn_op sIl ?_
  refine sn_op sIald ?_
  refine sn_op sIs ?_
  refine sn_op sAl ?_
  refine sn_op sGetR ?_
  refine sn_op sIl ?_
  refine sn_op sAl ?_
  refine sn_op sGetR ?_
  refine sn_op sIl ?_
  refine sn_op sIald ?_
  refine sn_op sIast ?_
  refine sn_op sAl ?_
  refine sn_op sGetR ?_
  refine sn_op sIl ?_
  refine sn_op sIl ?_
  refine sn_op sIast ?_
  refine sn_op (sInc (n := -1) (by decide)) ?_
  refine sn_op sGoto ?_
  refine sn_op sAl ?_
  refine sn_op sIl ?_
  refine sn_op sIl ?_
  refine sn_op sIl ?_
  refine sn_op (sCV (sfX7_seeks c hc) (by decide) (by decide +kernel)) ?_
  refine sn_op sAl ?_
  refine sn_op sGetI ?_
  refine sn_op sIfEq ?_
  refine sn_op (sIc (n := -2) (by decide)) ?_
  refine sn_op sIret ?_
  refine sn_op sIl ?_
  refine sn_op sAl ?_
  refine sn_op sGetI ?_
  refine sn_op sIl ?_
  refine sn_op sCmLt ?_
  refine sn_op (sIc (n := 1) (by decide)) ?_
  refine sn_op sGoto ?_
  refine sn_op (sIc (n := 0) (by decide)) ?_
  refine sn_op sIadd ?_
  refine sn_op sIs ?_
  refine sn_op (sInc (n := 1) (by decide)) ?_
  refine sn_op sGoto ?_
  refine sn_op sIl ?_
  refine sn_op sIret ?_
  exact sn_nil
def csX7_luck : List AC := [([(2, 1175, 0), (0, -2147483648, 2147483647), (0, -2147483648, 2147483647), (0, -2147483648, 2147483647), (0, -2147483648, 2147483647), (0, -2147483648, 2147483647)], 10, [((0, -2147483648, 2147483647), [], []), ((0, -2, -1), [], [])], [26104, 165384, 820712, 4916696, 4294968471, 184683594903, 206158431383, 210453398679, 214748365975, 219043333271], [])]
set_option maxRecDepth 100000 in
set_option maxHeartbeats 4000000 in
theorem sfX7_luck (c : Nat × Nat) (hc : c = cA ∨ c = cB) : ∀ ac ∈ csX7_luck, SafeC TYg c mX7_luck ac := by
  intro ac hac
  simp only [csX7_luck, List.mem_cons, List.not_mem_nil, or_false] at hac
  rcases hac with rfl
  · rcases hc with rfl | rfl
    · exact safe_of (ann := [(67, [(2, 1175, 0), (0, 0, 1), (0, 2, 6), (0, 0, 400), (0, 0, 2147483647), (0, 1, 10), (0, 0, 200), (0, 0, 2147483647), (0, -2147483648, 2147483647), (0, 0, 10), (4, 0, 0), (4, 0, 0), (4, 0, 0)], [(0, 9, 0, 4294967296), (3, 0, 0, 3)]), (77, [(2, 1175, 0), (0, 0, 1), (0, 2, 6), (0, 0, 400), (0, 0, 2147483647), (0, 1, 10), (0, 0, 200), (0, 0, 2147483647), (0, -2147483648, 2147483647), (0, 0, 9), (0, 0, 40), (4, 0, 0), (4, 0, 0)], [(0, 9, 0, 4294967296), (3, 0, 0, 2), (0, 10, 0, 4294967296)]), (114, [(2, 1175, 0), (0, 0, 1), (0, 2, 6), (0, 0, 400), (0, 0, 2147483647), (0, 1, 10), (0, 0, 200), (0, 0, 2147483647), (0, -2147483648, 2147483647), (0, 0, 9), (0, -1, 39), (4, 0, 0), (4, 0, 0)], [(0, 9, 0, 4294967296), (3, 0, 0, 1), (2, 10, 0, -4294967296)])]) (fuel := 600) okX7_luck (snX7_luck _ _ cA (Or.inl rfl)) (List.forall_mem_cons.mpr ⟨⟨_, _, rfl⟩, List.forall_mem_cons.mpr ⟨⟨_, _, rfl⟩, List.forall_mem_cons.mpr ⟨⟨_, _, rfl⟩, (fun q hq => by cases hq)⟩⟩⟩) (by decide) (by decide +kernel)
    · exact safe_of (ann := [(67, [(2, 1175, 0), (0, 0, 1), (0, 2, 6), (0, 0, 400), (0, 0, 2147483647), (0, 1, 10), (0, 0, 200), (0, 0, 2147483647), (0, -2147483648, 2147483647), (0, 0, 10), (4, 0, 0), (4, 0, 0), (4, 0, 0)], [(0, 9, 0, 4294967296), (3, 0, 0, 3)]), (77, [(2, 1175, 0), (0, 0, 1), (0, 2, 6), (0, 0, 400), (0, 0, 2147483647), (0, 1, 10), (0, 0, 200), (0, 0, 2147483647), (0, -2147483648, 2147483647), (0, 0, 9), (0, 0, 40), (4, 0, 0), (4, 0, 0)], [(0, 9, 0, 4294967296), (3, 0, 0, 2), (0, 10, 0, 4294967296)]), (114, [(2, 1175, 0), (0, 0, 1), (0, 2, 6), (0, 0, 400), (0, 0, 2147483647), (0, 1, 10), (0, 0, 200), (0, 0, 2147483647), (0, -2147483648, 2147483647), (0, 0, 9), (0, -1, 39), (4, 0, 0), (4, 0, 0)], [(0, 9, 0, 4294967296), (3, 0, 0, 1), (2, 10, 0, -4294967296)])]) (fuel := 600) okX7_luck (snX7_luck _ _ cB (Or.inr rfl)) (List.forall_mem_cons.mpr ⟨⟨_, _, rfl⟩, List.forall_mem_cons.mpr ⟨⟨_, _, rfl⟩, List.forall_mem_cons.mpr ⟨⟨_, _, rfl⟩, (fun q hq => by cases hq)⟩⟩⟩) (by decide) (by decide +kernel)
