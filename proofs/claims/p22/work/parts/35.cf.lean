/-! contracts -/
set_option maxRecDepth 100000 in
def adX7_isStopped (D : KK) : List ACE := (0, 1, some (aAl 0)) :: (1, 3, some (aGetI D 7 39)) :: (4, 1, some (aAl 0)) :: (5, 3, some (aGetR [(1175, 329048)])) :: (8, 1, some (aIl 1)) :: (9, 1, some (aIald D)) :: (10, 1, some (aBin fShr)) :: (11, 1, some (aIc (1))) :: (12, 1, some (aBin fAnd)) :: (13, 1, some (aIc (1))) :: (14, 3, some (aCm bEq bNe 34)) :: (17, 1, some (aAl 0)) :: (18, 3, some (aGetI D 7 39)) :: (21, 1, some (aAl 0)) :: (22, 3, some (aGetR [(1175, 165384)])) :: (25, 1, some (aIl 1)) :: (26, 1, some (aIald D)) :: (27, 1, some (aBin fShr)) :: (28, 1, some (aIc (1))) :: (29, 1, some (aBin fAnd)) :: (30, 1, some (aIc (1))) :: (31, 3, some (aCm bNe bEq 38)) :: (34, 1, some (aIc (1))) :: (35, 3, some (aGoto 39)) :: (38, 1, some (aIc (0))) :: (39, 1, some (aZret)) :: []
set_option maxRecDepth 100000 in
set_option maxHeartbeats 4000000 in
theorem snX7_isStopped (d : Nat) (W : List Nat) (c : Nat × Nat) (hc : c = cA ∨ c = cB) : SndAll (d, TYg, c, W) cdX7_isStopped (adX7_isStopped (d, TYg, c, W)) := by
  unfold cdX7_isStopped adX7_isStopped
  refine sn_op sAl ?_
  refine sn_op sGetI ?_
  refine sn_op sAl ?_
  refine sn_op sGetR ?_
  refine sn_op sIl ?_
  refine sn_op sIald ?_
  refine sn_op sIshr ?_
  refine sn_op (sIc (n := 1) (by decide)) ?_
  refine sn_op sIand ?_
  refine sn_op (sIc (n := 1) (by decide)) ?_
  refine sn_op sCmEq ?_
  refine sn_op sAl ?_
  refine sn_op sGetI ?_
  refine sn_op sAl ?_
  refine sn_op sGetR ?_
  refine sn_op sIl ?_
  refine sn_op sIald ?_
  refine sn_op sIshr ?_
  refine sn_op (sIc (n := 1) (by decide)) ?_
  refine sn_op sIand ?_
  refine sn_op (sIc (n := 1) (by decide)) ?_
  refine sn_op sCmNe ?_
  refine sn_op (sIc (n := 1) (by decide)) ?_
  refine sn_op sGoto ?_
  refine sn_op (sIc (n := 0) (by decide)) ?_
  refine sn_op sZret ?_
  exact sn_nil
def csX7_isStopped : List AC := [([(2, 1175, 0), (0, 0, 0)], 1, [((0, 0, 0), [], []), ((0, 1, 1), [], [])], [], []), ([(2, 1175, 0), (0, 0, 39)], 1, [((0, 0, 0), [], []), ((0, 1, 1), [], [])], [], [])]
set_option maxRecDepth 100000 in
set_option maxHeartbeats 4000000 in
theorem sfX7_isStopped (c : Nat × Nat) (hc : c = cA ∨ c = cB) : ∀ ac ∈ csX7_isStopped, SafeC TYg c mX7_isStopped ac := by
  intro ac hac
  simp only [csX7_isStopped, List.mem_cons, List.not_mem_nil, or_false] at hac
  rcases hac with rfl | rfl
  · rcases hc with rfl | rfl
    · exact safe_of (ann := []) (fuel := 600) okX7_isStopped (snX7_isStopped _ _ cA (Or.inl rfl)) (fun q hq => by cases hq) (by decide) (by decide +kernel)
    · exact safe_of (ann := []) (fuel := 600) okX7_isStopped (snX7_isStopped _ _ cB (Or.inr rfl)) (fun q hq => by cases hq) (by decide) (by decide +kernel)
  · rcases hc with rfl | rfl
    · exact safe_of (ann := []) (fuel := 600) okX7_isStopped (snX7_isStopped _ _ cA (Or.inl rfl)) (fun q hq => by cases hq) (by decide) (by decide +kernel)
    · exact safe_of (ann := []) (fuel := 600) okX7_isStopped (snX7_isStopped _ _ cB (Or.inr rfl)) (fun q hq => by cases hq) (by decide) (by decide +kernel)
set_option maxRecDepth 100000 in
def adX7_fits (D : KK) : List ACE := (0, 1, some (aAl 0)) :: (1, 3, some (aGetR [(1175, 329048)])) :: (4, 1, some (aIl 2)) :: (5, 1, some (aIald D)) :: (6, 1, some (aAl 0)) :: (7, 3, some (aGetR [(1175, 165384)])) :: (10, 1, some (aIl 2)) :: (11, 1, some (aIald D)) :: (12, 3, some (aCm bEq bNe 23)) :: (15, 1, some (aAl 0)) :: (16, 1, some (aIl 2)) :: (17, 3, some (aCall D 7 2 2 csX7_isStopped)) :: (20, 3, some (aIf bEq bNe 25)) :: (23, 1, some (aIc (0))) :: (24, 1, some (aZret)) :: (25, 1, some (aAl 0)) :: (26, 3, some (aGetR [(1175, 26104)])) :: (29, 1, some (aIc (0))) :: (30, 1, some (aIald D)) :: (31, 1, some (aIs 3)) :: (32, 1, some (aAl 0)) :: (33, 3, some (aGetR [(1175, 26104)])) :: (36, 1, some (aIl 1)) :: (37, 1, some (aIc (1))) :: (38, 1, some (aBin fSub)) :: (39, 1, some (aIald D)) :: (40, 2, some (aIs 4)) :: (42, 1, some (aAl 0)) :: (43, 3, some (aGetR [(1175, 329048)])) :: (46, 1, some (aIl 2)) :: (47, 1, some (aIald D)) :: (48, 1, some (aAl 0)) :: (49, 3, some (aGetR [(1175, 165384)])) :: (52, 2, some (aIl 4)) :: (54, 1, some (aIald D)) :: (55, 3, some (aCm bNe bEq 111)) :: (58, 1, some (aAl 0)) :: (59, 3, some (aGetR [(1175, 329096)])) :: (62, 1, some (aIl 2)) :: (63, 1, some (aIald D)) :: (64, 1, some (aAl 0)) :: (65, 3, some (aGetR [(1175, 329096)])) :: (68, 1, some (aIl 3)) :: (69, 1, some (aIald D)) :: (70, 3, some (aCm bNe bEq 111)) :: (73, 1, some (aAl 0)) :: (74, 3, some (aGetI D 7 48)) :: (77, 3, some (aIf bNe bEq 95)) :: (80, 1, some (aAl 0)) :: (81, 3, some (aGetR [(1175, 329144)])) :: (84, 1, some (aIl 2)) :: (85, 1, some (aIald D)) :: (86, 1, some (aAl 0)) :: (87, 3, some (aGetR [(1175, 329144)])) :: (90, 1, some (aIl 3)) :: (91, 1, some (aIald D)) :: (92, 3, some (aCm bNe bEq 111)) :: (95, 1, some (aAl 0)) :: (96, 3, some (aGetR [(1175, 329128)])) :: (99, 1, some (aIl 2)) :: (100, 1, some (aIald D)) :: (101, 1, some (aAl 0)) :: (102, 3, some (aGetR [(1175, 329128)])) :: (105, 2, some (aIl 4)) :: (107, 1, some (aIald D)) :: (108, 3, some (aCm (fun C x y => bLe C y x) bLt 113)) :: (111, 1, some (aIc (0))) :: (112, 1, some (aZret)) :: (113, 1, some (aIc (0))) :: (114, 2, some (aIs 5)) :: (116, 0, none) :: (116, 2, some (aIl 5)) :: (118, 1, some (aIl 1)) :: (119, 3, some (aCm (fun C x y => bLe C y x) bLt 151)) :: (122, 1, some (aAl 0)) :: (123, 3, some (aGetR [(1175, 329048)])) :: (126, 1, some (aAl 0)) :: (127, 3, some (aGetR [(1175, 26104)])) :: (130, 2, some (aIl 5)) :: (132, 1, some (aIald D)) :: (133, 1, some (aIald D)) :: (134, 1, some (aAl 0)) :: (135, 3, some (aGetR [(1175, 329048)])) :: (138, 1, some (aIl 2)) :: (139, 1, some (aIald D)) :: (140, 3, some (aCm bNe bEq 145)) :: (143, 1, some (aIc (0))) :: (144, 1, some (aZret)) :: (145, 3, some (aInc 5 (1))) :: (148, 3, some (aGoto 116)) :: (151, 1, some (aIc (1))) :: (152, 1, some (aZret)) :: []
set_option maxRecDepth 100000 in
set_option maxHeartbeats 4000000 in
theorem snX7_fits (d : Nat) (W : List Nat) (c : Nat × Nat) (hc : c = cA ∨ c = cB) : SndAll (d, TYg, c, W) cdX7_fits (adX7_fits (d, TYg, c, W)) := by
  unfold cdX7_fits adX7_fits
  refine sn_op sAl ?_
  refine sn_op sGetR ?_
  refine sn_op sIl ?_
  refine sn_op sIald ?_
  refine sn_op sAl ?_
  refine sn_op sGetR ?_
  refine sn_op sIl ?_
  refine sn_op sIald ?_
  refine sn_op sCmEq ?_
  refine sn_op sAl ?_
  refine sn_op sIl ?_
  refine sn_op (sCI (sfX7_isStopped c hc) (by decide) (by decide +kernel)) ?_
  refine sn_op sIfEq ?_
  refine sn_op (sIc (n := 0) (by decide)) ?_
  refine sn_op sZret ?_
  refine sn_op sAl ?_
  refine sn_op sGetR ?_
  refine sn_op (sIc (n := 0) (by decide)) ?_
  refine sn_op sIald ?_
  refine sn_op sIs ?_
  refine sn_op sAl ?_
  refine sn_op sGetR ?_
  refine sn_op sIl ?_
  refine sn_op (sIc (n := 1) (by decide)) ?_
  refine sn_op sIsub ?_
  refine sn_op sIald ?_
  refine sn_op sIs ?_
  refine sn_op sAl ?_
  refine sn_op sGetR ?_
  refine sn_op sIl ?_
  refine sn_op sIald ?_
  refine sn_op sAl ?_
  refine sn_op sGetR ?_
  refine sn_op sIl ?_
  refine sn_op sIald ?_
  refine sn_op sCmNe ?_
  refine sn_op sAl ?_
  refine sn_op sGetR ?_
  refine sn_op sIl ?_
  refine sn_op sIald ?_
  refine sn_op sAl ?_
  refine sn_op sGetR ?_
  refine sn_op sIl ?_
  refine sn_op sIald ?_
  refine sn_op sCmNe ?_
  refine sn_op sAl ?_
  refine sn_op sGetI ?_
  refine sn_op sIfNe ?_
  refine sn_op sAl ?_
  refine sn_op sGetR ?_
  refine sn_op sIl ?_
  refine sn_op sIald ?_
  refine sn_op sAl ?_
  refine sn_op sGetR ?_
  refine sn_op sIl ?_
  refine sn_op sIald ?_
  refine sn_op sCmNe ?_
  refine sn_op sAl ?_
  refine sn_op sGetR ?_
  refine sn_op sIl ?_
  refine sn_op sIald ?_
  refine sn_op sAl ?_
  refine sn_op sGetR ?_
  refine sn_op sIl ?_
  refine sn_op sIald ?_
  refine sn_op sCmGe ?_
  refine sn_op (sIc (n := 0) (by decide)) ?_
  refine sn_op sZret ?_
  refine sn_op (sIc (n := 0) (by decide)) ?_
  refine sn_op sIs ?_
  refine sn_st ?_
  refine sn_op sIl ?_
  refine sn_op sIl ?_
  refine sn_op sCmGe ?_
  refine sn_op sAl ?_
  refine sn_op sGetR ?_
  refine sn_op sAl ?_
  refine sn_op sGetR ?_
  refine sn_op sIl ?_
  refine sn_op sIald ?_
  refine sn_op sIald ?_
  refine sn_op sAl ?_
  refine sn_op sGetR ?_
  refine sn_op sIl ?_
  refine sn_op sIald ?_
  refine sn_op sCmNe ?_
  refine sn_op (sIc (n := 0) (by decide)) ?_
  refine sn_op sZret ?_
  refine sn_op (sInc (n := 1) (by decide)) ?_
  refine sn_op sGoto ?_
  refine sn_op (sIc (n := 1) (by decide)) ?_
  refine sn_op sZret ?_
  exact sn_nil
def csX7_fits : List AC := [([(2, 1175, 0), (0, 1, 1), (0, 0, 0)], 2, [((0, 0, 0), [], []), ((0, 1, 1), [], [])], [], []), ([(2, 1175, 0), (0, 2, 2), (0, 0, 0)], 2, [((0, 0, 0), [], []), ((0, 1, 1), [], [])], [], []), ([(2, 1175, 0), (0, 3, 3), (0, 0, 0)], 2, [((0, 0, 0), [], []), ((0, 1, 1), [], [])], [], []), ([(2, 1175, 0), (0, 4, 4), (0, 0, 0)], 2, [((0, 0, 0), [], []), ((0, 1, 1), [], [])], [], []), ([(2, 1175, 0), (0, 5, 5), (0, 0, 0)], 2, [((0, 0, 0), [], []), ((0, 1, 1), [], [])], [], []), ([(2, 1175, 0), (0, 1, 1), (0, 0, 39)], 2, [((0, 0, 0), [], []), ((0, 1, 1), [], [])], [], []), ([(2, 1175, 0), (0, 2, 2), (0, 0, 39)], 2, [((0, 0, 0), [], []), ((0, 1, 1), [], [])], [], []), ([(2, 1175, 0), (0, 3, 3), (0, 0, 39)], 2, [((0, 0, 0), [], []), ((0, 1, 1), [], [])], [], []), ([(2, 1175, 0), (0, 4, 4), (0, 0, 39)], 2, [((0, 0, 0), [], []), ((0, 1, 1), [], [])], [], []), ([(2, 1175, 0), (0, 5, 5), (0, 0, 39)], 2, [((0, 0, 0), [], []), ((0, 1, 1), [], [])], [], []), ([(2, 1175, 0), (0, 1, 5), (0, 0, 39)], 2, [((0, 0, 0), [], []), ((0, 1, 1), [], [])], [], [])]
set_option maxRecDepth 100000 in
set_option maxHeartbeats 4000000 in
theorem sfX7_fits (c : Nat × Nat) (hc : c = cA ∨ c = cB) : ∀ ac ∈ csX7_fits, SafeC TYg c mX7_fits ac := by
  intro ac hac
  simp only [csX7_fits, List.mem_cons, List.not_mem_nil, or_false] at hac
  rcases hac with rfl | rfl | rfl | rfl | rfl | rfl | rfl | rfl | rfl | rfl | rfl
  · rcases hc with rfl | rfl
    · exact safe_of (ann := [(116, [(2, 1175, 0), (0, 1, 1), (0, 0, 0), (0, 0, 39), (0, 0, 39), (0, 0, 1)], [(0, 5, 0, 4294967296)])]) (fuel := 600) okX7_fits (snX7_fits _ _ cA (Or.inl rfl)) (List.forall_mem_cons.mpr ⟨⟨_, _, rfl⟩, (fun q hq => by cases hq)⟩) (by decide) (by decide +kernel)
    · exact safe_of (ann := [(116, [(2, 1175, 0), (0, 1, 1), (0, 0, 0), (0, 0, 39), (0, 0, 39), (0, 0, 1)], [(0, 5, 0, 4294967296)])]) (fuel := 600) okX7_fits (snX7_fits _ _ cB (Or.inr rfl)) (List.forall_mem_cons.mpr ⟨⟨_, _, rfl⟩, (fun q hq => by cases hq)⟩) (by decide) (by decide +kernel)
  · rcases hc with rfl | rfl
    · exact safe_of (ann := [(116, [(2, 1175, 0), (0, 2, 2), (0, 0, 0), (0, 0, 39), (0, 0, 39), (0, 0, 2)], [(0, 5, 0, 4294967296)])]) (fuel := 600) okX7_fits (snX7_fits _ _ cA (Or.inl rfl)) (List.forall_mem_cons.mpr ⟨⟨_, _, rfl⟩, (fun q hq => by cases hq)⟩) (by decide) (by decide +kernel)
    · exact safe_of (ann := [(116, [(2, 1175, 0), (0, 2, 2), (0, 0, 0), (0, 0, 39), (0, 0, 39), (0, 0, 2)], [(0, 5, 0, 4294967296)])]) (fuel := 600) okX7_fits (snX7_fits _ _ cB (Or.inr rfl)) (List.forall_mem_cons.mpr ⟨⟨_, _, rfl⟩, (fun q hq => by cases hq)⟩) (by decide) (by decide +kernel)
  · rcases hc with rfl | rfl
    · exact safe_of (ann := [(116, [(2, 1175, 0), (0, 3, 3), (0, 0, 0), (0, 0, 39), (0, 0, 39), (0, 0, 3)], [(0, 5, 0, 4294967296)])]) (fuel := 600) okX7_fits (snX7_fits _ _ cA (Or.inl rfl)) (List.forall_mem_cons.mpr ⟨⟨_, _, rfl⟩, (fun q hq => by cases hq)⟩) (by decide) (by decide +kernel)
    · exact safe_of (ann := [(116, [(2, 1175, 0), (0, 3, 3), (0, 0, 0), (0, 0, 39), (0, 0, 39), (0, 0, 3)], [(0, 5, 0, 4294967296)])]) (fuel := 600) okX7_fits (snX7_fits _ _ cB (Or.inr rfl)) (List.forall_mem_cons.mpr ⟨⟨_, _, rfl⟩, (fun q hq => by cases hq)⟩) (by decide) (by decide +kernel)
  · rcases hc with rfl | rfl
    · exact safe_of (ann := [(116, [(2, 1175, 0), (0, 4, 4), (0, 0, 0), (0, 0, 39), (0, 0, 39), (0, 0, 4)], [(0, 5, 0, 4294967296)])]) (fuel := 600) okX7_fits (snX7_fits _ _ cA (Or.inl rfl)) (List.forall_mem_cons.mpr ⟨⟨_, _, rfl⟩, (fun q hq => by cases hq)⟩) (by decide) (by decide +kernel)
    · exact safe_of (ann := [(116, [(2, 1175, 0), (0, 4, 4), (0, 0, 0), (0, 0, 39), (0, 0, 39), (0, 0, 4)], [(0, 5, 0, 4294967296)])]) (fuel := 600) okX7_fits (snX7_fits _ _ cB (Or.inr rfl)) (List.forall_mem_cons.mpr ⟨⟨_, _, rfl⟩, (fun q hq => by cases hq)⟩) (by decide) (by decide +kernel)
  · rcases hc with rfl | rfl
    · exact safe_of (ann := [(116, [(2, 1175, 0), (0, 5, 5), (0, 0, 0), (0, 0, 39), (0, 0, 39), (0, 0, 5)], [(0, 5, 0, 4294967296)])]) (fuel := 600) okX7_fits (snX7_fits _ _ cA (Or.inl rfl)) (List.forall_mem_cons.mpr ⟨⟨_, _, rfl⟩, (fun q hq => by cases hq)⟩) (by decide) (by decide +kernel)
    · exact safe_of (ann := [(116, [(2, 1175, 0), (0, 5, 5), (0, 0, 0), (0, 0, 39), (0, 0, 39), (0, 0, 5)], [(0, 5, 0, 4294967296)])]) (fuel := 600) okX7_fits (snX7_fits _ _ cB (Or.inr rfl)) (List.forall_mem_cons.mpr ⟨⟨_, _, rfl⟩, (fun q hq => by cases hq)⟩) (by decide) (by decide +kernel)
  · rcases hc with rfl | rfl
    · exact safe_of (ann := [(116, [(2, 1175, 0), (0, 1, 1), (0, 0, 39), (0, 0, 39), (0, 0, 39), (0, 0, 1)], [(0, 5, 0, 4294967296)])]) (fuel := 600) okX7_fits (snX7_fits _ _ cA (Or.inl rfl)) (List.forall_mem_cons.mpr ⟨⟨_, _, rfl⟩, (fun q hq => by cases hq)⟩) (by decide) (by decide +kernel)
    · exact safe_of (ann := [(116, [(2, 1175, 0), (0, 1, 1), (0, 0, 39), (0, 0, 39), (0, 0, 39), (0, 0, 1)], [(0, 5, 0, 4294967296)])]) (fuel := 600) okX7_fits (snX7_fits _ _ cB (Or.inr rfl)) (List.forall_mem_cons.mpr ⟨⟨_, _, rfl⟩, (fun q hq => by cases hq)⟩) (by decide) (by decide +kernel)
  · rcases hc with rfl | rfl
    · exact safe_of (ann := [(116, [(2, 1175, 0), (0, 2, 2), (0, 0, 39), (0, 0, 39), (0, 0, 39), (0, 0, 2)], [(0, 5, 0, 4294967296)])]) (fuel := 600) okX7_fits (snX7_fits _ _ cA (Or.inl rfl)) (List.forall_mem_cons.mpr ⟨⟨_, _, rfl⟩, (fun q hq => by cases hq)⟩) (by decide) (by decide +kernel)
    · exact safe_of (ann := [(116, [(2, 1175, 0), (0, 2, 2), (0, 0, 39), (0, 0, 39), (0, 0, 39), (0, 0, 2)], [(0, 5, 0, 4294967296)])]) (fuel := 600) okX7_fits (snX7_fits _ _ cB (Or.inr rfl)) (List.forall_mem_cons.mpr ⟨⟨_, _, rfl⟩, (fun q hq => by cases hq)⟩) (by decide) (by decide +kernel)
  · rcases hc with rfl | rfl
    · exact safe_of (ann := [(116, [(2, 1175, 0), (0, 3, 3), (0, 0, 39), (0, 0, 39), (0, 0, 39), (0, 0, 3)], [(0, 5, 0, 4294967296)])]) (fuel := 600) okX7_fits (snX7_fits _ _ cA (Or.inl rfl)) (List.forall_mem_cons.mpr ⟨⟨_, _, rfl⟩, (fun q hq => by cases hq)⟩) (by decide) (by decide +kernel)
    · exact safe_of (ann := [(116, [(2, 1175, 0), (0, 3, 3), (0, 0, 39), (0, 0, 39), (0, 0, 39), (0, 0, 3)], [(0, 5, 0, 4294967296)])]) (fuel := 600) okX7_fits (snX7_fits _ _ cB (Or.inr rfl)) (List.forall_mem_cons.mpr ⟨⟨_, _, rfl⟩, (fun q hq => by cases hq)⟩) (by decide) (by decide +kernel)
  · rcases hc with rfl | rfl
    · exact safe_of (ann := [(116, [(2, 1175, 0), (0, 4, 4), (0, 0, 39), (0, 0, 39), (0, 0, 39), (0, 0, 4)], [(0, 5, 0, 4294967296)])]) (fuel := 600) okX7_fits (snX7_fits _ _ cA (Or.inl rfl)) (List.forall_mem_cons.mpr ⟨⟨_, _, rfl⟩, (fun q hq => by cases hq)⟩) (by decide) (by decide +kernel)
    · exact safe_of (ann := [(116, [(2, 1175, 0), (0, 4, 4), (0, 0, 39), (0, 0, 39), (0, 0, 39), (0, 0, 4)], [(0, 5, 0, 4294967296)])]) (fuel := 600) okX7_fits (snX7_fits _ _ cB (Or.inr rfl)) (List.forall_mem_cons.mpr ⟨⟨_, _, rfl⟩, (fun q hq => by cases hq)⟩) (by decide) (by decide +kernel)
  · rcases hc with rfl | rfl
    · exact safe_of (ann := [(116, [(2, 1175, 0), (0, 5, 5), (0, 0, 39), (0, 0, 39), (0, 0, 39), (0, 0, 5)], [(0, 5, 0, 4294967296)])]) (fuel := 600) okX7_fits (snX7_fits _ _ cA (Or.inl rfl)) (List.forall_mem_cons.mpr ⟨⟨_, _, rfl⟩, (fun q hq => by cases hq)⟩) (by decide) (by decide +kernel)
    · exact safe_of (ann := [(116, [(2, 1175, 0), (0, 5, 5), (0, 0, 39), (0, 0, 39), (0, 0, 39), (0, 0, 5)], [(0, 5, 0, 4294967296)])]) (fuel := 600) okX7_fits (snX7_fits _ _ cB (Or.inr rfl)) (List.forall_mem_cons.mpr ⟨⟨_, _, rfl⟩, (fun q hq => by cases hq)⟩) (by decide) (by decide +kernel)
  · rcases hc with rfl | rfl
    · exact safe_of (ann := [(116, [(2, 1175, 0), (0, 1, 5), (0, 0, 39), (0, 0, 39), (0, 0, 39), (0, 0, 5)], [(0, 5, 0, 4294967296)])]) (fuel := 600) okX7_fits (snX7_fits _ _ cA (Or.inl rfl)) (List.forall_mem_cons.mpr ⟨⟨_, _, rfl⟩, (fun q hq => by cases hq)⟩) (by decide) (by decide +kernel)
    · exact safe_of (ann := [(116, [(2, 1175, 0), (0, 1, 5), (0, 0, 39), (0, 0, 39), (0, 0, 39), (0, 0, 5)], [(0, 5, 0, 4294967296)])]) (fuel := 600) okX7_fits (snX7_fits _ _ cB (Or.inr rfl)) (List.forall_mem_cons.mpr ⟨⟨_, _, rfl⟩, (fun q hq => by cases hq)⟩) (by decide) (by decide +kernel)
set_option maxRecDepth 100000 in
def adX7_grows_6 (D : KK) : List ACE := (0, 1, some (aAl 0)) :: (1, 3, some (aGetI D 7 47)) :: (4, 3, some (aIf bEq bNe 8)) :: (7, 1, some (aVret)) :: (8, 1, some (aIl 1)) :: (9, 1, some (aIc (1))) :: (10, 3, some (aCm bLe (fun C x y => bLt C y x) 110)) :: (13, 1, some (aAl 0)) :: (14, 3, some (aGetR [(1175, 165384)])) :: (17, 1, some (aAl 0)) :: (18, 3, some (aGetR [(1175, 26104)])) :: (21, 1, some (aIl 1)) :: (22, 1, some (aIc (1))) :: (23, 1, some (aBin fSub)) :: (24, 1, some (aIald D)) :: (25, 1, some (aIald D)) :: (26, 1, some (aAl 0)) :: (27, 3, some (aGetR [(1175, 329048)])) :: (30, 1, some (aAl 0)) :: (31, 3, some (aGetR [(1175, 26104)])) :: (34, 1, some (aIc (0))) :: (35, 1, some (aIald D)) :: (36, 1, some (aIald D)) :: (37, 3, some (aCm bNe bEq 110)) :: (40, 1, some (aAl 0)) :: (41, 3, some (aGetI D 7 42)) :: (44, 3, some (aIc (200))) :: (47, 3, some (aCm bNe bEq 56)) :: (50, 1, some (aAl 0)) :: (51, 1, some (aIc (1))) :: (52, 3, some (aPutZ D 7 47)) :: (55, 1, some (aVret)) :: (56, 1, some (aIc (0))) :: (57, 1, some (aIs 2)) :: (58, 0, none) :: (58, 1, some (aIl 2)) :: (59, 1, some (aIl 1)) :: (60, 3, some (aCm (fun C x y => bLe C y x) bLt 89)) :: (63, 1, some (aAl 0)) :: (64, 3, some (aGetR [(1175, 4916696)])) :: (67, 2, some (aIc (6))) :: (69, 1, some (aAl 0)) :: (70, 3, some (aGetI D 7 42)) :: (73, 1, some (aBin fMul)) :: (74, 1, some (aIl 2)) :: (75, 1, some (aBin fAdd)) :: (76, 1, some (aAl 0)) :: (77, 3, some (aGetR [(1175, 26104)])) :: (80, 1, some (aIl 2)) :: (81, 1, some (aIald D)) :: (82, 1, some (aIast D)) :: (83, 3, some (aInc 2 (1))) :: (86, 3, some (aGoto 58)) :: (89, 1, some (aAl 0)) :: (90, 3, some (aGetR [(1175, 820712)])) :: (93, 1, some (aAl 0)) :: (94, 3, some (aGetI D 7 42)) :: (97, 1, some (aIl 1)) :: (98, 1, some (aIast D)) :: (99, 1, some (aAl 0)) :: (100, 1, some (aDup)) :: (101, 3, some (aGetI D 7 42)) :: (104, 1, some (aIc (1))) :: (105, 1, some (aBin fAdd)) :: (106, 3, some (aPutI D 7 42)) :: (109, 1, some (aVret)) :: (110, 1, some (aIl 1)) :: (111, 1, some (aAl 0)) :: (112, 3, some (aGetI D 7 49)) :: (115, 3, some (aCm bNe bEq 119)) :: (118, 1, some (aVret)) :: (119, 1, some (aIc (0))) :: (120, 1, some (aIs 2)) :: (121, 0, none) :: (121, 1, some (aIl 2)) :: (122, 1, some (aAl 0)) :: (123, 3, some (aGetI D 7 6)) :: (126, 3, some (aCm (fun C x y => bLe C y x) bLt 186)) :: (129, 1, some (aAl 0)) :: (130, 1, some (aIl 1)) :: (131, 1, some (aIl 2)) :: (132, 3, some (aCall D 7 3 6 csX7_fits)) :: (135, 3, some (aIf bEq bNe 180)) :: (138, 1, some (aAl 0)) :: (139, 3, some (aGetR [(1175, 329128)])) :: (142, 1, some (aIl 2)) :: (143, 1, some (aIald D)) :: (144, 1, some (aAl 0)) :: (145, 3, some (aGetR [(1175, 329128)])) :: (148, 1, some (aAl 0)) :: (149, 3, some (aGetR [(1175, 26104)])) :: (152, 1, some (aIc (0))) :: (153, 1, some (aIald D)) :: (154, 1, some (aIald D)) :: (155, 1, some (aBin fSub)) :: (156, 1, some (aAl 0)) :: (157, 3, some (aGetI D 7 50)) :: (160, 3, some (aCm bLe (fun C x y => bLt C y x) 166)) :: (163, 3, some (aGoto 180)) :: (166, 1, some (aAl 0)) :: (167, 3, some (aGetR [(1175, 26104)])) :: (170, 1, some (aIl 1)) :: (171, 1, some (aIl 2)) :: (172, 1, some (aIast D)) :: (173, 1, some (aAl 0)) :: (174, 1, some (aIl 1)) :: (175, 1, some (aIc (1))) :: (176, 1, some (aBin fAdd)) :: (177, 3, some (aNo)) :: (180, 3, some (aInc 2 (1))) :: (183, 3, some (aGoto 121)) :: (186, 1, some (aVret)) :: []
set_option maxRecDepth 100000 in
set_option maxHeartbeats 4000000 in
theorem snX7_grows_6 (d : Nat) (W : List Nat) (c : Nat × Nat) (hc : c = cA ∨ c = cB) : SndAll (d, TYg, c, W) cdX7_grows (adX7_grows_6 (d, TYg, c, W)) := by
  unfold cdX7_grows adX7_grows_6
  refine sn_op sAl ?_
  refine sn_op sGetI ?_
  refine sn_op sIfEq ?_
  refine sn_op sVret ?_
  refine sn_op sIl ?_
  refine sn_op (sIc (n := 1) (by decide)) ?_
  refine sn_op sCmLe ?_
  refine sn_op sAl ?_
  refine sn_op sGetR ?_
  refine sn_op sAl ?_
  refine sn_op sGetR ?_
  refine sn_op sIl ?_
  refine sn_op (sIc (n := 1) (by decide)) ?_
  refine sn_op sIsub ?_
  refine sn_op sIald ?_
  refine sn_op sIald ?_
  refine sn_op sAl ?_
  refine sn_op sGetR ?_
  refine sn_op sAl ?_
  refine sn_op sGetR ?_
  refine sn_op (sIc (n := 0) (by decide)) ?_
  refine sn_op sIald ?_
  refine sn_op sIald ?_
  refine sn_op sCmNe ?_
  refine sn_op sAl ?_
  refine sn_op sGetI ?_
  refine sn_op (sIc (n := 200) (by decide)) ?_
  refine sn_op sCmNe ?_
  refine sn_op sAl ?_
  refine sn_op (sIc (n := 1) (by decide)) ?_
  refine sn_op sPutZ ?_
  refine sn_op sVret ?_
  refine sn_op (sIc (n := 0) (by decide)) ?_
  refine sn_op sIs ?_
  refine sn_st ?_
  refine sn_op sIl ?_
  refine sn_op sIl ?_
  refine sn_op sCmGe ?_
  refine sn_op sAl ?_
  refine sn_op sGetR ?_
  refine sn_op (sIc (n := 6) (by decide)) ?_
  refine sn_op sAl ?_
  refine sn_op sGetI ?_
  refine sn_op sImul ?_
  refine sn_op sIl ?_
  refine sn_op sIadd ?_
  refine sn_op sAl ?_
  refine sn_op sGetR ?_
  refine sn_op sIl ?_
  refine sn_op sIald ?_
  refine sn_op sIast ?_
  refine sn_op (sInc (n := 1) (by decide)) ?_
  refine sn_op sGoto ?_
  refine sn_op sAl ?_
  refine sn_op sGetR ?_
  refine sn_op sAl ?_
  refine sn_op sGetI ?_
  refine sn_op sIl ?_
  refine sn_op sIast ?_
  refine sn_op sAl ?_
  refine sn_op sDup ?_
  refine sn_op sGetI ?_
  refine sn_op (sIc (n := 1) (by decide)) ?_
  refine sn_op sIadd ?_
  refine sn_op sPutI ?_
  refine sn_op sVret ?_
  refine sn_op sIl ?_
  refine sn_op sAl ?_
  refine sn_op sGetI ?_
  refine sn_op sCmNe ?_
  refine sn_op sVret ?_
  refine sn_op (sIc (n := 0) (by decide)) ?_
  refine sn_op sIs ?_
  refine sn_st ?_
  refine sn_op sIl ?_
  refine sn_op sAl ?_
  refine sn_op sGetI ?_
  refine sn_op sCmGe ?_
  refine sn_op sAl ?_
  refine sn_op sIl ?_
  refine sn_op sIl ?_
  refine sn_op (sCI (sfX7_fits c hc) (by decide) (by decide +kernel)) ?_
  refine sn_op sIfEq ?_
  refine sn_op sAl ?_
  refine sn_op sGetR ?_
  refine sn_op sIl ?_
  refine sn_op sIald ?_
  refine sn_op sAl ?_
  refine sn_op sGetR ?_
  refine sn_op sAl ?_
  refine sn_op sGetR ?_
  refine sn_op (sIc (n := 0) (by decide)) ?_
  refine sn_op sIald ?_
  refine sn_op sIald ?_
  refine sn_op sIsub ?_
  refine sn_op sAl ?_
  refine sn_op sGetI ?_
  refine sn_op sCmLe ?_
  refine sn_op sGoto ?_
  refine sn_op sAl ?_
  refine sn_op sGetR ?_
  refine sn_op sIl ?_
  refine sn_op sIl ?_
  refine sn_op sIast ?_
  refine sn_op sAl ?_
  refine sn_op sIl ?_
  refine sn_op (sIc (n := 1) (by decide)) ?_
  refine sn_op sIadd ?_
  refine sn_op sNo ?_
  refine sn_op (sInc (n := 1) (by decide)) ?_
  refine sn_op sGoto ?_
  refine sn_op sVret ?_
  exact sn_nil
def csX7_grows_6 : List AC := [([(2, 1175, 0), (0, 6, 6)], 1, [((9, 0, 0), [], [])], [820712, 4916696, 184683594903, 206158431383], [((1175, 49), (6, 6))])]
set_option maxRecDepth 100000 in
set_option maxHeartbeats 4000000 in
theorem sfX7_grows_6 (c : Nat × Nat) (hc : c = cA ∨ c = cB) : ∀ ac ∈ csX7_grows_6, SafeC TYg c mX7_grows ac := by
  intro ac hac
  simp only [csX7_grows_6, List.mem_cons, List.not_mem_nil, or_false] at hac
  rcases hac with rfl
  · rcases hc with rfl | rfl
    · exact safe_ofF (ann := [(58, [(2, 1175, 0), (0, 6, 6), (0, 0, 6)], [(3, 0, 0, 2), (0, 2, 0, 4294967296), (1, 1175, 42, 4294967296)], [(3, 1, 193)])]) (fuel := 600) okX7_grows (snX7_grows_6 _ _ cA (Or.inl rfl)) (List.forall_mem_cons.mpr ⟨⟨_, _, rfl⟩, (fun q hq => by cases hq)⟩) (by decide) (by decide +kernel)
    · exact safe_ofF (ann := [(58, [(2, 1175, 0), (0, 6, 6), (0, 0, 6)], [(3, 0, 0, 2), (0, 2, 0, 4294967296), (1, 1175, 42, 4294967296)], [(3, 1, 193)])]) (fuel := 600) okX7_grows (snX7_grows_6 _ _ cB (Or.inr rfl)) (List.forall_mem_cons.mpr ⟨⟨_, _, rfl⟩, (fun q hq => by cases hq)⟩) (by decide) (by decide +kernel)
set_option maxRecDepth 100000 in
def adX7_grows_5 (D : KK) : List ACE := (0, 1, some (aAl 0)) :: (1, 3, some (aGetI D 7 47)) :: (4, 3, some (aIf bEq bNe 8)) :: (7, 1, some (aVret)) :: (8, 1, some (aIl 1)) :: (9, 1, some (aIc (1))) :: (10, 3, some (aCm bLe (fun C x y => bLt C y x) 110)) :: (13, 1, some (aAl 0)) :: (14, 3, some (aGetR [(1175, 165384)])) :: (17, 1, some (aAl 0)) :: (18, 3, some (aGetR [(1175, 26104)])) :: (21, 1, some (aIl 1)) :: (22, 1, some (aIc (1))) :: (23, 1, some (aBin fSub)) :: (24, 1, some (aIald D)) :: (25, 1, some (aIald D)) :: (26, 1, some (aAl 0)) :: (27, 3, some (aGetR [(1175, 329048)])) :: (30, 1, some (aAl 0)) :: (31, 3, some (aGetR [(1175, 26104)])) :: (34, 1, some (aIc (0))) :: (35, 1, some (aIald D)) :: (36, 1, some (aIald D)) :: (37, 3, some (aCm bNe bEq 110)) :: (40, 1, some (aAl 0)) :: (41, 3, some (aGetI D 7 42)) :: (44, 3, some (aIc (200))) :: (47, 3, some (aCm bNe bEq 56)) :: (50, 1, some (aAl 0)) :: (51, 1, some (aIc (1))) :: (52, 3, some (aPutZ D 7 47)) :: (55, 1, some (aVret)) :: (56, 1, some (aIc (0))) :: (57, 1, some (aIs 2)) :: (58, 0, none) :: (58, 1, some (aIl 2)) :: (59, 1, some (aIl 1)) :: (60, 3, some (aCm (fun C x y => bLe C y x) bLt 89)) :: (63, 1, some (aAl 0)) :: (64, 3, some (aGetR [(1175, 4916696)])) :: (67, 2, some (aIc (6))) :: (69, 1, some (aAl 0)) :: (70, 3, some (aGetI D 7 42)) :: (73, 1, some (aBin fMul)) :: (74, 1, some (aIl 2)) :: (75, 1, some (aBin fAdd)) :: (76, 1, some (aAl 0)) :: (77, 3, some (aGetR [(1175, 26104)])) :: (80, 1, some (aIl 2)) :: (81, 1, some (aIald D)) :: (82, 1, some (aIast D)) :: (83, 3, some (aInc 2 (1))) :: (86, 3, some (aGoto 58)) :: (89, 1, some (aAl 0)) :: (90, 3, some (aGetR [(1175, 820712)])) :: (93, 1, some (aAl 0)) :: (94, 3, some (aGetI D 7 42)) :: (97, 1, some (aIl 1)) :: (98, 1, some (aIast D)) :: (99, 1, some (aAl 0)) :: (100, 1, some (aDup)) :: (101, 3, some (aGetI D 7 42)) :: (104, 1, some (aIc (1))) :: (105, 1, some (aBin fAdd)) :: (106, 3, some (aPutI D 7 42)) :: (109, 1, some (aVret)) :: (110, 1, some (aIl 1)) :: (111, 1, some (aAl 0)) :: (112, 3, some (aGetI D 7 49)) :: (115, 3, some (aCm bNe bEq 119)) :: (118, 1, some (aVret)) :: (119, 1, some (aIc (0))) :: (120, 1, some (aIs 2)) :: (121, 0, none) :: (121, 1, some (aIl 2)) :: (122, 1, some (aAl 0)) :: (123, 3, some (aGetI D 7 6)) :: (126, 3, some (aCm (fun C x y => bLe C y x) bLt 186)) :: (129, 1, some (aAl 0)) :: (130, 1, some (aIl 1)) :: (131, 1, some (aIl 2)) :: (132, 3, some (aCall D 7 3 6 csX7_fits)) :: (135, 3, some (aIf bEq bNe 180)) :: (138, 1, some (aAl 0)) :: (139, 3, some (aGetR [(1175, 329128)])) :: (142, 1, some (aIl 2)) :: (143, 1, some (aIald D)) :: (144, 1, some (aAl 0)) :: (145, 3, some (aGetR [(1175, 329128)])) :: (148, 1, some (aAl 0)) :: (149, 3, some (aGetR [(1175, 26104)])) :: (152, 1, some (aIc (0))) :: (153, 1, some (aIald D)) :: (154, 1, some (aIald D)) :: (155, 1, some (aBin fSub)) :: (156, 1, some (aAl 0)) :: (157, 3, some (aGetI D 7 50)) :: (160, 3, some (aCm bLe (fun C x y => bLt C y x) 166)) :: (163, 3, some (aGoto 180)) :: (166, 1, some (aAl 0)) :: (167, 3, some (aGetR [(1175, 26104)])) :: (170, 1, some (aIl 1)) :: (171, 1, some (aIl 2)) :: (172, 1, some (aIast D)) :: (173, 1, some (aAl 0)) :: (174, 1, some (aIl 1)) :: (175, 1, some (aIc (1))) :: (176, 1, some (aBin fAdd)) :: (177, 3, some (aCall D 7 2 3 csX7_grows_6)) :: (180, 3, some (aInc 2 (1))) :: (183, 3, some (aGoto 121)) :: (186, 1, some (aVret)) :: []
set_option maxRecDepth 100000 in
set_option maxHeartbeats 4000000 in
theorem snX7_grows_5 (d : Nat) (W : List Nat) (c : Nat × Nat) (hc : c = cA ∨ c = cB) : SndAll (d, TYg, c, W) cdX7_grows (adX7_grows_5 (d, TYg, c, W)) := by
  unfold cdX7_grows adX7_grows_5
  refine sn_op sAl ?_
  refine sn_op sGetI ?_
  refine sn_op sIfEq ?_
  refine sn_op sVret ?_
  refine sn_op sIl ?_
  refine sn_op (sIc (n := 1) (by decide)) ?_
  refine sn_op sCmLe ?_
  refine sn_op sAl ?_
  refine sn_op sGetR ?_
  refine sn_op sAl ?_
  refine sn_op sGetR ?_
  refine sn_op sIl ?_
  refine sn_op (sIc (n := 1) (by decide)) ?_
  refine sn_op sIsub ?_
  refine sn_op sIald ?_
  refine sn_op sIald ?_
  refine sn_op sAl ?_
  refine sn_op sGetR ?_
  refine sn_op sAl ?_
  refine sn_op sGetR ?_
  refine sn_op (sIc (n := 0) (by decide)) ?_
  refine sn_op sIald ?_
  refine sn_op sIald ?_
  refine sn_op sCmNe ?_
  refine sn_op sAl ?_
  refine sn_op sGetI ?_
  refine sn_op (sIc (n := 200) (by decide)) ?_
  refine sn_op sCmNe ?_
  refine sn_op sAl ?_
  refine sn_op (sIc (n := 1) (by decide)) ?_
  refine sn_op sPutZ ?_
  refine sn_op sVret ?_
  refine sn_op (sIc (n := 0) (by decide)) ?_
  refine sn_op sIs ?_
  refine sn_st ?_
  refine sn_op sIl ?_
  refine sn_op sIl ?_
  refine sn_op sCmGe ?_
  refine sn_op sAl ?_
  refine sn_op sGetR ?_
  refine sn_op (sIc (n := 6) (by decide)) ?_
  refine sn_op sAl ?_
  refine sn_op sGetI ?_
  refine sn_op sImul ?_
  refine sn_op sIl ?_
  refine sn_op sIadd ?_
  refine sn_op sAl ?_
  refine sn_op sGetR ?_
  refine sn_op sIl ?_
  refine sn_op sIald ?_
  refine sn_op sIast ?_
  refine sn_op (sInc (n := 1) (by decide)) ?_
  refine sn_op sGoto ?_
  refine sn_op sAl ?_
  refine sn_op sGetR ?_
  refine sn_op sAl ?_
  refine sn_op sGetI ?_
  refine sn_op sIl ?_
  refine sn_op sIast ?_
  refine sn_op sAl ?_
  refine sn_op sDup ?_
  refine sn_op sGetI ?_
  refine sn_op (sIc (n := 1) (by decide)) ?_
  refine sn_op sIadd ?_
  refine sn_op sPutI ?_
  refine sn_op sVret ?_
  refine sn_op sIl ?_
  refine sn_op sAl ?_
  refine sn_op sGetI ?_
  refine sn_op sCmNe ?_
  refine sn_op sVret ?_
  refine sn_op (sIc (n := 0) (by decide)) ?_
  refine sn_op sIs ?_
  refine sn_st ?_
  refine sn_op sIl ?_
  refine sn_op sAl ?_
  refine sn_op sGetI ?_
  refine sn_op sCmGe ?_
  refine sn_op sAl ?_
  refine sn_op sIl ?_
  refine sn_op sIl ?_
  refine sn_op (sCI (sfX7_fits c hc) (by decide) (by decide +kernel)) ?_
  refine sn_op sIfEq ?_
  refine sn_op sAl ?_
  refine sn_op sGetR ?_
  refine sn_op sIl ?_
  refine sn_op sIald ?_
  refine sn_op sAl ?_
  refine sn_op sGetR ?_
  refine sn_op sAl ?_
  refine sn_op sGetR ?_
  refine sn_op (sIc (n := 0) (by decide)) ?_
  refine sn_op sIald ?_
  refine sn_op sIald ?_
  refine sn_op sIsub ?_
  refine sn_op sAl ?_
  refine sn_op sGetI ?_
  refine sn_op sCmLe ?_
  refine sn_op sGoto ?_
  refine sn_op sAl ?_
  refine sn_op sGetR ?_
  refine sn_op sIl ?_
  refine sn_op sIl ?_
  refine sn_op sIast ?_
  refine sn_op sAl ?_
  refine sn_op sIl ?_
  refine sn_op (sIc (n := 1) (by decide)) ?_
  refine sn_op sIadd ?_
  refine sn_op (sCV (sfX7_grows_6 c hc) (by decide) (by decide +kernel)) ?_
  refine sn_op (sInc (n := 1) (by decide)) ?_
  refine sn_op sGoto ?_
  refine sn_op sVret ?_
  exact sn_nil
def csX7_grows_5 : List AC := [([(2, 1175, 0), (0, 5, 5)], 3, [((9, 0, 0), [], [])], [26104, 820712, 4916696, 184683594903, 206158431383], [((1175, 49), (5, 6))])]
set_option maxRecDepth 100000 in
set_option maxHeartbeats 4000000 in
theorem sfX7_grows_5 (c : Nat × Nat) (hc : c = cA ∨ c = cB) : ∀ ac ∈ csX7_grows_5, SafeC TYg c mX7_grows ac := by
  intro ac hac
  simp only [csX7_grows_5, List.mem_cons, List.not_mem_nil, or_false] at hac
  rcases hac with rfl
  · rcases hc with rfl | rfl
    · exact safe_ofF (ann := [(58, [(2, 1175, 0), (0, 5, 5), (0, 0, 5)], [(3, 0, 0, 2), (0, 2, 0, 4294967296), (1, 1175, 42, 4294967296)], [(3, 1, 194)]), (121, [(2, 1175, 0), (0, 5, 5), (0, 0, 40)], [(3, 0, 0, 1), (0, 2, 0, 4294967296), (1, 1175, 49, 4294967296)], [(1, 3, -1)])]) (fuel := 600) okX7_grows (snX7_grows_5 _ _ cA (Or.inl rfl)) (List.forall_mem_cons.mpr ⟨⟨_, _, rfl⟩, List.forall_mem_cons.mpr ⟨⟨_, _, rfl⟩, (fun q hq => by cases hq)⟩⟩) (by decide) (by decide +kernel)
    · exact safe_ofF (ann := [(58, [(2, 1175, 0), (0, 5, 5), (0, 0, 5)], [(3, 0, 0, 2), (0, 2, 0, 4294967296), (1, 1175, 42, 4294967296)], [(3, 1, 194)]), (121, [(2, 1175, 0), (0, 5, 5), (0, 0, 40)], [(3, 0, 0, 1), (0, 2, 0, 4294967296), (1, 1175, 49, 4294967296)], [(1, 3, -1)])]) (fuel := 600) okX7_grows (snX7_grows_5 _ _ cB (Or.inr rfl)) (List.forall_mem_cons.mpr ⟨⟨_, _, rfl⟩, List.forall_mem_cons.mpr ⟨⟨_, _, rfl⟩, (fun q hq => by cases hq)⟩⟩) (by decide) (by decide +kernel)
set_option maxRecDepth 100000 in
def adX7_grows_4 (D : KK) : List ACE := (0, 1, some (aAl 0)) :: (1, 3, some (aGetI D 7 47)) :: (4, 3, some (aIf bEq bNe 8)) :: (7, 1, some (aVret)) :: (8, 1, some (aIl 1)) :: (9, 1, some (aIc (1))) :: (10, 3, some (aCm bLe (fun C x y => bLt C y x) 110)) :: (13, 1, some (aAl 0)) :: (14, 3, some (aGetR [(1175, 165384)])) :: (17, 1, some (aAl 0)) :: (18, 3, some (aGetR [(1175, 26104)])) :: (21, 1, some (aIl 1)) :: (22, 1, some (aIc (1))) :: (23, 1, some (aBin fSub)) :: (24, 1, some (aIald D)) :: (25, 1, some (aIald D)) :: (26, 1, some (aAl 0)) :: (27, 3, some (aGetR [(1175, 329048)])) :: (30, 1, some (aAl 0)) :: (31, 3, some (aGetR [(1175, 26104)])) :: (34, 1, some (aIc (0))) :: (35, 1, some (aIald D)) :: (36, 1, some (aIald D)) :: (37, 3, some (aCm bNe bEq 110)) :: (40, 1, some (aAl 0)) :: (41, 3, some (aGetI D 7 42)) :: (44, 3, some (aIc (200))) :: (47, 3, some (aCm bNe bEq 56)) :: (50, 1, some (aAl 0)) :: (51, 1, some (aIc (1))) :: (52, 3, some (aPutZ D 7 47)) :: (55, 1, some (aVret)) :: (56, 1, some (aIc (0))) :: (57, 1, some (aIs 2)) :: (58, 0, none) :: (58, 1, some (aIl 2)) :: (59, 1, some (aIl 1)) :: (60, 3, some (aCm (fun C x y => bLe C y x) bLt 89)) :: (63, 1, some (aAl 0)) :: (64, 3, some (aGetR [(1175, 4916696)])) :: (67, 2, some (aIc (6))) :: (69, 1, some (aAl 0)) :: (70, 3, some (aGetI D 7 42)) :: (73, 1, some (aBin fMul)) :: (74, 1, some (aIl 2)) :: (75, 1, some (aBin fAdd)) :: (76, 1, some (aAl 0)) :: (77, 3, some (aGetR [(1175, 26104)])) :: (80, 1, some (aIl 2)) :: (81, 1, some (aIald D)) :: (82, 1, some (aIast D)) :: (83, 3, some (aInc 2 (1))) :: (86, 3, some (aGoto 58)) :: (89, 1, some (aAl 0)) :: (90, 3, some (aGetR [(1175, 820712)])) :: (93, 1, some (aAl 0)) :: (94, 3, some (aGetI D 7 42)) :: (97, 1, some (aIl 1)) :: (98, 1, some (aIast D)) :: (99, 1, some (aAl 0)) :: (100, 1, some (aDup)) :: (101, 3, some (aGetI D 7 42)) :: (104, 1, some (aIc (1))) :: (105, 1, some (aBin fAdd)) :: (106, 3, some (aPutI D 7 42)) :: (109, 1, some (aVret)) :: (110, 1, some (aIl 1)) :: (111, 1, some (aAl 0)) :: (112, 3, some (aGetI D 7 49)) :: (115, 3, some (aCm bNe bEq 119)) :: (118, 1, some (aVret)) :: (119, 1, some (aIc (0))) :: (120, 1, some (aIs 2)) :: (121, 0, none) :: (121, 1, some (aIl 2)) :: (122, 1, some (aAl 0)) :: (123, 3, some (aGetI D 7 6)) :: (126, 3, some (aCm (fun C x y => bLe C y x) bLt 186)) :: (129, 1, some (aAl 0)) :: (130, 1, some (aIl 1)) :: (131, 1, some (aIl 2)) :: (132, 3, some (aCall D 7 3 6 csX7_fits)) :: (135, 3, some (aIf bEq bNe 180)) :: (138, 1, some (aAl 0)) :: (139, 3, some (aGetR [(1175, 329128)])) :: (142, 1, some (aIl 2)) :: (143, 1, some (aIald D)) :: (144, 1, some (aAl 0)) :: (145, 3, some (aGetR [(1175, 329128)])) :: (148, 1, some (aAl 0)) :: (149, 3, some (aGetR [(1175, 26104)])) :: (152, 1, some (aIc (0))) :: (153, 1, some (aIald D)) :: (154, 1, some (aIald D)) :: (155, 1, some (aBin fSub)) :: (156, 1, some (aAl 0)) :: (157, 3, some (aGetI D 7 50)) :: (160, 3, some (aCm bLe (fun C x y => bLt C y x) 166)) :: (163, 3, some (aGoto 180)) :: (166, 1, some (aAl 0)) :: (167, 3, some (aGetR [(1175, 26104)])) :: (170, 1, some (aIl 1)) :: (171, 1, some (aIl 2)) :: (172, 1, some (aIast D)) :: (173, 1, some (aAl 0)) :: (174, 1, some (aIl 1)) :: (175, 1, some (aIc (1))) :: (176, 1, some (aBin fAdd)) :: (177, 3, some (aCall D 7 2 3 csX7_grows_5)) :: (180, 3, some (aInc 2 (1))) :: (183, 3, some (aGoto 121)) :: (186, 1, some (aVret)) :: []
set_option maxRecDepth 100000 in
set_option maxHeartbeats 4000000 in
theorem snX7_grows_4 (d : Nat) (W : List Nat) (c : Nat × Nat) (hc : c = cA ∨ c = cB) : SndAll (d, TYg, c, W) cdX7_grows (adX7_grows_4 (d, TYg, c, W)) := by
  unfold cdX7_grows adX7_grows_4
  refine sn_op sAl ?_
  refine sn_op sGetI ?_
  refine sn_op sIfEq ?_
  refine sn_op sVret ?_
  refine sn_op sIl ?_
  refine sn_op (sIc (n := 1) (by decide)) ?_
  refine sn_op sCmLe ?_
  refine sn_op sAl ?_
  refine sn_op sGetR ?_
  refine sn_op sAl ?_
  refine sn_op sGetR ?_
  refine sn_op sIl ?_
  refine sn_op (sIc (n := 1) (by decide)) ?_
  refine sn_op sIsub ?_
  refine sn_op sIald ?_
  refine sn_op sIald ?_
  refine sn_op sAl ?_
  refine sn_op sGetR ?_
  refine sn_op sAl ?_
  refine sn_op sGetR ?_
  refine sn_op (sIc (n := 0) (by decide)) ?_
  refine sn_op sIald ?_
  refine sn_op sIald ?_
  refine sn_op sCmNe ?_
  refine sn_op sAl ?_
  refine sn_op sGetI ?_
  refine sn_op (sIc (n := 200) (by decide)) ?_
  refine sn_op sCmNe ?_
  refine sn_op sAl ?_
  refine sn_op (sIc (n := 1) (by decide)) ?_
  refine sn_op sPutZ ?_
  refine sn_op sVret ?_
  refine sn_op (sIc (n := 0) (by decide)) ?_
  refine sn_op sIs ?_
  refine sn_st ?_
  refine sn_op sIl ?_
  refine sn_op sIl ?_
  refine sn_op sCmGe ?_
  refine sn_op sAl ?_
  refine sn_op sGetR ?_
  refine sn_op (sIc (n := 6) (by decide)) ?_
  refine sn_op sAl ?_
  refine sn_op sGetI ?_
  refine sn_op sImul ?_
  refine sn_op sIl ?_
  refine sn_op sIadd ?_
  refine sn_op sAl ?_
  refine sn_op sGetR ?_
  refine sn_op sIl ?_
  refine sn_op sIald ?_
  refine sn_op sIast ?_
  refine sn_op (sInc (n := 1) (by decide)) ?_
  refine sn_op sGoto ?_
  refine sn_op sAl ?_
  refine sn_op sGetR ?_
  refine sn_op sAl ?_
  refine sn_op sGetI ?_
  refine sn_op sIl ?_
  refine sn_op sIast ?_
  refine sn_op sAl ?_
  refine sn_op sDup ?_
  refine sn_op sGetI ?_
  refine sn_op (sIc (n := 1) (by decide)) ?_
  refine sn_op sIadd ?_
  refine sn_op sPutI ?_
  refine sn_op sVret ?_
  refine sn_op sIl ?_
  refine sn_op sAl ?_
  refine sn_op sGetI ?_
  refine sn_op sCmNe ?_
  refine sn_op sVret ?_
  refine sn_op (sIc (n := 0) (by decide)) ?_
  refine sn_op sIs ?_
  refine sn_st ?_
  refine sn_op sIl ?_
  refine sn_op sAl ?_
  refine sn_op sGetI ?_
  refine sn_op sCmGe ?_
  refine sn_op sAl ?_
  refine sn_op sIl ?_
  refine sn_op sIl ?_
  refine sn_op (sCI (sfX7_fits c hc) (by decide) (by decide +kernel)) ?_
  refine sn_op sIfEq ?_
  refine sn_op sAl ?_
  refine sn_op sGetR ?_
  refine sn_op sIl ?_
  refine sn_op sIald ?_
  refine sn_op sAl ?_
  refine sn_op sGetR ?_
  refine sn_op sAl ?_
  refine sn_op sGetR ?_
  refine sn_op (sIc (n := 0) (by decide)) ?_
  refine sn_op sIald ?_
  refine sn_op sIald ?_
  refine sn_op sIsub ?_
  refine sn_op sAl ?_
  refine sn_op sGetI ?_
  refine sn_op sCmLe ?_
  refine sn_op sGoto ?_
  refine sn_op sAl ?_
  refine sn_op sGetR ?_
  refine sn_op sIl ?_
  refine sn_op sIl ?_
  refine sn_op sIast ?_
  refine sn_op sAl ?_
  refine sn_op sIl ?_
  refine sn_op (sIc (n := 1) (by decide)) ?_
  refine sn_op sIadd ?_
  refine sn_op (sCV (sfX7_grows_5 c hc) (by decide) (by decide +kernel)) ?_
  refine sn_op (sInc (n := 1) (by decide)) ?_
  refine sn_op sGoto ?_
  refine sn_op sVret ?_
  exact sn_nil
def csX7_grows_4 : List AC := [([(2, 1175, 0), (0, 4, 4)], 4, [((9, 0, 0), [], [])], [26104, 820712, 4916696, 184683594903, 206158431383], [((1175, 49), (4, 6))])]
set_option maxRecDepth 100000 in
set_option maxHeartbeats 4000000 in
theorem sfX7_grows_4 (c : Nat × Nat) (hc : c = cA ∨ c = cB) : ∀ ac ∈ csX7_grows_4, SafeC TYg c mX7_grows ac := by
  intro ac hac
  simp only [csX7_grows_4, List.mem_cons, List.not_mem_nil, or_false] at hac
  rcases hac with rfl
  · rcases hc with rfl | rfl
    · exact safe_ofF (ann := [(58, [(2, 1175, 0), (0, 4, 4), (0, 0, 4)], [(3, 0, 0, 2), (0, 2, 0, 4294967296), (1, 1175, 42, 4294967296)], [(3, 1, 195)]), (121, [(2, 1175, 0), (0, 4, 4), (0, 0, 40)], [(3, 0, 0, 1), (0, 2, 0, 4294967296), (1, 1175, 49, 4294967296)], [(1, 3, -1)])]) (fuel := 600) okX7_grows (snX7_grows_4 _ _ cA (Or.inl rfl)) (List.forall_mem_cons.mpr ⟨⟨_, _, rfl⟩, List.forall_mem_cons.mpr ⟨⟨_, _, rfl⟩, (fun q hq => by cases hq)⟩⟩) (by decide) (by decide +kernel)
    · exact safe_ofF (ann := [(58, [(2, 1175, 0), (0, 4, 4), (0, 0, 4)], [(3, 0, 0, 2), (0, 2, 0, 4294967296), (1, 1175, 42, 4294967296)], [(3, 1, 195)]), (121, [(2, 1175, 0), (0, 4, 4), (0, 0, 40)], [(3, 0, 0, 1), (0, 2, 0, 4294967296), (1, 1175, 49, 4294967296)], [(1, 3, -1)])]) (fuel := 600) okX7_grows (snX7_grows_4 _ _ cB (Or.inr rfl)) (List.forall_mem_cons.mpr ⟨⟨_, _, rfl⟩, List.forall_mem_cons.mpr ⟨⟨_, _, rfl⟩, (fun q hq => by cases hq)⟩⟩) (by decide) (by decide +kernel)
set_option maxRecDepth 100000 in
def adX7_grows_3 (D : KK) : List ACE := (0, 1, some (aAl 0)) :: (1, 3, some (aGetI D 7 47)) :: (4, 3, some (aIf bEq bNe 8)) :: (7, 1, some (aVret)) :: (8, 1, some (aIl 1)) :: (9, 1, some (aIc (1))) :: (10, 3, some (aCm bLe (fun C x y => bLt C y x) 110)) :: (13, 1, some (aAl 0)) :: (14, 3, some (aGetR [(1175, 165384)])) :: (17, 1, some (aAl 0)) :: (18, 3, some (aGetR [(1175, 26104)])) :: (21, 1, some (aIl 1)) :: (22, 1, some (aIc (1))) :: (23, 1, some (aBin fSub)) :: (24, 1, some (aIald D)) :: (25, 1, some (aIald D)) :: (26, 1, some (aAl 0)) :: (27, 3, some (aGetR [(1175, 329048)])) :: (30, 1, some (aAl 0)) :: (31, 3, some (aGetR [(1175, 26104)])) :: (34, 1, some (aIc (0))) :: (35, 1, some (aIald D)) :: (36, 1, some (aIald D)) :: (37, 3, some (aCm bNe bEq 110)) :: (40, 1, some (aAl 0)) :: (41, 3, some (aGetI D 7 42)) :: (44, 3, some (aIc (200))) :: (47, 3, some (aCm bNe bEq 56)) :: (50, 1, some (aAl 0)) :: (51, 1, some (aIc (1))) :: (52, 3, some (aPutZ D 7 47)) :: (55, 1, some (aVret)) :: (56, 1, some (aIc (0))) :: (57, 1, some (aIs 2)) :: (58, 0, none) :: (58, 1, some (aIl 2)) :: (59, 1, some (aIl 1)) :: (60, 3, some (aCm (fun C x y => bLe C y x) bLt 89)) :: (63, 1, some (aAl 0)) :: (64, 3, some (aGetR [(1175, 4916696)])) :: (67, 2, some (aIc (6))) :: (69, 1, some (aAl 0)) :: (70, 3, some (aGetI D 7 42)) :: (73, 1, some (aBin fMul)) :: (74, 1, some (aIl 2)) :: (75, 1, some (aBin fAdd)) :: (76, 1, some (aAl 0)) :: (77, 3, some (aGetR [(1175, 26104)])) :: (80, 1, some (aIl 2)) :: (81, 1, some (aIald D)) :: (82, 1, some (aIast D)) :: (83, 3, some (aInc 2 (1))) :: (86, 3, some (aGoto 58)) :: (89, 1, some (aAl 0)) :: (90, 3, some (aGetR [(1175, 820712)])) :: (93, 1, some (aAl 0)) :: (94, 3, some (aGetI D 7 42)) :: (97, 1, some (aIl 1)) :: (98, 1, some (aIast D)) :: (99, 1, some (aAl 0)) :: (100, 1, some (aDup)) :: (101, 3, some (aGetI D 7 42)) :: (104, 1, some (aIc (1))) :: (105, 1, some (aBin fAdd)) :: (106, 3, some (aPutI D 7 42)) :: (109, 1, some (aVret)) :: (110, 1, some (aIl 1)) :: (111, 1, some (aAl 0)) :: (112, 3, some (aGetI D 7 49)) :: (115, 3, some (aCm bNe bEq 119)) :: (118, 1, some (aVret)) :: (119, 1, some (aIc (0))) :: (120, 1, some (aIs 2)) :: (121, 0, none) :: (121, 1, some (aIl 2)) :: (122, 1, some (aAl 0)) :: (123, 3, some (aGetI D 7 6)) :: (126, 3, some (aCm (fun C x y => bLe C y x) bLt 186)) :: (129, 1, some (aAl 0)) :: (130, 1, some (aIl 1)) :: (131, 1, some (aIl 2)) :: (132, 3, some (aCall D 7 3 6 csX7_fits)) :: (135, 3, some (aIf bEq bNe 180)) :: (138, 1, some (aAl 0)) :: (139, 3, some (aGetR [(1175, 329128)])) :: (142, 1, some (aIl 2)) :: (143, 1, some (aIald D)) :: (144, 1, some (aAl 0)) :: (145, 3, some (aGetR [(1175, 329128)])) :: (148, 1, some (aAl 0)) :: (149, 3, some (aGetR [(1175, 26104)])) :: (152, 1, some (aIc (0))) :: (153, 1, some (aIald D)) :: (154, 1, some (aIald D)) :: (155, 1, some (aBin fSub)) :: (156, 1, some (aAl 0)) :: (157, 3, some (aGetI D 7 50)) :: (160, 3, some (aCm bLe (fun C x y => bLt C y x) 166)) :: (163, 3, some (aGoto 180)) :: (166, 1, some (aAl 0)) :: (167, 3, some (aGetR [(1175, 26104)])) :: (170, 1, some (aIl 1)) :: (171, 1, some (aIl 2)) :: (172, 1, some (aIast D)) :: (173, 1, some (aAl 0)) :: (174, 1, some (aIl 1)) :: (175, 1, some (aIc (1))) :: (176, 1, some (aBin fAdd)) :: (177, 3, some (aCall D 7 2 3 csX7_grows_4)) :: (180, 3, some (aInc 2 (1))) :: (183, 3, some (aGoto 121)) :: (186, 1, some (aVret)) :: []
set_option maxRecDepth 100000 in
set_option maxHeartbeats 4000000 in
theorem snX7_grows_3 (d : Nat) (W : List Nat) (c : Nat × Nat) (hc : c = cA ∨ c = cB) : SndAll (d, TYg, c, W) cdX7_grows (adX7_grows_3 (d, TYg, c, W)) := by
  unfold cdX7_grows adX7_grows_3
  refine sn_op sAl ?_
  refine sn_op sGetI ?_
  refine sn_op sIfEq ?_
  refine sn_op sVret ?_
  refine sn_op sIl ?_
  refine sn_op (sIc (n := 1) (by decide)) ?_
  refine sn_op sCmLe ?_
  refine sn_op sAl ?_
  refine sn_op sGetR ?_
  refine sn_op sAl ?_
  refine sn_op sGetR ?_
  refine sn_op sIl ?_
  refine sn_op (sIc (n := 1) (by decide)) ?_
  refine sn_op sIsub ?_
  refine sn_op sIald ?_
  refine sn_op sIald ?_
  refine sn_op sAl ?_
  refine sn_op sGetR ?_
  refine sn_op sAl ?_
  refine sn_op sGetR ?_
  refine sn_op (sIc (n := 0) (by decide)) ?_
  refine sn_op sIald ?_
  refine sn_op sIald ?_
  refine sn_op sCmNe ?_
  refine sn_op sAl ?_
  refine sn_op sGetI ?_
  refine sn_op (sIc (n := 200) (by decide)) ?_
  refine sn_op sCmNe ?_
  refine sn_op sAl ?_
  refine sn_op (sIc (n := 1) (by decide)) ?_
  refine sn_op sPutZ ?_
  refine sn_op sVret ?_
  refine sn_op (sIc (n := 0) (by decide)) ?_
  refine sn_op sIs ?_
  refine sn_st ?_
  refine sn_op sIl ?_
  refine sn_op sIl ?_
  refine sn_op sCmGe ?_
  refine sn_op sAl ?_
  refine sn_op sGetR ?_
  refine sn_op (sIc (n := 6) (by decide)) ?_
  refine sn_op sAl ?_
  refine sn_op sGetI ?_
  refine sn_op sImul ?_
  refine sn_op sIl ?_
  refine sn_op sIadd ?_
  refine sn_op sAl ?_
  refine sn_op sGetR ?_
  refine sn_op sIl ?_
  refine sn_op sIald ?_
  refine sn_op sIast ?_
  refine sn_op (sInc (n := 1) (by decide)) ?_
  refine sn_op sGoto ?_
  refine sn_op sAl ?_
  refine sn_op sGetR ?_
  refine sn_op sAl ?_
  refine sn_op sGetI ?_
  refine sn_op sIl ?_
  refine sn_op sIast ?_
  refine sn_op sAl ?_
  refine sn_op sDup ?_
  refine sn_op sGetI ?_
  refine sn_op (sIc (n := 1) (by decide)) ?_
  refine sn_op sIadd ?_
  refine sn_op sPutI ?_
  refine sn_op sVret ?_
  refine sn_op sIl ?_
  refine sn_op sAl ?_
  refine sn_op sGetI ?_
  refine sn_op sCmNe ?_
  refine sn_op sVret ?_
  refine sn_op (sIc (n := 0) (by decide)) ?_
  refine sn_op sIs ?_
  refine sn_st ?_
  refine sn_op sIl ?_
  refine sn_op sAl ?_
  refine sn_op sGetI ?_
  refine sn_op sCmGe ?_
  refine sn_op sAl ?_
  refine sn_op sIl ?_
  refine sn_op sIl ?_
  refine sn_op (sCI (sfX7_fits c hc) (by decide) (by decide +kernel)) ?_
  refine sn_op sIfEq ?_
  refine sn_op sAl ?_
  refine sn_op sGetR ?_
  refine sn_op sIl ?_
  refine sn_op sIald ?_
  refine sn_op sAl ?_
  refine sn_op sGetR ?_
  refine sn_op sAl ?_
  refine sn_op sGetR ?_
  refine sn_op (sIc (n := 0) (by decide)) ?_
  refine sn_op sIald ?_
  refine sn_op sIald ?_
  refine sn_op sIsub ?_
  refine sn_op sAl ?_
  refine sn_op sGetI ?_
  refine sn_op sCmLe ?_
  refine sn_op sGoto ?_
  refine sn_op sAl ?_
  refine sn_op sGetR ?_
  refine sn_op sIl ?_
  refine sn_op sIl ?_
  refine sn_op sIast ?_
  refine sn_op sAl ?_
  refine sn_op sIl ?_
  refine sn_op (sIc (n := 1) (by decide)) ?_
  refine sn_op sIadd ?_
  refine sn_op (sCV (sfX7_grows_4 c hc) (by decide) (by decide +kernel)) ?_
  refine sn_op (sInc (n := 1) (by decide)) ?_
  refine sn_op sGoto ?_
  refine sn_op sVret ?_
  exact sn_nil
def csX7_grows_3 : List AC := [([(2, 1175, 0), (0, 3, 3)], 5, [((9, 0, 0), [], [])], [26104, 820712, 4916696, 184683594903, 206158431383], [((1175, 49), (3, 6))])]
set_option maxRecDepth 100000 in
set_option maxHeartbeats 4000000 in
theorem sfX7_grows_3 (c : Nat × Nat) (hc : c = cA ∨ c = cB) : ∀ ac ∈ csX7_grows_3, SafeC TYg c mX7_grows ac := by
  intro ac hac
  simp only [csX7_grows_3, List.mem_cons, List.not_mem_nil, or_false] at hac
  rcases hac with rfl
  · rcases hc with rfl | rfl
    · exact safe_ofF (ann := [(58, [(2, 1175, 0), (0, 3, 3), (0, 0, 3)], [(3, 0, 0, 2), (0, 2, 0, 4294967296), (1, 1175, 42, 4294967296)], [(3, 1, 196)]), (121, [(2, 1175, 0), (0, 3, 3), (0, 0, 40)], [(3, 0, 0, 1), (0, 2, 0, 4294967296), (1, 1175, 49, 4294967296)], [(1, 3, -1)])]) (fuel := 600) okX7_grows (snX7_grows_3 _ _ cA (Or.inl rfl)) (List.forall_mem_cons.mpr ⟨⟨_, _, rfl⟩, List.forall_mem_cons.mpr ⟨⟨_, _, rfl⟩, (fun q hq => by cases hq)⟩⟩) (by decide) (by decide +kernel)
    · exact safe_ofF (ann := [(58, [(2, 1175, 0), (0, 3, 3), (0, 0, 3)], [(3, 0, 0, 2), (0, 2, 0, 4294967296), (1, 1175, 42, 4294967296)], [(3, 1, 196)]), (121, [(2, 1175, 0), (0, 3, 3), (0, 0, 40)], [(3, 0, 0, 1), (0, 2, 0, 4294967296), (1, 1175, 49, 4294967296)], [(1, 3, -1)])]) (fuel := 600) okX7_grows (snX7_grows_3 _ _ cB (Or.inr rfl)) (List.forall_mem_cons.mpr ⟨⟨_, _, rfl⟩, List.forall_mem_cons.mpr ⟨⟨_, _, rfl⟩, (fun q hq => by cases hq)⟩⟩) (by decide) (by decide +kernel)
set_option maxRecDepth 100000 in
def adX7_grows_2 (D : KK) : List ACE := (0, 1, some (aAl 0)) :: (1, 3, some (aGetI D 7 47)) :: (4, 3, some (aIf bEq bNe 8)) :: (7, 1, some (aVret)) :: (8, 1, some (aIl 1)) :: (9, 1, some (aIc (1))) :: (10, 3, some (aCm bLe (fun C x y => bLt C y x) 110)) :: (13, 1, some (aAl 0)) :: (14, 3, some (aGetR [(1175, 165384)])) :: (17, 1, some (aAl 0)) :: (18, 3, some (aGetR [(1175, 26104)])) :: (21, 1, some (aIl 1)) :: (22, 1, some (aIc (1))) :: (23, 1, some (aBin fSub)) :: (24, 1, some (aIald D)) :: (25, 1, some (aIald D)) :: (26, 1, some (aAl 0)) :: (27, 3, some (aGetR [(1175, 329048)])) :: (30, 1, some (aAl 0)) :: (31, 3, some (aGetR [(1175, 26104)])) :: (34, 1, some (aIc (0))) :: (35, 1, some (aIald D)) :: (36, 1, some (aIald D)) :: (37, 3, some (aCm bNe bEq 110)) :: (40, 1, some (aAl 0)) :: (41, 3, some (aGetI D 7 42)) :: (44, 3, some (aIc (200))) :: (47, 3, some (aCm bNe bEq 56)) :: (50, 1, some (aAl 0)) :: (51, 1, some (aIc (1))) :: (52, 3, some (aPutZ D 7 47)) :: (55, 1, some (aVret)) :: (56, 1, some (aIc (0))) :: (57, 1, some (aIs 2)) :: (58, 0, none) :: (58, 1, some (aIl 2)) :: (59, 1, some (aIl 1)) :: (60, 3, some (aCm (fun C x y => bLe C y x) bLt 89)) :: (63, 1, some (aAl 0)) :: (64, 3, some (aGetR [(1175, 4916696)])) :: (67, 2, some (aIc (6))) :: (69, 1, some (aAl 0)) :: (70, 3, some (aGetI D 7 42)) :: (73, 1, some (aBin fMul)) :: (74, 1, some (aIl 2)) :: (75, 1, some (aBin fAdd)) :: (76, 1, some (aAl 0)) :: (77, 3, some (aGetR [(1175, 26104)])) :: (80, 1, some (aIl 2)) :: (81, 1, some (aIald D)) :: (82, 1, some (aIast D)) :: (83, 3, some (aInc 2 (1))) :: (86, 3, some (aGoto 58)) :: (89, 1, some (aAl 0)) :: (90, 3, some (aGetR [(1175, 820712)])) :: (93, 1, some (aAl 0)) :: (94, 3, some (aGetI D 7 42)) :: (97, 1, some (aIl 1)) :: (98, 1, some (aIast D)) :: (99, 1, some (aAl 0)) :: (100, 1, some (aDup)) :: (101, 3, some (aGetI D 7 42)) :: (104, 1, some (aIc (1))) :: (105, 1, some (aBin fAdd)) :: (106, 3, some (aPutI D 7 42)) :: (109, 1, some (aVret)) :: (110, 1, some (aIl 1)) :: (111, 1, some (aAl 0)) :: (112, 3, some (aGetI D 7 49)) :: (115, 3, some (aCm bNe bEq 119)) :: (118, 1, some (aVret)) :: (119, 1, some (aIc (0))) :: (120, 1, some (aIs 2)) :: (121, 0, none) :: (121, 1, some (aIl 2)) :: (122, 1, some (aAl 0)) :: (123, 3, some (aGetI D 7 6)) :: (126, 3, some (aCm (fun C x y => bLe C y x) bLt 186)) :: (129, 1, some (aAl 0)) :: (130, 1, some (aIl 1)) :: (131, 1, some (aIl 2)) :: (132, 3, some (aCall D 7 3 6 csX7_fits)) :: (135, 3, some (aIf bEq bNe 180)) :: (138, 1, some (aAl 0)) :: (139, 3, some (aGetR [(1175, 329128)])) :: (142, 1, some (aIl 2)) :: (143, 1, some (aIald D)) :: (144, 1, some (aAl 0)) :: (145, 3, some (aGetR [(1175, 329128)])) :: (148, 1, some (aAl 0)) :: (149, 3, some (aGetR [(1175, 26104)])) :: (152, 1, some (aIc (0))) :: (153, 1, some (aIald D)) :: (154, 1, some (aIald D)) :: (155, 1, some (aBin fSub)) :: (156, 1, some (aAl 0)) :: (157, 3, some (aGetI D 7 50)) :: (160, 3, some (aCm bLe (fun C x y => bLt C y x) 166)) :: (163, 3, some (aGoto 180)) :: (166, 1, some (aAl 0)) :: (167, 3, some (aGetR [(1175, 26104)])) :: (170, 1, some (aIl 1)) :: (171, 1, some (aIl 2)) :: (172, 1, some (aIast D)) :: (173, 1, some (aAl 0)) :: (174, 1, some (aIl 1)) :: (175, 1, some (aIc (1))) :: (176, 1, some (aBin fAdd)) :: (177, 3, some (aCall D 7 2 3 csX7_grows_3)) :: (180, 3, some (aInc 2 (1))) :: (183, 3, some (aGoto 121)) :: (186, 1, some (aVret)) :: []
set_option maxRecDepth 100000 in
set_option maxHeartbeats 4000000 in
theorem snX7_grows_2 (d : Nat) (W : List Nat) (c : Nat × Nat) (hc : c = cA ∨ c = cB) : SndAll (d, TYg, c, W) cdX7_grows (adX7_grows_2 (d, TYg, c, W)) := by
  unfold cdX7_grows adX7_grows_2
  refine sn_op sAl ?_
  refine sn_op sGetI ?_
  refine sn_op sIfEq ?_
  refine sn_op sVret ?_
  refine sn_op sIl ?_
  refine sn_op (sIc (n := 1) (by decide)) ?_
  refine sn_op sCmLe ?_
  refine sn_op sAl ?_
  refine sn_op sGetR ?_
  refine sn_op sAl ?_
  refine sn_op sGetR ?_
  refine sn_op sIl ?_
  refine sn_op (sIc (n := 1) (by decide)) ?_
  refine sn_op sIsub ?_
  refine sn_op sIald ?_
  refine sn_op sIald ?_
  refine sn_op sAl ?_
  refine sn_op sGetR ?_
  refine sn_op sAl ?_
  refine sn_op sGetR ?_
  refine sn_op (sIc (n := 0) (by decide)) ?_
  refine sn_op sIald ?_
  refine sn_op sIald ?_
  refine sn_op sCmNe ?_
  refine sn_op sAl ?_
  refine sn_op sGetI ?_
  refine sn_op (sIc (n := 200) (by decide)) ?_
  refine sn_op sCmNe ?_
  refine sn_op sAl ?_
  refine sn_op (sIc (n := 1) (by decide)) ?_
  refine sn_op sPutZ ?_
  refine sn_op sVret ?_
  refine sn_op (sIc (n := 0) (by decide)) ?_
  refine sn_op sIs ?_
  refine sn_st ?_
  refine sn_op sIl ?_
  refine sn_op sIl ?_
  refine sn_op sCmGe ?_
  refine sn_op sAl ?_
  refine sn_op sGetR ?_
  refine sn_op (sIc (n := 6) (by decide)) ?_
  refine sn_op sAl ?_
  refine sn_op sGetI ?_
  refine sn_op sImul ?_
  refine sn_op sIl ?_
  refine sn_op sIadd ?_
  refine sn_op sAl ?_
  refine sn_op sGetR ?_
  refine sn_op sIl ?_
  refine sn_op sIald ?_
  refine sn_op sIast ?_
  refine sn_op (sInc (n := 1) (by decide)) ?_
  refine sn_op sGoto ?_
  refine sn_op sAl ?_
  refine sn_op sGetR ?_
  refine sn_op sAl ?_
  refine sn_op sGetI ?_
  refine sn_op sIl ?_
  refine sn_op sIast ?_
  refine sn_op sAl ?_
  refine sn_op sDup ?_
  refine sn_op sGetI ?_
  refine sn_op (sIc (n := 1) (by decide)) ?_
  refine sn_op sIadd ?_
  refine sn_op sPutI ?_
  refine sn_op sVret ?_
  refine sn_op sIl ?_
  refine sn_op sAl ?_
  refine sn_op sGetI ?_
  refine sn_op sCmNe ?_
  refine sn_op sVret ?_
  refine sn_op (sIc (n := 0) (by decide)) ?_
  refine sn_op sIs ?_
  refine sn_st ?_
  refine sn_op sIl ?_
  refine sn_op sAl ?_
  refine sn_op sGetI ?_
  refine sn_op sCmGe ?_
  refine sn_op sAl ?_
  refine sn_op sIl ?_
  refine sn_op sIl ?_
  refine sn_op (sCI (sfX7_fits c hc) (by decide) (by decide +kernel)) ?_
  refine sn_op sIfEq ?_
  refine sn_op sAl ?_
  refine sn_op sGetR ?_
  refine sn_op sIl ?_
  refine sn_op sIald ?_
  refine sn_op sAl ?_
  refine sn_op sGetR ?_
  refine sn_op sAl ?_
  refine sn_op sGetR ?_
  refine sn_op (sIc (n := 0) (by decide)) ?_
  refine sn_op sIald ?_
  refine sn_op sIald ?_
  refine sn_op sIsub ?_
  refine sn_op sAl ?_
  refine sn_op sGetI ?_
  refine sn_op sCmLe ?_
  refine sn_op sGoto ?_
  refine sn_op sAl ?_
  refine sn_op sGetR ?_
  refine sn_op sIl ?_
  refine sn_op sIl ?_
  refine sn_op sIast ?_
  refine sn_op sAl ?_
  refine sn_op sIl ?_
  refine sn_op (sIc (n := 1) (by decide)) ?_
  refine sn_op sIadd ?_
  refine sn_op (sCV (sfX7_grows_3 c hc) (by decide) (by decide +kernel)) ?_
  refine sn_op (sInc (n := 1) (by decide)) ?_
  refine sn_op sGoto ?_
  refine sn_op sVret ?_
  exact sn_nil
def csX7_grows_2 : List AC := [([(2, 1175, 0), (0, 2, 2)], 6, [((9, 0, 0), [], [])], [26104, 820712, 4916696, 184683594903, 206158431383], [((1175, 49), (2, 6))])]
set_option maxRecDepth 100000 in
set_option maxHeartbeats 4000000 in
theorem sfX7_grows_2 (c : Nat × Nat) (hc : c = cA ∨ c = cB) : ∀ ac ∈ csX7_grows_2, SafeC TYg c mX7_grows ac := by
  intro ac hac
  simp only [csX7_grows_2, List.mem_cons, List.not_mem_nil, or_false] at hac
  rcases hac with rfl
  · rcases hc with rfl | rfl
    · exact safe_ofF (ann := [(58, [(2, 1175, 0), (0, 2, 2), (0, 0, 2)], [(3, 0, 0, 2), (0, 2, 0, 4294967296), (1, 1175, 42, 4294967296)], [(3, 1, 197)]), (121, [(2, 1175, 0), (0, 2, 2), (0, 0, 40)], [(3, 0, 0, 1), (0, 2, 0, 4294967296), (1, 1175, 49, 4294967296)], [(1, 3, -1)])]) (fuel := 600) okX7_grows (snX7_grows_2 _ _ cA (Or.inl rfl)) (List.forall_mem_cons.mpr ⟨⟨_, _, rfl⟩, List.forall_mem_cons.mpr ⟨⟨_, _, rfl⟩, (fun q hq => by cases hq)⟩⟩) (by decide) (by decide +kernel)
    · exact safe_ofF (ann := [(58, [(2, 1175, 0), (0, 2, 2), (0, 0, 2)], [(3, 0, 0, 2), (0, 2, 0, 4294967296), (1, 1175, 42, 4294967296)], [(3, 1, 197)]), (121, [(2, 1175, 0), (0, 2, 2), (0, 0, 40)], [(3, 0, 0, 1), (0, 2, 0, 4294967296), (1, 1175, 49, 4294967296)], [(1, 3, -1)])]) (fuel := 600) okX7_grows (snX7_grows_2 _ _ cB (Or.inr rfl)) (List.forall_mem_cons.mpr ⟨⟨_, _, rfl⟩, List.forall_mem_cons.mpr ⟨⟨_, _, rfl⟩, (fun q hq => by cases hq)⟩⟩) (by decide) (by decide +kernel)
set_option maxRecDepth 100000 in
def adX7_grows_1 (D : KK) : List ACE := (0, 1, some (aAl 0)) :: (1, 3, some (aGetI D 7 47)) :: (4, 3, some (aIf bEq bNe 8)) :: (7, 1, some (aVret)) :: (8, 1, some (aIl 1)) :: (9, 1, some (aIc (1))) :: (10, 3, some (aCm bLe (fun C x y => bLt C y x) 110)) :: (13, 1, some (aAl 0)) :: (14, 3, some (aGetR [(1175, 165384)])) :: (17, 1, some (aAl 0)) :: (18, 3, some (aGetR [(1175, 26104)])) :: (21, 1, some (aIl 1)) :: (22, 1, some (aIc (1))) :: (23, 1, some (aBin fSub)) :: (24, 1, some (aIald D)) :: (25, 1, some (aIald D)) :: (26, 1, some (aAl 0)) :: (27, 3, some (aGetR [(1175, 329048)])) :: (30, 1, some (aAl 0)) :: (31, 3, some (aGetR [(1175, 26104)])) :: (34, 1, some (aIc (0))) :: (35, 1, some (aIald D)) :: (36, 1, some (aIald D)) :: (37, 3, some (aCm bNe bEq 110)) :: (40, 1, some (aAl 0)) :: (41, 3, some (aGetI D 7 42)) :: (44, 3, some (aIc (200))) :: (47, 3, some (aCm bNe bEq 56)) :: (50, 1, some (aAl 0)) :: (51, 1, some (aIc (1))) :: (52, 3, some (aPutZ D 7 47)) :: (55, 1, some (aVret)) :: (56, 1, some (aIc (0))) :: (57, 1, some (aIs 2)) :: (58, 0, none) :: (58, 1, some (aIl 2)) :: (59, 1, some (aIl 1)) :: (60, 3, some (aCm (fun C x y => bLe C y x) bLt 89)) :: (63, 1, some (aAl 0)) :: (64, 3, some (aGetR [(1175, 4916696)])) :: (67, 2, some (aIc (6))) :: (69, 1, some (aAl 0)) :: (70, 3, some (aGetI D 7 42)) :: (73, 1, some (aBin fMul)) :: (74, 1, some (aIl 2)) :: (75, 1, some (aBin fAdd)) :: (76, 1, some (aAl 0)) :: (77, 3, some (aGetR [(1175, 26104)])) :: (80, 1, some (aIl 2)) :: (81, 1, some (aIald D)) :: (82, 1, some (aIast D)) :: (83, 3, some (aInc 2 (1))) :: (86, 3, some (aGoto 58)) :: (89, 1, some (aAl 0)) :: (90, 3, some (aGetR [(1175, 820712)])) :: (93, 1, some (aAl 0)) :: (94, 3, some (aGetI D 7 42)) :: (97, 1, some (aIl 1)) :: (98, 1, some (aIast D)) :: (99, 1, some (aAl 0)) :: (100, 1, some (aDup)) :: (101, 3, some (aGetI D 7 42)) :: (104, 1, some (aIc (1))) :: (105, 1, some (aBin fAdd)) :: (106, 3, some (aPutI D 7 42)) :: (109, 1, some (aVret)) :: (110, 1, some (aIl 1)) :: (111, 1, some (aAl 0)) :: (112, 3, some (aGetI D 7 49)) :: (115, 3, some (aCm bNe bEq 119)) :: (118, 1, some (aVret)) :: (119, 1, some (aIc (0))) :: (120, 1, some (aIs 2)) :: (121, 0, none) :: (121, 1, some (aIl 2)) :: (122, 1, some (aAl 0)) :: (123, 3, some (aGetI D 7 6)) :: (126, 3, some (aCm (fun C x y => bLe C y x) bLt 186)) :: (129, 1, some (aAl 0)) :: (130, 1, some (aIl 1)) :: (131, 1, some (aIl 2)) :: (132, 3, some (aCall D 7 3 6 csX7_fits)) :: (135, 3, some (aIf bEq bNe 180)) :: (138, 1, some (aAl 0)) :: (139, 3, some (aGetR [(1175, 329128)])) :: (142, 1, some (aIl 2)) :: (143, 1, some (aIald D)) :: (144, 1, some (aAl 0)) :: (145, 3, some (aGetR [(1175, 329128)])) :: (148, 1, some (aAl 0)) :: (149, 3, some (aGetR [(1175, 26104)])) :: (152, 1, some (aIc (0))) :: (153, 1, some (aIald D)) :: (154, 1, some (aIald D)) :: (155, 1, some (aBin fSub)) :: (156, 1, some (aAl 0)) :: (157, 3, some (aGetI D 7 50)) :: (160, 3, some (aCm bLe (fun C x y => bLt C y x) 166)) :: (163, 3, some (aGoto 180)) :: (166, 1, some (aAl 0)) :: (167, 3, some (aGetR [(1175, 26104)])) :: (170, 1, some (aIl 1)) :: (171, 1, some (aIl 2)) :: (172, 1, some (aIast D)) :: (173, 1, some (aAl 0)) :: (174, 1, some (aIl 1)) :: (175, 1, some (aIc (1))) :: (176, 1, some (aBin fAdd)) :: (177, 3, some (aCall D 7 2 3 csX7_grows_2)) :: (180, 3, some (aInc 2 (1))) :: (183, 3, some (aGoto 121)) :: (186, 1, some (aVret)) :: []
set_option maxRecDepth 100000 in
set_option maxHeartbeats 4000000 in
theorem snX7_grows_1 (d : Nat) (W : List Nat) (c : Nat × Nat) (hc : c = cA ∨ c = cB) : SndAll (d, TYg, c, W) cdX7_grows (adX7_grows_1 (d, TYg, c, W)) := by
  unfold cdX7_grows adX7_grows_1
  refine sn_op sAl ?_
  refine sn_op sGetI ?_
  refine sn_op sIfEq ?_
  refine sn_op sVret ?_
  refine sn_op sIl ?_
  refine sn_op (sIc (n := 1) (by decide)) ?_
  refine sn_op sCmLe ?_
  refine sn_op sAl ?_
  refine sn_op sGetR ?_
  refine sn_op sAl ?_
  refine sn_op sGetR ?_
  refine sn_op sIl ?_
  refine sn_op (sIc (n := 1) (by decide)) ?_
  refine sn_op sIsub ?_
  refine sn_op sIald ?_
  refine sn_op sIald ?_
  refine sn_op sAl ?_
  refine sn_op sGetR ?_
  refine sn_op sAl ?_
  refine sn_op sGetR ?_
  refine sn_op (sIc (n := 0) (by decide)) ?_
  refine sn_op sIald ?_
  refine sn_op sIald ?_
  refine sn_op sCmNe ?_
  refine sn_op sAl ?_
  refine sn_op sGetI ?_
  refine sn_op (sIc (n := 200) (by decide)) ?_
  refine sn_op sCmNe ?_
  refine sn_op sAl ?_
  refine sn_op (sIc (n := 1) (by decide)) ?_
  refine sn_op sPutZ ?_
  refine sn_op sVret ?_
  refine sn_op (sIc (n := 0) (by decide)) ?_
  refine sn_op sIs ?_
  refine sn_st ?_
  refine sn_op sIl ?_
  refine sn_op sIl ?_
  refine sn_op sCmGe ?_
  refine sn_op sAl ?_
  refine sn_op sGetR ?_
  refine sn_op (sIc (n := 6) (by decide)) ?_
  refine sn_op sAl ?_
  refine sn_op sGetI ?_
  refine sn_op sImul ?_
  refine sn_op sIl ?_
  refine sn_op sIadd ?_
  refine sn_op sAl ?_
  refine sn_op sGetR ?_
  refine sn_op sIl ?_
  refine sn_op sIald ?_
  refine sn_op sIast ?_
  refine sn_op (sInc (n := 1) (by decide)) ?_
  refine sn_op sGoto ?_
  refine sn_op sAl ?_
  refine sn_op sGetR ?_
  refine sn_op sAl ?_
  refine sn_op sGetI ?_
  refine sn_op sIl ?_
  refine sn_op sIast ?_
  refine sn_op sAl ?_
  refine sn_op sDup ?_
  refine sn_op sGetI ?_
  refine sn_op (sIc (n := 1) (by decide)) ?_
  refine sn_op sIadd ?_
  refine sn_op sPutI ?_
  refine sn_op sVret ?_
  refine sn_op sIl ?_
  refine sn_op sAl ?_
  refine sn_op sGetI ?_
  refine sn_op sCmNe ?_
  refine sn_op sVret ?_
  refine sn_op (sIc (n := 0) (by decide)) ?_
  refine sn_op sIs ?_
  refine sn_st ?_
  refine sn_op sIl ?_
  refine sn_op sAl ?_
  refine sn_op sGetI ?_
  refine sn_op sCmGe ?_
  refine sn_op sAl ?_
  refine sn_op sIl ?_
  refine sn_op sIl ?_
  refine sn_op (sCI (sfX7_fits c hc) (by decide) (by decide +kernel)) ?_
  refine sn_op sIfEq ?_
  refine sn_op sAl ?_
  refine sn_op sGetR ?_
  refine sn_op sIl ?_
  refine sn_op sIald ?_
  refine sn_op sAl ?_
  refine sn_op sGetR ?_
  refine sn_op sAl ?_
  refine sn_op sGetR ?_
  refine sn_op (sIc (n := 0) (by decide)) ?_
  refine sn_op sIald ?_
  refine sn_op sIald ?_
  refine sn_op sIsub ?_
  refine sn_op sAl ?_
  refine sn_op sGetI ?_
  refine sn_op sCmLe ?_
  refine sn_op sGoto ?_
  refine sn_op sAl ?_
  refine sn_op sGetR ?_
  refine sn_op sIl ?_
  refine sn_op sIl ?_
  refine sn_op sIast ?_
  refine sn_op sAl ?_
  refine sn_op sIl ?_
  refine sn_op (sIc (n := 1) (by decide)) ?_
  refine sn_op sIadd ?_
  refine sn_op (sCV (sfX7_grows_2 c hc) (by decide) (by decide +kernel)) ?_
  refine sn_op (sInc (n := 1) (by decide)) ?_
  refine sn_op sGoto ?_
  refine sn_op sVret ?_
  exact sn_nil
def csX7_grows_1 : List AC := [([(2, 1175, 0), (0, 1, 1)], 7, [((9, 0, 0), [((1175, 49), (1, 6))], [])], [26104, 820712, 4916696, 184683594903, 206158431383], [((1175, 49), (1, 6))])]
set_option maxRecDepth 100000 in
set_option maxHeartbeats 4000000 in
theorem sfX7_grows_1 (c : Nat × Nat) (hc : c = cA ∨ c = cB) : ∀ ac ∈ csX7_grows_1, SafeC TYg c mX7_grows ac := by
  intro ac hac
  simp only [csX7_grows_1, List.mem_cons, List.not_mem_nil, or_false] at hac
  rcases hac with rfl
  · rcases hc with rfl | rfl
    · exact safe_ofF (ann := [(121, [(2, 1175, 0), (0, 1, 1), (0, 0, 40)], [(3, 0, 0, 1), (0, 2, 0, 4294967296), (1, 1175, 49, 4294967296)], [(1, 3, -1)])]) (fuel := 600) okX7_grows (snX7_grows_1 _ _ cA (Or.inl rfl)) (List.forall_mem_cons.mpr ⟨⟨_, _, rfl⟩, (fun q hq => by cases hq)⟩) (by decide) (by decide +kernel)
    · exact safe_ofF (ann := [(121, [(2, 1175, 0), (0, 1, 1), (0, 0, 40)], [(3, 0, 0, 1), (0, 2, 0, 4294967296), (1, 1175, 49, 4294967296)], [(1, 3, -1)])]) (fuel := 600) okX7_grows (snX7_grows_1 _ _ cB (Or.inr rfl)) (List.forall_mem_cons.mpr ⟨⟨_, _, rfl⟩, (fun q hq => by cases hq)⟩) (by decide) (by decide +kernel)
def csX7_grows : List AC := csX7_grows_1
theorem sfX7_grows (c : Nat × Nat) (hc : c = cA ∨ c = cB) : ∀ ac ∈ csX7_grows, SafeC TYg c mX7_grows ac := sfX7_grows_1 c hc
set_option maxRecDepth 100000 in
def adX7_seeks (D : KK) : List ACE := (0, 1, some (aAl 0)) :: (1, 1, some (aIl 1)) :: (2, 3, some (aPutI D 7 48)) :: (5, 1, some (aAl 0)) :: (6, 1, some (aIl 2)) :: (7, 3, some (aPutI D 7 49)) :: (10, 1, some (aAl 0)) :: (11, 1, some (aIl 3)) :: (12, 3, some (aPutI D 7 50)) :: (15, 1, some (aAl 0)) :: (16, 1, some (aIc (0))) :: (17, 3, some (aPutI D 7 42)) :: (20, 1, some (aAl 0)) :: (21, 1, some (aIc (0))) :: (22, 3, some (aPutZ D 7 47)) :: (25, 1, some (aIc (0))) :: (26, 2, some (aIs 4)) :: (28, 0, none) :: (28, 2, some (aIl 4)) :: (30, 1, some (aAl 0)) :: (31, 3, some (aGetI D 7 6)) :: (34, 3, some (aCm (fun C x y => bLe C y x) bLt 99)) :: (37, 1, some (aAl 0)) :: (38, 3, some (aGetR [(1175, 329048)])) :: (41, 2, some (aIl 4)) :: (43, 1, some (aIald D)) :: (44, 1, some (aAl 0)) :: (45, 3, some (aGetR [(1175, 165384)])) :: (48, 2, some (aIl 4)) :: (50, 1, some (aIald D)) :: (51, 3, some (aCm bEq bNe 93)) :: (54, 1, some (aAl 0)) :: (55, 2, some (aIl 4)) :: (57, 3, some (aCall D 7 2 2 csX7_isStopped)) :: (60, 3, some (aIf bNe bEq 93)) :: (63, 1, some (aIl 1)) :: (64, 3, some (aIf bNe bEq 80)) :: (67, 1, some (aAl 0)) :: (68, 3, some (aGetR [(1175, 329144)])) :: (71, 2, some (aIl 4)) :: (73, 1, some (aIald D)) :: (74, 3, some (aIf bNe bEq 80)) :: (77, 3, some (aGoto 93)) :: (80, 1, some (aAl 0)) :: (81, 3, some (aGetR [(1175, 26104)])) :: (84, 1, some (aIc (0))) :: (85, 2, some (aIl 4)) :: (87, 1, some (aIast D)) :: (88, 1, some (aAl 0)) :: (89, 1, some (aIc (1))) :: (90, 3, some (aCall D 7 2 3 csX7_grows)) :: (93, 3, some (aInc 4 (1))) :: (96, 3, some (aGoto 28)) :: (99, 1, some (aVret)) :: []
set_option maxRecDepth 100000 in
set_option maxHeartbeats 4000000 in
theorem snX7_seeks (d : Nat) (W : List Nat) (c : Nat × Nat) (hc : c = cA ∨ c = cB) : SndAll (d, TYg, c, W) cdX7_seeks (adX7_seeks (d, TYg, c, W)) := by
  unfold cdX7_seeks adX7_seeks
  refine sn_op sAl ?_
  refine sn_op sIl ?_
  refine sn_op sPutI ?_
  refine sn_op sAl ?_
  refine sn_op sIl ?_
  refine sn_op sPutI ?_
  refine sn_op sAl ?_
  refine sn_op sIl ?_
  refine sn_op sPutI ?_
  refine sn_op sAl ?_
  refine sn_op (sIc (n := 0) (by decide)) ?_
  refine sn_op sPutI ?_
  refine sn_op sAl ?_
  refine sn_op (sIc (n := 0) (by decide)) ?_
  refine sn_op sPutZ ?_
  refine sn_op (sIc (n := 0) (by decide)) ?_
  refine sn_op sIs ?_
  refine sn_st ?_
  refine sn_op sIl ?_
  refine sn_op sAl ?_
  refine sn_op sGetI ?_
  refine sn_op sCmGe ?_
  refine sn_op sAl ?_
  refine sn_op sGetR ?_
  refine sn_op sIl ?_
  refine sn_op sIald ?_
  refine sn_op sAl ?_
  refine sn_op sGetR ?_
  refine sn_op sIl ?_
  refine sn_op sIald ?_
  refine sn_op sCmEq ?_
  refine sn_op sAl ?_
  refine sn_op sIl ?_
  refine sn_op (sCI (sfX7_isStopped c hc) (by decide) (by decide +kernel)) ?_
  refine sn_op sIfNe ?_
  refine sn_op sIl ?_
  refine sn_op sIfNe ?_
  refine sn_op sAl ?_
  refine sn_op sGetR ?_
  refine sn_op sIl ?_
  refine sn_op sIald ?_
  refine sn_op sIfNe ?_
  refine sn_op sGoto ?_
  refine sn_op sAl ?_
  refine sn_op sGetR ?_
  refine sn_op (sIc (n := 0) (by decide)) ?_
  refine sn_op sIl ?_
  refine sn_op sIast ?_
  refine sn_op sAl ?_
  refine sn_op (sIc (n := 1) (by decide)) ?_
  refine sn_op (sCV (sfX7_grows c hc) (by decide) (by decide +kernel)) ?_
  refine sn_op (sInc (n := 1) (by decide)) ?_
  refine sn_op sGoto ?_
  refine sn_op sVret ?_
  exact sn_nil
def csX7_seeks : List AC := [([(2, 1175, 0), (0, 0, 1), (0, 2, 6), (0, 0, 400)], 8, [((9, 0, 0), [((1175, 49), (2, 6))], [])], [26104, 820712, 4916696, 184683594903, 206158431383, 210453398679, 214748365975, 219043333271], [])]
set_option maxRecDepth 100000 in
set_option maxHeartbeats 4000000 in
theorem sfX7_seeks (c : Nat × Nat) (hc : c = cA ∨ c = cB) : ∀ ac ∈ csX7_seeks, SafeC TYg c mX7_seeks ac := by
  intro ac hac
  simp only [csX7_seeks, List.mem_cons, List.not_mem_nil, or_false] at hac
  rcases hac with rfl
  · rcases hc with rfl | rfl
    · exact safe_ofF (ann := [(28, [(2, 1175, 0), (0, 0, 1), (0, 2, 6), (0, 0, 400), (0, 0, 40)], [(0, 4, 0, 4294967296), (1, 1175, 49, 4294967296)], [(2, 5, 0)])]) (fuel := 600) okX7_seeks (snX7_seeks _ _ cA (Or.inl rfl)) (List.forall_mem_cons.mpr ⟨⟨_, _, rfl⟩, (fun q hq => by cases hq)⟩) (by decide) (by decide +kernel)
    · exact safe_ofF (ann := [(28, [(2, 1175, 0), (0, 0, 1), (0, 2, 6), (0, 0, 400), (0, 0, 40)], [(0, 4, 0, 4294967296), (1, 1175, 49, 4294967296)], [(2, 5, 0)])]) (fuel := 600) okX7_seeks (snX7_seeks _ _ cB (Or.inr rfl)) (List.forall_mem_cons.mpr ⟨⟨_, _, rfl⟩, (fun q hq => by cases hq)⟩) (by decide) (by decide +kernel)
set_option maxRecDepth 100000 in
def adX7_seeksNow (D : KK) : List ACE := (0, 1, some (aIc (0))) :: (1, 2, some (aIs 4)) :: (3, 0, none) :: (3, 2, some (aIl 4)) :: (5, 1, some (aAl 0)) :: (6, 3, some (aGetI D 7 6)) :: (9, 3, some (aCm (fun C x y => bLe C y x) bLt 32)) :: (12, 1, some (aAl 0)) :: (13, 3, some (aGetR [(1175, 165384)])) :: (16, 2, some (aIl 4)) :: (18, 1, some (aAl 0)) :: (19, 3, some (aGetR [(1175, 329064)])) :: (22, 2, some (aIl 4)) :: (24, 1, some (aIald D)) :: (25, 1, some (aIast D)) :: (26, 3, some (aInc 4 (1))) :: (29, 3, some (aGoto 3)) :: (32, 1, some (aAl 0)) :: (33, 1, some (aIl 1)) :: (34, 1, some (aIl 2)) :: (35, 1, some (aIl 3)) :: (36, 3, some (aCall D 7 4 5 csX7_seeks)) :: (39, 1, some (aVret)) :: []
set_option maxRecDepth 100000 in
set_option maxHeartbeats 4000000 in
theorem snX7_seeksNow (d : Nat) (W : List Nat) (c : Nat × Nat) (hc : c = cA ∨ c = cB) : SndAll (d, TYg, c, W) cdX7_seeksNow (adX7_seeksNow (d, TYg, c, W)) := by
  unfold cdX7_seeksNow adX7_seeksNow
  refine sn_op (sIc (n := 0) (by decide)) ?_
  refine sn_op sIs ?_
  refine sn_st ?_
  refine sn_op sIl ?_
  refine sn_op sAl ?_
  refine sn_op sGetI ?_
  refine sn_op sCmGe ?_
  refine sn_op sAl ?_
  refine sn_op sGetR ?_
  refine sn_op sIl ?_
  refine sn_op sAl ?_
  refine sn_op sGetR ?_
  refine sn_op sIl ?_
  refine sn_op sIald ?_
  refine sn_op sIast ?_
  refine sn_op (sInc (n := 1) (by decide)) ?_
  refine sn_op sGoto ?_
  refine sn_op sAl ?_
  refine sn_op sIl ?_
  refine sn_op sIl ?_
  refine sn_op sIl ?_
  refine sn_op (sCV (sfX7_seeks c hc) (by decide) (by decide +kernel)) ?_
  refine sn_op sVret ?_
  exact sn_nil
def csX7_seeksNow : List AC := [([(2, 1175, 0), (0, 0, 1), (0, 2, 6), (0, 0, 400)], 9, [((9, 0, 0), [((1175, 49), (2, 6))], [])], [26104, 165384, 820712, 4916696, 184683594903, 206158431383, 210453398679, 214748365975, 219043333271], [])]
set_option maxRecDepth 100000 in
set_option maxHeartbeats 4000000 in
theorem sfX7_seeksNow (c : Nat × Nat) (hc : c = cA ∨ c = cB) : ∀ ac ∈ csX7_seeksNow, SafeC TYg c mX7_seeksNow ac := by
  intro ac hac
  simp only [csX7_seeksNow, List.mem_cons, List.not_mem_nil, or_false] at hac
  rcases hac with rfl
  · rcases hc with rfl | rfl
    · exact safe_of (ann := [(3, [(2, 1175, 0), (0, 0, 1), (0, 2, 6), (0, 0, 400), (0, 0, 40)], [(0, 4, 0, 4294967296)])]) (fuel := 600) okX7_seeksNow (snX7_seeksNow _ _ cA (Or.inl rfl)) (List.forall_mem_cons.mpr ⟨⟨_, _, rfl⟩, (fun q hq => by cases hq)⟩) (by decide) (by decide +kernel)
    · exact safe_of (ann := [(3, [(2, 1175, 0), (0, 0, 1), (0, 2, 6), (0, 0, 400), (0, 0, 40)], [(0, 4, 0, 4294967296)])]) (fuel := 600) okX7_seeksNow (snX7_seeksNow _ _ cB (Or.inr rfl)) (List.forall_mem_cons.mpr ⟨⟨_, _, rfl⟩, (fun q hq => by cases hq)⟩) (by decide) (by decide +kernel)
set_option maxRecDepth 100000 in
def adX7_fewest (D : KK) : List ACE := (0, 1, some (aAl 0)) :: (1, 1, some (aIc (0))) :: (2, 3, some (aPutI D 7 0)) :: (5, 1, some (aIl 1)) :: (6, 1, some (aIl 2)) :: (7, 1, some (aIl 3)) :: (8, 3, some (aCall D 16 3 3 csX7_isAsked)) :: (11, 3, some (aIf bEq bNe 21)) :: (14, 2, some (aJl 4)) :: (16, 1, some (aJc (0))) :: (17, 1, some (aLcmp)) :: (18, 3, some (aIf (fun C x y => bLe C y x) bLt 23)) :: (21, 1, some (aIc (-1))) :: (22, 1, some (aIret)) :: (23, 1, some (aAl 0)) :: (24, 1, some (aIl 1)) :: (25, 1, some (aIl 2)) :: (26, 1, some (aIl 3)) :: (27, 3, some (aCall D 7 4 5 csX7_seeksNow)) :: (30, 1, some (aAl 0)) :: (31, 3, some (aGetI D 7 47)) :: (34, 3, some (aIf bEq bNe 40)) :: (37, 2, some (aIc (-2))) :: (39, 1, some (aIret)) :: (40, 1, some (aIc (0))) :: (41, 2, some (aIs 6)) :: (43, 0, none) :: (43, 2, some (aIl 6)) :: (45, 1, some (aAl 0)) :: (46, 3, some (aGetI D 7 42)) :: (49, 3, some (aCm (fun C x y => bLe C y x) bLt 93)) :: (52, 1, some (aAl 0)) :: (53, 3, some (aGetR [(1175, 820809)])) :: (56, 2, some (aIl 6)) :: (58, 1, some (aAl 0)) :: (59, 2, some (aIl 6)) :: (61, 1, some (aAl 0)) :: (62, 3, some (aGetI D 7 40)) :: (65, 1, some (aAl 0)) :: (66, 3, some (aGetI D 7 40)) :: (69, 3, some (aCall D 7 4 8 csX7_takesOf)) :: (72, 1, some (aUn (fun C x => (6, rng C x)))) :: (73, 1, some (aJast D)) :: (74, 1, some (aAl 0)) :: (75, 3, some (aGetR [(1175, 820824)])) :: (78, 2, some (aIl 6)) :: (80, 1, some (aAl 0)) :: (81, 2, some (aIl 6)) :: (83, 3, some (aCall D 7 2 4 csX7_firmsOf)) :: (86, 1, some (aIast D)) :: (87, 3, some (aInc 6 (1))) :: (90, 3, some (aGoto 43)) :: (93, 1, some (aIc (-1))) :: (94, 2, some (aIs 6)) :: (96, 1, some (aIc (0))) :: (97, 2, some (aIs 7)) :: (99, 0, none) :: (99, 2, some (aIl 7)) :: (101, 1, some (aIc (1))) :: (102, 1, some (aAl 0)) :: (103, 3, some (aGetI D 7 5)) :: (106, 1, some (aBin fTop)) :: (107, 3, some (aCm (fun C x y => bLe C y x) bLt 200)) :: (110, 2, some (aIl 6)) :: (112, 1, some (aIc (-1))) :: (113, 3, some (aCm bEq bNe 132)) :: (116, 2, some (aIl 7)) :: (118, 3, some (aCall D 16 1 3 csX7_bits)) :: (121, 2, some (aIl 6)) :: (123, 3, some (aCall D 16 1 3 csX7_bits)) :: (126, 3, some (aCm bLt (fun C x y => bLe C y x) 132)) :: (129, 3, some (aGoto 194)) :: (132, 1, some (aJc (0))) :: (133, 2, some (aJs 8)) :: (135, 1, some (aIc (0))) :: (136, 2, some (aIs 10)) :: (138, 0, none) :: (138, 2, some (aIl 10)) :: (140, 1, some (aAl 0)) :: (141, 3, some (aGetI D 7 42)) :: (144, 3, some (aCm (fun C x y => bLe C y x) bLt 182)) :: (147, 2, some (aJl 8)) :: (149, 1, some (aAl 0)) :: (150, 3, some (aGetR [(1175, 820824)])) :: (153, 2, some (aIl 10)) :: (155, 1, some (aIald D)) :: (156, 2, some (aIl 7)) :: (158, 1, some (aBin fAnd)) :: (159, 3, some (aIf bEq bNe 166)) :: (162, 1, some (aJc (0))) :: (163, 3, some (aGoto 173)) :: (166, 1, some (aAl 0)) :: (167, 3, some (aGetR [(1175, 820809)])) :: (170, 2, some (aIl 10)) :: (172, 1, some (aJald)) :: (173, 1, some (aLL)) :: (174, 2, some (aJs 8)) :: (176, 3, some (aInc 10 (1))) :: (179, 3, some (aGoto 138)) :: (182, 2, some (aJl 8)) :: (184, 2, some (aJl 4)) :: (186, 1, some (aLcmp)) :: (187, 3, some (aIf (fun C x y => bLt C y x) bLe 194)) :: (190, 2, some (aIl 7)) :: (192, 2, some (aIs 6)) :: (194, 3, some (aInc 7 (1))) :: (197, 3, some (aGoto 99)) :: (200, 2, some (aIl 6)) :: (202, 1, some (aIret)) :: []
set_option maxRecDepth 100000 in
set_option maxHeartbeats 4000000 in
theorem snX7_fewest (d : Nat) (W : List Nat) (c : Nat × Nat) (hc : c = cA ∨ c = cB) : SndAll (d, TYg, c, W) cdX7_fewest (adX7_fewest (d, TYg, c, W)) := by
  unfold cdX7_fewest adX7_fewest
  refine sn_op sAl ?_
  refine sn_op (sIc (n := 0) (by decide)) ?_
  refine sn_op sPutI ?_
  refine sn_op sIl ?_
  refine sn_op sIl ?_
  refine sn_op sIl ?_
  refine sn_op (sCI (sfX7_isAsked c hc) (by decide) (by decide +kernel)) ?_
  refine sn_op sIfEq ?_
  refine sn_op sJl ?_
  refine sn_op (sJc (n := 0) (by decide)) ?_
  refine sn_op sLcmp ?_
  refine sn_op sIfGe ?_
  refine sn_op (sIc (n := -1) (by decide)) ?_
  refine sn_op sIret ?_
  refine sn_op sAl ?_
  refine sn_op sIl ?_
  refine sn_op sIl ?_
  refine sn_op sIl ?_
  refine sn_op (sCV (sfX7_seeksNow c hc) (by decide) (by decide +kernel)) ?_
  refine sn_op sAl ?_
  refine sn_op sGetI ?_
  refine sn_op sIfEq ?_
  refine sn_op (sIc (n := -2) (by decide)) ?_
  refine sn_op sIret ?_
  refine sn_op (sIc (n := 0) (by decide)) ?_
  refine sn_op sIs ?_
  refine sn_st ?_
  refine sn_op sIl ?_
  refine sn_op sAl ?_
  refine sn_op sGetI ?_
  refine sn_op sCmGe ?_
  refine sn_op sAl ?_
  refine sn_op sGetR ?_
  refine sn_op sIl ?_
  refine sn_op sAl ?_
  refine sn_op sIl ?_
  refine sn_op sAl ?_
  refine sn_op sGetI ?_
  refine sn_op sAl ?_
  refine sn_op sGetI ?_
  refine sn_op (sCI (sfX7_takesOf c hc) (by decide) (by decide +kernel)) ?_
  refine sn_op sI2l ?_
  refine sn_op sJast ?_
  refine sn_op sAl ?_
  refine sn_op sGetR ?_
  refine sn_op sIl ?_
  refine sn_op sAl ?_
  refine sn_op sIl ?_
  refine sn_op (sCI (sfX7_firmsOf c hc) (by decide) (by decide +kernel)) ?_
  refine sn_op sIast ?_
  refine sn_op (sInc (n := 1) (by decide)) ?_
  refine sn_op sGoto ?_
  refine sn_op (sIc (n := -1) (by decide)) ?_
  refine sn_op sIs ?_
  refine sn_op (sIc (n := 0) (by decide)) ?_
  refine sn_op sIs ?_
  refine sn_st ?_
  refine sn_op sIl ?_
  refine sn_op (sIc (n := 1) (by decide)) ?_
  refine sn_op sAl ?_
  refine sn_op sGetI ?_
  refine sn_op sIshl ?_
  refine sn_op sCmGe ?_
  refine sn_op sIl ?_
  refine sn_op (sIc (n := -1) (by decide)) ?_
  refine sn_op sCmEq ?_
  refine sn_op sIl ?_
  refine sn_op (sCI (sfX7_bits c hc) (by decide) (by decide +kernel)) ?_
  refine sn_op sIl ?_
  refine sn_op (sCI (sfX7_bits c hc) (by decide) (by decide +kernel)) ?_
  refine sn_op sCmLt ?_
  refine sn_op sGoto ?_
  refine sn_op (sJc (n := 0) (by decide)) ?_
  refine sn_op sJs ?_
  refine sn_op (sIc (n := 0) (by decide)) ?_
  refine sn_op sIs ?_
  refine sn_st ?_
  refine sn_op sIl ?_
  refine sn_op sAl ?_
  refine sn_op sGetI ?_
  refine sn_op sCmGe ?_
  refine sn_op sJl ?_
  refine sn_op sAl ?_
  refine sn_op sGetR ?_
  refine sn_op sIl ?_
  refine sn_op sIald ?_
  refine sn_op sIl ?_
  refine sn_op sIand ?_
  refine sn_op sIfEq ?_
  refine sn_op (sJc (n := 0) (by decide)) ?_
  refine sn_op sGoto ?_
  refine sn_op sAl ?_
  refine sn_op sGetR ?_
  refine sn_op sIl ?_
  refine sn_op sJald ?_
  refine sn_op sLadd ?_
  refine sn_op sJs ?_
  refine sn_op (sInc (n := 1) (by decide)) ?_
  refine sn_op sGoto ?_
  refine sn_op sJl ?_
  refine sn_op sJl ?_
  refine sn_op sLcmp ?_
  refine sn_op sIfGt ?_
  refine sn_op sIl ?_
  refine sn_op sIs ?_
  refine sn_op (sInc (n := 1) (by decide)) ?_
  refine sn_op sGoto ?_
  refine sn_op sIl ?_
  refine sn_op sIret ?_
  exact sn_nil
def csX7_fewest : List AC := [([(2, 1175, 0), (0, -2147483648, 2147483647), (0, -2147483648, 2147483647), (0, -2147483648, 2147483647), (8, 0, 0)], 10, [((0, -1, 2147483646), [], []), ((0, -2, -1), [((1175, 0), (0, 0))], [])], [26104, 165384, 820712, 820809, 820824, 4916696, 4294968471, 184683594903, 206158431383, 210453398679, 214748365975, 219043333271], [])]
set_option maxRecDepth 100000 in
set_option maxHeartbeats 4000000 in
theorem sfX7_fewest (c : Nat × Nat) (hc : c = cA ∨ c = cB) : ∀ ac ∈ csX7_fewest, SafeC TYg c mX7_fewest ac := by
  intro ac hac
  simp only [csX7_fewest, List.mem_cons, List.not_mem_nil, or_false] at hac
  rcases hac with rfl
  · rcases hc with rfl | rfl
    · exact safe_of (ann := [(43, [(2, 1175, 0), (0, 0, 1), (0, 2, 6), (0, 0, 400), (8, 0, 0), (4, 0, 0), (0, 0, 200), (4, 0, 0), (4, 0, 0), (4, 0, 0), (4, 0, 0)], [(3, 0, 0, 2), (0, 6, 0, 4294967296)]), (99, [(2, 1175, 0), (0, 0, 1), (0, 2, 6), (0, 0, 400), (8, 0, 0), (4, 0, 0), (0, -1, 2147483646), (0, 0, 2147483647), (4, 0, 0), (4, 0, 0), (4, 0, 0)], [(3, 0, 0, 1), (0, 7, 0, 4294967296), (3, 0, 0, 2)]), (138, [(2, 1175, 0), (0, 0, 1), (0, 2, 6), (0, 0, 400), (8, 0, 0), (4, 0, 0), (0, -1, 2147483646), (0, 0, 2147483646), (8, 0, 0), (4, 0, 0), (0, 0, 200)], [(3, 0, 0, 1), (0, 7, 0, 4294967296), (3, 0, 0, 1), (0, 10, 0, 4294967296)])]) (fuel := 600) okX7_fewest (snX7_fewest _ _ cA (Or.inl rfl)) (List.forall_mem_cons.mpr ⟨⟨_, _, rfl⟩, List.forall_mem_cons.mpr ⟨⟨_, _, rfl⟩, List.forall_mem_cons.mpr ⟨⟨_, _, rfl⟩, (fun q hq => by cases hq)⟩⟩⟩) (by decide) (by decide +kernel)
    · exact safe_of (ann := [(43, [(2, 1175, 0), (0, 0, 1), (0, 2, 6), (0, 0, 400), (8, 0, 0), (4, 0, 0), (0, 0, 200), (4, 0, 0), (4, 0, 0), (4, 0, 0), (4, 0, 0)], [(3, 0, 0, 2), (0, 6, 0, 4294967296)]), (99, [(2, 1175, 0), (0, 0, 1), (0, 2, 6), (0, 0, 400), (8, 0, 0), (4, 0, 0), (0, -1, 2147483646), (0, 0, 2147483647), (4, 0, 0), (4, 0, 0), (4, 0, 0)], [(3, 0, 0, 1), (0, 7, 0, 4294967296), (3, 0, 0, 2)]), (138, [(2, 1175, 0), (0, 0, 1), (0, 2, 6), (0, 0, 400), (8, 0, 0), (4, 0, 0), (0, -1, 2147483646), (0, 0, 2147483646), (8, 0, 0), (4, 0, 0), (0, 0, 200)], [(3, 0, 0, 1), (0, 7, 0, 4294967296), (3, 0, 0, 1), (0, 10, 0, 4294967296)])]) (fuel := 600) okX7_fewest (snX7_fewest _ _ cB (Or.inr rfl)) (List.forall_mem_cons.mpr ⟨⟨_, _, rfl⟩, List.forall_mem_cons.mpr ⟨⟨_, _, rfl⟩, List.forall_mem_cons.mpr ⟨⟨_, _, rfl⟩, (fun q hq => by cases hq)⟩⟩⟩) (by decide) (by decide +kernel)
set_option maxRecDepth 100000 in
def adX7_isFirm (D : KK) : List ACE := (0, 1, some (aIl 1)) :: (1, 3, some (aIf bLt (fun C x y => bLe C y x) 16)) :: (4, 1, some (aIl 1)) :: (5, 1, some (aAl 0)) :: (6, 3, some (aGetI D 7 5)) :: (9, 3, some (aCm (fun C x y => bLe C y x) bLt 16)) :: (12, 1, some (aIc (1))) :: (13, 3, some (aGoto 17)) :: (16, 1, some (aIc (0))) :: (17, 1, some (aZret)) :: []
set_option maxRecDepth 100000 in
set_option maxHeartbeats 4000000 in
theorem snX7_isFirm (d : Nat) (W : List Nat) (c : Nat × Nat) (hc : c = cA ∨ c = cB) : SndAll (d, TYg, c, W) cdX7_isFirm (adX7_isFirm (d, TYg, c, W)) := by
  unfold cdX7_isFirm adX7_isFirm
  refine sn_op sIl ?_
  refine sn_op sIfLt ?_
  refine sn_op sIl ?_
  refine sn_op sAl ?_
  refine sn_op sGetI ?_
  refine sn_op sCmGe ?_
  refine sn_op (sIc (n := 1) (by decide)) ?_
  refine sn_op sGoto ?_
  refine sn_op (sIc (n := 0) (by decide)) ?_
  refine sn_op sZret ?_
  exact sn_nil
def csX7_isFirm : List AC := [([(2, 1175, 0), (0, -2147483648, 2147483647)], 1, [((0, 0, 0), [], []), ((0, 1, 1), [((1175, 5), (1, 12))], [(1, (0, 11))])], [], [])]
set_option maxRecDepth 100000 in
set_option maxHeartbeats 4000000 in
theorem sfX7_isFirm (c : Nat × Nat) (hc : c = cA ∨ c = cB) : ∀ ac ∈ csX7_isFirm, SafeC TYg c mX7_isFirm ac := by
  intro ac hac
  simp only [csX7_isFirm, List.mem_cons, List.not_mem_nil, or_false] at hac
  rcases hac with rfl
  · rcases hc with rfl | rfl
    · exact safe_of (ann := []) (fuel := 600) okX7_isFirm (snX7_isFirm _ _ cA (Or.inl rfl)) (fun q hq => by cases hq) (by decide) (by decide +kernel)
    · exact safe_of (ann := []) (fuel := 600) okX7_isFirm (snX7_isFirm _ _ cB (Or.inr rfl)) (fun q hq => by cases hq) (by decide) (by decide +kernel)
set_option maxRecDepth 100000 in
def adX7_parties (D : KK) : List ACE := (0, 1, some (aIc (0))) :: (1, 1, some (aIs 1)) :: (2, 0, none) :: (2, 1, some (aIl 1)) :: (3, 1, some (aAl 0)) :: (4, 3, some (aGetI D 7 5)) :: (7, 3, some (aCm (fun C x y => bLe C y x) bLt 23)) :: (10, 1, some (aAl 0)) :: (11, 3, some (aGetR [(1175, 50632)])) :: (14, 1, some (aIl 1)) :: (15, 1, some (aIl 1)) :: (16, 1, some (aIast D)) :: (17, 3, some (aInc 1 (1))) :: (20, 3, some (aGoto 2)) :: (23, 1, some (aIc (0))) :: (24, 1, some (aIs 1)) :: (25, 0, none) :: (25, 1, some (aIl 1)) :: (26, 1, some (aAl 0)) :: (27, 3, some (aGetI D 7 5)) :: (30, 3, some (aCm (fun C x y => bLe C y x) bLt 140)) :: (33, 1, some (aIc (0))) :: (34, 1, some (aIs 2)) :: (35, 0, none) :: (35, 1, some (aIl 2)) :: (36, 1, some (aAl 0)) :: (37, 3, some (aGetI D 7 5)) :: (40, 3, some (aCm (fun C x y => bLe C y x) bLt 134)) :: (43, 1, some (aIc (0))) :: (44, 1, some (aIs 3)) :: (45, 0, none) :: (45, 1, some (aIl 3)) :: (46, 1, some (aAl 0)) :: (47, 3, some (aGetI D 7 5)) :: (50, 3, some (aCm (fun C x y => bLe C y x) bLt 128)) :: (53, 1, some (aAl 0)) :: (54, 3, some (aGetR [(1175, 99608)])) :: (57, 1, some (aIl 2)) :: (58, 1, some (aIald D)) :: (59, 3, some (aIf bEq bNe 77)) :: (62, 1, some (aAl 0)) :: (63, 3, some (aGetR [(1175, 99608)])) :: (66, 1, some (aIl 2)) :: (67, 1, some (aIald D)) :: (68, 1, some (aAl 0)) :: (69, 3, some (aGetR [(1175, 99608)])) :: (72, 1, some (aIl 3)) :: (73, 1, some (aIald D)) :: (74, 3, some (aCm bEq bNe 101)) :: (77, 1, some (aAl 0)) :: (78, 3, some (aGetR [(1175, 99624)])) :: (81, 1, some (aIl 2)) :: (82, 1, some (aIald D)) :: (83, 3, some (aIf bEq bNe 122)) :: (86, 1, some (aAl 0)) :: (87, 3, some (aGetR [(1175, 99624)])) :: (90, 1, some (aIl 2)) :: (91, 1, some (aIald D)) :: (92, 1, some (aAl 0)) :: (93, 3, some (aGetR [(1175, 99624)])) :: (96, 1, some (aIl 3)) :: (97, 1, some (aIald D)) :: (98, 3, some (aCm bNe bEq 122)) :: (101, 1, some (aAl 0)) :: (102, 3, some (aGetR [(1175, 50632)])) :: (105, 1, some (aIl 2)) :: (106, 1, some (aAl 0)) :: (107, 3, some (aGetR [(1175, 50632)])) :: (110, 1, some (aIl 2)) :: (111, 1, some (aIald D)) :: (112, 1, some (aAl 0)) :: (113, 3, some (aGetR [(1175, 50632)])) :: (116, 1, some (aIl 3)) :: (117, 1, some (aIald D)) :: (118, 3, some (aMin D)) :: (121, 1, some (aIast D)) :: (122, 3, some (aInc 3 (1))) :: (125, 3, some (aGoto 45)) :: (128, 3, some (aInc 2 (1))) :: (131, 3, some (aGoto 35)) :: (134, 3, some (aInc 1 (1))) :: (137, 3, some (aGoto 25)) :: (140, 1, some (aVret)) :: []
set_option maxRecDepth 100000 in
set_option maxHeartbeats 4000000 in
theorem snX7_parties (d : Nat) (W : List Nat) (c : Nat × Nat) (hc : c = cA ∨ c = cB) : SndAll (d, TYg, c, W) cdX7_parties (adX7_parties (d, TYg, c, W)) := by
  unfold cdX7_parties adX7_parties
  refine sn_op (sIc (n := 0) (by decide)) ?_
  refine sn_op sIs ?_
  refine sn_st ?_
  refine sn_op sIl ?_
  refine sn_op sAl ?_
  refine sn_op sGetI ?_
  refine sn_op sCmGe ?_
  refine sn_op sAl ?_
  refine sn_op sGetR ?_
  refine sn_op sIl ?_
  refine sn_op sIl ?_
  refine sn_op sIast ?_
  refine sn_op (sInc (n := 1) (by decide)) ?_
  refine sn_op sGoto ?_
  refine sn_op (sIc (n := 0) (by decide)) ?_
  refine sn_op sIs ?_
  refine sn_st ?_
  refine sn_op sIl ?_
  refine sn_op sAl ?_
  refine sn_op sGetI ?_
  refine sn_op sCmGe ?_
  refine sn_op (sIc (n := 0) (by decide)) ?_
  refine sn_op sIs ?_
  refine sn_st ?_
  refine sn_op sIl ?_
  refine sn_op sAl ?_
  refine sn_op sGetI ?_
  refine sn_op sCmGe ?_
  refine sn_op (sIc (n := 0) (by decide)) ?_
  refine sn_op sIs ?_
  refine sn_st ?_
  refine sn_op sIl ?_
  refine sn_op sAl ?_
  refine sn_op sGetI ?_
  refine sn_op sCmGe ?_
  refine sn_op sAl ?_
  refine sn_op sGetR ?_
  refine sn_op sIl ?_
  refine sn_op sIald ?_
  refine sn_op sIfEq ?_
  refine sn_op sAl ?_
  refine sn_op sGetR ?_
  refine sn_op sIl ?_
  refine sn_op sIald ?_
  refine sn_op sAl ?_
  refine sn_op sGetR ?_
  refine sn_op sIl ?_
  refine sn_op sIald ?_
  refine sn_op sCmEq ?_
  refine sn_op sAl ?_
  refine sn_op sGetR ?_
  refine sn_op sIl ?_
  refine sn_op sIald ?_
  refine sn_op sIfEq ?_
  refine sn_op sAl ?_
  refine sn_op sGetR ?_
  refine sn_op sIl ?_
  refine sn_op sIald ?_
  refine sn_op sAl ?_
  refine sn_op sGetR ?_
  refine sn_op sIl ?_
  refine sn_op sIald ?_
  refine sn_op sCmNe ?_
  refine sn_op sAl ?_
  refine sn_op sGetR ?_
  refine sn_op sIl ?_
  refine sn_op sAl ?_
  refine sn_op sGetR ?_
  refine sn_op sIl ?_
  refine sn_op sIald ?_
  refine sn_op sAl ?_
  refine sn_op sGetR ?_
  refine sn_op sIl ?_
  refine sn_op sIald ?_
  refine sn_op sMin ?_
  refine sn_op sIast ?_
  refine sn_op (sInc (n := 1) (by decide)) ?_
  refine sn_op sGoto ?_
  refine sn_op (sInc (n := 1) (by decide)) ?_
  refine sn_op sGoto ?_
  refine sn_op (sInc (n := 1) (by decide)) ?_
  refine sn_op sGoto ?_
  refine sn_op sVret ?_
  exact sn_nil
def csX7_parties : List AC := [([(2, 1175, 0)], 1, [((9, 0, 0), [], [])], [50632], [])]
set_option maxRecDepth 100000 in
set_option maxHeartbeats 4000000 in
theorem sfX7_parties (c : Nat × Nat) (hc : c = cA ∨ c = cB) : ∀ ac ∈ csX7_parties, SafeC TYg c mX7_parties ac := by
  intro ac hac
  simp only [csX7_parties, List.mem_cons, List.not_mem_nil, or_false] at hac
  rcases hac with rfl
  · rcases hc with rfl | rfl
    · exact safe_of (ann := [(2, [(2, 1175, 0), (0, 0, 12), (4, 0, 0), (4, 0, 0)], [(3, 0, 0, 2), (0, 1, 0, 4294967296)]), (25, [(2, 1175, 0), (0, 0, 12), (4, 0, 0), (4, 0, 0)], [(3, 0, 0, 1), (0, 1, 0, 4294967296), (3, 0, 0, 2)]), (35, [(2, 1175, 0), (0, 0, 11), (0, 0, 12), (4, 0, 0)], [(3, 0, 0, 1), (0, 1, 0, 4294967296), (3, 0, 0, 1), (0, 2, 0, 4294967296), (3, 0, 0, 2)]), (45, [(2, 1175, 0), (0, 0, 11), (0, 0, 11), (0, 0, 12)], [(3, 0, 0, 1), (0, 1, 0, 4294967296), (3, 0, 0, 1), (0, 2, 0, 4294967296), (3, 0, 0, 1), (0, 3, 0, 4294967296)])]) (fuel := 600) okX7_parties (snX7_parties _ _ cA (Or.inl rfl)) (List.forall_mem_cons.mpr ⟨⟨_, _, rfl⟩, List.forall_mem_cons.mpr ⟨⟨_, _, rfl⟩, List.forall_mem_cons.mpr ⟨⟨_, _, rfl⟩, List.forall_mem_cons.mpr ⟨⟨_, _, rfl⟩, (fun q hq => by cases hq)⟩⟩⟩⟩) (by decide) (by decide +kernel)
    · exact safe_of (ann := [(2, [(2, 1175, 0), (0, 0, 12), (4, 0, 0), (4, 0, 0)], [(3, 0, 0, 2), (0, 1, 0, 4294967296)]), (25, [(2, 1175, 0), (0, 0, 12), (4, 0, 0), (4, 0, 0)], [(3, 0, 0, 1), (0, 1, 0, 4294967296), (3, 0, 0, 2)]), (35, [(2, 1175, 0), (0, 0, 11), (0, 0, 12), (4, 0, 0)], [(3, 0, 0, 1), (0, 1, 0, 4294967296), (3, 0, 0, 1), (0, 2, 0, 4294967296), (3, 0, 0, 2)]), (45, [(2, 1175, 0), (0, 0, 11), (0, 0, 11), (0, 0, 12)], [(3, 0, 0, 1), (0, 1, 0, 4294967296), (3, 0, 0, 1), (0, 2, 0, 4294967296), (3, 0, 0, 1), (0, 3, 0, 4294967296)])]) (fuel := 600) okX7_parties (snX7_parties _ _ cB (Or.inr rfl)) (List.forall_mem_cons.mpr ⟨⟨_, _, rfl⟩, List.forall_mem_cons.mpr ⟨⟨_, _, rfl⟩, List.forall_mem_cons.mpr ⟨⟨_, _, rfl⟩, List.forall_mem_cons.mpr ⟨⟨_, _, rfl⟩, (fun q hq => by cases hq)⟩⟩⟩⟩) (by decide) (by decide +kernel)
set_option maxRecDepth 100000 in
def adX7_firm (D : KK) : List ACE := (0, 1, some (aAl 0)) :: (1, 1, some (aIc (0))) :: (2, 3, some (aPutI D 7 0)) :: (5, 1, some (aAl 0)) :: (6, 1, some (aIl 1)) :: (7, 3, some (aCall D 7 2 2 csX7_isFirm)) :: (10, 3, some (aIf bEq bNe 23)) :: (13, 1, some (aIl 2)) :: (14, 3, some (aIf bLt (fun C x y => bLe C y x) 23)) :: (17, 1, some (aIl 2)) :: (18, 2, some (aIc (7))) :: (20, 3, some (aCm bLe (fun C x y => bLt C y x) 27)) :: (23, 3, some (aIc (-2147483648))) :: (26, 1, some (aIret)) :: (27, 1, some (aAl 0)) :: (28, 3, some (aCall D 7 1 4 csX7_parties)) :: (31, 1, some (aIl 2)) :: (32, 44, some (aSw [(0, 76), (1, 83), (2, 90), (3, 97), (4, 104), (5, 114), (6, 124)] 142)) :: (76, 1, some (aAl 0)) :: (77, 3, some (aGetR [(1175, 99576)])) :: (80, 1, some (aIl 1)) :: (81, 1, some (aIald D)) :: (82, 1, some (aIret)) :: (83, 1, some (aAl 0)) :: (84, 3, some (aGetR [(1175, 99592)])) :: (87, 1, some (aIl 1)) :: (88, 1, some (aIald D)) :: (89, 1, some (aIret)) :: (90, 1, some (aAl 0)) :: (91, 3, some (aGetR [(1175, 99608)])) :: (94, 1, some (aIl 1)) :: (95, 1, some (aIald D)) :: (96, 1, some (aIret)) :: (97, 1, some (aAl 0)) :: (98, 3, some (aGetR [(1175, 99624)])) :: (101, 1, some (aIl 1)) :: (102, 1, some (aIald D)) :: (103, 1, some (aIret)) :: (104, 1, some (aAl 0)) :: (105, 1, some (aIl 1)) :: (106, 1, some (aAl 0)) :: (107, 3, some (aGetI D 7 40)) :: (110, 3, some (aCall D 7 3 5 csX7_owes)) :: (113, 1, some (aIret)) :: (114, 2, some (aIc (100))) :: (116, 1, some (aAl 0)) :: (117, 3, some (aGetR [(1175, 99640)])) :: (120, 1, some (aIl 1)) :: (121, 1, some (aIald D)) :: (122, 1, some (aBin fMul)) :: (123, 1, some (aIret)) :: (124, 1, some (aAl 0)) :: (125, 1, some (aIl 1)) :: (126, 1, some (aAl 0)) :: (127, 3, some (aGetI D 7 40)) :: (130, 3, some (aCall D 7 3 3 csX7_isMissing)) :: (133, 3, some (aIf bEq bNe 140)) :: (136, 1, some (aIc (1))) :: (137, 3, some (aGoto 141)) :: (140, 1, some (aIc (0))) :: (141, 1, some (aIret)) :: (142, 1, some (aAl 0)) :: (143, 3, some (aGetR [(1175, 50632)])) :: (146, 1, some (aIl 1)) :: (147, 1, some (aIald D)) :: (148, 1, some (aIret)) :: []
set_option maxRecDepth 100000 in
set_option maxHeartbeats 4000000 in
theorem snX7_firm (d : Nat) (W : List Nat) (c : Nat × Nat) (hc : c = cA ∨ c = cB) : SndAll (d, TYg, c, W) cdX7_firm (adX7_firm (d, TYg, c, W)) := by
  unfold cdX7_firm adX7_firm
  refine sn_op sAl ?_
  refine sn_op (sIc (n := 0) (by decide)) ?_
  refine sn_op sPutI ?_
  refine sn_op sAl ?_
  refine sn_op sIl ?_
  refine sn_op (sCI (sfX7_isFirm c hc) (by decide) (by decide +kernel)) ?_
  refine sn_op sIfEq ?_
  refine sn_op sIl ?_
  refine sn_op sIfLt ?_
  refine sn_op sIl ?_
  refine sn_op (sIc (n := 7) (by decide)) ?_
  refine sn_op sCmLe ?_
  refine sn_op (sIc (n := -2147483648) (by decide)) ?_
  refine sn_op sIret ?_
  refine sn_op sAl ?_
  refine sn_op (sCV (sfX7_parties c hc) (by decide) (by decide +kernel)) ?_
  refine sn_op sIl ?_
  refine sn_op (sSw (by decide)) ?_
  refine sn_op sAl ?_
  refine sn_op sGetR ?_
  refine sn_op sIl ?_
  refine sn_op sIald ?_
  refine sn_op sIret ?_
  refine sn_op sAl ?_
  refine sn_op sGetR ?_
  refine sn_op sIl ?_
  refine sn_op sIald ?_
  refine sn_op sIret ?_
  refine sn_op sAl ?_
  refine sn_op sGetR ?_
  refine sn_op sIl ?_
  refine sn_op sIald ?_
  refine sn_op sIret ?_
  refine sn_op sAl ?_
  refine sn_op sGetR ?_
  refine sn_op sIl ?_
  refine sn_op sIald ?_
  refine sn_op sIret ?_
  refine sn_op sAl ?_
  refine sn_op sIl ?_
  refine sn_op sAl ?_
  refine sn_op sGetI ?_
  refine sn_op (sCI (sfX7_owes c hc) (by decide) (by decide +kernel)) ?_
  refine sn_op sIret ?_
  refine sn_op (sIc (n := 100) (by decide)) ?_
  refine sn_op sAl ?_
  refine sn_op sGetR ?_
  refine sn_op sIl ?_
  refine sn_op sIald ?_
  refine sn_op sImul ?_
  refine sn_op sIret ?_
  refine sn_op sAl ?_
  refine sn_op sIl ?_
  refine sn_op sAl ?_
  refine sn_op sGetI ?_
  refine sn_op (sCI (sfX7_isMissing c hc) (by decide) (by decide +kernel)) ?_
  refine sn_op sIfEq ?_
  refine sn_op (sIc (n := 1) (by decide)) ?_
  refine sn_op sGoto ?_
  refine sn_op (sIc (n := 0) (by decide)) ?_
  refine sn_op sIret ?_
  refine sn_op sAl ?_
  refine sn_op sGetR ?_
  refine sn_op sIl ?_
  refine sn_op sIald ?_
  refine sn_op sIret ?_
  exact sn_nil
def csX7_firm : List AC := [([(2, 1175, 0), (0, -2147483648, 2147483647), (0, -2147483648, 2147483647)], 5, [((0, -2147483648, 2147483647), [((1175, 0), (0, 0)), ((1175, 5), (1, 12))], [(1, (0, 11)), (2, (1, 7))]), ((0, -2147483648, -2147483648), [((1175, 0), (0, 0))], []), ((0, 0, 4), [((1175, 0), (0, 0)), ((1175, 5), (1, 12))], [(1, (0, 11)), (2, (0, 6))])], [50632, 4294968471], [])]
set_option maxRecDepth 100000 in
set_option maxHeartbeats 4000000 in
theorem sfX7_firm (c : Nat × Nat) (hc : c = cA ∨ c = cB) : ∀ ac ∈ csX7_firm, SafeC TYg c mX7_firm ac := by
  intro ac hac
  simp only [csX7_firm, List.mem_cons, List.not_mem_nil, or_false] at hac
  rcases hac with rfl
  · rcases hc with rfl | rfl
    · exact safe_of (ann := []) (fuel := 600) okX7_firm (snX7_firm _ _ cA (Or.inl rfl)) (fun q hq => by cases hq) (by decide) (by decide +kernel)
    · exact safe_of (ann := []) (fuel := 600) okX7_firm (snX7_firm _ _ cB (Or.inr rfl)) (fun q hq => by cases hq) (by decide) (by decide +kernel)
set_option maxRecDepth 100000 in
def adX7_found (D : KK) : List ACE := (0, 1, some (aIc (0))) :: (1, 2, some (aIs 4)) :: (3, 0, none) :: (3, 2, some (aIl 4)) :: (5, 1, some (aIl 2)) :: (6, 3, some (aCm (fun C x y => bLe C y x) bLt 28)) :: (9, 1, some (aAl 0)) :: (10, 1, some (aIl 1)) :: (11, 2, some (aIl 4)) :: (13, 1, some (aBin fAdd)) :: (14, 1, some (aIald D)) :: (15, 1, some (aIl 3)) :: (16, 3, some (aCm bNe bEq 22)) :: (19, 2, some (aIl 4)) :: (21, 1, some (aIret)) :: (22, 3, some (aInc 4 (1))) :: (25, 3, some (aGoto 3)) :: (28, 1, some (aIc (-1))) :: (29, 1, some (aIret)) :: []
set_option maxRecDepth 100000 in
set_option maxHeartbeats 4000000 in
theorem snX7_found (d : Nat) (W : List Nat) (c : Nat × Nat) (hc : c = cA ∨ c = cB) : SndAll (d, TYg, c, W) cdX7_found (adX7_found (d, TYg, c, W)) := by
  unfold cdX7_found adX7_found
  refine sn_op (sIc (n := 0) (by decide)) ?_
  refine sn_op sIs ?_
  refine sn_st ?_
  refine sn_op sIl ?_
  refine sn_op sIl ?_
  refine sn_op sCmGe ?_
  refine sn_op sAl ?_
  refine sn_op sIl ?_
  refine sn_op sIl ?_
  refine sn_op sIadd ?_
  refine sn_op sIald ?_
  refine sn_op sIl ?_
  refine sn_op sCmNe ?_
  refine sn_op sIl ?_
  refine sn_op sIret ?_
  refine sn_op (sInc (n := 1) (by decide)) ?_
  refine sn_op sGoto ?_
  refine sn_op (sIc (n := -1) (by decide)) ?_
  refine sn_op sIret ?_
  exact sn_nil
def csX7_found : List AC := [([(2, 34008, 0), (0, 4, 4), (0, 0, 3), (0, -2147483648, 2147483647)], 1, [((0, -1, -1), [], []), ((0, 0, 2), [], [])], [], []), ([(2, 34008, 0), (0, 0, 0), (0, 0, 4), (0, -2147483648, 2147483647)], 1, [((0, -1, -1), [], []), ((0, 0, 3), [], [])], [], []), ([(2, 42168, 0), (0, 5, 5), (0, 0, 4), (0, -2147483648, 2147483647)], 1, [((0, -1, -1), [], []), ((0, 0, 3), [], [])], [], []), ([(2, 42168, 0), (0, 0, 0), (0, 0, 5), (0, -2147483648, 2147483647)], 1, [((0, -1, -1), [], []), ((0, 0, 4), [], [])], [], []), ([(2, 99560, 0), (0, 12, 12), (0, 0, 11), (0, -2147483648, 2147483647)], 1, [((0, -1, -1), [], []), ((0, 0, 10), [], [])], [], []), ([(2, 99560, 0), (0, 0, 0), (0, 0, 12), (0, -2147483648, 2147483647)], 1, [((0, -1, -1), [], []), ((0, 0, 11), [], [])], [], [])]
set_option maxRecDepth 100000 in
set_option maxHeartbeats 4000000 in
theorem sfX7_found (c : Nat × Nat) (hc : c = cA ∨ c = cB) : ∀ ac ∈ csX7_found, SafeC TYg c mX7_found ac := by
  intro ac hac
  simp only [csX7_found, List.mem_cons, List.not_mem_nil, or_false] at hac
  rcases hac with rfl | rfl | rfl | rfl | rfl | rfl
  · rcases hc with rfl | rfl
    · exact safe_of (ann := [(3, [(2, 34008, 0), (0, 4, 4), (0, 0, 3), (0, -2147483648, 2147483647), (0, 0, 3)], [(0, 4, 0, 4294967296)])]) (fuel := 600) okX7_found (snX7_found _ _ cA (Or.inl rfl)) (List.forall_mem_cons.mpr ⟨⟨_, _, rfl⟩, (fun q hq => by cases hq)⟩) (by decide) (by decide +kernel)
    · exact safe_of (ann := [(3, [(2, 34008, 0), (0, 4, 4), (0, 0, 3), (0, -2147483648, 2147483647), (0, 0, 3)], [(0, 4, 0, 4294967296)])]) (fuel := 600) okX7_found (snX7_found _ _ cB (Or.inr rfl)) (List.forall_mem_cons.mpr ⟨⟨_, _, rfl⟩, (fun q hq => by cases hq)⟩) (by decide) (by decide +kernel)
  · rcases hc with rfl | rfl
    · exact safe_of (ann := [(3, [(2, 34008, 0), (0, 0, 0), (0, 0, 4), (0, -2147483648, 2147483647), (0, 0, 4)], [(0, 4, 0, 4294967296)])]) (fuel := 600) okX7_found (snX7_found _ _ cA (Or.inl rfl)) (List.forall_mem_cons.mpr ⟨⟨_, _, rfl⟩, (fun q hq => by cases hq)⟩) (by decide) (by decide +kernel)
    · exact safe_of (ann := [(3, [(2, 34008, 0), (0, 0, 0), (0, 0, 4), (0, -2147483648, 2147483647), (0, 0, 4)], [(0, 4, 0, 4294967296)])]) (fuel := 600) okX7_found (snX7_found _ _ cB (Or.inr rfl)) (List.forall_mem_cons.mpr ⟨⟨_, _, rfl⟩, (fun q hq => by cases hq)⟩) (by decide) (by decide +kernel)
  · rcases hc with rfl | rfl
    · exact safe_of (ann := [(3, [(2, 42168, 0), (0, 5, 5), (0, 0, 4), (0, -2147483648, 2147483647), (0, 0, 4)], [(0, 4, 0, 4294967296)])]) (fuel := 600) okX7_found (snX7_found _ _ cA (Or.inl rfl)) (List.forall_mem_cons.mpr ⟨⟨_, _, rfl⟩, (fun q hq => by cases hq)⟩) (by decide) (by decide +kernel)
    · exact safe_of (ann := [(3, [(2, 42168, 0), (0, 5, 5), (0, 0, 4), (0, -2147483648, 2147483647), (0, 0, 4)], [(0, 4, 0, 4294967296)])]) (fuel := 600) okX7_found (snX7_found _ _ cB (Or.inr rfl)) (List.forall_mem_cons.mpr ⟨⟨_, _, rfl⟩, (fun q hq => by cases hq)⟩) (by decide) (by decide +kernel)
  · rcases hc with rfl | rfl
    · exact safe_of (ann := [(3, [(2, 42168, 0), (0, 0, 0), (0, 0, 5), (0, -2147483648, 2147483647), (0, 0, 5)], [(0, 4, 0, 4294967296)])]) (fuel := 600) okX7_found (snX7_found _ _ cA (Or.inl rfl)) (List.forall_mem_cons.mpr ⟨⟨_, _, rfl⟩, (fun q hq => by cases hq)⟩) (by decide) (by decide +kernel)
    · exact safe_of (ann := [(3, [(2, 42168, 0), (0, 0, 0), (0, 0, 5), (0, -2147483648, 2147483647), (0, 0, 5)], [(0, 4, 0, 4294967296)])]) (fuel := 600) okX7_found (snX7_found _ _ cB (Or.inr rfl)) (List.forall_mem_cons.mpr ⟨⟨_, _, rfl⟩, (fun q hq => by cases hq)⟩) (by decide) (by decide +kernel)
  · rcases hc with rfl | rfl
    · exact safe_of (ann := [(3, [(2, 99560, 0), (0, 12, 12), (0, 0, 11), (0, -2147483648, 2147483647), (0, 0, 11)], [(0, 4, 0, 4294967296)])]) (fuel := 600) okX7_found (snX7_found _ _ cA (Or.inl rfl)) (List.forall_mem_cons.mpr ⟨⟨_, _, rfl⟩, (fun q hq => by cases hq)⟩) (by decide) (by decide +kernel)
    · exact safe_of (ann := [(3, [(2, 99560, 0), (0, 12, 12), (0, 0, 11), (0, -2147483648, 2147483647), (0, 0, 11)], [(0, 4, 0, 4294967296)])]) (fuel := 600) okX7_found (snX7_found _ _ cB (Or.inr rfl)) (List.forall_mem_cons.mpr ⟨⟨_, _, rfl⟩, (fun q hq => by cases hq)⟩) (by decide) (by decide +kernel)
  · rcases hc with rfl | rfl
    · exact safe_of (ann := [(3, [(2, 99560, 0), (0, 0, 0), (0, 0, 12), (0, -2147483648, 2147483647), (0, 0, 12)], [(0, 4, 0, 4294967296)])]) (fuel := 600) okX7_found (snX7_found _ _ cA (Or.inl rfl)) (List.forall_mem_cons.mpr ⟨⟨_, _, rfl⟩, (fun q hq => by cases hq)⟩) (by decide) (by decide +kernel)
    · exact safe_of (ann := [(3, [(2, 99560, 0), (0, 0, 0), (0, 0, 12), (0, -2147483648, 2147483647), (0, 0, 12)], [(0, 4, 0, 4294967296)])]) (fuel := 600) okX7_found (snX7_found _ _ cB (Or.inr rfl)) (List.forall_mem_cons.mpr ⟨⟨_, _, rfl⟩, (fun q hq => by cases hq)⟩) (by decide) (by decide +kernel)
set_option maxRecDepth 100000 in
def adX7_wrong (D : KK) : List ACE := (0, 1, some (aAl 0)) :: (1, 3, some (aGetI D 7 35)) :: (4, 3, some (aIf bEq bNe 8)) :: (7, 1, some (aVret)) :: (8, 1, some (aAl 0)) :: (9, 1, some (aIl 1)) :: (10, 3, some (aPutI D 7 35)) :: (13, 1, some (aAl 0)) :: (14, 1, some (aAl 0)) :: (15, 3, some (aGetI D 7 32)) :: (18, 3, some (aPutI D 7 36)) :: (21, 1, some (aVret)) :: []
set_option maxRecDepth 100000 in
set_option maxHeartbeats 4000000 in
theorem snX7_wrong (d : Nat) (W : List Nat) (c : Nat × Nat) (hc : c = cA ∨ c = cB) : SndAll (d, TYg, c, W) cdX7_wrong (adX7_wrong (d, TYg, c, W)) := by
  unfold cdX7_wrong adX7_wrong
  refine sn_op sAl ?_
  refine sn_op sGetI ?_
  refine sn_op sIfEq ?_
  refine sn_op sVret ?_
  refine sn_op sAl ?_
  refine sn_op sIl ?_
  refine sn_op sPutI ?_
  refine sn_op sAl ?_
  refine sn_op sAl ?_
  refine sn_op sGetI ?_
  refine sn_op sPutI ?_
  refine sn_op sVret ?_
  exact sn_nil
def csX7_wrong : List AC := [([(2, 1175, 0), (0, 1, 1)], 1, [((9, 0, 0), [((1175, 35), (1, 5))], [])], [154618823831, 158913791127], []), ([(2, 1175, 0), (0, 2, 2)], 1, [((9, 0, 0), [((1175, 35), (1, 5))], [])], [154618823831, 158913791127], []), ([(2, 1175, 0), (0, 3, 3)], 1, [((9, 0, 0), [((1175, 35), (1, 5))], [])], [154618823831, 158913791127], []), ([(2, 1175, 0), (0, 5, 5)], 1, [((9, 0, 0), [((1175, 35), (1, 5))], [])], [154618823831, 158913791127], [])]
set_option maxRecDepth 100000 in
set_option maxHeartbeats 4000000 in
theorem sfX7_wrong (c : Nat × Nat) (hc : c = cA ∨ c = cB) : ∀ ac ∈ csX7_wrong, SafeC TYg c mX7_wrong ac := by
  intro ac hac
  simp only [csX7_wrong, List.mem_cons, List.not_mem_nil, or_false] at hac
  rcases hac with rfl | rfl | rfl | rfl
  · rcases hc with rfl | rfl
    · exact safe_of (ann := []) (fuel := 600) okX7_wrong (snX7_wrong _ _ cA (Or.inl rfl)) (fun q hq => by cases hq) (by decide) (by decide +kernel)
    · exact safe_of (ann := []) (fuel := 600) okX7_wrong (snX7_wrong _ _ cB (Or.inr rfl)) (fun q hq => by cases hq) (by decide) (by decide +kernel)
  · rcases hc with rfl | rfl
    · exact safe_of (ann := []) (fuel := 600) okX7_wrong (snX7_wrong _ _ cA (Or.inl rfl)) (fun q hq => by cases hq) (by decide) (by decide +kernel)
    · exact safe_of (ann := []) (fuel := 600) okX7_wrong (snX7_wrong _ _ cB (Or.inr rfl)) (fun q hq => by cases hq) (by decide) (by decide +kernel)
  · rcases hc with rfl | rfl
    · exact safe_of (ann := []) (fuel := 600) okX7_wrong (snX7_wrong _ _ cA (Or.inl rfl)) (fun q hq => by cases hq) (by decide) (by decide +kernel)
    · exact safe_of (ann := []) (fuel := 600) okX7_wrong (snX7_wrong _ _ cB (Or.inr rfl)) (fun q hq => by cases hq) (by decide) (by decide +kernel)
  · rcases hc with rfl | rfl
    · exact safe_of (ann := []) (fuel := 600) okX7_wrong (snX7_wrong _ _ cA (Or.inl rfl)) (fun q hq => by cases hq) (by decide) (by decide +kernel)
    · exact safe_of (ann := []) (fuel := 600) okX7_wrong (snX7_wrong _ _ cB (Or.inr rfl)) (fun q hq => by cases hq) (by decide) (by decide +kernel)
def csX7_next : List AC := [acNext]
set_option maxRecDepth 100000 in
set_option maxHeartbeats 4000000 in
theorem sfX7_next (c : Nat × Nat) (hc : c = cA ∨ c = cB) : ∀ ac ∈ csX7_next, SafeC TYg c mX7_next ac := by
  intro ac hac
  simp only [csX7_next, List.mem_cons, List.not_mem_nil, or_false] at hac
  rcases hac with rfl
  · exact hpNext c hc
set_option maxRecDepth 100000 in
def adX7_fresh (D : KK) : List ACE := (0, 1, some (aAl 0)) :: (1, 3, some (aGetI D 7 35)) :: (4, 3, some (aIf bEq bNe 9)) :: (7, 1, some (aIc (0))) :: (8, 1, some (aIret)) :: (9, 1, some (aAl 0)) :: (10, 3, some (aGetI D 7 33)) :: (13, 1, some (aIc (1))) :: (14, 3, some (aCm bEq bNe 25)) :: (17, 1, some (aAl 0)) :: (18, 1, some (aIc (1))) :: (19, 3, some (aCall D 7 2 2 csX7_wrong)) :: (22, 3, some (aGoto 44)) :: (25, 1, some (aAl 1)) :: (26, 1, some (aIl 2)) :: (27, 1, some (aIl 3)) :: (28, 1, some (aAl 0)) :: (29, 3, some (aGetI D 7 34)) :: (32, 3, some (aCall D 16 4 5 csX7_found)) :: (35, 1, some (aIc (-1))) :: (36, 3, some (aCm bEq bNe 44)) :: (39, 1, some (aAl 0)) :: (40, 1, some (aIc (3))) :: (41, 3, some (aCall D 7 2 2 csX7_wrong)) :: (44, 1, some (aAl 0)) :: (45, 3, some (aGetI D 7 35)) :: (48, 3, some (aIf bEq bNe 53)) :: (51, 1, some (aIc (0))) :: (52, 1, some (aIret)) :: (53, 1, some (aAl 0)) :: (54, 3, some (aGetI D 7 34)) :: (57, 2, some (aIs 4)) :: (59, 1, some (aAl 0)) :: (60, 3, some (aCall D 7 1 2 csX7_next)) :: (63, 2, some (aIl 4)) :: (65, 1, some (aIret)) :: []
set_option maxRecDepth 100000 in
set_option maxHeartbeats 4000000 in
theorem snX7_fresh (d : Nat) (W : List Nat) (c : Nat × Nat) (hc : c = cA ∨ c = cB) : SndAll (d, TYg, c, W) cdX7_fresh (adX7_fresh (d, TYg, c, W)) := by
  unfold cdX7_fresh adX7_fresh
  refine sn_op sAl ?_
  refine sn_op sGetI ?_
  refine sn_op sIfEq ?_
  refine sn_op (sIc (n := 0) (by decide)) ?_
  refine sn_op sIret ?_
  refine sn_op sAl ?_
  refine sn_op sGetI ?_
  refine sn_op (sIc (n := 1) (by decide)) ?_
  refine sn_op sCmEq ?_
  refine sn_op sAl ?_
  refine sn_op (sIc (n := 1) (by decide)) ?_
  refine sn_op (sCV (sfX7_wrong c hc) (by decide) (by decide +kernel)) ?_
  refine sn_op sGoto ?_
  refine sn_op sAl ?_
  refine sn_op sIl ?_
  refine sn_op sIl ?_
  refine sn_op sAl ?_
  refine sn_op sGetI ?_
  refine sn_op (sCI (sfX7_found c hc) (by decide) (by decide +kernel)) ?_
  refine sn_op (sIc (n := -1) (by decide)) ?_
  refine sn_op sCmEq ?_
  refine sn_op sAl ?_
  refine sn_op (sIc (n := 3) (by decide)) ?_
  refine sn_op (sCV (sfX7_wrong c hc) (by decide) (by decide +kernel)) ?_
  refine sn_op sAl ?_
  refine sn_op sGetI ?_
  refine sn_op sIfEq ?_
  refine sn_op (sIc (n := 0) (by decide)) ?_
  refine sn_op sIret ?_
  refine sn_op sAl ?_
  refine sn_op sGetI ?_
  refine sn_op sIs ?_
  refine sn_op sAl ?_
  refine sn_op (sCV (sfX7_next c hc) (by decide) (by decide +kernel)) ?_
  refine sn_op sIl ?_
  refine sn_op sIret ?_
  exact sn_nil
def csX7_fresh : List AC := [([(2, 1175, 0), (2, 34008, 0), (0, 4, 4), (0, 0, 3)], 5, [((0, -2147483648, 2147483647), [((1175, 35), (0, 0))], []), ((0, 0, 0), [((1175, 35), (1, 5))], [])], [137438954647, 141733921943, 146028889239, 150323856535, 154618823831, 158913791127], []), ([(2, 1175, 0), (2, 42168, 0), (0, 5, 5), (0, 0, 4)], 5, [((0, -2147483648, 2147483647), [((1175, 35), (0, 0))], []), ((0, 0, 0), [((1175, 35), (1, 5))], [])], [137438954647, 141733921943, 146028889239, 150323856535, 154618823831, 158913791127], []), ([(2, 1175, 0), (2, 99560, 0), (0, 12, 12), (0, 0, 11)], 5, [((0, -2147483648, 2147483647), [((1175, 35), (0, 0))], []), ((0, 0, 0), [((1175, 35), (1, 5))], [])], [137438954647, 141733921943, 146028889239, 150323856535, 154618823831, 158913791127], [])]
set_option maxRecDepth 100000 in
set_option maxHeartbeats 4000000 in
theorem sfX7_fresh (c : Nat × Nat) (hc : c = cA ∨ c = cB) : ∀ ac ∈ csX7_fresh, SafeC TYg c mX7_fresh ac := by
  intro ac hac
  simp only [csX7_fresh, List.mem_cons, List.not_mem_nil, or_false] at hac
  rcases hac with rfl | rfl | rfl
  · rcases hc with rfl | rfl
    · exact safe_of (ann := []) (fuel := 600) okX7_fresh (snX7_fresh _ _ cA (Or.inl rfl)) (fun q hq => by cases hq) (by decide) (by decide +kernel)
    · exact safe_of (ann := []) (fuel := 600) okX7_fresh (snX7_fresh _ _ cB (Or.inr rfl)) (fun q hq => by cases hq) (by decide) (by decide +kernel)
  · rcases hc with rfl | rfl
    · exact safe_of (ann := []) (fuel := 600) okX7_fresh (snX7_fresh _ _ cA (Or.inl rfl)) (fun q hq => by cases hq) (by decide) (by decide +kernel)
    · exact safe_of (ann := []) (fuel := 600) okX7_fresh (snX7_fresh _ _ cB (Or.inr rfl)) (fun q hq => by cases hq) (by decide) (by decide +kernel)
  · rcases hc with rfl | rfl
    · exact safe_of (ann := []) (fuel := 600) okX7_fresh (snX7_fresh _ _ cA (Or.inl rfl)) (fun q hq => by cases hq) (by decide) (by decide +kernel)
    · exact safe_of (ann := []) (fuel := 600) okX7_fresh (snX7_fresh _ _ cB (Or.inr rfl)) (fun q hq => by cases hq) (by decide) (by decide +kernel)
set_option maxRecDepth 100000 in
def adX7_numeral (D : KK) : List ACE := (0, 1, some (aAl 0)) :: (1, 3, some (aGetI D 7 35)) :: (4, 3, some (aIf bEq bNe 9)) :: (7, 1, some (aIl 1)) :: (8, 1, some (aIret)) :: (9, 1, some (aAl 0)) :: (10, 3, some (aGetI D 7 33)) :: (13, 1, some (aIc (2))) :: (14, 3, some (aCm bEq bNe 25)) :: (17, 1, some (aAl 0)) :: (18, 1, some (aIc (1))) :: (19, 3, some (aCall D 7 2 2 csX7_wrong)) :: (22, 3, some (aGoto 46)) :: (25, 1, some (aAl 0)) :: (26, 3, some (aGetI D 7 34)) :: (29, 1, some (aIl 1)) :: (30, 3, some (aCm bLt (fun C x y => bLe C y x) 41)) :: (33, 1, some (aAl 0)) :: (34, 3, some (aGetI D 7 34)) :: (37, 1, some (aIl 2)) :: (38, 3, some (aCm bLe (fun C x y => bLt C y x) 46)) :: (41, 1, some (aAl 0)) :: (42, 1, some (aIc (2))) :: (43, 3, some (aCall D 7 2 2 csX7_wrong)) :: (46, 1, some (aAl 0)) :: (47, 3, some (aGetI D 7 35)) :: (50, 3, some (aIf bEq bNe 55)) :: (53, 1, some (aIl 1)) :: (54, 1, some (aIret)) :: (55, 1, some (aAl 0)) :: (56, 3, some (aGetI D 7 34)) :: (59, 1, some (aIs 3)) :: (60, 1, some (aAl 0)) :: (61, 3, some (aCall D 7 1 2 csX7_next)) :: (64, 1, some (aIl 3)) :: (65, 1, some (aIret)) :: []
set_option maxRecDepth 100000 in
set_option maxHeartbeats 4000000 in
theorem snX7_numeral (d : Nat) (W : List Nat) (c : Nat × Nat) (hc : c = cA ∨ c = cB) : SndAll (d, TYg, c, W) cdX7_numeral (adX7_numeral (d, TYg, c, W)) := by
  unfold cdX7_numeral adX7_numeral
  refine sn_op sAl ?_
  refine sn_op sGetI ?_
  refine sn_op sIfEq ?_
  refine sn_op sIl ?_
  refine sn_op sIret ?_
  refine sn_op sAl ?_
  refine sn_op sGetI ?_
  refine sn_op (sIc (n := 2) (by decide)) ?_
  refine sn_op sCmEq ?_
  refine sn_op sAl ?_
  refine sn_op (sIc (n := 1) (by decide)) ?_
  refine sn_op (sCV (sfX7_wrong c hc) (by decide) (by decide +kernel)) ?_
  refine sn_op sGoto ?_
  refine sn_op sAl ?_
  refine sn_op sGetI ?_
  refine sn_op sIl ?_
  refine sn_op sCmLt ?_
  refine sn_op sAl ?_
  refine sn_op sGetI ?_
  refine sn_op sIl ?_
  refine sn_op sCmLe ?_
  refine sn_op sAl ?_
  refine sn_op (sIc (n := 2) (by decide)) ?_
  refine sn_op (sCV (sfX7_wrong c hc) (by decide) (by decide +kernel)) ?_
  refine sn_op sAl ?_
  refine sn_op sGetI ?_
  refine sn_op sIfEq ?_
  refine sn_op sIl ?_
  refine sn_op sIret ?_
  refine sn_op sAl ?_
  refine sn_op sGetI ?_
  refine sn_op sIs ?_
  refine sn_op sAl ?_
  refine sn_op (sCV (sfX7_next c hc) (by decide) (by decide +kernel)) ?_
  refine sn_op sIl ?_
  refine sn_op sIret ?_
  exact sn_nil
def csX7_numeral : List AC := [([(2, 1175, 0), (0, 0, 0), (0, 40, 40)], 1, [((0, 0, 0), [((1175, 35), (1, 5))], [])], [], [((1175, 35), (1, 5))]), ([(2, 1175, 0), (0, 0, 0), (0, 999999, 999999)], 1, [((0, 0, 0), [((1175, 35), (1, 5))], [])], [], [((1175, 35), (1, 5))]), ([(2, 1175, 0), (0, 1, 1), (0, 999, 999)], 1, [((0, 1, 1), [((1175, 35), (1, 5))], [])], [], [((1175, 35), (1, 5))]), ([(2, 1175, 0), (0, 0, 0), (0, 400, 400)], 1, [((0, 0, 0), [((1175, 35), (1, 5))], [])], [], [((1175, 35), (1, 5))]), ([(2, 1175, 0), (0, 1, 1), (0, 99, 99)], 1, [((0, 1, 1), [((1175, 35), (1, 5))], [])], [], [((1175, 35), (1, 5))]), ([(2, 1175, 0), (0, 0, 0), (0, 999999, 999999)], 5, [((0, 0, 999999), [], [])], [137438954647, 141733921943, 146028889239, 150323856535, 154618823831, 158913791127], []), ([(2, 1175, 0), (0, 1, 1), (0, 999, 999)], 5, [((0, 1, 999), [], [])], [137438954647, 141733921943, 146028889239, 150323856535, 154618823831, 158913791127], []), ([(2, 1175, 0), (0, 0, 0), (0, 400, 400)], 5, [((0, 0, 400), [], [])], [137438954647, 141733921943, 146028889239, 150323856535, 154618823831, 158913791127], []), ([(2, 1175, 0), (0, 0, 0), (0, 40, 40)], 5, [((0, 0, 40), [], [])], [137438954647, 141733921943, 146028889239, 150323856535, 154618823831, 158913791127], []), ([(2, 1175, 0), (0, 1, 1), (0, 99, 99)], 5, [((0, 1, 99), [], [])], [137438954647, 141733921943, 146028889239, 150323856535, 154618823831, 158913791127], [])]
set_option maxRecDepth 100000 in
set_option maxHeartbeats 4000000 in
theorem sfX7_numeral (c : Nat × Nat) (hc : c = cA ∨ c = cB) : ∀ ac ∈ csX7_numeral, SafeC TYg c mX7_numeral ac := by
  intro ac hac
  simp only [csX7_numeral, List.mem_cons, List.not_mem_nil, or_false] at hac
  rcases hac with rfl | rfl | rfl | rfl | rfl | rfl | rfl | rfl | rfl | rfl
  · rcases hc with rfl | rfl
    · exact safe_of (ann := []) (fuel := 600) okX7_numeral (snX7_numeral _ _ cA (Or.inl rfl)) (fun q hq => by cases hq) (by decide) (by decide +kernel)
    · exact safe_of (ann := []) (fuel := 600) okX7_numeral (snX7_numeral _ _ cB (Or.inr rfl)) (fun q hq => by cases hq) (by decide) (by decide +kernel)
  · rcases hc with rfl | rfl
    · exact safe_of (ann := []) (fuel := 600) okX7_numeral (snX7_numeral _ _ cA (Or.inl rfl)) (fun q hq => by cases hq) (by decide) (by decide +kernel)
    · exact safe_of (ann := []) (fuel := 600) okX7_numeral (snX7_numeral _ _ cB (Or.inr rfl)) (fun q hq => by cases hq) (by decide) (by decide +kernel)
  · rcases hc with rfl | rfl
    · exact safe_of (ann := []) (fuel := 600) okX7_numeral (snX7_numeral _ _ cA (Or.inl rfl)) (fun q hq => by cases hq) (by decide) (by decide +kernel)
    · exact safe_of (ann := []) (fuel := 600) okX7_numeral (snX7_numeral _ _ cB (Or.inr rfl)) (fun q hq => by cases hq) (by decide) (by decide +kernel)
  · rcases hc with rfl | rfl
    · exact safe_of (ann := []) (fuel := 600) okX7_numeral (snX7_numeral _ _ cA (Or.inl rfl)) (fun q hq => by cases hq) (by decide) (by decide +kernel)
    · exact safe_of (ann := []) (fuel := 600) okX7_numeral (snX7_numeral _ _ cB (Or.inr rfl)) (fun q hq => by cases hq) (by decide) (by decide +kernel)
  · rcases hc with rfl | rfl
    · exact safe_of (ann := []) (fuel := 600) okX7_numeral (snX7_numeral _ _ cA (Or.inl rfl)) (fun q hq => by cases hq) (by decide) (by decide +kernel)
    · exact safe_of (ann := []) (fuel := 600) okX7_numeral (snX7_numeral _ _ cB (Or.inr rfl)) (fun q hq => by cases hq) (by decide) (by decide +kernel)
  · rcases hc with rfl | rfl
    · exact safe_of (ann := []) (fuel := 600) okX7_numeral (snX7_numeral _ _ cA (Or.inl rfl)) (fun q hq => by cases hq) (by decide) (by decide +kernel)
    · exact safe_of (ann := []) (fuel := 600) okX7_numeral (snX7_numeral _ _ cB (Or.inr rfl)) (fun q hq => by cases hq) (by decide) (by decide +kernel)
  · rcases hc with rfl | rfl
    · exact safe_of (ann := []) (fuel := 600) okX7_numeral (snX7_numeral _ _ cA (Or.inl rfl)) (fun q hq => by cases hq) (by decide) (by decide +kernel)
    · exact safe_of (ann := []) (fuel := 600) okX7_numeral (snX7_numeral _ _ cB (Or.inr rfl)) (fun q hq => by cases hq) (by decide) (by decide +kernel)
  · rcases hc with rfl | rfl
    · exact safe_of (ann := []) (fuel := 600) okX7_numeral (snX7_numeral _ _ cA (Or.inl rfl)) (fun q hq => by cases hq) (by decide) (by decide +kernel)
    · exact safe_of (ann := []) (fuel := 600) okX7_numeral (snX7_numeral _ _ cB (Or.inr rfl)) (fun q hq => by cases hq) (by decide) (by decide +kernel)
  · rcases hc with rfl | rfl
    · exact safe_of (ann := []) (fuel := 600) okX7_numeral (snX7_numeral _ _ cA (Or.inl rfl)) (fun q hq => by cases hq) (by decide) (by decide +kernel)
    · exact safe_of (ann := []) (fuel := 600) okX7_numeral (snX7_numeral _ _ cB (Or.inr rfl)) (fun q hq => by cases hq) (by decide) (by decide +kernel)
  · rcases hc with rfl | rfl
    · exact safe_of (ann := []) (fuel := 600) okX7_numeral (snX7_numeral _ _ cA (Or.inl rfl)) (fun q hq => by cases hq) (by decide) (by decide +kernel)
    · exact safe_of (ann := []) (fuel := 600) okX7_numeral (snX7_numeral _ _ cB (Or.inr rfl)) (fun q hq => by cases hq) (by decide) (by decide +kernel)
set_option maxRecDepth 100000 in
def adX7_isWord (D : KK) : List ACE := (0, 1, some (aAl 0)) :: (1, 3, some (aGetI D 7 35)) :: (4, 3, some (aIf bNe bEq 26)) :: (7, 1, some (aAl 0)) :: (8, 3, some (aGetI D 7 33)) :: (11, 3, some (aIf bNe bEq 26)) :: (14, 1, some (aAl 0)) :: (15, 3, some (aGetI D 7 34)) :: (18, 1, some (aIl 1)) :: (19, 3, some (aCm bNe bEq 26)) :: (22, 1, some (aIc (1))) :: (23, 3, some (aGoto 27)) :: (26, 1, some (aIc (0))) :: (27, 1, some (aZret)) :: []
set_option maxRecDepth 100000 in
set_option maxHeartbeats 4000000 in
theorem snX7_isWord (d : Nat) (W : List Nat) (c : Nat × Nat) (hc : c = cA ∨ c = cB) : SndAll (d, TYg, c, W) cdX7_isWord (adX7_isWord (d, TYg, c, W)) := by
  unfold cdX7_isWord adX7_isWord
  refine sn_op sAl ?_
  refine sn_op sGetI ?_
  refine sn_op sIfNe ?_
  refine sn_op sAl ?_
  refine sn_op sGetI ?_
  refine sn_op sIfNe ?_
  refine sn_op sAl ?_
  refine sn_op sGetI ?_
  refine sn_op sIl ?_
  refine sn_op sCmNe ?_
  refine sn_op (sIc (n := 1) (by decide)) ?_
  refine sn_op sGoto ?_
  refine sn_op (sIc (n := 0) (by decide)) ?_
  refine sn_op sZret ?_
  exact sn_nil
def csX7_isWord : List AC := [([(2, 1175, 0), (0, 7, 7)], 1, [((0, 0, 0), [], []), ((0, 1, 1), [((1175, 33), (0, 0)), ((1175, 34), (7, 7)), ((1175, 35), (0, 0))], [])], [], []), ([(2, 1175, 0), (0, 5, 5)], 1, [((0, 0, 0), [], []), ((0, 1, 1), [((1175, 33), (0, 0)), ((1175, 34), (5, 5)), ((1175, 35), (0, 0))], [])], [], []), ([(2, 1175, 0), (0, 8, 8)], 1, [((0, 0, 0), [], []), ((0, 1, 1), [((1175, 33), (0, 0)), ((1175, 34), (8, 8)), ((1175, 35), (0, 0))], [])], [], []), ([(2, 1175, 0), (0, 6, 6)], 1, [((0, 0, 0), [], []), ((0, 1, 1), [((1175, 33), (0, 0)), ((1175, 34), (6, 6)), ((1175, 35), (0, 0))], [])], [], [])]
set_option maxRecDepth 100000 in
set_option maxHeartbeats 4000000 in
theorem sfX7_isWord (c : Nat × Nat) (hc : c = cA ∨ c = cB) : ∀ ac ∈ csX7_isWord, SafeC TYg c mX7_isWord ac := by
  intro ac hac
  simp only [csX7_isWord, List.mem_cons, List.not_mem_nil, or_false] at hac
  rcases hac with rfl | rfl | rfl | rfl
  · rcases hc with rfl | rfl
    · exact safe_of (ann := []) (fuel := 600) okX7_isWord (snX7_isWord _ _ cA (Or.inl rfl)) (fun q hq => by cases hq) (by decide) (by decide +kernel)
    · exact safe_of (ann := []) (fuel := 600) okX7_isWord (snX7_isWord _ _ cB (Or.inr rfl)) (fun q hq => by cases hq) (by decide) (by decide +kernel)
  · rcases hc with rfl | rfl
    · exact safe_of (ann := []) (fuel := 600) okX7_isWord (snX7_isWord _ _ cA (Or.inl rfl)) (fun q hq => by cases hq) (by decide) (by decide +kernel)
    · exact safe_of (ann := []) (fuel := 600) okX7_isWord (snX7_isWord _ _ cB (Or.inr rfl)) (fun q hq => by cases hq) (by decide) (by decide +kernel)
  · rcases hc with rfl | rfl
    · exact safe_of (ann := []) (fuel := 600) okX7_isWord (snX7_isWord _ _ cA (Or.inl rfl)) (fun q hq => by cases hq) (by decide) (by decide +kernel)
    · exact safe_of (ann := []) (fuel := 600) okX7_isWord (snX7_isWord _ _ cB (Or.inr rfl)) (fun q hq => by cases hq) (by decide) (by decide +kernel)
  · rcases hc with rfl | rfl
    · exact safe_of (ann := []) (fuel := 600) okX7_isWord (snX7_isWord _ _ cA (Or.inl rfl)) (fun q hq => by cases hq) (by decide) (by decide +kernel)
    · exact safe_of (ann := []) (fuel := 600) okX7_isWord (snX7_isWord _ _ cB (Or.inr rfl)) (fun q hq => by cases hq) (by decide) (by decide +kernel)
set_option maxRecDepth 100000 in
def adX7_goOn (D : KK) : List ACE := (0, 1, some (aAl 0)) :: (1, 3, some (aGetI D 7 35)) :: (4, 3, some (aIf bNe bEq 11)) :: (7, 1, some (aAl 0)) :: (8, 3, some (aCall D 7 1 2 csX7_next)) :: (11, 1, some (aVret)) :: []
set_option maxRecDepth 100000 in
set_option maxHeartbeats 4000000 in
theorem snX7_goOn (d : Nat) (W : List Nat) (c : Nat × Nat) (hc : c = cA ∨ c = cB) : SndAll (d, TYg, c, W) cdX7_goOn (adX7_goOn (d, TYg, c, W)) := by
  unfold cdX7_goOn adX7_goOn
  refine sn_op sAl ?_
  refine sn_op sGetI ?_
  refine sn_op sIfNe ?_
  refine sn_op sAl ?_
  refine sn_op (sCV (sfX7_next c hc) (by decide) (by decide +kernel)) ?_
  refine sn_op sVret ?_
  exact sn_nil
def csX7_goOn : List AC := [([(2, 1175, 0)], 5, [((9, 0, 0), [], [])], [137438954647, 141733921943, 146028889239, 150323856535], [])]
set_option maxRecDepth 100000 in
set_option maxHeartbeats 4000000 in
theorem sfX7_goOn (c : Nat × Nat) (hc : c = cA ∨ c = cB) : ∀ ac ∈ csX7_goOn, SafeC TYg c mX7_goOn ac := by
  intro ac hac
  simp only [csX7_goOn, List.mem_cons, List.not_mem_nil, or_false] at hac
  rcases hac with rfl
  · rcases hc with rfl | rfl
    · exact safe_of (ann := []) (fuel := 600) okX7_goOn (snX7_goOn _ _ cA (Or.inl rfl)) (fun q hq => by cases hq) (by decide) (by decide +kernel)
    · exact safe_of (ann := []) (fuel := 600) okX7_goOn (snX7_goOn _ _ cB (Or.inr rfl)) (fun q hq => by cases hq) (by decide) (by decide +kernel)
def csX7_told : List AC := [acTold34008, acTold42168, acTold99560]
set_option maxRecDepth 100000 in
set_option maxHeartbeats 4000000 in
theorem sfX7_told (c : Nat × Nat) (hc : c = cA ∨ c = cB) : ∀ ac ∈ csX7_told, SafeC TYg c mX7_told ac := by
  intro ac hac
  simp only [csX7_told, List.mem_cons, List.not_mem_nil, or_false] at hac
  rcases hac with rfl | rfl | rfl
  · exact hpTold34008 c
  · exact hpTold42168 c
  · exact hpTold99560 c
set_option maxRecDepth 100000 in
def adX7_firmLine (D : KK) : List ACE := (0, 1, some (aAl 0)) :: (1, 3, some (aGetR [(1175, 99560)])) :: (4, 1, some (aIl 1)) :: (5, 1, some (aAl 0)) :: (6, 1, some (aAl 0)) :: (7, 3, some (aGetR [(1175, 99560)])) :: (10, 2, some (aIc (12))) :: (12, 1, some (aAl 0)) :: (13, 3, some (aGetI D 7 27)) :: (16, 3, some (aCall D 7 4 5 csX7_fresh)) :: (19, 1, some (aIastK D)) :: (20, 1, some (aAl 0)) :: (21, 3, some (aGetR [(1175, 99576)])) :: (24, 1, some (aIl 1)) :: (25, 1, some (aAl 0)) :: (26, 1, some (aAl 0)) :: (27, 3, some (aGetR [(1175, 42168)])) :: (30, 1, some (aIc (5))) :: (31, 1, some (aAl 0)) :: (32, 3, some (aGetI D 7 25)) :: (35, 3, some (aCall D 7 4 4 csX7_told)) :: (38, 1, some (aIastK D)) :: (39, 1, some (aAl 0)) :: (40, 3, some (aCall D 7 1 1 csX7_goOn)) :: (43, 1, some (aAl 0)) :: (44, 3, some (aGetR [(1175, 99592)])) :: (47, 1, some (aIl 1)) :: (48, 1, some (aAl 0)) :: (49, 1, some (aIc (0))) :: (50, 3, some (aIc (400))) :: (53, 3, some (aCall D 7 3 4 csX7_numeral)) :: (56, 1, some (aIastK D)) :: (57, 1, some (aAl 0)) :: (58, 3, some (aGetR [(1175, 99608)])) :: (61, 1, some (aIl 1)) :: (62, 1, some (aIc (0))) :: (63, 1, some (aIastK D)) :: (64, 1, some (aAl 0)) :: (65, 3, some (aGetR [(1175, 99624)])) :: (68, 1, some (aIl 1)) :: (69, 1, some (aIc (0))) :: (70, 1, some (aIastK D)) :: (71, 1, some (aAl 0)) :: (72, 3, some (aGetR [(1175, 99640)])) :: (75, 1, some (aIl 1)) :: (76, 1, some (aIc (0))) :: (77, 1, some (aIastK D)) :: (78, 1, some (aAl 0)) :: (79, 3, some (aGetR [(1175, 99659)])) :: (82, 1, some (aIl 1)) :: (83, 1, some (aIc (0))) :: (84, 1, some (aBast D)) :: (85, 0, none) :: (85, 1, some (aAl 0)) :: (86, 1, some (aIc (5))) :: (87, 3, some (aCall D 7 2 2 csX7_isWord)) :: (90, 3, some (aIf bNe bEq 102)) :: (93, 1, some (aAl 0)) :: (94, 2, some (aIc (6))) :: (96, 3, some (aCall D 7 2 2 csX7_isWord)) :: (99, 3, some (aIf bEq bNe 179)) :: (102, 1, some (aAl 0)) :: (103, 3, some (aGetI D 7 34)) :: (106, 1, some (aIc (5))) :: (107, 3, some (aCm bNe bEq 114)) :: (110, 1, some (aIc (1))) :: (111, 3, some (aGoto 115)) :: (114, 1, some (aIc (0))) :: (115, 1, some (aIs 2)) :: (116, 1, some (aIl 2)) :: (117, 3, some (aIf bEq bNe 129)) :: (120, 1, some (aAl 0)) :: (121, 3, some (aGetR [(1175, 99608)])) :: (124, 1, some (aIl 1)) :: (125, 1, some (aIaldK D)) :: (126, 3, some (aGoto 135)) :: (129, 1, some (aAl 0)) :: (130, 3, some (aGetR [(1175, 99624)])) :: (133, 1, some (aIl 1)) :: (134, 1, some (aIaldK D)) :: (135, 3, some (aIf bEq bNe 143)) :: (138, 1, some (aAl 0)) :: (139, 1, some (aIc (3))) :: (140, 3, some (aCall D 7 2 2 csX7_wrong)) :: (143, 1, some (aAl 0)) :: (144, 3, some (aCall D 7 1 1 csX7_goOn)) :: (147, 1, some (aAl 0)) :: (148, 1, some (aIc (1))) :: (149, 2, some (aIc (99))) :: (151, 3, some (aCall D 7 3 4 csX7_numeral)) :: (154, 1, some (aIs 3)) :: (155, 1, some (aIl 2)) :: (156, 3, some (aIf bEq bNe 169)) :: (159, 1, some (aAl 0)) :: (160, 3, some (aGetR [(1175, 99608)])) :: (163, 1, some (aIl 1)) :: (164, 1, some (aIl 3)) :: (165, 1, some (aIastK D)) :: (166, 3, some (aGoto 176)) :: (169, 1, some (aAl 0)) :: (170, 3, some (aGetR [(1175, 99624)])) :: (173, 1, some (aIl 1)) :: (174, 1, some (aIl 3)) :: (175, 1, some (aIastK D)) :: (176, 3, some (aGoto 85)) :: (179, 1, some (aAl 0)) :: (180, 1, some (aDup)) :: (181, 3, some (aGetI D 7 27)) :: (184, 1, some (aIc (1))) :: (185, 1, some (aBin fAdd)) :: (186, 3, some (aPutI D 7 27)) :: (189, 1, some (aVret)) :: []
set_option maxRecDepth 100000 in
set_option maxHeartbeats 4000000 in
theorem snX7_firmLine (d : Nat) (W : List Nat) (c : Nat × Nat) (hc : c = cA ∨ c = cB) : SndAll (d, TYg, c, W) cdX7_firmLine (adX7_firmLine (d, TYg, c, W)) := by
  unfold cdX7_firmLine adX7_firmLine
  refine sn_op sAl ?_
  refine sn_op sGetR ?_
  refine sn_op sIl ?_
  refine sn_op sAl ?_
  refine sn_op sAl ?_
  refine sn_op sGetR ?_
  refine sn_op (sIc (n := 12) (by decide)) ?_
  refine sn_op sAl ?_
  refine sn_op sGetI ?_
  refine sn_op (sCI (sfX7_fresh c hc) (by decide) (by decide +kernel)) ?_
  refine sn_op sIastK ?_
  refine sn_op sAl ?_
  refine sn_op sGetR ?_
  refine sn_op sIl ?_
  refine sn_op sAl ?_
  refine sn_op sAl ?_
  refine sn_op sGetR ?_
  refine sn_op (sIc (n := 5) (by decide)) ?_
  refine sn_op sAl ?_
  refine sn_op sGetI ?_
  refine sn_op (sCI (sfX7_told c hc) (by decide) (by decide +kernel)) ?_
  refine sn_op sIastK ?_
  refine sn_op sAl ?_
  refine sn_op (sCV (sfX7_goOn c hc) (by decide) (by decide +kernel)) ?_
  refine sn_op sAl ?_
  refine sn_op sGetR ?_
  refine sn_op sIl ?_
  refine sn_op sAl ?_
  refine sn_op (sIc (n := 0) (by decide)) ?_
  refine sn_op (sIc (n := 400) (by decide)) ?_
  refine sn_op (sCI (sfX7_numeral c hc) (by decide) (by decide +kernel)) ?_
  refine sn_op sIastK ?_
  refine sn_op sAl ?_
  refine sn_op sGetR ?_
  refine sn_op sIl ?_
  refine sn_op (sIc (n := 0) (by decide)) ?_
  refine sn_op sIastK ?_
  refine sn_op sAl ?_
  refine sn_op sGetR ?_
  refine sn_op sIl ?_
  refine sn_op (sIc (n := 0) (by decide)) ?_
  refine sn_op sIastK ?_
  refine sn_op sAl ?_
  refine sn_op sGetR ?_
  refine sn_op sIl ?_
  refine sn_op (sIc (n := 0) (by decide)) ?_
  refine sn_op sIastK ?_
  refine sn_op sAl ?_
  refine sn_op sGetR ?_
  refine sn_op sIl ?_
  refine sn_op (sIc (n := 0) (by decide)) ?_
  refine sn_op sBast ?_
  refine sn_st ?_
  refine sn_op sAl ?_
  refine sn_op (sIc (n := 5) (by decide)) ?_
  refine sn_op (sCI (sfX7_isWord c hc) (by decide) (by decide +kernel)) ?_
  refine sn_op sIfNe ?_
  refine sn_op sAl ?_
  refine sn_op (sIc (n := 6) (by decide)) ?_
  refine sn_op (sCI (sfX7_isWord c hc) (by decide) (by decide +kernel)) ?_
  refine sn_op sIfEq ?_
  refine sn_op sAl ?_
  refine sn_op sGetI ?_
  refine sn_op (sIc (n := 5) (by decide)) ?_
  refine sn_op sCmNe ?_
  refine sn_op (sIc (n := 1) (by decide)) ?_
  refine sn_op sGoto ?_
  refine sn_op (sIc (n := 0) (by decide)) ?_
  refine sn_op sIs ?_
  refine sn_op sIl ?_
  refine sn_op sIfEq ?_
  refine sn_op sAl ?_
  refine sn_op sGetR ?_
  refine sn_op sIl ?_
  refine sn_op sIaldK ?_
  refine sn_op sGoto ?_
  refine sn_op sAl ?_
  refine sn_op sGetR ?_
  refine sn_op sIl ?_
  refine sn_op sIaldK ?_
  refine sn_op sIfEq ?_
  refine sn_op sAl ?_
  refine sn_op (sIc (n := 3) (by decide)) ?_
  refine sn_op (sCV (sfX7_wrong c hc) (by decide) (by decide +kernel)) ?_
  refine sn_op sAl ?_
  refine sn_op (sCV (sfX7_goOn c hc) (by decide) (by decide +kernel)) ?_
  refine sn_op sAl ?_
  refine sn_op (sIc (n := 1) (by decide)) ?_
  refine sn_op (sIc (n := 99) (by decide)) ?_
  refine sn_op (sCI (sfX7_numeral c hc) (by decide) (by decide +kernel)) ?_
  refine sn_op sIs ?_
  refine sn_op sIl ?_
  refine sn_op sIfEq ?_
  refine sn_op sAl ?_
  refine sn_op sGetR ?_
  refine sn_op sIl ?_
  refine sn_op sIl ?_
  refine sn_op sIastK ?_
  refine sn_op sGoto ?_
  refine sn_op sAl ?_
  refine sn_op sGetR ?_
  refine sn_op sIl ?_
  refine sn_op sIl ?_
  refine sn_op sIastK ?_
  refine sn_op sGoto ?_
  refine sn_op sAl ?_
  refine sn_op sDup ?_
  refine sn_op sGetI ?_
  refine sn_op (sIc (n := 1) (by decide)) ?_
  refine sn_op sIadd ?_
  refine sn_op sPutI ?_
  refine sn_op sVret ?_
  exact sn_nil
def csX7_firmLine : List AC := [([(2, 1175, 0), (0, 12, 23)], 6, [((9, 0, 0), [((1175, 27), (1, 12))], [])], [99560, 99576, 99592, 99608, 99624, 99640, 99659, 120259085463, 137438954647, 141733921943, 146028889239, 150323856535, 154618823831, 158913791127], [((1175, 27), (0, 11))])]
set_option maxRecDepth 100000 in
set_option maxHeartbeats 4000000 in
theorem sfX7_firmLine (c : Nat × Nat) (hc : c = cA ∨ c = cB) : ∀ ac ∈ csX7_firmLine, SafeC TYg c mX7_firmLine ac := by
  intro ac hac
  simp only [csX7_firmLine, List.mem_cons, List.not_mem_nil, or_false] at hac
  rcases hac with rfl
  · rcases hc with rfl | rfl
    · exact safe_of (ann := [(85, [], [])]) (fuel := 4000) okX7_firmLine (snX7_firmLine _ _ cA (Or.inl rfl)) (List.forall_mem_cons.mpr ⟨⟨_, _, rfl⟩, (fun q hq => by cases hq)⟩) (by decide) (by decide +kernel)
    · exact safe_of (ann := [(85, [], [])]) (fuel := 4000) okX7_firmLine (snX7_firmLine _ _ cB (Or.inr rfl)) (List.forall_mem_cons.mpr ⟨⟨_, _, rfl⟩, (fun q hq => by cases hq)⟩) (by decide) (by decide +kernel)
set_option maxRecDepth 100000 in
def adX7_hands (D : KK) : List ACE := (0, 1, some (aAl 0)) :: (1, 1, some (aIc (0))) :: (2, 3, some (aPutI D 7 0)) :: (5, 1, some (aAl 0)) :: (6, 3, some (aCall D 7 1 4 csX7_parties)) :: (9, 1, some (aIc (0))) :: (10, 1, some (aIs 1)) :: (11, 1, some (aIc (0))) :: (12, 1, some (aIs 2)) :: (13, 0, none) :: (13, 1, some (aIl 2)) :: (14, 1, some (aAl 0)) :: (15, 3, some (aGetI D 7 5)) :: (18, 3, some (aCm (fun C x y => bLe C y x) bLt 45)) :: (21, 1, some (aIl 1)) :: (22, 1, some (aAl 0)) :: (23, 3, some (aGetR [(1175, 50632)])) :: (26, 1, some (aIl 2)) :: (27, 1, some (aIald D)) :: (28, 1, some (aIl 2)) :: (29, 3, some (aCm bNe bEq 36)) :: (32, 1, some (aIc (1))) :: (33, 3, some (aGoto 37)) :: (36, 1, some (aIc (0))) :: (37, 1, some (aBin fAdd)) :: (38, 1, some (aIs 1)) :: (39, 3, some (aInc 2 (1))) :: (42, 3, some (aGoto 13)) :: (45, 1, some (aIl 1)) :: (46, 1, some (aIret)) :: []
set_option maxRecDepth 100000 in
set_option maxHeartbeats 4000000 in
theorem snX7_hands (d : Nat) (W : List Nat) (c : Nat × Nat) (hc : c = cA ∨ c = cB) : SndAll (d, TYg, c, W) cdX7_hands (adX7_hands (d, TYg, c, W)) := by
  unfold cdX7_hands adX7_hands
  refine sn_op sAl ?_
  refine sn_op (sIc (n := 0) (by decide)) ?_
  refine sn_op sPutI ?_
  refine sn_op sAl ?_
  refine sn_op (sCV (sfX7_parties c hc) (by decide) (by decide +kernel)) ?_
  refine sn_op (sIc (n := 0) (by decide)) ?_
  refine sn_op sIs ?_
  refine sn_op (sIc (n := 0) (by decide)) ?_
  refine sn_op sIs ?_
  refine sn_st ?_
  refine sn_op sIl ?_
  refine sn_op sAl ?_
  refine sn_op sGetI ?_
  refine sn_op sCmGe ?_
  refine sn_op sIl ?_
  refine sn_op sAl ?_
  refine sn_op sGetR ?_
  refine sn_op sIl ?_
  refine sn_op sIald ?_
  refine sn_op sIl ?_
  refine sn_op sCmNe ?_
  refine sn_op (sIc (n := 1) (by decide)) ?_
  refine sn_op sGoto ?_
  refine sn_op (sIc (n := 0) (by decide)) ?_
  refine sn_op sIadd ?_
  refine sn_op sIs ?_
  refine sn_op (sInc (n := 1) (by decide)) ?_
  refine sn_op sGoto ?_
  refine sn_op sIl ?_
  refine sn_op sIret ?_
  exact sn_nil
def csX7_hands : List AC := [([(2, 1175, 0)], 2, [((0, -2147483648, 2147483647), [], [])], [50632, 4294968471], [])]
set_option maxRecDepth 100000 in
set_option maxHeartbeats 4000000 in
theorem sfX7_hands (c : Nat × Nat) (hc : c = cA ∨ c = cB) : ∀ ac ∈ csX7_hands, SafeC TYg c mX7_hands ac := by
  intro ac hac
  simp only [csX7_hands, List.mem_cons, List.not_mem_nil, or_false] at hac
  rcases hac with rfl
  · rcases hc with rfl | rfl
    · exact safe_of (ann := [(13, [(2, 1175, 0), (0, -2147483648, 2147483647), (0, 0, 12)], [(0, 2, 0, 4294967296)])]) (fuel := 600) okX7_hands (snX7_hands _ _ cA (Or.inl rfl)) (List.forall_mem_cons.mpr ⟨⟨_, _, rfl⟩, (fun q hq => by cases hq)⟩) (by decide) (by decide +kernel)
    · exact safe_of (ann := [(13, [(2, 1175, 0), (0, -2147483648, 2147483647), (0, 0, 12)], [(0, 2, 0, 4294967296)])]) (fuel := 600) okX7_hands (snX7_hands _ _ cB (Or.inr rfl)) (List.forall_mem_cons.mpr ⟨⟨_, _, rfl⟩, (fun q hq => by cases hq)⟩) (by decide) (by decide +kernel)
set_option maxRecDepth 100000 in
def adX7_hasMissing (D : KK) : List ACE := (0, 1, some (aIc (0))) :: (1, 1, some (aIs 2)) :: (2, 0, none) :: (2, 1, some (aIl 2)) :: (3, 1, some (aAl 0)) :: (4, 3, some (aGetI D 7 5)) :: (7, 3, some (aCm (fun C x y => bLe C y x) bLt 50)) :: (10, 1, some (aIl 2)) :: (11, 1, some (aIl 1)) :: (12, 3, some (aCm bEq bNe 44)) :: (15, 1, some (aAl 0)) :: (16, 3, some (aGetR [(1175, 50632)])) :: (19, 1, some (aIl 2)) :: (20, 1, some (aIald D)) :: (21, 1, some (aAl 0)) :: (22, 3, some (aGetR [(1175, 50632)])) :: (25, 1, some (aIl 1)) :: (26, 1, some (aIald D)) :: (27, 3, some (aCm bNe bEq 44)) :: (30, 1, some (aAl 0)) :: (31, 1, some (aIl 2)) :: (32, 1, some (aAl 0)) :: (33, 3, some (aGetI D 7 40)) :: (36, 3, some (aCall D 7 3 3 csX7_isMissing)) :: (39, 3, some (aIf bEq bNe 44)) :: (42, 1, some (aIc (1))) :: (43, 1, some (aZret)) :: (44, 3, some (aInc 2 (1))) :: (47, 3, some (aGoto 2)) :: (50, 1, some (aIc (0))) :: (51, 1, some (aZret)) :: []
set_option maxRecDepth 100000 in
set_option maxHeartbeats 4000000 in
theorem snX7_hasMissing (d : Nat) (W : List Nat) (c : Nat × Nat) (hc : c = cA ∨ c = cB) : SndAll (d, TYg, c, W) cdX7_hasMissing (adX7_hasMissing (d, TYg, c, W)) := by
  unfold cdX7_hasMissing adX7_hasMissing
  refine sn_op (sIc (n := 0) (by decide)) ?_
  refine sn_op sIs ?_
  refine sn_st ?_
  refine sn_op sIl ?_
  refine sn_op sAl ?_
  refine sn_op sGetI ?_
  refine sn_op sCmGe ?_
  refine sn_op sIl ?_
  refine sn_op sIl ?_
  refine sn_op sCmEq ?_
  refine sn_op sAl ?_
  refine sn_op sGetR ?_
  refine sn_op sIl ?_
  refine sn_op sIald ?_
  refine sn_op sAl ?_
  refine sn_op sGetR ?_
  refine sn_op sIl ?_
  refine sn_op sIald ?_
  refine sn_op sCmNe ?_
  refine sn_op sAl ?_
  refine sn_op sIl ?_
  refine sn_op sAl ?_
  refine sn_op sGetI ?_
  refine sn_op (sCI (sfX7_isMissing c hc) (by decide) (by decide +kernel)) ?_
  refine sn_op sIfEq ?_
  refine sn_op (sIc (n := 1) (by decide)) ?_
  refine sn_op sZret ?_
  refine sn_op (sInc (n := 1) (by decide)) ?_
  refine sn_op sGoto ?_
  refine sn_op (sIc (n := 0) (by decide)) ?_
  refine sn_op sZret ?_
  exact sn_nil
def csX7_hasMissing : List AC := [([(2, 1175, 0), (0, 0, 0)], 5, [((0, 0, 0), [], []), ((0, 1, 1), [((1175, 5), (1, 12))], [])], [], []), ([(2, 1175, 0), (0, 0, 11)], 5, [((0, 0, 0), [], []), ((0, 1, 1), [((1175, 5), (1, 12))], [])], [], [])]
set_option maxRecDepth 100000 in
set_option maxHeartbeats 4000000 in
theorem sfX7_hasMissing (c : Nat × Nat) (hc : c = cA ∨ c = cB) : ∀ ac ∈ csX7_hasMissing, SafeC TYg c mX7_hasMissing ac := by
  intro ac hac
  simp only [csX7_hasMissing, List.mem_cons, List.not_mem_nil, or_false] at hac
  rcases hac with rfl | rfl
  · rcases hc with rfl | rfl
    · exact safe_of (ann := [(2, [(2, 1175, 0), (0, 0, 0), (0, 0, 12)], [(0, 2, 0, 4294967296)])]) (fuel := 600) okX7_hasMissing (snX7_hasMissing _ _ cA (Or.inl rfl)) (List.forall_mem_cons.mpr ⟨⟨_, _, rfl⟩, (fun q hq => by cases hq)⟩) (by decide) (by decide +kernel)
    · exact safe_of (ann := [(2, [(2, 1175, 0), (0, 0, 0), (0, 0, 12)], [(0, 2, 0, 4294967296)])]) (fuel := 600) okX7_hasMissing (snX7_hasMissing _ _ cB (Or.inr rfl)) (List.forall_mem_cons.mpr ⟨⟨_, _, rfl⟩, (fun q hq => by cases hq)⟩) (by decide) (by decide +kernel)
  · rcases hc with rfl | rfl
    · exact safe_of (ann := [(2, [(2, 1175, 0), (0, 0, 11), (0, 0, 12)], [(0, 2, 0, 4294967296)])]) (fuel := 600) okX7_hasMissing (snX7_hasMissing _ _ cA (Or.inl rfl)) (List.forall_mem_cons.mpr ⟨⟨_, _, rfl⟩, (fun q hq => by cases hq)⟩) (by decide) (by decide +kernel)
    · exact safe_of (ann := [(2, [(2, 1175, 0), (0, 0, 11), (0, 0, 12)], [(0, 2, 0, 4294967296)])]) (fuel := 600) okX7_hasMissing (snX7_hasMissing _ _ cB (Or.inr rfl)) (List.forall_mem_cons.mpr ⟨⟨_, _, rfl⟩, (fun q hq => by cases hq)⟩) (by decide) (by decide +kernel)
set_option maxRecDepth 100000 in
def adX7_isSale (D : KK) : List ACE := (0, 1, some (aIl 1)) :: (1, 3, some (aIf bLt (fun C x y => bLe C y x) 16)) :: (4, 1, some (aIl 1)) :: (5, 1, some (aAl 0)) :: (6, 3, some (aGetI D 7 6)) :: (9, 3, some (aCm (fun C x y => bLe C y x) bLt 16)) :: (12, 1, some (aIc (1))) :: (13, 3, some (aGoto 17)) :: (16, 1, some (aIc (0))) :: (17, 1, some (aZret)) :: []
set_option maxRecDepth 100000 in
set_option maxHeartbeats 4000000 in
theorem snX7_isSale (d : Nat) (W : List Nat) (c : Nat × Nat) (hc : c = cA ∨ c = cB) : SndAll (d, TYg, c, W) cdX7_isSale (adX7_isSale (d, TYg, c, W)) := by
  unfold cdX7_isSale adX7_isSale
  refine sn_op sIl ?_
  refine sn_op sIfLt ?_
  refine sn_op sIl ?_
  refine sn_op sAl ?_
  refine sn_op sGetI ?_
  refine sn_op sCmGe ?_
  refine sn_op (sIc (n := 1) (by decide)) ?_
  refine sn_op sGoto ?_
  refine sn_op (sIc (n := 0) (by decide)) ?_
  refine sn_op sZret ?_
  exact sn_nil
def csX7_isSale : List AC := [([(2, 1175, 0), (0, -2147483648, 2147483647)], 1, [((0, 0, 0), [], []), ((0, 1, 1), [((1175, 6), (1, 40))], [(1, (0, 39))])], [], [])]
set_option maxRecDepth 100000 in
set_option maxHeartbeats 4000000 in
theorem sfX7_isSale (c : Nat × Nat) (hc : c = cA ∨ c = cB) : ∀ ac ∈ csX7_isSale, SafeC TYg c mX7_isSale ac := by
  intro ac hac
  simp only [csX7_isSale, List.mem_cons, List.not_mem_nil, or_false] at hac
  rcases hac with rfl
  · rcases hc with rfl | rfl
    · exact safe_of (ann := []) (fuel := 600) okX7_isSale (snX7_isSale _ _ cA (Or.inl rfl)) (fun q hq => by cases hq) (by decide) (by decide +kernel)
    · exact safe_of (ann := []) (fuel := 600) okX7_isSale (snX7_isSale _ _ cB (Or.inr rfl)) (fun q hq => by cases hq) (by decide) (by decide +kernel)
set_option maxRecDepth 100000 in
def adX7_roundsWith (D : KK) : List ACE := (0, 1, some (aIc (0))) :: (1, 1, some (aIs 2)) :: (2, 1, some (aIc (0))) :: (3, 1, some (aIs 3)) :: (4, 0, none) :: (4, 1, some (aIl 3)) :: (5, 1, some (aAl 0)) :: (6, 3, some (aGetI D 7 42)) :: (9, 3, some (aCm (fun C x y => bLe C y x) bLt 30)) :: (12, 1, some (aIl 2)) :: (13, 1, some (aAl 0)) :: (14, 1, some (aIl 3)) :: (15, 3, some (aCall D 7 2 4 csX7_firmsOf)) :: (18, 1, some (aIl 1)) :: (19, 1, some (aBin fShr)) :: (20, 1, some (aIc (1))) :: (21, 1, some (aBin fAnd)) :: (22, 1, some (aBin fAdd)) :: (23, 1, some (aIs 2)) :: (24, 3, some (aInc 3 (1))) :: (27, 3, some (aGoto 4)) :: (30, 1, some (aIl 2)) :: (31, 1, some (aIret)) :: []
set_option maxRecDepth 100000 in
set_option maxHeartbeats 4000000 in
theorem snX7_roundsWith (d : Nat) (W : List Nat) (c : Nat × Nat) (hc : c = cA ∨ c = cB) : SndAll (d, TYg, c, W) cdX7_roundsWith (adX7_roundsWith (d, TYg, c, W)) := by
  unfold cdX7_roundsWith adX7_roundsWith
  refine sn_op (sIc (n := 0) (by decide)) ?_
  refine sn_op sIs ?_
  refine sn_op (sIc (n := 0) (by decide)) ?_
  refine sn_op sIs ?_
  refine sn_st ?_
  refine sn_op sIl ?_
  refine sn_op sAl ?_
  refine sn_op sGetI ?_
  refine sn_op sCmGe ?_
  refine sn_op sIl ?_
  refine sn_op sAl ?_
  refine sn_op sIl ?_
  refine sn_op (sCI (sfX7_firmsOf c hc) (by decide) (by decide +kernel)) ?_
  refine sn_op sIl ?_
  refine sn_op sIshr ?_
  refine sn_op (sIc (n := 1) (by decide)) ?_
  refine sn_op sIand ?_
  refine sn_op sIadd ?_
  refine sn_op sIs ?_
  refine sn_op (sInc (n := 1) (by decide)) ?_
  refine sn_op sGoto ?_
  refine sn_op sIl ?_
  refine sn_op sIret ?_
  exact sn_nil
def csX7_roundsWith : List AC := [([(2, 1175, 0), (0, 0, 0)], 2, [((0, -2147483648, 2147483647), [], [])], [], []), ([(2, 1175, 0), (0, 0, 11)], 2, [((0, -2147483648, 2147483647), [], [])], [], [])]
set_option maxRecDepth 100000 in
set_option maxHeartbeats 4000000 in
theorem sfX7_roundsWith (c : Nat × Nat) (hc : c = cA ∨ c = cB) : ∀ ac ∈ csX7_roundsWith, SafeC TYg c mX7_roundsWith ac := by
  intro ac hac
  simp only [csX7_roundsWith, List.mem_cons, List.not_mem_nil, or_false] at hac
  rcases hac with rfl | rfl
  · rcases hc with rfl | rfl
    · exact safe_of (ann := [(4, [(2, 1175, 0), (0, 0, 0), (0, -2147483648, 2147483647), (0, 0, 200)], [(0, 3, 0, 4294967296)])]) (fuel := 600) okX7_roundsWith (snX7_roundsWith _ _ cA (Or.inl rfl)) (List.forall_mem_cons.mpr ⟨⟨_, _, rfl⟩, (fun q hq => by cases hq)⟩) (by decide) (by decide +kernel)
    · exact safe_of (ann := [(4, [(2, 1175, 0), (0, 0, 0), (0, -2147483648, 2147483647), (0, 0, 200)], [(0, 3, 0, 4294967296)])]) (fuel := 600) okX7_roundsWith (snX7_roundsWith _ _ cB (Or.inr rfl)) (List.forall_mem_cons.mpr ⟨⟨_, _, rfl⟩, (fun q hq => by cases hq)⟩) (by decide) (by decide +kernel)
  · rcases hc with rfl | rfl
    · exact safe_of (ann := [(4, [(2, 1175, 0), (0, 0, 11), (0, -2147483648, 2147483647), (0, 0, 200)], [(0, 3, 0, 4294967296)])]) (fuel := 600) okX7_roundsWith (snX7_roundsWith _ _ cA (Or.inl rfl)) (List.forall_mem_cons.mpr ⟨⟨_, _, rfl⟩, (fun q hq => by cases hq)⟩) (by decide) (by decide +kernel)
    · exact safe_of (ann := [(4, [(2, 1175, 0), (0, 0, 11), (0, -2147483648, 2147483647), (0, 0, 200)], [(0, 3, 0, 4294967296)])]) (fuel := 600) okX7_roundsWith (snX7_roundsWith _ _ cB (Or.inr rfl)) (List.forall_mem_cons.mpr ⟨⟨_, _, rfl⟩, (fun q hq => by cases hq)⟩) (by decide) (by decide +kernel)
set_option maxRecDepth 100000 in
def adX7_soldUnder (D : KK) : List ACE := (0, 1, some (aIc (0))) :: (1, 1, some (aIs 2)) :: (2, 0, none) :: (2, 1, some (aIl 2)) :: (3, 1, some (aAl 0)) :: (4, 3, some (aGetI D 7 6)) :: (7, 3, some (aCm (fun C x y => bLe C y x) bLt 99)) :: (10, 1, some (aIc (0))) :: (11, 1, some (aIs 3)) :: (12, 0, none) :: (12, 1, some (aIl 3)) :: (13, 1, some (aAl 0)) :: (14, 3, some (aGetI D 7 6)) :: (17, 3, some (aCm (fun C x y => bLe C y x) bLt 93)) :: (20, 1, some (aAl 0)) :: (21, 3, some (aGetR [(1175, 329048)])) :: (24, 1, some (aIl 2)) :: (25, 1, some (aIald D)) :: (26, 1, some (aIl 1)) :: (27, 3, some (aCm bNe bEq 93)) :: (30, 1, some (aAl 0)) :: (31, 3, some (aGetR [(1175, 329064)])) :: (34, 1, some (aIl 3)) :: (35, 1, some (aIald D)) :: (36, 1, some (aIl 1)) :: (37, 3, some (aCm bNe bEq 87)) :: (40, 1, some (aAl 0)) :: (41, 3, some (aGetR [(1175, 329096)])) :: (44, 1, some (aIl 3)) :: (45, 1, some (aIald D)) :: (46, 1, some (aAl 0)) :: (47, 3, some (aGetR [(1175, 329096)])) :: (50, 1, some (aIl 2)) :: (51, 1, some (aIald D)) :: (52, 3, some (aCm bNe bEq 87)) :: (55, 1, some (aAl 0)) :: (56, 3, some (aGetR [(1175, 329128)])) :: (59, 1, some (aIl 3)) :: (60, 1, some (aIald D)) :: (61, 1, some (aAl 0)) :: (62, 3, some (aGetR [(1175, 329128)])) :: (65, 1, some (aIl 2)) :: (66, 1, some (aIald D)) :: (67, 3, some (aCm (fun C x y => bLt C y x) bLe 87)) :: (70, 1, some (aAl 0)) :: (71, 3, some (aGetR [(1175, 329112)])) :: (74, 1, some (aIl 2)) :: (75, 1, some (aIald D)) :: (76, 1, some (aAl 0)) :: (77, 3, some (aGetR [(1175, 329112)])) :: (80, 1, some (aIl 3)) :: (81, 1, some (aIald D)) :: (82, 3, some (aCm (fun C x y => bLe C y x) bLt 87)) :: (85, 1, some (aIc (1))) :: (86, 1, some (aZret)) :: (87, 3, some (aInc 3 (1))) :: (90, 3, some (aGoto 12)) :: (93, 3, some (aInc 2 (1))) :: (96, 3, some (aGoto 2)) :: (99, 1, some (aIc (0))) :: (100, 1, some (aZret)) :: []
set_option maxRecDepth 100000 in
set_option maxHeartbeats 4000000 in
theorem snX7_soldUnder (d : Nat) (W : List Nat) (c : Nat × Nat) (hc : c = cA ∨ c = cB) : SndAll (d, TYg, c, W) cdX7_soldUnder (adX7_soldUnder (d, TYg, c, W)) := by
  unfold cdX7_soldUnder adX7_soldUnder
  refine sn_op (sIc (n := 0) (by decide)) ?_
  refine sn_op sIs ?_
  refine sn_st ?_
  refine sn_op sIl ?_
  refine sn_op sAl ?_
  refine sn_op sGetI ?_
  refine sn_op sCmGe ?_
  refine sn_op (sIc (n := 0) (by decide)) ?_
  refine sn_op sIs ?_
  refine sn_st ?_
  refine sn_op sIl ?_
  refine sn_op sAl ?_
  refine sn_op sGetI ?_
  refine sn_op sCmGe ?_
  refine sn_op sAl ?_
  refine sn_op sGetR ?_
  refine sn_op sIl ?_
  refine sn_op sIald ?_
  refine sn_op sIl ?_
  refine sn_op sCmNe ?_
  refine sn_op sAl ?_
  refine sn_op sGetR ?_
  refine sn_op sIl ?_
  refine sn_op sIald ?_
  refine sn_op sIl ?_
  refine sn_op sCmNe ?_
  refine sn_op sAl ?_
  refine sn_op sGetR ?_
  refine sn_op sIl ?_
  refine sn_op sIald ?_
  refine sn_op sAl ?_
  refine sn_op sGetR ?_
  refine sn_op sIl ?_
  refine sn_op sIald ?_
  refine sn_op sCmNe ?_
  refine sn_op sAl ?_
  refine sn_op sGetR ?_
  refine sn_op sIl ?_
  refine sn_op sIald ?_
  refine sn_op sAl ?_
  refine sn_op sGetR ?_
  refine sn_op sIl ?_
  refine sn_op sIald ?_
  refine sn_op sCmGt ?_
  refine sn_op sAl ?_
  refine sn_op sGetR ?_
  refine sn_op sIl ?_
  refine sn_op sIald ?_
  refine sn_op sAl ?_
  refine sn_op sGetR ?_
  refine sn_op sIl ?_
  refine sn_op sIald ?_
  refine sn_op sCmGe ?_
  refine sn_op (sIc (n := 1) (by decide)) ?_
  refine sn_op sZret ?_
  refine sn_op (sInc (n := 1) (by decide)) ?_
  refine sn_op sGoto ?_
  refine sn_op (sInc (n := 1) (by decide)) ?_
  refine sn_op sGoto ?_
  refine sn_op (sIc (n := 0) (by decide)) ?_
  refine sn_op sZret ?_
  exact sn_nil
def csX7_soldUnder : List AC := [([(2, 1175, 0), (0, 0, 0)], 1, [((0, 0, 0), [], []), ((0, 1, 1), [((1175, 6), (1, 40))], [])], [], []), ([(2, 1175, 0), (0, 0, 11)], 1, [((0, 0, 0), [], []), ((0, 1, 1), [((1175, 6), (1, 40))], [])], [], [])]
set_option maxRecDepth 100000 in
set_option maxHeartbeats 4000000 in
theorem sfX7_soldUnder (c : Nat × Nat) (hc : c = cA ∨ c = cB) : ∀ ac ∈ csX7_soldUnder, SafeC TYg c mX7_soldUnder ac := by
  intro ac hac
  simp only [csX7_soldUnder, List.mem_cons, List.not_mem_nil, or_false] at hac
  rcases hac with rfl | rfl
  · rcases hc with rfl | rfl
    · exact safe_of (ann := [(2, [(2, 1175, 0), (0, 0, 0), (0, 0, 40), (4, 0, 0)], [(0, 2, 0, 4294967296), (3, 0, 0, 2)]), (12, [(2, 1175, 0), (0, 0, 0), (0, 0, 39), (0, 0, 40)], [(0, 2, 0, 4294967296), (3, 0, 0, 1), (0, 3, 0, 4294967296)])]) (fuel := 600) okX7_soldUnder (snX7_soldUnder _ _ cA (Or.inl rfl)) (List.forall_mem_cons.mpr ⟨⟨_, _, rfl⟩, List.forall_mem_cons.mpr ⟨⟨_, _, rfl⟩, (fun q hq => by cases hq)⟩⟩) (by decide) (by decide +kernel)
    · exact safe_of (ann := [(2, [(2, 1175, 0), (0, 0, 0), (0, 0, 40), (4, 0, 0)], [(0, 2, 0, 4294967296), (3, 0, 0, 2)]), (12, [(2, 1175, 0), (0, 0, 0), (0, 0, 39), (0, 0, 40)], [(0, 2, 0, 4294967296), (3, 0, 0, 1), (0, 3, 0, 4294967296)])]) (fuel := 600) okX7_soldUnder (snX7_soldUnder _ _ cB (Or.inr rfl)) (List.forall_mem_cons.mpr ⟨⟨_, _, rfl⟩, List.forall_mem_cons.mpr ⟨⟨_, _, rfl⟩, (fun q hq => by cases hq)⟩⟩) (by decide) (by decide +kernel)
  · rcases hc with rfl | rfl
    · exact safe_of (ann := [(2, [(2, 1175, 0), (0, 0, 11), (0, 0, 40), (4, 0, 0)], [(0, 2, 0, 4294967296), (3, 0, 0, 2)]), (12, [(2, 1175, 0), (0, 0, 11), (0, 0, 39), (0, 0, 40)], [(0, 2, 0, 4294967296), (3, 0, 0, 1), (0, 3, 0, 4294967296)])]) (fuel := 600) okX7_soldUnder (snX7_soldUnder _ _ cA (Or.inl rfl)) (List.forall_mem_cons.mpr ⟨⟨_, _, rfl⟩, List.forall_mem_cons.mpr ⟨⟨_, _, rfl⟩, (fun q hq => by cases hq)⟩⟩) (by decide) (by decide +kernel)
    · exact safe_of (ann := [(2, [(2, 1175, 0), (0, 0, 11), (0, 0, 40), (4, 0, 0)], [(0, 2, 0, 4294967296), (3, 0, 0, 2)]), (12, [(2, 1175, 0), (0, 0, 11), (0, 0, 39), (0, 0, 40)], [(0, 2, 0, 4294967296), (3, 0, 0, 1), (0, 3, 0, 4294967296)])]) (fuel := 600) okX7_soldUnder (snX7_soldUnder _ _ cB (Or.inr rfl)) (List.forall_mem_cons.mpr ⟨⟨_, _, rfl⟩, List.forall_mem_cons.mpr ⟨⟨_, _, rfl⟩, (fun q hq => by cases hq)⟩⟩) (by decide) (by decide +kernel)
set_option maxRecDepth 100000 in
def adX7_signsOf (D : KK) : List ACE := (0, 1, some (aAl 0)) :: (1, 1, some (aIl 1)) :: (2, 3, some (aCall D 7 2 4 csX7_soldUnder)) :: (5, 3, some (aIf bEq bNe 12)) :: (8, 1, some (aIc (1))) :: (9, 3, some (aGoto 13)) :: (12, 1, some (aIc (0))) :: (13, 1, some (aAl 0)) :: (14, 1, some (aIl 1)) :: (15, 3, some (aCall D 7 2 4 csX7_boughtOfSuch)) :: (18, 3, some (aIf bEq bNe 25)) :: (21, 1, some (aIc (2))) :: (22, 3, some (aGoto 26)) :: (25, 1, some (aIc (0))) :: (26, 1, some (aBin fAdd)) :: (27, 1, some (aAl 0)) :: (28, 1, some (aIl 1)) :: (29, 3, some (aCall D 7 2 4 csX7_roundsWith)) :: (32, 1, some (aIc (1))) :: (33, 3, some (aCm bLe (fun C x y => bLt C y x) 40)) :: (36, 1, some (aIc (4))) :: (37, 3, some (aGoto 41)) :: (40, 1, some (aIc (0))) :: (41, 1, some (aBin fAdd)) :: (42, 1, some (aAl 0)) :: (43, 1, some (aIl 1)) :: (44, 3, some (aCall D 7 2 3 csX7_hasMissing)) :: (47, 3, some (aIf bEq bNe 55)) :: (50, 2, some (aIc (8))) :: (52, 3, some (aGoto 56)) :: (55, 1, some (aIc (0))) :: (56, 1, some (aBin fAdd)) :: (57, 1, some (aIret)) :: []
set_option maxRecDepth 100000 in
set_option maxHeartbeats 4000000 in
theorem snX7_signsOf (d : Nat) (W : List Nat) (c : Nat × Nat) (hc : c = cA ∨ c = cB) : SndAll (d, TYg, c, W) cdX7_signsOf (adX7_signsOf (d, TYg, c, W)) := by
  unfold cdX7_signsOf adX7_signsOf
  refine sn_op sAl ?_
  refine sn_op sIl ?_
  refine sn_op (sCI (sfX7_soldUnder c hc) (by decide) (by decide +kernel)) ?_
  refine sn_op sIfEq ?_
  refine sn_op (sIc (n := 1) (by decide)) ?_
  refine sn_op sGoto ?_
  refine sn_op (sIc (n := 0) (by decide)) ?_
  refine sn_op sAl ?_
  refine sn_op sIl ?_
  refine sn_op (sCI (sfX7_boughtOfSuch c hc) (by decide) (by decide +kernel)) ?_
  refine sn_op sIfEq ?_
  refine sn_op (sIc (n := 2) (by decide)) ?_
  refine sn_op sGoto ?_
  refine sn_op (sIc (n := 0) (by decide)) ?_
  refine sn_op sIadd ?_
  refine sn_op sAl ?_
  refine sn_op sIl ?_
  refine sn_op (sCI (sfX7_roundsWith c hc) (by decide) (by decide +kernel)) ?_
  refine sn_op (sIc (n := 1) (by decide)) ?_
  refine sn_op sCmLe ?_
  refine sn_op (sIc (n := 4) (by decide)) ?_
  refine sn_op sGoto ?_
  refine sn_op (sIc (n := 0) (by decide)) ?_
  refine sn_op sIadd ?_
  refine sn_op sAl ?_
  refine sn_op sIl ?_
  refine sn_op (sCI (sfX7_hasMissing c hc) (by decide) (by decide +kernel)) ?_
  refine sn_op sIfEq ?_
  refine sn_op (sIc (n := 8) (by decide)) ?_
  refine sn_op sGoto ?_
  refine sn_op (sIc (n := 0) (by decide)) ?_
  refine sn_op sIadd ?_
  refine sn_op sIret ?_
  exact sn_nil
def csX7_signsOf : List AC := [([(2, 1175, 0), (0, 0, 0)], 7, [((0, 0, 15), [], [])], [], []), ([(2, 1175, 0), (0, 0, 11)], 7, [((0, 0, 15), [], [])], [], [])]
set_option maxRecDepth 100000 in
set_option maxHeartbeats 4000000 in
theorem sfX7_signsOf (c : Nat × Nat) (hc : c = cA ∨ c = cB) : ∀ ac ∈ csX7_signsOf, SafeC TYg c mX7_signsOf ac := by
  intro ac hac
  simp only [csX7_signsOf, List.mem_cons, List.not_mem_nil, or_false] at hac
  rcases hac with rfl | rfl
  · rcases hc with rfl | rfl
    · exact safe_of (ann := []) (fuel := 600) okX7_signsOf (snX7_signsOf _ _ cA (Or.inl rfl)) (fun q hq => by cases hq) (by decide) (by decide +kernel)
    · exact safe_of (ann := []) (fuel := 600) okX7_signsOf (snX7_signsOf _ _ cB (Or.inr rfl)) (fun q hq => by cases hq) (by decide) (by decide +kernel)
  · rcases hc with rfl | rfl
    · exact safe_of (ann := []) (fuel := 600) okX7_signsOf (snX7_signsOf _ _ cA (Or.inl rfl)) (fun q hq => by cases hq) (by decide) (by decide +kernel)
    · exact safe_of (ann := []) (fuel := 600) okX7_signsOf (snX7_signsOf _ _ cB (Or.inr rfl)) (fun q hq => by cases hq) (by decide) (by decide +kernel)
set_option maxRecDepth 100000 in
def adX7_knew (D : KK) : List ACE := (0, 1, some (aAl 0)) :: (1, 1, some (aIc (0))) :: (2, 3, some (aPutI D 7 0)) :: (5, 1, some (aIl 1)) :: (6, 1, some (aIc (1))) :: (7, 3, some (aCm bLt (fun C x y => bLe C y x) 37)) :: (10, 1, some (aIl 1)) :: (11, 2, some (aIc (15))) :: (13, 3, some (aCm (fun C x y => bLt C y x) bLe 37)) :: (16, 1, some (aIl 2)) :: (17, 1, some (aIl 3)) :: (18, 2, some (aIl 4)) :: (20, 3, some (aCall D 16 3 3 csX7_isAsked)) :: (23, 3, some (aIf bEq bNe 37)) :: (26, 2, some (aIl 5)) :: (28, 3, some (aIf bLt (fun C x y => bLe C y x) 37)) :: (31, 2, some (aIl 5)) :: (33, 1, some (aIc (1))) :: (34, 3, some (aCm bLe (fun C x y => bLt C y x) 39)) :: (37, 1, some (aIc (-1))) :: (38, 1, some (aIret)) :: (39, 1, some (aAl 0)) :: (40, 1, some (aIl 2)) :: (41, 1, some (aIl 3)) :: (42, 2, some (aIl 4)) :: (44, 3, some (aCall D 7 4 5 csX7_seeksNow)) :: (47, 1, some (aAl 0)) :: (48, 3, some (aGetI D 7 47)) :: (51, 3, some (aIf bEq bNe 57)) :: (54, 2, some (aIc (-2))) :: (56, 1, some (aIret)) :: (57, 1, some (aAl 0)) :: (58, 3, some (aCall D 7 1 4 csX7_parties)) :: (61, 1, some (aIc (0))) :: (62, 2, some (aIs 6)) :: (64, 1, some (aIc (0))) :: (65, 2, some (aIs 7)) :: (67, 0, none) :: (67, 2, some (aIl 7)) :: (69, 1, some (aAl 0)) :: (70, 3, some (aGetI D 7 5)) :: (73, 3, some (aCm (fun C x y => bLe C y x) bLt 133)) :: (76, 1, some (aAl 0)) :: (77, 2, some (aIl 7)) :: (79, 3, some (aCall D 7 2 2 csX7_signsOf)) :: (82, 1, some (aIl 1)) :: (83, 1, some (aBin fAnd)) :: (84, 2, some (aIs 8)) :: (86, 1, some (aAl 0)) :: (87, 2, some (aIl 7)) :: (89, 1, some (aAl 0)) :: (90, 3, some (aGetI D 7 40)) :: (93, 3, some (aCall D 7 3 3 csX7_isMissing)) :: (96, 3, some (aIf bNe bEq 127)) :: (99, 2, some (aIl 5)) :: (101, 3, some (aIf bNe bEq 113)) :: (104, 2, some (aIl 8)) :: (106, 1, some (aIl 1)) :: (107, 3, some (aCm bNe bEq 127)) :: (110, 3, some (aGoto 118)) :: (113, 2, some (aIl 8)) :: (115, 3, some (aIf bEq bNe 127)) :: (118, 2, some (aIl 6)) :: (120, 1, some (aIc (1))) :: (121, 2, some (aIl 7)) :: (123, 1, some (aBin fTop)) :: (124, 1, some (aBin fTop)) :: (125, 2, some (aIs 6)) :: (127, 3, some (aInc 7 (1))) :: (130, 3, some (aGoto 67)) :: (133, 2, some (aIl 6)) :: (135, 1, some (aIret)) :: []
set_option maxRecDepth 100000 in
set_option maxHeartbeats 4000000 in
theorem snX7_knew (d : Nat) (W : List Nat) (c : Nat × Nat) (hc : c = cA ∨ c = cB) : SndAll (d, TYg, c, W) cdX7_knew (adX7_knew (d, TYg, c, W)) := by
  unfold cdX7_knew adX7_knew
  refine sn_op sAl ?_
  refine sn_op (sIc (n := 0) (by decide)) ?_
  refine sn_op sPutI ?_
  refine sn_op sIl ?_
  refine sn_op (sIc (n := 1) (by decide)) ?_
  refine sn_op sCmLt ?_
  refine sn_op sIl ?_
  refine sn_op (sIc (n := 15) (by decide)) ?_
  refine sn_op sCmGt ?_
  refine sn_op sIl ?_
  refine sn_op sIl ?_
  refine sn_op sIl ?_
  refine sn_op (sCI (sfX7_isAsked c hc) (by decide) (by decide +kernel)) ?_
  refine sn_op sIfEq ?_
  refine sn_op sIl ?_
  refine sn_op sIfLt ?_
  refine sn_op sIl ?_
  refine sn_op (sIc (n := 1) (by decide)) ?_
  refine sn_op sCmLe ?_
  refine sn_op (sIc (n := -1) (by decide)) ?_
  refine sn_op sIret ?_
  refine sn_op sAl ?_
  refine sn_op sIl ?_
  refine sn_op sIl ?_
  refine sn_op sIl ?_
  refine sn_op (sCV (sfX7_seeksNow c hc) (by decide) (by decide +kernel)) ?_
  refine sn_op sAl ?_
  refine sn_op sGetI ?_
  refine sn_op sIfEq ?_
  refine sn_op (sIc (n := -2) (by decide)) ?_
  refine sn_op sIret ?_
  refine sn_op sAl ?_
  refine sn_op (sCV (sfX7_parties c hc) (by decide) (by decide +kernel)) ?_
  refine sn_op (sIc (n := 0) (by decide)) ?_
  refine sn_op sIs ?_
  refine sn_op (sIc (n := 0) (by decide)) ?_
  refine sn_op sIs ?_
  refine sn_st ?_
  refine sn_op sIl ?_
  refine sn_op sAl ?_
  refine sn_op sGetI ?_
  refine sn_op sCmGe ?_
  refine sn_op sAl ?_
  refine sn_op sIl ?_
  refine sn_op (sCI (sfX7_signsOf c hc) (by decide) (by decide +kernel)) ?_
  refine sn_op sIl ?_
  refine sn_op sIand ?_
  refine sn_op sIs ?_
  refine sn_op sAl ?_
  refine sn_op sIl ?_
  refine sn_op sAl ?_
  refine sn_op sGetI ?_
  refine sn_op (sCI (sfX7_isMissing c hc) (by decide) (by decide +kernel)) ?_
  refine sn_op sIfNe ?_
  refine sn_op sIl ?_
  refine sn_op sIfNe ?_
  refine sn_op sIl ?_
  refine sn_op sIl ?_
  refine sn_op sCmNe ?_
  refine sn_op sGoto ?_
  refine sn_op sIl ?_
  refine sn_op sIfEq ?_
  refine sn_op sIl ?_
  refine sn_op (sIc (n := 1) (by decide)) ?_
  refine sn_op sIl ?_
  refine sn_op sIshl ?_
  refine sn_op sIor ?_
  refine sn_op sIs ?_
  refine sn_op (sInc (n := 1) (by decide)) ?_
  refine sn_op sGoto ?_
  refine sn_op sIl ?_
  refine sn_op sIret ?_
  exact sn_nil
def csX7_knew : List AC := [([(2, 1175, 0), (0, -2147483648, 2147483647), (0, -2147483648, 2147483647), (0, -2147483648, 2147483647), (0, -2147483648, 2147483647), (0, -2147483648, 2147483647)], 10, [((0, -2147483648, 2147483647), [], []), ((0, -2, -1), [((1175, 0), (0, 0))], [])], [26104, 50632, 165384, 820712, 4916696, 4294968471, 184683594903, 206158431383, 210453398679, 214748365975, 219043333271], [])]
set_option maxRecDepth 100000 in
set_option maxHeartbeats 4000000 in
theorem sfX7_knew (c : Nat × Nat) (hc : c = cA ∨ c = cB) : ∀ ac ∈ csX7_knew, SafeC TYg c mX7_knew ac := by
  intro ac hac
  simp only [csX7_knew, List.mem_cons, List.not_mem_nil, or_false] at hac
  rcases hac with rfl
  · rcases hc with rfl | rfl
    · exact safe_of (ann := [(67, [(2, 1175, 0), (0, 1, 15), (0, 0, 1), (0, 2, 6), (0, 0, 400), (0, 0, 1), (0, -2147483648, 2147483647), (0, 0, 12), (4, 0, 0)], [(0, 7, 0, 4294967296)])]) (fuel := 600) okX7_knew (snX7_knew _ _ cA (Or.inl rfl)) (List.forall_mem_cons.mpr ⟨⟨_, _, rfl⟩, (fun q hq => by cases hq)⟩) (by decide) (by decide +kernel)
    · exact safe_of (ann := [(67, [(2, 1175, 0), (0, 1, 15), (0, 0, 1), (0, 2, 6), (0, 0, 400), (0, 0, 1), (0, -2147483648, 2147483647), (0, 0, 12), (4, 0, 0)], [(0, 7, 0, 4294967296)])]) (fuel := 600) okX7_knew (snX7_knew _ _ cB (Or.inr rfl)) (List.forall_mem_cons.mpr ⟨⟨_, _, rfl⟩, (fun q hq => by cases hq)⟩) (by decide) (by decide +kernel)
