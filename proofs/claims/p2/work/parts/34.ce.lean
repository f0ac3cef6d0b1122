/-! contracts -/
set_option maxRecDepth 100000 in
def adX7_fault (D : KK) : List ACE := (0, 1, some (aAl 0)) :: (1, 1, some (aIc (0))) :: (2, 3, some (aPutI D 7 0)) :: (5, 1, some (aIl 1)) :: (6, 3, some (aIf bNe bEq 16)) :: (9, 1, some (aAl 0)) :: (10, 3, some (aGetI D 7 37)) :: (13, 3, some (aGoto 29)) :: (16, 1, some (aIl 1)) :: (17, 1, some (aIc (1))) :: (18, 3, some (aCm bNe bEq 28)) :: (21, 1, some (aAl 0)) :: (22, 3, some (aGetI D 7 38)) :: (25, 3, some (aGoto 29)) :: (28, 1, some (aIc (-1))) :: (29, 1, some (aIret)) :: []
set_option maxRecDepth 100000 in
set_option maxHeartbeats 4000000 in
theorem snX7_fault (d : Nat) (W : List Nat) (c : Nat × Nat) (hc : c = cA ∨ c = cB) : SndAll (d, TYg, c, W) cdX7_fault (adX7_fault (d, TYg, c, W)) := by
  unfold cdX7_fault adX7_fault
  refine sn_op sAl ?_
  refine sn_op (sIc (n := 0) (by decide)) ?_
  refine sn_op sPutI ?_
  refine sn_op sIl ?_
  refine sn_op sIfNe ?_
  refine sn_op sAl ?_
  refine sn_op sGetI ?_
  refine sn_op sGoto ?_
  refine sn_op sIl ?_
  refine sn_op (sIc (n := 1) (by decide)) ?_
  refine sn_op sCmNe ?_
  refine sn_op sAl ?_
  refine sn_op sGetI ?_
  refine sn_op sGoto ?_
  refine sn_op (sIc (n := -1) (by decide)) ?_
  refine sn_op sIret ?_
  exact sn_nil
def csX7_fault : List AC := [([(2, 1175, 0), (0, -2147483648, 2147483647)], 1, [((0, -2147483648, 2147483647), [((1175, 0), (0, 0))], [(1, (1, 1))]), ((0, -1, -1), [((1175, 0), (0, 0))], []), ((0, 0, 5), [((1175, 0), (0, 0))], [(1, (0, 0))])], [4294968471], [])]
set_option maxRecDepth 100000 in
set_option maxHeartbeats 4000000 in
theorem sfX7_fault (c : Nat × Nat) (hc : c = cA ∨ c = cB) : ∀ ac ∈ csX7_fault, SafeC TYg c mX7_fault ac := by
  intro ac hac
  simp only [csX7_fault, List.mem_cons, List.not_mem_nil, or_false] at hac
  rcases hac with rfl
  · rcases hc with rfl | rfl
    · exact safe_of (ann := []) (fuel := 600) okX7_fault (snX7_fault _ _ cA (Or.inl rfl)) (fun q hq => by cases hq) (by decide) (by decide +kernel)
    · exact safe_of (ann := []) (fuel := 600) okX7_fault (snX7_fault _ _ cB (Or.inr rfl)) (fun q hq => by cases hq) (by decide) (by decide +kernel)
set_option maxRecDepth 100000 in
def adX7_feed (D : KK) : List ACE := (0, 1, some (aAl 0)) :: (1, 1, some (aIc (0))) :: (2, 3, some (aPutI D 7 0)) :: (5, 1, some (aAl 0)) :: (6, 3, some (aGetI D 7 2)) :: (9, 3, some (aIc (780))) :: (12, 3, some (aCm bLe (fun C x y => bLt C y x) 17)) :: (15, 1, some (aIc (-1))) :: (16, 1, some (aIret)) :: (17, 1, some (aIc (0))) :: (18, 2, some (aIs 6)) :: (20, 0, none) :: (20, 2, some (aIl 6)) :: (22, 2, some (aIc (20))) :: (24, 3, some (aCm (fun C x y => bLe C y x) bLt 110)) :: (27, 2, some (aIl 6)) :: (29, 1, some (aIc (4))) :: (30, 3, some (aCm (fun C x y => bLe C y x) bLt 37)) :: (33, 1, some (aIl 1)) :: (34, 3, some (aGoto 73)) :: (37, 2, some (aIl 6)) :: (39, 2, some (aIc (8))) :: (41, 3, some (aCm (fun C x y => bLe C y x) bLt 48)) :: (44, 1, some (aIl 2)) :: (45, 3, some (aGoto 73)) :: (48, 2, some (aIl 6)) :: (50, 2, some (aIc (12))) :: (52, 3, some (aCm (fun C x y => bLe C y x) bLt 59)) :: (55, 1, some (aIl 3)) :: (56, 3, some (aGoto 73)) :: (59, 2, some (aIl 6)) :: (61, 2, some (aIc (16))) :: (63, 3, some (aCm (fun C x y => bLe C y x) bLt 71)) :: (66, 2, some (aIl 4)) :: (68, 3, some (aGoto 73)) :: (71, 2, some (aIl 5)) :: (73, 2, some (aIs 7)) :: (75, 1, some (aAl 0)) :: (76, 3, some (aGetR [(1175, 3277992)])) :: (79, 1, some (aAl 0)) :: (80, 3, some (aGetI D 7 2)) :: (83, 2, some (aIl 6)) :: (85, 1, some (aBin fAdd)) :: (86, 2, some (aIl 7)) :: (88, 2, some (aIc (24))) :: (90, 2, some (aIc (8))) :: (92, 2, some (aIl 6)) :: (94, 1, some (aIc (4))) :: (95, 1, some (aDv fRem)) :: (96, 1, some (aBin fMul)) :: (97, 1, some (aBin fSub)) :: (98, 1, some (aBin fShr)) :: (99, 3, some (aIc (255))) :: (102, 1, some (aBin fAnd)) :: (103, 1, some (aIast D)) :: (104, 3, some (aInc 6 (1))) :: (107, 3, some (aGoto 20)) :: (110, 1, some (aAl 0)) :: (111, 1, some (aDup)) :: (112, 3, some (aGetI D 7 2)) :: (115, 2, some (aIc (20))) :: (117, 1, some (aBin fAdd)) :: (118, 3, some (aPutI D 7 2)) :: (121, 1, some (aAl 0)) :: (122, 3, some (aGetI D 7 2)) :: (125, 1, some (aIret)) :: []
set_option maxRecDepth 100000 in
set_option maxHeartbeats 4000000 in
theorem snX7_feed (d : Nat) (W : List Nat) (c : Nat × Nat) (hc : c = cA ∨ c = cB) : SndAll (d, TYg, c, W) cdX7_feed (adX7_feed (d, TYg, c, W)) := by
  unfold cdX7_feed adX7_feed
  refine sn_op sAl ?_
  refine sn_op (sIc (n := 0) (by decide)) ?_
  refine sn_op sPutI ?_
  refine sn_op sAl ?_
  refine sn_op sGetI ?_
  refine sn_op (sIc (n := 780) (by decide)) ?_
  refine sn_op sCmLe ?_
  refine sn_op (sIc (n := -1) (by decide)) ?_
  refine sn_op sIret ?_
  refine sn_op (sIc (n := 0) (by decide)) ?_
  refine sn_op sIs ?_
  refine sn_st ?_
  refine sn_op sIl ?_
  refine sn_op (sIc (n := 20) (by decide)) ?_
  refine sn_op sCmGe ?_
  refine sn_op sIl ?_
  refine sn_op (sIc (n := 4) (by decide)) ?_
  refine sn_op sCmGe ?_
  refine sn_op sIl ?_
  refine sn_op sGoto ?_
  refine sn_op sIl ?_
  refine sn_op (sIc (n := 8) (by decide)) ?_
  refine sn_op sCmGe ?_
  refine sn_op sIl ?_
  refine sn_op sGoto ?_
  refine sn_op sIl ?_
  refine sn_op (sIc (n := 12) (by decide)) ?_
  refine sn_op sCmGe ?_
  refine sn_op sIl ?_
  refine sn_op sGoto ?_
  refine sn_op sIl ?_
  refine sn_op (sIc (n := 16) (by decide)) ?_
  refine sn_op sCmGe ?_
  refine sn_op sIl ?_
  refine sn_op sGoto ?_
  refine sn_op sIl ?_
  refine sn_op sIs ?_
  refine sn_op sAl ?_
  refine sn_op sGetR ?_
  refine sn_op sAl ?_
  refine sn_op sGetI ?_
  refine sn_op sIl ?_
  refine sn_op sIadd ?_
  refine sn_op sIl ?_
  refine sn_op (sIc (n := 24) (by decide)) ?_
  refine sn_op (sIc (n := 8) (by decide)) ?_
  refine sn_op sIl ?_
  refine sn_op (sIc (n := 4) (by decide)) ?_
  refine sn_op sIrem ?_
  refine sn_op sImul ?_
  refine sn_op sIsub ?_
  refine sn_op sIshr ?_
  refine sn_op (sIc (n := 255) (by decide)) ?_
  refine sn_op sIand ?_
  refine sn_op sIast ?_
  refine sn_op (sInc (n := 1) (by decide)) ?_
  refine sn_op sGoto ?_
  refine sn_op sAl ?_
  refine sn_op sDup ?_
  refine sn_op sGetI ?_
  refine sn_op (sIc (n := 20) (by decide)) ?_
  refine sn_op sIadd ?_
  refine sn_op sPutI ?_
  refine sn_op sAl ?_
  refine sn_op sGetI ?_
  refine sn_op sIret ?_
  exact sn_nil
def csX7_feed : List AC := [([(2, 1175, 0), (0, -2147483648, 2147483647), (0, -2147483648, 2147483647), (0, -2147483648, 2147483647), (0, -2147483648, 2147483647), (0, -2147483648, 2147483647)], 1, [((0, -1, -1), [((1175, 0), (0, 0)), ((1175, 2), (781, 800))], []), ((0, 20, 800), [((1175, 0), (0, 0)), ((1175, 2), (20, 800))], [])], [3277992, 4294968471, 12884903063], [])]
set_option maxRecDepth 100000 in
set_option maxHeartbeats 4000000 in
theorem sfX7_feed (c : Nat × Nat) (hc : c = cA ∨ c = cB) : ∀ ac ∈ csX7_feed, SafeC TYg c mX7_feed ac := by
  intro ac hac
  simp only [csX7_feed, List.mem_cons, List.not_mem_nil, or_false] at hac
  rcases hac with rfl
  · rcases hc with rfl | rfl
    · exact safe_of (ann := [(20, [], [])]) (fuel := 4000) okX7_feed (snX7_feed _ _ cA (Or.inl rfl)) (List.forall_mem_cons.mpr ⟨⟨_, _, rfl⟩, (fun q hq => by cases hq)⟩) (by decide) (by decide +kernel)
    · exact safe_of (ann := [(20, [], [])]) (fuel := 4000) okX7_feed (snX7_feed _ _ cB (Or.inr rfl)) (List.forall_mem_cons.mpr ⟨⟨_, _, rfl⟩, (fun q hq => by cases hq)⟩) (by decide) (by decide +kernel)
set_option maxRecDepth 100000 in
def adX7_parties (D : KK) : List ACE := (0, 1, some (aIc (0))) :: (1, 1, some (aIs 1)) :: (2, 0, none) :: (2, 1, some (aIl 1)) :: (3, 1, some (aAl 0)) :: (4, 3, some (aGetI D 7 5)) :: (7, 3, some (aCm (fun C x y => bLe C y x) bLt 23)) :: (10, 1, some (aAl 0)) :: (11, 3, some (aGetR [(1175, 50632)])) :: (14, 1, some (aIl 1)) :: (15, 1, some (aIl 1)) :: (16, 1, some (aIast D)) :: (17, 3, some (aInc 1 (1))) :: (20, 3, some (aGoto 2)) :: (23, 1, some (aIc (0))) :: (24, 1, some (aIs 1)) :: (25, 0, none) :: (25, 1, some (aIl 1)) :: (26, 1, some (aAl 0)) :: (27, 3, some (aGetI D 7 5)) :: (30, 3, some (aCm (fun C x y => bLe C y x) bLt 140)) :: (33, 1, some (aIc (0))) :: (34, 1, some (aIs 2)) :: (35, 0, none) :: (35, 1, some (aIl 2)) :: (36, 1, some (aAl 0)) :: (37, 3, some (aGetI D 7 5)) :: (40, 3, some (aCm (fun C x y => bLe C y x) bLt 134)) :: (43, 1, some (aIc (0))) :: (44, 1, some (aIs 3)) :: (45, 0, none) :: (45, 1, some (aIl 3)) :: (46, 1, some (aAl 0)) :: (47, 3, some (aGetI D 7 5)) :: (50, 3, some (aCm (fun C x y => bLe C y x) bLt 128)) :: (53, 1, some (aAl 0)) :: (54, 3, some (aGetR [(1175, 99608)])) :: (57, 1, some (aIl 2)) :: (58, 1, some (aIald D)) :: (59, 3, some (aIf bEq bNe 77)) :: (62, 1, some (aAl 0)) :: (63, 3, some (aGetR [(1175, 99608)])) :: (66, 1, some (aIl 2)) :: (67, 1, some (aIald D)) :: (68, 1, some (aAl 0)) :: (69, 3, some (aGetR [(1175, 99608)])) :: (72, 1, some (aIl 3)) :: (73, 1, some (aIald D)) :: (74, 3, some (aCm bEq bNe 101)) :: (77, 1, some (aAl 0)) :: (78, 3, some (aGetR [(1175, 99624)])) :: (81, 1, some (aIl 2)) :: (82, 1, some (aIald D)) :: (83, 3, some (aIf bEq bNe 122)) :: (86, 1, some (aAl 0)) :: (87, 3, some (aGetR [(1175, 99624)])) :: (90, 1, some (aIl 2)) :: (91, 1, some (aIald D)) :: (92, 1, some (aAl 0)) :: (93, 3, some (aGetR [(1175, 99624)])) :: (96, 1, some (aIl 3)) :: (97, 1, some (aIald D)) :: (98, 3, some (aCm bNe bEq 122)) :: (101, 1, some (aAl 0)) :: (102, 3, some (aGetR [(1175, 50632)])) :: (105, 1, some (aIl 2)) :: (106, 1, some (aAl 0)) :: (107, 3, some (aGetR [(1175, 50632)])) :: (110, 1, some (aIl 2)) :: (111, 1, some (aIald D)) :: (112, 1, some (aAl 0)) :: (113, 3, some (aGetR [(1175, 50632)])) :: (116, 1, some (aIl 3)) :: (117, 1, some (aIald D)) :: (118, 3, some (aMin D)) :: (121, 1, some (aIast D)) :: (122, 3, some (aInc 3 (1))) :: (125, 3, some (aGoto 45)) :: (128, 3, some (aInc 2 (1))) :: (131, 3, some (aGoto 35)) :: (134, 3, some (aInc 1 (1))) :: (137, 3, some (aGoto 25)) :: (140, 1, some (aVret)) :: []
set_option maxRecDepth 100000 in
set_option maxHeartbeats 4000000 in
theorem snX7_parties (d : Nat) (W : List Nat) (c : Nat × Nat) (hc : c = cA ∨ c = cB) : SndAll (d, TYg, c, W) cdX7_parties (adX7_parties (d, TYg, c, W)) := by
  unfold cdX7_parties adX7_parties
  refine sn_op (sIc (n := 0) (by decide)) ?_
  refine sn_op sIs ?_
  refine sn_st ?_
  refine sn_op sIl ?_
  refine sn_op sAl ?_
  refine sn_op sGetI ?_
  refine sn_op sCmGe ?_
  refine sn_op sAl ?_
  refine sn_op sGetR ?_
  refine sn_op sIl ?_
  refine sn_op sIl ?_
  refine sn_op sIast ?_
  refine sn_op (sInc (n := 1) (by decide)) ?_
  refine sn_op sGoto ?_
  refine sn_op (sIc (n := 0) (by decide)) ?_
  refine sn_op sIs ?_
  refine sn_st ?_
  refine sn_op sIl ?_
  refine sn_op sAl ?_
  refine sn_op sGetI ?_
  refine sn_op sCmGe ?_
  refine sn_op (sIc (n := 0) (by decide)) ?_
  refine sn_op sIs ?_
  refine sn_st ?_
  refine sn_op sIl ?_
  refine sn_op sAl ?_
  refine sn_op sGetI ?_
  refine sn_op sCmGe ?_
  refine sn_op (sIc (n := 0) (by decide)) ?_
  refine sn_op sIs ?_
  refine sn_st ?_
  refine sn_op sIl ?_
  refine sn_op sAl ?_
  refine sn_op sGetI ?_
  refine sn_op sCmGe ?_
  refine sn_op sAl ?_
  refine sn_op sGetR ?_
  refine sn_op sIl ?_
  refine sn_op sIald ?_
  refine sn_op sIfEq ?_
  refine sn_op sAl ?_
  refine sn_op sGetR ?_
  refine sn_op sIl ?_
  refine sn_op sIald ?_
  refine sn_op sAl ?_
  refine sn_op sGetR ?_
  refine sn_op sIl ?_
  refine sn_op sIald ?_
  refine sn_op sCmEq ?_
  refine sn_op sAl ?_
  refine sn_op sGetR ?_
  refine sn_op sIl ?_
  refine sn_op sIald ?_
  refine sn_op sIfEq ?_
  refine sn_op sAl ?_
  refine sn_op sGetR ?_
  refine sn_op sIl ?_
  refine sn_op sIald ?_
  refine sn_op sAl ?_
  refine sn_op sGetR ?_
  refine sn_op sIl ?_
  refine sn_op sIald ?_
  refine sn_op sCmNe ?_
  refine sn_op sAl ?_
  refine sn_op sGetR ?_
  refine sn_op sIl ?_
  refine sn_op sAl ?_
  refine sn_op sGetR ?_
  refine sn_op sIl ?_
  refine sn_op sIald ?_
  refine sn_op sAl ?_
  refine sn_op sGetR ?_
  refine sn_op sIl ?_
  refine sn_op sIald ?_
  refine sn_op sMin ?_
  refine sn_op sIast ?_
  refine sn_op (sInc (n := 1) (by decide)) ?_
  refine sn_op sGoto ?_
  refine sn_op (sInc (n := 1) (by decide)) ?_
  refine sn_op sGoto ?_
  refine sn_op (sInc (n := 1) (by decide)) ?_
  refine sn_op sGoto ?_
  refine sn_op sVret ?_
  exact sn_nil
def csX7_parties : List AC := [([(2, 1175, 0)], 1, [((9, 0, 0), [], [])], [50632], [])]
set_option maxRecDepth 100000 in
set_option maxHeartbeats 4000000 in
theorem sfX7_parties (c : Nat × Nat) (hc : c = cA ∨ c = cB) : ∀ ac ∈ csX7_parties, SafeC TYg c mX7_parties ac := by
  intro ac hac
  simp only [csX7_parties, List.mem_cons, List.not_mem_nil, or_false] at hac
  rcases hac with rfl
  · rcases hc with rfl | rfl
    · exact safe_of (ann := [(2, [(2, 1175, 0), (0, 0, 12), (4, 0, 0), (4, 0, 0)], [(3, 0, 0, 2), (0, 1, 0, 4294967296)]), (25, [(2, 1175, 0), (0, 0, 12), (4, 0, 0), (4, 0, 0)], [(3, 0, 0, 1), (0, 1, 0, 4294967296), (3, 0, 0, 2)]), (35, [(2, 1175, 0), (0, 0, 11), (0, 0, 12), (4, 0, 0)], [(3, 0, 0, 1), (0, 1, 0, 4294967296), (3, 0, 0, 1), (0, 2, 0, 4294967296), (3, 0, 0, 2)]), (45, [(2, 1175, 0), (0, 0, 11), (0, 0, 11), (0, 0, 12)], [(3, 0, 0, 1), (0, 1, 0, 4294967296), (3, 0, 0, 1), (0, 2, 0, 4294967296), (3, 0, 0, 1), (0, 3, 0, 4294967296)])]) (fuel := 600) okX7_parties (snX7_parties _ _ cA (Or.inl rfl)) (List.forall_mem_cons.mpr ⟨⟨_, _, rfl⟩, List.forall_mem_cons.mpr ⟨⟨_, _, rfl⟩, List.forall_mem_cons.mpr ⟨⟨_, _, rfl⟩, List.forall_mem_cons.mpr ⟨⟨_, _, rfl⟩, (fun q hq => by cases hq)⟩⟩⟩⟩) (by decide) (by decide +kernel)
    · exact safe_of (ann := [(2, [(2, 1175, 0), (0, 0, 12), (4, 0, 0), (4, 0, 0)], [(3, 0, 0, 2), (0, 1, 0, 4294967296)]), (25, [(2, 1175, 0), (0, 0, 12), (4, 0, 0), (4, 0, 0)], [(3, 0, 0, 1), (0, 1, 0, 4294967296), (3, 0, 0, 2)]), (35, [(2, 1175, 0), (0, 0, 11), (0, 0, 12), (4, 0, 0)], [(3, 0, 0, 1), (0, 1, 0, 4294967296), (3, 0, 0, 1), (0, 2, 0, 4294967296), (3, 0, 0, 2)]), (45, [(2, 1175, 0), (0, 0, 11), (0, 0, 11), (0, 0, 12)], [(3, 0, 0, 1), (0, 1, 0, 4294967296), (3, 0, 0, 1), (0, 2, 0, 4294967296), (3, 0, 0, 1), (0, 3, 0, 4294967296)])]) (fuel := 600) okX7_parties (snX7_parties _ _ cB (Or.inr rfl)) (List.forall_mem_cons.mpr ⟨⟨_, _, rfl⟩, List.forall_mem_cons.mpr ⟨⟨_, _, rfl⟩, List.forall_mem_cons.mpr ⟨⟨_, _, rfl⟩, List.forall_mem_cons.mpr ⟨⟨_, _, rfl⟩, (fun q hq => by cases hq)⟩⟩⟩⟩) (by decide) (by decide +kernel)
set_option maxRecDepth 100000 in
def adX7_isFirm (D : KK) : List ACE := (0, 1, some (aIl 1)) :: (1, 3, some (aIf bLt (fun C x y => bLe C y x) 16)) :: (4, 1, some (aIl 1)) :: (5, 1, some (aAl 0)) :: (6, 3, some (aGetI D 7 5)) :: (9, 3, some (aCm (fun C x y => bLe C y x) bLt 16)) :: (12, 1, some (aIc (1))) :: (13, 3, some (aGoto 17)) :: (16, 1, some (aIc (0))) :: (17, 1, some (aZret)) :: []
set_option maxRecDepth 100000 in
set_option maxHeartbeats 4000000 in
theorem snX7_isFirm (d : Nat) (W : List Nat) (c : Nat × Nat) (hc : c = cA ∨ c = cB) : SndAll (d, TYg, c, W) cdX7_isFirm (adX7_isFirm (d, TYg, c, W)) := by
  unfold cdX7_isFirm adX7_isFirm
  refine sn_op sIl ?_
  refine sn_op sIfLt ?_
  refine sn_op sIl ?_
  refine sn_op sAl ?_
  refine sn_op sGetI ?_
  refine sn_op sCmGe ?_
  refine sn_op (sIc (n := 1) (by decide)) ?_
  refine sn_op sGoto ?_
  refine sn_op (sIc (n := 0) (by decide)) ?_
  refine sn_op sZret ?_
  exact sn_nil
def csX7_isFirm : List AC := [([(2, 1175, 0), (0, -2147483648, 2147483647)], 1, [((0, 0, 0), [], []), ((0, 1, 1), [((1175, 5), (1, 12))], [(1, (0, 11))])], [], [])]
set_option maxRecDepth 100000 in
set_option maxHeartbeats 4000000 in
theorem sfX7_isFirm (c : Nat × Nat) (hc : c = cA ∨ c = cB) : ∀ ac ∈ csX7_isFirm, SafeC TYg c mX7_isFirm ac := by
  intro ac hac
  simp only [csX7_isFirm, List.mem_cons, List.not_mem_nil, or_false] at hac
  rcases hac with rfl
  · rcases hc with rfl | rfl
    · exact safe_of (ann := []) (fuel := 600) okX7_isFirm (snX7_isFirm _ _ cA (Or.inl rfl)) (fun q hq => by cases hq) (by decide) (by decide +kernel)
    · exact safe_of (ann := []) (fuel := 600) okX7_isFirm (snX7_isFirm _ _ cB (Or.inr rfl)) (fun q hq => by cases hq) (by decide) (by decide +kernel)
set_option maxRecDepth 100000 in
def adX7_firm (D : KK) : List ACE := (0, 1, some (aAl 0)) :: (1, 1, some (aIc (0))) :: (2, 3, some (aPutI D 7 0)) :: (5, 1, some (aAl 0)) :: (6, 1, some (aIl 1)) :: (7, 3, some (aCall D 7 2 2 csX7_isFirm)) :: (10, 3, some (aIf bEq bNe 23)) :: (13, 1, some (aIl 2)) :: (14, 3, some (aIf bLt (fun C x y => bLe C y x) 23)) :: (17, 1, some (aIl 2)) :: (18, 2, some (aIc (7))) :: (20, 3, some (aCm bLe (fun C x y => bLt C y x) 27)) :: (23, 3, some (aIc (-2147483648))) :: (26, 1, some (aIret)) :: (27, 1, some (aAl 0)) :: (28, 3, some (aCall D 7 1 4 csX7_parties)) :: (31, 1, some (aIl 2)) :: (32, 44, some (aSw [(0, 76), (1, 83), (2, 90), (3, 97), (4, 104), (5, 114), (6, 124)] 142)) :: (76, 1, some (aAl 0)) :: (77, 3, some (aGetR [(1175, 99576)])) :: (80, 1, some (aIl 1)) :: (81, 1, some (aIald D)) :: (82, 1, some (aIret)) :: (83, 1, some (aAl 0)) :: (84, 3, some (aGetR [(1175, 99592)])) :: (87, 1, some (aIl 1)) :: (88, 1, some (aIald D)) :: (89, 1, some (aIret)) :: (90, 1, some (aAl 0)) :: (91, 3, some (aGetR [(1175, 99608)])) :: (94, 1, some (aIl 1)) :: (95, 1, some (aIald D)) :: (96, 1, some (aIret)) :: (97, 1, some (aAl 0)) :: (98, 3, some (aGetR [(1175, 99624)])) :: (101, 1, some (aIl 1)) :: (102, 1, some (aIald D)) :: (103, 1, some (aIret)) :: (104, 1, some (aAl 0)) :: (105, 1, some (aIl 1)) :: (106, 1, some (aAl 0)) :: (107, 3, some (aGetI D 7 40)) :: (110, 3, some (aCall D 7 3 5 csX7_owes)) :: (113, 1, some (aIret)) :: (114, 2, some (aIc (100))) :: (116, 1, some (aAl 0)) :: (117, 3, some (aGetR [(1175, 99640)])) :: (120, 1, some (aIl 1)) :: (121, 1, some (aIald D)) :: (122, 1, some (aBin fMul)) :: (123, 1, some (aIret)) :: (124, 1, some (aAl 0)) :: (125, 1, some (aIl 1)) :: (126, 1, some (aAl 0)) :: (127, 3, some (aGetI D 7 40)) :: (130, 3, some (aCall D 7 3 3 csX7_isMissing)) :: (133, 3, some (aIf bEq bNe 140)) :: (136, 1, some (aIc (1))) :: (137, 3, some (aGoto 141)) :: (140, 1, some (aIc (0))) :: (141, 1, some (aIret)) :: (142, 1, some (aAl 0)) :: (143, 3, some (aGetR [(1175, 50632)])) :: (146, 1, some (aIl 1)) :: (147, 1, some (aIald D)) :: (148, 1, some (aIret)) :: []
set_option maxRecDepth 100000 in
set_option maxHeartbeats 4000000 in
theorem snX7_firm (d : Nat) (W : List Nat) (c : Nat × Nat) (hc : c = cA ∨ c = cB) : SndAll (d, TYg, c, W) cdX7_firm (adX7_firm (d, TYg, c, W)) := by
  unfold cdX7_firm adX7_firm
  refine sn_op sAl ?_
  refine sn_op (sIc (n := 0) (by decide)) ?_
  refine sn_op sPutI ?_
  refine sn_op sAl ?_
  refine sn_op sIl ?_
  refine sn_op (sCI (sfX7_isFirm c hc) (by decide) (by decide +kernel)) ?_
  refine sn_op sIfEq ?_
  refine sn_op sIl ?_
  refine sn_op sIfLt ?_
  refine sn_op sIl ?_
  refine sn_op (sIc (n := 7) (by decide)) ?_
  refine sn_op sCmLe ?_
  refine sn_op (sIc (n := -2147483648) (by decide)) ?_
  refine sn_op sIret ?_
  refine sn_op sAl ?_
  refine sn_op (sCV (sfX7_parties c hc) (by decide) (by decide +kernel)) ?_
  refine sn_op sIl ?_
  refine sn_op (sSw (by decide)) ?_
  refine sn_op sAl ?_
  refine sn_op sGetR ?_
  refine sn_op sIl ?_
  refine sn_op sIald ?_
  refine sn_op sIret ?_
  refine sn_op sAl ?_
  refine sn_op sGetR ?_
  refine sn_op sIl ?_
  refine sn_op sIald ?_
  refine sn_op sIret ?_
  refine sn_op sAl ?_
  refine sn_op sGetR ?_
  refine sn_op sIl ?_
  refine sn_op sIald ?_
  refine sn_op sIret ?_
  refine sn_op sAl ?_
  refine sn_op sGetR ?_
  refine sn_op sIl ?_
  refine sn_op sIald ?_
  refine sn_op sIret ?_
  refine sn_op sAl ?_
  refine sn_op sIl ?_
  refine sn_op sAl ?_
  refine sn_op sGetI ?_
  refine sn_op (sCI (sfX7_owes c hc) (by decide) (by decide +kernel)) ?_
  refine sn_op sIret ?_
  refine sn_op (sIc (n := 100) (by decide)) ?_
  refine sn_op sAl ?_
  refine sn_op sGetR ?_
  refine sn_op sIl ?_
  refine sn_op sIald ?_
  refine sn_op sImul ?_
  refine sn_op sIret ?_
  refine sn_op sAl ?_
  refine sn_op sIl ?_
  refine sn_op sAl ?_
  refine sn_op sGetI ?_
  refine sn_op (sCI (sfX7_isMissing c hc) (by decide) (by decide +kernel)) ?_
  refine sn_op sIfEq ?_
  refine sn_op (sIc (n := 1) (by decide)) ?_
  refine sn_op sGoto ?_
  refine sn_op (sIc (n := 0) (by decide)) ?_
  refine sn_op sIret ?_
  refine sn_op sAl ?_
  refine sn_op sGetR ?_
  refine sn_op sIl ?_
  refine sn_op sIald ?_
  refine sn_op sIret ?_
  exact sn_nil
def csX7_firm : List AC := [([(2, 1175, 0), (0, -2147483648, 2147483647), (0, -2147483648, 2147483647)], 5, [((0, -2147483648, 2147483647), [((1175, 0), (0, 0)), ((1175, 5), (1, 12))], [(1, (0, 11)), (2, (1, 7))]), ((0, -2147483648, -2147483648), [((1175, 0), (0, 0))], []), ((0, 0, 4), [((1175, 0), (0, 0)), ((1175, 5), (1, 12))], [(1, (0, 11)), (2, (0, 6))])], [50632, 4294968471], [])]
set_option maxRecDepth 100000 in
set_option maxHeartbeats 4000000 in
theorem sfX7_firm (c : Nat × Nat) (hc : c = cA ∨ c = cB) : ∀ ac ∈ csX7_firm, SafeC TYg c mX7_firm ac := by
  intro ac hac
  simp only [csX7_firm, List.mem_cons, List.not_mem_nil, or_false] at hac
  rcases hac with rfl
  · rcases hc with rfl | rfl
    · exact safe_of (ann := []) (fuel := 600) okX7_firm (snX7_firm _ _ cA (Or.inl rfl)) (fun q hq => by cases hq) (by decide) (by decide +kernel)
    · exact safe_of (ann := []) (fuel := 600) okX7_firm (snX7_firm _ _ cB (Or.inr rfl)) (fun q hq => by cases hq) (by decide) (by decide +kernel)
set_option maxRecDepth 100000 in
def adX7_isStopped (D : KK) : List ACE := (0, 1, some (aAl 0)) :: (1, 3, some (aGetI D 7 39)) :: (4, 1, some (aAl 0)) :: (5, 3, some (aGetR [(1175, 329048)])) :: (8, 1, some (aIl 1)) :: (9, 1, some (aIald D)) :: (10, 1, some (aBin fShr)) :: (11, 1, some (aIc (1))) :: (12, 1, some (aBin fAnd)) :: (13, 1, some (aIc (1))) :: (14, 3, some (aCm bEq bNe 34)) :: (17, 1, some (aAl 0)) :: (18, 3, some (aGetI D 7 39)) :: (21, 1, some (aAl 0)) :: (22, 3, some (aGetR [(1175, 165384)])) :: (25, 1, some (aIl 1)) :: (26, 1, some (aIald D)) :: (27, 1, some (aBin fShr)) :: (28, 1, some (aIc (1))) :: (29, 1, some (aBin fAnd)) :: (30, 1, some (aIc (1))) :: (31, 3, some (aCm bNe bEq 38)) :: (34, 1, some (aIc (1))) :: (35, 3, some (aGoto 39)) :: (38, 1, some (aIc (0))) :: (39, 1, some (aZret)) :: []
set_option maxRecDepth 100000 in
set_option maxHeartbeats 4000000 in
theorem snX7_isStopped (d : Nat) (W : List Nat) (c : Nat × Nat) (hc : c = cA ∨ c = cB) : SndAll (d, TYg, c, W) cdX7_isStopped (adX7_isStopped (d, TYg, c, W)) := by
  unfold cdX7_isStopped adX7_isStopped
  refine sn_op sAl ?_
  refine sn_op sGetI ?_
  refine sn_op sAl ?_
  refine sn_op sGetR ?_
  refine sn_op sIl ?_
  refine sn_op sIald ?_
  refine sn_op sIshr ?_
  refine sn_op (sIc (n := 1) (by decide)) ?_
  refine sn_op sIand ?_
  refine sn_op (sIc (n := 1) (by decide)) ?_
  refine sn_op sCmEq ?_
  refine sn_op sAl ?_
  refine sn_op sGetI ?_
  refine sn_op sAl ?_
  refine sn_op sGetR ?_
  refine sn_op sIl ?_
  refine sn_op sIald ?_
  refine sn_op sIshr ?_
  refine sn_op (sIc (n := 1) (by decide)) ?_
  refine sn_op sIand ?_
  refine sn_op (sIc (n := 1) (by decide)) ?_
  refine sn_op sCmNe ?_
  refine sn_op (sIc (n := 1) (by decide)) ?_
  refine sn_op sGoto ?_
  refine sn_op (sIc (n := 0) (by decide)) ?_
  refine sn_op sZret ?_
  exact sn_nil
def csX7_isStopped : List AC := [([(2, 1175, 0), (0, 0, 0)], 1, [((0, 0, 0), [], []), ((0, 1, 1), [], [])], [], []), ([(2, 1175, 0), (0, 0, 39)], 1, [((0, 0, 0), [], []), ((0, 1, 1), [], [])], [], [])]
set_option maxRecDepth 100000 in
set_option maxHeartbeats 4000000 in
theorem sfX7_isStopped (c : Nat × Nat) (hc : c = cA ∨ c = cB) : ∀ ac ∈ csX7_isStopped, SafeC TYg c mX7_isStopped ac := by
  intro ac hac
  simp only [csX7_isStopped, List.mem_cons, List.not_mem_nil, or_false] at hac
  rcases hac with rfl | rfl
  · rcases hc with rfl | rfl
    · exact safe_of (ann := []) (fuel := 600) okX7_isStopped (snX7_isStopped _ _ cA (Or.inl rfl)) (fun q hq => by cases hq) (by decide) (by decide +kernel)
    · exact safe_of (ann := []) (fuel := 600) okX7_isStopped (snX7_isStopped _ _ cB (Or.inr rfl)) (fun q hq => by cases hq) (by decide) (by decide +kernel)
  · rcases hc with rfl | rfl
    · exact safe_of (ann := []) (fuel := 600) okX7_isStopped (snX7_isStopped _ _ cA (Or.inl rfl)) (fun q hq => by cases hq) (by decide) (by decide +kernel)
    · exact safe_of (ann := []) (fuel := 600) okX7_isStopped (snX7_isStopped _ _ cB (Or.inr rfl)) (fun q hq => by cases hq) (by decide) (by decide +kernel)
set_option maxRecDepth 100000 in
def adX7_fits (D : KK) : List ACE := (0, 1, some (aAl 0)) :: (1, 3, some (aGetR [(1175, 329048)])) :: (4, 1, some (aIl 2)) :: (5, 1, some (aIald D)) :: (6, 1, some (aAl 0)) :: (7, 3, some (aGetR [(1175, 165384)])) :: (10, 1, some (aIl 2)) :: (11, 1, some (aIald D)) :: (12, 3, some (aCm bEq bNe 23)) :: (15, 1, some (aAl 0)) :: (16, 1, some (aIl 2)) :: (17, 3, some (aCall D 7 2 2 csX7_isStopped)) :: (20, 3, some (aIf bEq bNe 25)) :: (23, 1, some (aIc (0))) :: (24, 1, some (aZret)) :: (25, 1, some (aAl 0)) :: (26, 3, some (aGetR [(1175, 26104)])) :: (29, 1, some (aIc (0))) :: (30, 1, some (aIald D)) :: (31, 1, some (aIs 3)) :: (32, 1, some (aAl 0)) :: (33, 3, some (aGetR [(1175, 26104)])) :: (36, 1, some (aIl 1)) :: (37, 1, some (aIc (1))) :: (38, 1, some (aBin fSub)) :: (39, 1, some (aIald D)) :: (40, 2, some (aIs 4)) :: (42, 1, some (aAl 0)) :: (43, 3, some (aGetR [(1175, 329048)])) :: (46, 1, some (aIl 2)) :: (47, 1, some (aIald D)) :: (48, 1, some (aAl 0)) :: (49, 3, some (aGetR [(1175, 165384)])) :: (52, 2, some (aIl 4)) :: (54, 1, some (aIald D)) :: (55, 3, some (aCm bNe bEq 111)) :: (58, 1, some (aAl 0)) :: (59, 3, some (aGetR [(1175, 329096)])) :: (62, 1, some (aIl 2)) :: (63, 1, some (aIald D)) :: (64, 1, some (aAl 0)) :: (65, 3, some (aGetR [(1175, 329096)])) :: (68, 1, some (aIl 3)) :: (69, 1, some (aIald D)) :: (70, 3, some (aCm bNe bEq 111)) :: (73, 1, some (aAl 0)) :: (74, 3, some (aGetI D 7 48)) :: (77, 3, some (aIf bNe bEq 95)) :: (80, 1, some (aAl 0)) :: (81, 3, some (aGetR [(1175, 329144)])) :: (84, 1, some (aIl 2)) :: (85, 1, some (aIald D)) :: (86, 1, some (aAl 0)) :: (87, 3, some (aGetR [(1175, 329144)])) :: (90, 1, some (aIl 3)) :: (91, 1, some (aIald D)) :: (92, 3, some (aCm bNe bEq 111)) :: (95, 1, some (aAl 0)) :: (96, 3, some (aGetR [(1175, 329128)])) :: (99, 1, some (aIl 2)) :: (100, 1, some (aIald D)) :: (101, 1, some (aAl 0)) :: (102, 3, some (aGetR [(1175, 329128)])) :: (105, 2, some (aIl 4)) :: (107, 1, some (aIald D)) :: (108, 3, some (aCm (fun C x y => bLe C y x) bLt 113)) :: (111, 1, some (aIc (0))) :: (112, 1, some (aZret)) :: (113, 1, some (aIc (0))) :: (114, 2, some (aIs 5)) :: (116, 0, none) :: (116, 2, some (aIl 5)) :: (118, 1, some (aIl 1)) :: (119, 3, some (aCm (fun C x y => bLe C y x) bLt 151)) :: (122, 1, some (aAl 0)) :: (123, 3, some (aGetR [(1175, 329048)])) :: (126, 1, some (aAl 0)) :: (127, 3, some (aGetR [(1175, 26104)])) :: (130, 2, some (aIl 5)) :: (132, 1, some (aIald D)) :: (133, 1, some (aIald D)) :: (134, 1, some (aAl 0)) :: (135, 3, some (aGetR [(1175, 329048)])) :: (138, 1, some (aIl 2)) :: (139, 1, some (aIald D)) :: (140, 3, some (aCm bNe bEq 145)) :: (143, 1, some (aIc (0))) :: (144, 1, some (aZret)) :: (145, 3, some (aInc 5 (1))) :: (148, 3, some (aGoto 116)) :: (151, 1, some (aIc (1))) :: (152, 1, some (aZret)) :: []
set_option maxRecDepth 100000 in
set_option maxHeartbeats 4000000 in
theorem snX7_fits (d : Nat) (W : List Nat) (c : Nat × Nat) (hc : c = cA ∨ c = cB) : SndAll (d, TYg, c, W) cdX7_fits (adX7_fits (d, TYg, c, W)) := by
  unfold cdX7_fits adX7_fits
  refine sn_op sAl ?_
  refine sn_op sGetR ?_
  refine sn_op sIl ?_
  refine sn_op sIald ?_
  refine sn_op sAl ?_
  refine sn_op sGetR ?_
  refine sn_op sIl ?_
  refine sn_op sIald ?_
  refine sn_op sCmEq ?_
  refine sn_op sAl ?_
  refine sn_op sIl ?_
  refine sn_op (sCI (sfX7_isStopped c hc) (by decide) (by decide +kernel)) ?_
  refine sn_op sIfEq ?_
  refine sn_op (sIc (n := 0) (by decide)) ?_
  refine sn_op sZret ?_
  refine sn_op sAl ?_
  refine sn_op sGetR ?_
  refine sn_op (sIc (n := 0) (by decide)) ?_
  refine sn_op sIald ?_
  refine sn_op sIs ?_
  refine sn_op sAl ?_
  refine sn_op sGetR ?_
  refine sn_op sIl ?_
  refine sn_op (sIc (n := 1) (by decide)) ?_
  refine sn_op sIsub ?_
  refine sn_op sIald ?_
  refine sn_op sIs ?_
  refine sn_op sAl ?_
  refine sn_op sGetR ?_
  refine sn_op sIl ?_
  refine sn_op sIald ?_
  refine sn_op sAl ?_
  refine sn_op sGetR ?_
  refine sn_op sIl ?_
  refine sn_op sIald ?_
  refine sn_op sCmNe ?_
  refine sn_op sAl ?_
  refine sn_op sGetR ?_
  refine sn_op sIl ?_
  refine sn_op sIald ?_
  refine sn_op sAl ?_
  refine sn_op sGetR ?_
  refine sn_op sIl ?_
  refine sn_op sIald ?_
  refine sn_op sCmNe ?_
  refine sn_op sAl ?_
  refine sn_op sGetI ?_
  refine sn_op sIfNe ?_
  refine sn_op sAl ?_
  refine sn_op sGetR ?_
  refine sn_op sIl ?_
  refine sn_op sIald ?_
  refine sn_op sAl ?_
  refine sn_op sGetR ?_
  refine sn_op sIl ?_
  refine sn_op sIald ?_
  refine sn_op sCmNe ?_
  refine sn_op sAl ?_
  refine sn_op sGetR ?_
  refine sn_op sIl ?_
  refine sn_op sIald ?_
  refine sn_op sAl ?_
  refine sn_op sGetR ?_
  refine sn_op sIl ?_
  refine sn_op sIald ?_
  refine sn_op sCmGe ?_
  refine sn_op (sIc (n := 0) (by decide)) ?_
  refine sn_op sZret ?_
  refine sn_op (sIc (n := 0) (by decide)) ?_
  refine sn_op sIs ?_
  refine sn_st ?_
  refine sn_op sIl ?_
  refine sn_op sIl ?_
  refine sn_op sCmGe ?_
  refine sn_op sAl ?_
  refine sn_op sGetR ?_
  refine sn_op sAl ?_
  refine sn_op sGetR ?_
  refine sn_op sIl ?_
  refine sn_op sIald ?_
  refine sn_op sIald ?_
  refine sn_op sAl ?_
  refine sn_op sGetR ?_
  refine sn_op sIl ?_
  refine sn_op sIald ?_
  refine sn_op sCmNe ?_
  refine sn_op (sIc (n := 0) (by decide)) ?_
  refine sn_op sZret ?_
  refine sn_op (sInc (n := 1) (by decide)) ?_
  refine sn_op sGoto ?_
  refine sn_op (sIc (n := 1) (by decide)) ?_
  refine sn_op sZret ?_
  exact sn_nil
def csX7_fits : List AC := [([(2, 1175, 0), (0, 1, 1), (0, 0, 0)], 2, [((0, 0, 0), [], []), ((0, 1, 1), [], [])], [], []), ([(2, 1175, 0), (0, 1, 1), (0, 0, 39)], 2, [((0, 0, 0), [], []), ((0, 1, 1), [], [])], [], [])]
set_option maxRecDepth 100000 in
set_option maxHeartbeats 4000000 in
theorem sfX7_fits (c : Nat × Nat) (hc : c = cA ∨ c = cB) : ∀ ac ∈ csX7_fits, SafeC TYg c mX7_fits ac := by
  intro ac hac
  simp only [csX7_fits, List.mem_cons, List.not_mem_nil, or_false] at hac
  rcases hac with rfl | rfl
  · rcases hc with rfl | rfl
    · exact safe_of (ann := [(116, [(2, 1175, 0), (0, 1, 1), (0, 0, 0), (0, 0, 39), (0, 0, 39), (0, 0, 1)], [(0, 5, 0, 4294967296)])]) (fuel := 600) okX7_fits (snX7_fits _ _ cA (Or.inl rfl)) (List.forall_mem_cons.mpr ⟨⟨_, _, rfl⟩, (fun q hq => by cases hq)⟩) (by decide) (by decide +kernel)
    · exact safe_of (ann := [(116, [(2, 1175, 0), (0, 1, 1), (0, 0, 0), (0, 0, 39), (0, 0, 39), (0, 0, 1)], [(0, 5, 0, 4294967296)])]) (fuel := 600) okX7_fits (snX7_fits _ _ cB (Or.inr rfl)) (List.forall_mem_cons.mpr ⟨⟨_, _, rfl⟩, (fun q hq => by cases hq)⟩) (by decide) (by decide +kernel)
  · rcases hc with rfl | rfl
    · exact safe_of (ann := [(116, [(2, 1175, 0), (0, 1, 1), (0, 0, 39), (0, 0, 39), (0, 0, 39), (0, 0, 1)], [(0, 5, 0, 4294967296)])]) (fuel := 600) okX7_fits (snX7_fits _ _ cA (Or.inl rfl)) (List.forall_mem_cons.mpr ⟨⟨_, _, rfl⟩, (fun q hq => by cases hq)⟩) (by decide) (by decide +kernel)
    · exact safe_of (ann := [(116, [(2, 1175, 0), (0, 1, 1), (0, 0, 39), (0, 0, 39), (0, 0, 39), (0, 0, 1)], [(0, 5, 0, 4294967296)])]) (fuel := 600) okX7_fits (snX7_fits _ _ cB (Or.inr rfl)) (List.forall_mem_cons.mpr ⟨⟨_, _, rfl⟩, (fun q hq => by cases hq)⟩) (by decide) (by decide +kernel)
set_option maxRecDepth 100000 in
def adX7_found (D : KK) : List ACE := (0, 1, some (aIc (0))) :: (1, 2, some (aIs 4)) :: (3, 0, none) :: (3, 2, some (aIl 4)) :: (5, 1, some (aIl 2)) :: (6, 3, some (aCm (fun C x y => bLe C y x) bLt 28)) :: (9, 1, some (aAl 0)) :: (10, 1, some (aIl 1)) :: (11, 2, some (aIl 4)) :: (13, 1, some (aBin fAdd)) :: (14, 1, some (aIald D)) :: (15, 1, some (aIl 3)) :: (16, 3, some (aCm bNe bEq 22)) :: (19, 2, some (aIl 4)) :: (21, 1, some (aIret)) :: (22, 3, some (aInc 4 (1))) :: (25, 3, some (aGoto 3)) :: (28, 1, some (aIc (-1))) :: (29, 1, some (aIret)) :: []
set_option maxRecDepth 100000 in
set_option maxHeartbeats 4000000 in
theorem snX7_found (d : Nat) (W : List Nat) (c : Nat × Nat) (hc : c = cA ∨ c = cB) : SndAll (d, TYg, c, W) cdX7_found (adX7_found (d, TYg, c, W)) := by
  unfold cdX7_found adX7_found
  refine sn_op (sIc (n := 0) (by decide)) ?_
  refine sn_op sIs ?_
  refine sn_st ?_
  refine sn_op sIl ?_
  refine sn_op sIl ?_
  refine sn_op sCmGe ?_
  refine sn_op sAl ?_
  refine sn_op sIl ?_
  refine sn_op sIl ?_
  refine sn_op sIadd ?_
  refine sn_op sIald ?_
  refine sn_op sIl ?_
  refine sn_op sCmNe ?_
  refine sn_op sIl ?_
  refine sn_op sIret ?_
  refine sn_op (sInc (n := 1) (by decide)) ?_
  refine sn_op sGoto ?_
  refine sn_op (sIc (n := -1) (by decide)) ?_
  refine sn_op sIret ?_
  exact sn_nil
def csX7_found : List AC := [([(2, 34008, 0), (0, 0, 0), (0, 0, 4), (0, -2147483648, 2147483647)], 1, [((0, -1, -1), [], []), ((0, 0, 3), [], [])], [], []), ([(2, 34008, 0), (0, 4, 4), (0, 0, 4), (0, -2147483648, 2147483647)], 1, [((0, -1, -1), [], []), ((0, 0, 3), [], [])], [], []), ([(2, 42168, 0), (0, 0, 0), (0, 0, 5), (0, -2147483648, 2147483647)], 1, [((0, -1, -1), [], []), ((0, 0, 4), [], [])], [], []), ([(2, 42168, 0), (0, 5, 5), (0, 0, 5), (0, -2147483648, 2147483647)], 1, [((0, -1, -1), [], []), ((0, 0, 4), [], [])], [], []), ([(2, 99560, 0), (0, 0, 0), (0, 0, 12), (0, -2147483648, 2147483647)], 1, [((0, -1, -1), [], []), ((0, 0, 11), [], [])], [], []), ([(2, 99560, 0), (0, 12, 12), (0, 0, 12), (0, -2147483648, 2147483647)], 1, [((0, -1, -1), [], []), ((0, 0, 11), [], [])], [], [])]
set_option maxRecDepth 100000 in
set_option maxHeartbeats 4000000 in
theorem sfX7_found (c : Nat × Nat) (hc : c = cA ∨ c = cB) : ∀ ac ∈ csX7_found, SafeC TYg c mX7_found ac := by
  intro ac hac
  simp only [csX7_found, List.mem_cons, List.not_mem_nil, or_false] at hac
  rcases hac with rfl | rfl | rfl | rfl | rfl | rfl
  · rcases hc with rfl | rfl
    · exact safe_of (ann := [(3, [(2, 34008, 0), (0, 0, 0), (0, 0, 4), (0, -2147483648, 2147483647), (0, 0, 4)], [(0, 4, 0, 4294967296)])]) (fuel := 600) okX7_found (snX7_found _ _ cA (Or.inl rfl)) (List.forall_mem_cons.mpr ⟨⟨_, _, rfl⟩, (fun q hq => by cases hq)⟩) (by decide) (by decide +kernel)
    · exact safe_of (ann := [(3, [(2, 34008, 0), (0, 0, 0), (0, 0, 4), (0, -2147483648, 2147483647), (0, 0, 4)], [(0, 4, 0, 4294967296)])]) (fuel := 600) okX7_found (snX7_found _ _ cB (Or.inr rfl)) (List.forall_mem_cons.mpr ⟨⟨_, _, rfl⟩, (fun q hq => by cases hq)⟩) (by decide) (by decide +kernel)
  · rcases hc with rfl | rfl
    · exact safe_of (ann := [(3, [(2, 34008, 0), (0, 4, 4), (0, 0, 4), (0, -2147483648, 2147483647), (0, 0, 4)], [(0, 4, 0, 4294967296)])]) (fuel := 600) okX7_found (snX7_found _ _ cA (Or.inl rfl)) (List.forall_mem_cons.mpr ⟨⟨_, _, rfl⟩, (fun q hq => by cases hq)⟩) (by decide) (by decide +kernel)
    · exact safe_of (ann := [(3, [(2, 34008, 0), (0, 4, 4), (0, 0, 4), (0, -2147483648, 2147483647), (0, 0, 4)], [(0, 4, 0, 4294967296)])]) (fuel := 600) okX7_found (snX7_found _ _ cB (Or.inr rfl)) (List.forall_mem_cons.mpr ⟨⟨_, _, rfl⟩, (fun q hq => by cases hq)⟩) (by decide) (by decide +kernel)
  · rcases hc with rfl | rfl
    · exact safe_of (ann := [(3, [(2, 42168, 0), (0, 0, 0), (0, 0, 5), (0, -2147483648, 2147483647), (0, 0, 5)], [(0, 4, 0, 4294967296)])]) (fuel := 600) okX7_found (snX7_found _ _ cA (Or.inl rfl)) (List.forall_mem_cons.mpr ⟨⟨_, _, rfl⟩, (fun q hq => by cases hq)⟩) (by decide) (by decide +kernel)
    · exact safe_of (ann := [(3, [(2, 42168, 0), (0, 0, 0), (0, 0, 5), (0, -2147483648, 2147483647), (0, 0, 5)], [(0, 4, 0, 4294967296)])]) (fuel := 600) okX7_found (snX7_found _ _ cB (Or.inr rfl)) (List.forall_mem_cons.mpr ⟨⟨_, _, rfl⟩, (fun q hq => by cases hq)⟩) (by decide) (by decide +kernel)
  · rcases hc with rfl | rfl
    · exact safe_of (ann := [(3, [(2, 42168, 0), (0, 5, 5), (0, 0, 5), (0, -2147483648, 2147483647), (0, 0, 5)], [(0, 4, 0, 4294967296)])]) (fuel := 600) okX7_found (snX7_found _ _ cA (Or.inl rfl)) (List.forall_mem_cons.mpr ⟨⟨_, _, rfl⟩, (fun q hq => by cases hq)⟩) (by decide) (by decide +kernel)
    · exact safe_of (ann := [(3, [(2, 42168, 0), (0, 5, 5), (0, 0, 5), (0, -2147483648, 2147483647), (0, 0, 5)], [(0, 4, 0, 4294967296)])]) (fuel := 600) okX7_found (snX7_found _ _ cB (Or.inr rfl)) (List.forall_mem_cons.mpr ⟨⟨_, _, rfl⟩, (fun q hq => by cases hq)⟩) (by decide) (by decide +kernel)
  · rcases hc with rfl | rfl
    · exact safe_of (ann := [(3, [(2, 99560, 0), (0, 0, 0), (0, 0, 12), (0, -2147483648, 2147483647), (0, 0, 12)], [(0, 4, 0, 4294967296)])]) (fuel := 600) okX7_found (snX7_found _ _ cA (Or.inl rfl)) (List.forall_mem_cons.mpr ⟨⟨_, _, rfl⟩, (fun q hq => by cases hq)⟩) (by decide) (by decide +kernel)
    · exact safe_of (ann := [(3, [(2, 99560, 0), (0, 0, 0), (0, 0, 12), (0, -2147483648, 2147483647), (0, 0, 12)], [(0, 4, 0, 4294967296)])]) (fuel := 600) okX7_found (snX7_found _ _ cB (Or.inr rfl)) (List.forall_mem_cons.mpr ⟨⟨_, _, rfl⟩, (fun q hq => by cases hq)⟩) (by decide) (by decide +kernel)
  · rcases hc with rfl | rfl
    · exact safe_of (ann := [(3, [(2, 99560, 0), (0, 12, 12), (0, 0, 12), (0, -2147483648, 2147483647), (0, 0, 12)], [(0, 4, 0, 4294967296)])]) (fuel := 600) okX7_found (snX7_found _ _ cA (Or.inl rfl)) (List.forall_mem_cons.mpr ⟨⟨_, _, rfl⟩, (fun q hq => by cases hq)⟩) (by decide) (by decide +kernel)
    · exact safe_of (ann := [(3, [(2, 99560, 0), (0, 12, 12), (0, 0, 12), (0, -2147483648, 2147483647), (0, 0, 12)], [(0, 4, 0, 4294967296)])]) (fuel := 600) okX7_found (snX7_found _ _ cB (Or.inr rfl)) (List.forall_mem_cons.mpr ⟨⟨_, _, rfl⟩, (fun q hq => by cases hq)⟩) (by decide) (by decide +kernel)
set_option maxRecDepth 100000 in
def adX7_hands (D : KK) : List ACE := (0, 1, some (aAl 0)) :: (1, 1, some (aIc (0))) :: (2, 3, some (aPutI D 7 0)) :: (5, 1, some (aAl 0)) :: (6, 3, some (aCall D 7 1 4 csX7_parties)) :: (9, 1, some (aIc (0))) :: (10, 1, some (aIs 1)) :: (11, 1, some (aIc (0))) :: (12, 1, some (aIs 2)) :: (13, 0, none) :: (13, 1, some (aIl 2)) :: (14, 1, some (aAl 0)) :: (15, 3, some (aGetI D 7 5)) :: (18, 3, some (aCm (fun C x y => bLe C y x) bLt 45)) :: (21, 1, some (aIl 1)) :: (22, 1, some (aAl 0)) :: (23, 3, some (aGetR [(1175, 50632)])) :: (26, 1, some (aIl 2)) :: (27, 1, some (aIald D)) :: (28, 1, some (aIl 2)) :: (29, 3, some (aCm bNe bEq 36)) :: (32, 1, some (aIc (1))) :: (33, 3, some (aGoto 37)) :: (36, 1, some (aIc (0))) :: (37, 1, some (aBin fAdd)) :: (38, 1, some (aIs 1)) :: (39, 3, some (aInc 2 (1))) :: (42, 3, some (aGoto 13)) :: (45, 1, some (aIl 1)) :: (46, 1, some (aIret)) :: []
set_option maxRecDepth 100000 in
set_option maxHeartbeats 4000000 in
theorem snX7_hands (d : Nat) (W : List Nat) (c : Nat × Nat) (hc : c = cA ∨ c = cB) : SndAll (d, TYg, c, W) cdX7_hands (adX7_hands (d, TYg, c, W)) := by
  unfold cdX7_hands adX7_hands
  refine sn_op sAl ?_
  refine sn_op (sIc (n := 0) (by decide)) ?_
  refine sn_op sPutI ?_
  refine sn_op sAl ?_
  refine sn_op (sCV (sfX7_parties c hc) (by decide) (by decide +kernel)) ?_
  refine sn_op (sIc (n := 0) (by decide)) ?_
  refine sn_op sIs ?_
  refine sn_op (sIc (n := 0) (by decide)) ?_
  refine sn_op sIs ?_
  refine sn_st ?_
  refine sn_op sIl ?_
  refine sn_op sAl ?_
  refine sn_op sGetI ?_
  refine sn_op sCmGe ?_
  refine sn_op sIl ?_
  refine sn_op sAl ?_
  refine sn_op sGetR ?_
  refine sn_op sIl ?_
  refine sn_op sIald ?_
  refine sn_op sIl ?_
  refine sn_op sCmNe ?_
  refine sn_op (sIc (n := 1) (by decide)) ?_
  refine sn_op sGoto ?_
  refine sn_op (sIc (n := 0) (by decide)) ?_
  refine sn_op sIadd ?_
  refine sn_op sIs ?_
  refine sn_op (sInc (n := 1) (by decide)) ?_
  refine sn_op sGoto ?_
  refine sn_op sIl ?_
  refine sn_op sIret ?_
  exact sn_nil
def csX7_hands : List AC := [([(2, 1175, 0)], 2, [((0, -2147483648, 2147483647), [], [])], [50632, 4294968471], [])]
set_option maxRecDepth 100000 in
set_option maxHeartbeats 4000000 in
theorem sfX7_hands (c : Nat × Nat) (hc : c = cA ∨ c = cB) : ∀ ac ∈ csX7_hands, SafeC TYg c mX7_hands ac := by
  intro ac hac
  simp only [csX7_hands, List.mem_cons, List.not_mem_nil, or_false] at hac
  rcases hac with rfl
  · rcases hc with rfl | rfl
    · exact safe_of (ann := [(13, [(2, 1175, 0), (0, -2147483648, 2147483647), (0, 0, 12)], [(0, 2, 0, 4294967296)])]) (fuel := 600) okX7_hands (snX7_hands _ _ cA (Or.inl rfl)) (List.forall_mem_cons.mpr ⟨⟨_, _, rfl⟩, (fun q hq => by cases hq)⟩) (by decide) (by decide +kernel)
    · exact safe_of (ann := [(13, [(2, 1175, 0), (0, -2147483648, 2147483647), (0, 0, 12)], [(0, 2, 0, 4294967296)])]) (fuel := 600) okX7_hands (snX7_hands _ _ cB (Or.inr rfl)) (List.forall_mem_cons.mpr ⟨⟨_, _, rfl⟩, (fun q hq => by cases hq)⟩) (by decide) (by decide +kernel)
set_option maxRecDepth 100000 in
def adX7_hasMissing (D : KK) : List ACE := (0, 1, some (aIc (0))) :: (1, 1, some (aIs 2)) :: (2, 0, none) :: (2, 1, some (aIl 2)) :: (3, 1, some (aAl 0)) :: (4, 3, some (aGetI D 7 5)) :: (7, 3, some (aCm (fun C x y => bLe C y x) bLt 50)) :: (10, 1, some (aIl 2)) :: (11, 1, some (aIl 1)) :: (12, 3, some (aCm bEq bNe 44)) :: (15, 1, some (aAl 0)) :: (16, 3, some (aGetR [(1175, 50632)])) :: (19, 1, some (aIl 2)) :: (20, 1, some (aIald D)) :: (21, 1, some (aAl 0)) :: (22, 3, some (aGetR [(1175, 50632)])) :: (25, 1, some (aIl 1)) :: (26, 1, some (aIald D)) :: (27, 3, some (aCm bNe bEq 44)) :: (30, 1, some (aAl 0)) :: (31, 1, some (aIl 2)) :: (32, 1, some (aAl 0)) :: (33, 3, some (aGetI D 7 40)) :: (36, 3, some (aCall D 7 3 3 csX7_isMissing)) :: (39, 3, some (aIf bEq bNe 44)) :: (42, 1, some (aIc (1))) :: (43, 1, some (aZret)) :: (44, 3, some (aInc 2 (1))) :: (47, 3, some (aGoto 2)) :: (50, 1, some (aIc (0))) :: (51, 1, some (aZret)) :: []
set_option maxRecDepth 100000 in
set_option maxHeartbeats 4000000 in
theorem snX7_hasMissing (d : Nat) (W : List Nat) (c : Nat × Nat) (hc : c = cA ∨ c = cB) : SndAll (d, TYg, c, W) cdX7_hasMissing (adX7_hasMissing (d, TYg, c, W)) := by
  unfold cdX7_hasMissing adX7_hasMissing
  refine sn_op (sIc (n := 0) (by decide)) ?_
  refine sn_op sIs ?_
  refine sn_st ?_
  refine sn_op sIl ?_
  refine sn_op sAl ?_
  refine sn_op sGetI ?_
  refine sn_op sCmGe ?_
  refine sn_op sIl ?_
  refine sn_op sIl ?_
  refine sn_op sCmEq ?_
  refine sn_op sAl ?_
  refine sn_op sGetR ?_
  refine sn_op sIl ?_
  refine sn_op sIald ?_
  refine sn_op sAl ?_
  refine sn_op sGetR ?_
  refine sn_op sIl ?_
  refine sn_op sIald ?_
  refine sn_op sCmNe ?_
  refine sn_op sAl ?_
  refine sn_op sIl ?_
  refine sn_op sAl ?_
  refine sn_op sGetI ?_
  refine sn_op (sCI (sfX7_isMissing c hc) (by decide) (by decide +kernel)) ?_
  refine sn_op sIfEq ?_
  refine sn_op (sIc (n := 1) (by decide)) ?_
  refine sn_op sZret ?_
  refine sn_op (sInc (n := 1) (by decide)) ?_
  refine sn_op sGoto ?_
  refine sn_op (sIc (n := 0) (by decide)) ?_
  refine sn_op sZret ?_
  exact sn_nil
def csX7_hasMissing : List AC := [([(2, 1175, 0), (0, 0, 0)], 5, [((0, 0, 0), [], []), ((0, 1, 1), [((1175, 5), (1, 12))], [])], [], []), ([(2, 1175, 0), (0, 0, 11)], 5, [((0, 0, 0), [], []), ((0, 1, 1), [((1175, 5), (1, 12))], [])], [], [])]
set_option maxRecDepth 100000 in
set_option maxHeartbeats 4000000 in
theorem sfX7_hasMissing (c : Nat × Nat) (hc : c = cA ∨ c = cB) : ∀ ac ∈ csX7_hasMissing, SafeC TYg c mX7_hasMissing ac := by
  intro ac hac
  simp only [csX7_hasMissing, List.mem_cons, List.not_mem_nil, or_false] at hac
  rcases hac with rfl | rfl
  · rcases hc with rfl | rfl
    · exact safe_of (ann := [(2, [(2, 1175, 0), (0, 0, 0), (0, 0, 12)], [(0, 2, 0, 4294967296)])]) (fuel := 600) okX7_hasMissing (snX7_hasMissing _ _ cA (Or.inl rfl)) (List.forall_mem_cons.mpr ⟨⟨_, _, rfl⟩, (fun q hq => by cases hq)⟩) (by decide) (by decide +kernel)
    · exact safe_of (ann := [(2, [(2, 1175, 0), (0, 0, 0), (0, 0, 12)], [(0, 2, 0, 4294967296)])]) (fuel := 600) okX7_hasMissing (snX7_hasMissing _ _ cB (Or.inr rfl)) (List.forall_mem_cons.mpr ⟨⟨_, _, rfl⟩, (fun q hq => by cases hq)⟩) (by decide) (by decide +kernel)
  · rcases hc with rfl | rfl
    · exact safe_of (ann := [(2, [(2, 1175, 0), (0, 0, 11), (0, 0, 12)], [(0, 2, 0, 4294967296)])]) (fuel := 600) okX7_hasMissing (snX7_hasMissing _ _ cA (Or.inl rfl)) (List.forall_mem_cons.mpr ⟨⟨_, _, rfl⟩, (fun q hq => by cases hq)⟩) (by decide) (by decide +kernel)
    · exact safe_of (ann := [(2, [(2, 1175, 0), (0, 0, 11), (0, 0, 12)], [(0, 2, 0, 4294967296)])]) (fuel := 600) okX7_hasMissing (snX7_hasMissing _ _ cB (Or.inr rfl)) (List.forall_mem_cons.mpr ⟨⟨_, _, rfl⟩, (fun q hq => by cases hq)⟩) (by decide) (by decide +kernel)
set_option maxRecDepth 100000 in
def adX7_here (D : KK) : List ACE := (0, 1, some (aAl 0)) :: (1, 3, some (aGetI D 7 31)) :: (4, 1, some (aAl 0)) :: (5, 3, some (aGetI D 7 30)) :: (8, 3, some (aCm (fun C x y => bLe C y x) bLt 23)) :: (11, 1, some (aAl 0)) :: (12, 3, some (aGetR [(1175, 3277992)])) :: (15, 1, some (aAl 0)) :: (16, 3, some (aGetI D 7 31)) :: (19, 1, some (aIald D)) :: (20, 3, some (aGoto 24)) :: (23, 1, some (aIc (-1))) :: (24, 1, some (aIret)) :: []
set_option maxRecDepth 100000 in
set_option maxHeartbeats 4000000 in
theorem snX7_here (d : Nat) (W : List Nat) (c : Nat × Nat) (hc : c = cA ∨ c = cB) : SndAll (d, TYg, c, W) cdX7_here (adX7_here (d, TYg, c, W)) := by
  unfold cdX7_here adX7_here
  refine sn_op sAl ?_
  refine sn_op sGetI ?_
  refine sn_op sAl ?_
  refine sn_op sGetI ?_
  refine sn_op sCmGe ?_
  refine sn_op sAl ?_
  refine sn_op sGetR ?_
  refine sn_op sAl ?_
  refine sn_op sGetI ?_
  refine sn_op sIald ?_
  refine sn_op sGoto ?_
  refine sn_op (sIc (n := -1) (by decide)) ?_
  refine sn_op sIret ?_
  exact sn_nil
def csX7_here : List AC := [([(2, 1175, 0)], 1, [((0, -1, -1), [], []), ((0, 0, 255), [((1175, 30), (1, 800)), ((1175, 31), (0, 799))], [])], [], [])]
set_option maxRecDepth 100000 in
set_option maxHeartbeats 4000000 in
theorem sfX7_here (c : Nat × Nat) (hc : c = cA ∨ c = cB) : ∀ ac ∈ csX7_here, SafeC TYg c mX7_here ac := by
  intro ac hac
  simp only [csX7_here, List.mem_cons, List.not_mem_nil, or_false] at hac
  rcases hac with rfl
  · rcases hc with rfl | rfl
    · exact safe_of (ann := []) (fuel := 600) okX7_here (snX7_here _ _ cA (Or.inl rfl)) (fun q hq => by cases hq) (by decide) (by decide +kernel)
    · exact safe_of (ann := []) (fuel := 600) okX7_here (snX7_here _ _ cB (Or.inr rfl)) (fun q hq => by cases hq) (by decide) (by decide +kernel)
set_option maxRecDepth 100000 in
def adX7_isAsked (D : KK) : List ACE := (0, 1, some (aIl 0)) :: (1, 3, some (aIf bLt (fun C x y => bLe C y x) 35)) :: (4, 1, some (aIl 0)) :: (5, 1, some (aIc (1))) :: (6, 3, some (aCm (fun C x y => bLt C y x) bLe 35)) :: (9, 1, some (aIl 1)) :: (10, 1, some (aIc (2))) :: (11, 3, some (aCm bLt (fun C x y => bLe C y x) 35)) :: (14, 1, some (aIl 1)) :: (15, 2, some (aIc (6))) :: (17, 3, some (aCm (fun C x y => bLt C y x) bLe 35)) :: (20, 1, some (aIl 2)) :: (21, 3, some (aIf bLt (fun C x y => bLe C y x) 35)) :: (24, 1, some (aIl 2)) :: (25, 3, some (aIc (400))) :: (28, 3, some (aCm (fun C x y => bLt C y x) bLe 35)) :: (31, 1, some (aIc (1))) :: (32, 3, some (aGoto 36)) :: (35, 1, some (aIc (0))) :: (36, 1, some (aZret)) :: []
set_option maxRecDepth 100000 in
set_option maxHeartbeats 4000000 in
theorem snX7_isAsked (d : Nat) (W : List Nat) (c : Nat × Nat) (hc : c = cA ∨ c = cB) : SndAll (d, TYg, c, W) cdX7_isAsked (adX7_isAsked (d, TYg, c, W)) := by
  unfold cdX7_isAsked adX7_isAsked
  refine sn_op sIl ?_
  refine sn_op sIfLt ?_
  refine sn_op sIl ?_
  refine sn_op (sIc (n := 1) (by decide)) ?_
  refine sn_op sCmGt ?_
  refine sn_op sIl ?_
  refine sn_op (sIc (n := 2) (by decide)) ?_
  refine sn_op sCmLt ?_
  refine sn_op sIl ?_
  refine sn_op (sIc (n := 6) (by decide)) ?_
  refine sn_op sCmGt ?_
  refine sn_op sIl ?_
  refine sn_op sIfLt ?_
  refine sn_op sIl ?_
  refine sn_op (sIc (n := 400) (by decide)) ?_
  refine sn_op sCmGt ?_
  refine sn_op (sIc (n := 1) (by decide)) ?_
  refine sn_op sGoto ?_
  refine sn_op (sIc (n := 0) (by decide)) ?_
  refine sn_op sZret ?_
  exact sn_nil
def csX7_isAsked : List AC := [([(0, -2147483648, 2147483647), (0, -2147483648, 2147483647), (0, -2147483648, 2147483647)], 1, [((0, 0, 0), [], []), ((0, 1, 1), [], [(0, (0, 1)), (1, (2, 6)), (2, (0, 400))])], [], [])]
set_option maxRecDepth 100000 in
set_option maxHeartbeats 4000000 in
theorem sfX7_isAsked (c : Nat × Nat) (hc : c = cA ∨ c = cB) : ∀ ac ∈ csX7_isAsked, SafeC TYg c mX7_isAsked ac := by
  intro ac hac
  simp only [csX7_isAsked, List.mem_cons, List.not_mem_nil, or_false] at hac
  rcases hac with rfl
  · rcases hc with rfl | rfl
    · exact safe_of (ann := []) (fuel := 600) okX7_isAsked (snX7_isAsked _ _ cA (Or.inl rfl)) (fun q hq => by cases hq) (by decide) (by decide +kernel)
    · exact safe_of (ann := []) (fuel := 600) okX7_isAsked (snX7_isAsked _ _ cB (Or.inr rfl)) (fun q hq => by cases hq) (by decide) (by decide +kernel)
set_option maxRecDepth 100000 in
def adX7_isDigit (D : KK) : List ACE := (0, 1, some (aIl 0)) :: (1, 2, some (aIc (48))) :: (3, 3, some (aCm bLt (fun C x y => bLe C y x) 16)) :: (6, 1, some (aIl 0)) :: (7, 2, some (aIc (57))) :: (9, 3, some (aCm (fun C x y => bLt C y x) bLe 16)) :: (12, 1, some (aIc (1))) :: (13, 3, some (aGoto 17)) :: (16, 1, some (aIc (0))) :: (17, 1, some (aZret)) :: []
set_option maxRecDepth 100000 in
set_option maxHeartbeats 4000000 in
theorem snX7_isDigit (d : Nat) (W : List Nat) (c : Nat × Nat) (hc : c = cA ∨ c = cB) : SndAll (d, TYg, c, W) cdX7_isDigit (adX7_isDigit (d, TYg, c, W)) := by
  unfold cdX7_isDigit adX7_isDigit
  refine sn_op sIl ?_
  refine sn_op (sIc (n := 48) (by decide)) ?_
  refine sn_op sCmLt ?_
  refine sn_op sIl ?_
  refine sn_op (sIc (n := 57) (by decide)) ?_
  refine sn_op sCmGt ?_
  refine sn_op (sIc (n := 1) (by decide)) ?_
  refine sn_op sGoto ?_
  refine sn_op (sIc (n := 0) (by decide)) ?_
  refine sn_op sZret ?_
  exact sn_nil
def csX7_isDigit : List AC := [([(0, -1, -1)], 1, [((0, 0, 0), [], [])], [], []), ([(0, 0, 255)], 1, [((0, 0, 0), [], []), ((0, 1, 1), [], [(0, (48, 57))])], [], [])]
set_option maxRecDepth 100000 in
set_option maxHeartbeats 4000000 in
theorem sfX7_isDigit (c : Nat × Nat) (hc : c = cA ∨ c = cB) : ∀ ac ∈ csX7_isDigit, SafeC TYg c mX7_isDigit ac := by
  intro ac hac
  simp only [csX7_isDigit, List.mem_cons, List.not_mem_nil, or_false] at hac
  rcases hac with rfl | rfl
  · rcases hc with rfl | rfl
    · exact safe_of (ann := []) (fuel := 600) okX7_isDigit (snX7_isDigit _ _ cA (Or.inl rfl)) (fun q hq => by cases hq) (by decide) (by decide +kernel)
    · exact safe_of (ann := []) (fuel := 600) okX7_isDigit (snX7_isDigit _ _ cB (Or.inr rfl)) (fun q hq => by cases hq) (by decide) (by decide +kernel)
  · rcases hc with rfl | rfl
    · exact safe_of (ann := []) (fuel := 600) okX7_isDigit (snX7_isDigit _ _ cA (Or.inl rfl)) (fun q hq => by cases hq) (by decide) (by decide +kernel)
    · exact safe_of (ann := []) (fuel := 600) okX7_isDigit (snX7_isDigit _ _ cB (Or.inr rfl)) (fun q hq => by cases hq) (by decide) (by decide +kernel)
set_option maxRecDepth 100000 in
def adX7_isSale (D : KK) : List ACE := (0, 1, some (aIl 1)) :: (1, 3, some (aIf bLt (fun C x y => bLe C y x) 16)) :: (4, 1, some (aIl 1)) :: (5, 1, some (aAl 0)) :: (6, 3, some (aGetI D 7 6)) :: (9, 3, some (aCm (fun C x y => bLe C y x) bLt 16)) :: (12, 1, some (aIc (1))) :: (13, 3, some (aGoto 17)) :: (16, 1, some (aIc (0))) :: (17, 1, some (aZret)) :: []
set_option maxRecDepth 100000 in
set_option maxHeartbeats 4000000 in
theorem snX7_isSale (d : Nat) (W : List Nat) (c : Nat × Nat) (hc : c = cA ∨ c = cB) : SndAll (d, TYg, c, W) cdX7_isSale (adX7_isSale (d, TYg, c, W)) := by
  unfold cdX7_isSale adX7_isSale
  refine sn_op sIl ?_
  refine sn_op sIfLt ?_
  refine sn_op sIl ?_
  refine sn_op sAl ?_
  refine sn_op sGetI ?_
  refine sn_op sCmGe ?_
  refine sn_op (sIc (n := 1) (by decide)) ?_
  refine sn_op sGoto ?_
  refine sn_op (sIc (n := 0) (by decide)) ?_
  refine sn_op sZret ?_
  exact sn_nil
def csX7_isSale : List AC := [([(2, 1175, 0), (0, -2147483648, 2147483647)], 1, [((0, 0, 0), [], []), ((0, 1, 1), [((1175, 6), (1, 40))], [(1, (0, 39))])], [], [])]
set_option maxRecDepth 100000 in
set_option maxHeartbeats 4000000 in
theorem sfX7_isSale (c : Nat × Nat) (hc : c = cA ∨ c = cB) : ∀ ac ∈ csX7_isSale, SafeC TYg c mX7_isSale ac := by
  intro ac hac
  simp only [csX7_isSale, List.mem_cons, List.not_mem_nil, or_false] at hac
  rcases hac with rfl
  · rcases hc with rfl | rfl
    · exact safe_of (ann := []) (fuel := 600) okX7_isSale (snX7_isSale _ _ cA (Or.inl rfl)) (fun q hq => by cases hq) (by decide) (by decide +kernel)
    · exact safe_of (ann := []) (fuel := 600) okX7_isSale (snX7_isSale _ _ cB (Or.inr rfl)) (fun q hq => by cases hq) (by decide) (by decide +kernel)
set_option maxRecDepth 100000 in
def adX7_isSmall (D : KK) : List ACE := (0, 1, some (aIl 0)) :: (1, 2, some (aIc (97))) :: (3, 3, some (aCm bLt (fun C x y => bLe C y x) 16)) :: (6, 1, some (aIl 0)) :: (7, 2, some (aIc (122))) :: (9, 3, some (aCm (fun C x y => bLt C y x) bLe 16)) :: (12, 1, some (aIc (1))) :: (13, 3, some (aGoto 17)) :: (16, 1, some (aIc (0))) :: (17, 1, some (aZret)) :: []
set_option maxRecDepth 100000 in
set_option maxHeartbeats 4000000 in
theorem snX7_isSmall (d : Nat) (W : List Nat) (c : Nat × Nat) (hc : c = cA ∨ c = cB) : SndAll (d, TYg, c, W) cdX7_isSmall (adX7_isSmall (d, TYg, c, W)) := by
  unfold cdX7_isSmall adX7_isSmall
  refine sn_op sIl ?_
  refine sn_op (sIc (n := 97) (by decide)) ?_
  refine sn_op sCmLt ?_
  refine sn_op sIl ?_
  refine sn_op (sIc (n := 122) (by decide)) ?_
  refine sn_op sCmGt ?_
  refine sn_op (sIc (n := 1) (by decide)) ?_
  refine sn_op sGoto ?_
  refine sn_op (sIc (n := 0) (by decide)) ?_
  refine sn_op sZret ?_
  exact sn_nil
def csX7_isSmall : List AC := [([(0, -1, -1)], 1, [((0, 0, 0), [], [])], [], []), ([(0, 0, 255)], 1, [((0, 0, 0), [], []), ((0, 1, 1), [], [(0, (97, 122))])], [], [])]
set_option maxRecDepth 100000 in
set_option maxHeartbeats 4000000 in
theorem sfX7_isSmall (c : Nat × Nat) (hc : c = cA ∨ c = cB) : ∀ ac ∈ csX7_isSmall, SafeC TYg c mX7_isSmall ac := by
  intro ac hac
  simp only [csX7_isSmall, List.mem_cons, List.not_mem_nil, or_false] at hac
  rcases hac with rfl | rfl
  · rcases hc with rfl | rfl
    · exact safe_of (ann := []) (fuel := 600) okX7_isSmall (snX7_isSmall _ _ cA (Or.inl rfl)) (fun q hq => by cases hq) (by decide) (by decide +kernel)
    · exact safe_of (ann := []) (fuel := 600) okX7_isSmall (snX7_isSmall _ _ cB (Or.inr rfl)) (fun q hq => by cases hq) (by decide) (by decide +kernel)
  · rcases hc with rfl | rfl
    · exact safe_of (ann := []) (fuel := 600) okX7_isSmall (snX7_isSmall _ _ cA (Or.inl rfl)) (fun q hq => by cases hq) (by decide) (by decide +kernel)
    · exact safe_of (ann := []) (fuel := 600) okX7_isSmall (snX7_isSmall _ _ cB (Or.inr rfl)) (fun q hq => by cases hq) (by decide) (by decide +kernel)
set_option maxRecDepth 100000 in
def adX7_isWord (D : KK) : List ACE := (0, 1, some (aAl 0)) :: (1, 3, some (aGetI D 7 35)) :: (4, 3, some (aIf bNe bEq 26)) :: (7, 1, some (aAl 0)) :: (8, 3, some (aGetI D 7 33)) :: (11, 3, some (aIf bNe bEq 26)) :: (14, 1, some (aAl 0)) :: (15, 3, some (aGetI D 7 34)) :: (18, 1, some (aIl 1)) :: (19, 3, some (aCm bNe bEq 26)) :: (22, 1, some (aIc (1))) :: (23, 3, some (aGoto 27)) :: (26, 1, some (aIc (0))) :: (27, 1, some (aZret)) :: []
set_option maxRecDepth 100000 in
set_option maxHeartbeats 4000000 in
theorem snX7_isWord (d : Nat) (W : List Nat) (c : Nat × Nat) (hc : c = cA ∨ c = cB) : SndAll (d, TYg, c, W) cdX7_isWord (adX7_isWord (d, TYg, c, W)) := by
  unfold cdX7_isWord adX7_isWord
  refine sn_op sAl ?_
  refine sn_op sGetI ?_
  refine sn_op sIfNe ?_
  refine sn_op sAl ?_
  refine sn_op sGetI ?_
  refine sn_op sIfNe ?_
  refine sn_op sAl ?_
  refine sn_op sGetI ?_
  refine sn_op sIl ?_
  refine sn_op sCmNe ?_
  refine sn_op (sIc (n := 1) (by decide)) ?_
  refine sn_op sGoto ?_
  refine sn_op (sIc (n := 0) (by decide)) ?_
  refine sn_op sZret ?_
  exact sn_nil
def csX7_isWord : List AC := [([(2, 1175, 0), (0, 5, 5)], 1, [((0, 0, 0), [], []), ((0, 1, 1), [((1175, 33), (0, 0)), ((1175, 34), (5, 5)), ((1175, 35), (0, 0))], [])], [], []), ([(2, 1175, 0), (0, 6, 6)], 1, [((0, 0, 0), [], []), ((0, 1, 1), [((1175, 33), (0, 0)), ((1175, 34), (6, 6)), ((1175, 35), (0, 0))], [])], [], []), ([(2, 1175, 0), (0, 7, 7)], 1, [((0, 0, 0), [], []), ((0, 1, 1), [((1175, 33), (0, 0)), ((1175, 34), (7, 7)), ((1175, 35), (0, 0))], [])], [], []), ([(2, 1175, 0), (0, 8, 8)], 1, [((0, 0, 0), [], []), ((0, 1, 1), [((1175, 33), (0, 0)), ((1175, 34), (8, 8)), ((1175, 35), (0, 0))], [])], [], [])]
set_option maxRecDepth 100000 in
set_option maxHeartbeats 4000000 in
theorem sfX7_isWord (c : Nat × Nat) (hc : c = cA ∨ c = cB) : ∀ ac ∈ csX7_isWord, SafeC TYg c mX7_isWord ac := by
  intro ac hac
  simp only [csX7_isWord, List.mem_cons, List.not_mem_nil, or_false] at hac
  rcases hac with rfl | rfl | rfl | rfl
  · rcases hc with rfl | rfl
    · exact safe_of (ann := []) (fuel := 600) okX7_isWord (snX7_isWord _ _ cA (Or.inl rfl)) (fun q hq => by cases hq) (by decide) (by decide +kernel)
    · exact safe_of (ann := []) (fuel := 600) okX7_isWord (snX7_isWord _ _ cB (Or.inr rfl)) (fun q hq => by cases hq) (by decide) (by decide +kernel)
  · rcases hc with rfl | rfl
    · exact safe_of (ann := []) (fuel := 600) okX7_isWord (snX7_isWord _ _ cA (Or.inl rfl)) (fun q hq => by cases hq) (by decide) (by decide +kernel)
    · exact safe_of (ann := []) (fuel := 600) okX7_isWord (snX7_isWord _ _ cB (Or.inr rfl)) (fun q hq => by cases hq) (by decide) (by decide +kernel)
  · rcases hc with rfl | rfl
    · exact safe_of (ann := []) (fuel := 600) okX7_isWord (snX7_isWord _ _ cA (Or.inl rfl)) (fun q hq => by cases hq) (by decide) (by decide +kernel)
    · exact safe_of (ann := []) (fuel := 600) okX7_isWord (snX7_isWord _ _ cB (Or.inr rfl)) (fun q hq => by cases hq) (by decide) (by decide +kernel)
  · rcases hc with rfl | rfl
    · exact safe_of (ann := []) (fuel := 600) okX7_isWord (snX7_isWord _ _ cA (Or.inl rfl)) (fun q hq => by cases hq) (by decide) (by decide +kernel)
    · exact safe_of (ann := []) (fuel := 600) okX7_isWord (snX7_isWord _ _ cB (Or.inr rfl)) (fun q hq => by cases hq) (by decide) (by decide +kernel)
set_option maxRecDepth 100000 in
def adX7_lacking (D : KK) : List ACE := (0, 1, some (aAl 0)) :: (1, 1, some (aIc (0))) :: (2, 3, some (aPutI D 7 0)) :: (5, 1, some (aIl 1)) :: (6, 1, some (aIc (1))) :: (7, 3, some (aCm bLt (fun C x y => bLe C y x) 16)) :: (10, 1, some (aIl 1)) :: (11, 2, some (aIc (99))) :: (13, 3, some (aCm bLe (fun C x y => bLt C y x) 18)) :: (16, 1, some (aIc (-1))) :: (17, 1, some (aIret)) :: (18, 1, some (aIc (0))) :: (19, 1, some (aIs 2)) :: (20, 1, some (aIc (-1))) :: (21, 1, some (aIs 3)) :: (22, 1, some (aIc (0))) :: (23, 2, some (aIs 4)) :: (25, 0, none) :: (25, 2, some (aIl 4)) :: (27, 3, some (aIc (400))) :: (30, 3, some (aCm (fun C x y => bLt C y x) bLe 115)) :: (33, 1, some (aIc (0))) :: (34, 2, some (aIs 5)) :: (36, 0, none) :: (36, 2, some (aIl 5)) :: (38, 1, some (aAl 0)) :: (39, 3, some (aGetI D 7 6)) :: (42, 3, some (aCm (fun C x y => bLe C y x) bLt 109)) :: (45, 1, some (aAl 0)) :: (46, 3, some (aGetR [(1175, 329128)])) :: (49, 2, some (aIl 5)) :: (51, 1, some (aIald D)) :: (52, 2, some (aIl 4)) :: (54, 3, some (aCm bNe bEq 103)) :: (57, 1, some (aAl 0)) :: (58, 3, some (aGetR [(1175, 329144)])) :: (61, 2, some (aIl 5)) :: (63, 1, some (aIald D)) :: (64, 1, some (aIl 1)) :: (65, 3, some (aCm bEq bNe 71)) :: (68, 3, some (aGoto 103)) :: (71, 1, some (aIl 2)) :: (72, 1, some (aIl 3)) :: (73, 1, some (aIc (-1))) :: (74, 3, some (aCm bEq bNe 97)) :: (77, 1, some (aAl 0)) :: (78, 3, some (aGetR [(1175, 329064)])) :: (81, 1, some (aIl 3)) :: (82, 1, some (aIald D)) :: (83, 1, some (aAl 0)) :: (84, 3, some (aGetR [(1175, 329048)])) :: (87, 2, some (aIl 5)) :: (89, 1, some (aIald D)) :: (90, 3, some (aCm bEq bNe 97)) :: (93, 1, some (aIc (1))) :: (94, 3, some (aGoto 98)) :: (97, 1, some (aIc (0))) :: (98, 1, some (aBin fAdd)) :: (99, 1, some (aIs 2)) :: (100, 2, some (aIl 5)) :: (102, 1, some (aIs 3)) :: (103, 3, some (aInc 5 (1))) :: (106, 3, some (aGoto 36)) :: (109, 3, some (aInc 4 (1))) :: (112, 3, some (aGoto 25)) :: (115, 1, some (aIl 2)) :: (116, 1, some (aIret)) :: []
set_option maxRecDepth 100000 in
set_option maxHeartbeats 4000000 in
theorem snX7_lacking (d : Nat) (W : List Nat) (c : Nat × Nat) (hc : c = cA ∨ c = cB) : SndAll (d, TYg, c, W) cdX7_lacking (adX7_lacking (d, TYg, c, W)) := by
  unfold cdX7_lacking adX7_lacking
  refine sn_op sAl ?_
  refine sn_op (sIc (n := 0) (by decide)) ?_
  refine sn_op sPutI ?_
  refine sn_op sIl ?_
  refine sn_op (sIc (n := 1) (by decide)) ?_
  refine sn_op sCmLt ?_
  refine sn_op sIl ?_
  refine sn_op (sIc (n := 99) (by decide)) ?_
  refine sn_op sCmLe ?_
  refine sn_op (sIc (n := -1) (by decide)) ?_
  refine sn_op sIret ?_
  refine sn_op (sIc (n := 0) (by decide)) ?_
  refine sn_op sIs ?_
  refine sn_op (sIc (n := -1) (by decide)) ?_
  refine sn_op sIs ?_
  refine sn_op (sIc (n := 0) (by decide)) ?_
  refine sn_op sIs ?_
  refine sn_st ?_
  refine sn_op sIl ?_
  refine sn_op (sIc (n := 400) (by decide)) ?_
  refine sn_op sCmGt ?_
  refine sn_op (sIc (n := 0) (by decide)) ?_
  refine sn_op sIs ?_
  refine sn_st ?_
  refine sn_op sIl ?_
  refine sn_op sAl ?_
  refine sn_op sGetI ?_
  refine sn_op sCmGe ?_
  refine sn_op sAl ?_
  refine sn_op sGetR ?_
  refine sn_op sIl ?_
  refine sn_op sIald ?_
  refine sn_op sIl ?_
  refine sn_op sCmNe ?_
  refine sn_op sAl ?_
  refine sn_op sGetR ?_
  refine sn_op sIl ?_
  refine sn_op sIald ?_
  refine sn_op sIl ?_
  refine sn_op sCmEq ?_
  refine sn_op sGoto ?_
  refine sn_op sIl ?_
  refine sn_op sIl ?_
  refine sn_op (sIc (n := -1) (by decide)) ?_
  refine sn_op sCmEq ?_
  refine sn_op sAl ?_
  refine sn_op sGetR ?_
  refine sn_op sIl ?_
  refine sn_op sIald ?_
  refine sn_op sAl ?_
  refine sn_op sGetR ?_
  refine sn_op sIl ?_
  refine sn_op sIald ?_
  refine sn_op sCmEq ?_
  refine sn_op (sIc (n := 1) (by decide)) ?_
  refine sn_op sGoto ?_
  refine sn_op (sIc (n := 0) (by decide)) ?_
  refine sn_op sIadd ?_
  refine sn_op sIs ?_
  refine sn_op sIl ?_
  refine sn_op sIs ?_
  refine sn_op (sInc (n := 1) (by decide)) ?_
  refine sn_op sGoto ?_
  refine sn_op (sInc (n := 1) (by decide)) ?_
  refine sn_op sGoto ?_
  refine sn_op sIl ?_
  refine sn_op sIret ?_
  exact sn_nil
def csX7_lacking : List AC := [([(2, 1175, 0), (0, -2147483648, 2147483647)], 1, [((0, -2147483648, 2147483647), [], []), ((0, -1, -1), [((1175, 0), (0, 0))], [])], [4294968471], [])]
set_option maxRecDepth 100000 in
set_option maxHeartbeats 4000000 in
theorem sfX7_lacking (c : Nat × Nat) (hc : c = cA ∨ c = cB) : ∀ ac ∈ csX7_lacking, SafeC TYg c mX7_lacking ac := by
  intro ac hac
  simp only [csX7_lacking, List.mem_cons, List.not_mem_nil, or_false] at hac
  rcases hac with rfl
  · rcases hc with rfl | rfl
    · exact safe_of (ann := [(25, [(2, 1175, 0), (0, 1, 99), (0, -2147483648, 2147483647), (0, -1, 39), (0, 0, 800), (4, 0, 0)], [(0, 4, 0, 4294967296), (3, 0, 0, 2)]), (36, [(2, 1175, 0), (0, 1, 99), (0, -2147483648, 2147483647), (0, -1, 39), (0, 0, 799), (0, 0, 40)], [(0, 4, 0, 4294967296), (3, 0, 0, 1), (0, 5, 0, 4294967296)])]) (fuel := 600) okX7_lacking (snX7_lacking _ _ cA (Or.inl rfl)) (List.forall_mem_cons.mpr ⟨⟨_, _, rfl⟩, List.forall_mem_cons.mpr ⟨⟨_, _, rfl⟩, (fun q hq => by cases hq)⟩⟩) (by decide) (by decide +kernel)
    · exact safe_of (ann := [(25, [(2, 1175, 0), (0, 1, 99), (0, -2147483648, 2147483647), (0, -1, 39), (0, 0, 800), (4, 0, 0)], [(0, 4, 0, 4294967296), (3, 0, 0, 2)]), (36, [(2, 1175, 0), (0, 1, 99), (0, -2147483648, 2147483647), (0, -1, 39), (0, 0, 799), (0, 0, 40)], [(0, 4, 0, 4294967296), (3, 0, 0, 1), (0, 5, 0, 4294967296)])]) (fuel := 600) okX7_lacking (snX7_lacking _ _ cB (Or.inr rfl)) (List.forall_mem_cons.mpr ⟨⟨_, _, rfl⟩, List.forall_mem_cons.mpr ⟨⟨_, _, rfl⟩, (fun q hq => by cases hq)⟩⟩) (by decide) (by decide +kernel)
set_option maxRecDepth 100000 in
def adX7_lays (D : KK) : List ACE := (0, 1, some (aAl 0)) :: (1, 1, some (aAl 0)) :: (2, 3, some (aGetI D 7 25)) :: (5, 3, some (aPutI D 7 3)) :: (8, 1, some (aAl 0)) :: (9, 1, some (aAl 0)) :: (10, 3, some (aGetI D 7 26)) :: (13, 3, some (aPutI D 7 4)) :: (16, 1, some (aAl 0)) :: (17, 1, some (aAl 0)) :: (18, 3, some (aGetI D 7 27)) :: (21, 3, some (aPutI D 7 5)) :: (24, 1, some (aAl 0)) :: (25, 1, some (aAl 0)) :: (26, 3, some (aGetI D 7 28)) :: (29, 3, some (aPutI D 7 6)) :: (32, 1, some (aAl 0)) :: (33, 1, some (aAl 0)) :: (34, 3, some (aGetI D 7 28)) :: (37, 3, some (aPutI D 7 7)) :: (40, 1, some (aAl 0)) :: (41, 1, some (aIc (0))) :: (42, 3, some (aPutI D 7 39)) :: (45, 1, some (aAl 0)) :: (46, 1, some (aIc (0))) :: (47, 3, some (aPutI D 7 40)) :: (50, 1, some (aIc (0))) :: (51, 1, some (aIs 1)) :: (52, 0, none) :: (52, 1, some (aIl 1)) :: (53, 1, some (aIc (5))) :: (54, 3, some (aCm (fun C x y => bLe C y x) bLt 91)) :: (57, 1, some (aAl 0)) :: (58, 3, some (aGetR [(1175, 42168)])) :: (61, 1, some (aIl 1)) :: (62, 1, some (aAl 0)) :: (63, 3, some (aGetR [(1175, 42168)])) :: (66, 1, some (aIc (5))) :: (67, 1, some (aIl 1)) :: (68, 1, some (aBin fAdd)) :: (69, 1, some (aIald D)) :: (70, 1, some (aIast D)) :: (71, 1, some (aAl 0)) :: (72, 3, some (aGetR [(1175, 42184)])) :: (75, 1, some (aIl 1)) :: (76, 1, some (aAl 0)) :: (77, 3, some (aGetR [(1175, 42184)])) :: (80, 1, some (aIc (5))) :: (81, 1, some (aIl 1)) :: (82, 1, some (aBin fAdd)) :: (83, 1, some (aIald D)) :: (84, 1, some (aIast D)) :: (85, 3, some (aInc 1 (1))) :: (88, 3, some (aGoto 52)) :: (91, 1, some (aIc (0))) :: (92, 1, some (aIs 1)) :: (93, 0, none) :: (93, 1, some (aIl 1)) :: (94, 1, some (aIc (4))) :: (95, 3, some (aCm (fun C x y => bLe C y x) bLt 118)) :: (98, 1, some (aAl 0)) :: (99, 3, some (aGetR [(1175, 34008)])) :: (102, 1, some (aIl 1)) :: (103, 1, some (aAl 0)) :: (104, 3, some (aGetR [(1175, 34008)])) :: (107, 1, some (aIc (4))) :: (108, 1, some (aIl 1)) :: (109, 1, some (aBin fAdd)) :: (110, 1, some (aIald D)) :: (111, 1, some (aIast D)) :: (112, 3, some (aInc 1 (1))) :: (115, 3, some (aGoto 93)) :: (118, 1, some (aIc (0))) :: (119, 1, some (aIs 1)) :: (120, 0, none) :: (120, 1, some (aIl 1)) :: (121, 2, some (aIc (12))) :: (123, 3, some (aCm (fun C x y => bLe C y x) bLt 222)) :: (126, 1, some (aAl 0)) :: (127, 3, some (aGetR [(1175, 99560)])) :: (130, 1, some (aIl 1)) :: (131, 1, some (aAl 0)) :: (132, 3, some (aGetR [(1175, 99560)])) :: (135, 2, some (aIc (12))) :: (137, 1, some (aIl 1)) :: (138, 1, some (aBin fAdd)) :: (139, 1, some (aIald D)) :: (140, 1, some (aIast D)) :: (141, 1, some (aAl 0)) :: (142, 3, some (aGetR [(1175, 99576)])) :: (145, 1, some (aIl 1)) :: (146, 1, some (aAl 0)) :: (147, 3, some (aGetR [(1175, 99576)])) :: (150, 2, some (aIc (12))) :: (152, 1, some (aIl 1)) :: (153, 1, some (aBin fAdd)) :: (154, 1, some (aIald D)) :: (155, 1, some (aIast D)) :: (156, 1, some (aAl 0)) :: (157, 3, some (aGetR [(1175, 99592)])) :: (160, 1, some (aIl 1)) :: (161, 1, some (aAl 0)) :: (162, 3, some (aGetR [(1175, 99592)])) :: (165, 2, some (aIc (12))) :: (167, 1, some (aIl 1)) :: (168, 1, some (aBin fAdd)) :: (169, 1, some (aIald D)) :: (170, 1, some (aIast D)) :: (171, 1, some (aAl 0)) :: (172, 3, some (aGetR [(1175, 99608)])) :: (175, 1, some (aIl 1)) :: (176, 1, some (aAl 0)) :: (177, 3, some (aGetR [(1175, 99608)])) :: (180, 2, some (aIc (12))) :: (182, 1, some (aIl 1)) :: (183, 1, some (aBin fAdd)) :: (184, 1, some (aIald D)) :: (185, 1, some (aIast D)) :: (186, 1, some (aAl 0)) :: (187, 3, some (aGetR [(1175, 99624)])) :: (190, 1, some (aIl 1)) :: (191, 1, some (aAl 0)) :: (192, 3, some (aGetR [(1175, 99624)])) :: (195, 2, some (aIc (12))) :: (197, 1, some (aIl 1)) :: (198, 1, some (aBin fAdd)) :: (199, 1, some (aIald D)) :: (200, 1, some (aIast D)) :: (201, 1, some (aAl 0)) :: (202, 3, some (aGetR [(1175, 99640)])) :: (205, 1, some (aIl 1)) :: (206, 1, some (aAl 0)) :: (207, 3, some (aGetR [(1175, 99640)])) :: (210, 2, some (aIc (12))) :: (212, 1, some (aIl 1)) :: (213, 1, some (aBin fAdd)) :: (214, 1, some (aIald D)) :: (215, 1, some (aIast D)) :: (216, 3, some (aInc 1 (1))) :: (219, 3, some (aGoto 120)) :: (222, 1, some (aIc (0))) :: (223, 1, some (aIs 1)) :: (224, 0, none) :: (224, 1, some (aIl 1)) :: (225, 2, some (aIc (40))) :: (227, 3, some (aCm (fun C x y => bLe C y x) bLt 341)) :: (230, 1, some (aAl 0)) :: (231, 3, some (aGetR [(1175, 329048)])) :: (234, 1, some (aIl 1)) :: (235, 1, some (aAl 0)) :: (236, 3, some (aGetR [(1175, 329048)])) :: (239, 2, some (aIc (40))) :: (241, 1, some (aIl 1)) :: (242, 1, some (aBin fAdd)) :: (243, 1, some (aIald D)) :: (244, 1, some (aIast D)) :: (245, 1, some (aAl 0)) :: (246, 3, some (aGetR [(1175, 329064)])) :: (249, 1, some (aIl 1)) :: (250, 1, some (aAl 0)) :: (251, 3, some (aGetR [(1175, 329064)])) :: (254, 2, some (aIc (40))) :: (256, 1, some (aIl 1)) :: (257, 1, some (aBin fAdd)) :: (258, 1, some (aIald D)) :: (259, 1, some (aIast D)) :: (260, 1, some (aAl 0)) :: (261, 3, some (aGetR [(1175, 329080)])) :: (264, 1, some (aIl 1)) :: (265, 1, some (aAl 0)) :: (266, 3, some (aGetR [(1175, 329080)])) :: (269, 2, some (aIc (40))) :: (271, 1, some (aIl 1)) :: (272, 1, some (aBin fAdd)) :: (273, 1, some (aIald D)) :: (274, 1, some (aIast D)) :: (275, 1, some (aAl 0)) :: (276, 3, some (aGetR [(1175, 329096)])) :: (279, 1, some (aIl 1)) :: (280, 1, some (aAl 0)) :: (281, 3, some (aGetR [(1175, 329096)])) :: (284, 2, some (aIc (40))) :: (286, 1, some (aIl 1)) :: (287, 1, some (aBin fAdd)) :: (288, 1, some (aIald D)) :: (289, 1, some (aIast D)) :: (290, 1, some (aAl 0)) :: (291, 3, some (aGetR [(1175, 329112)])) :: (294, 1, some (aIl 1)) :: (295, 1, some (aAl 0)) :: (296, 3, some (aGetR [(1175, 329112)])) :: (299, 2, some (aIc (40))) :: (301, 1, some (aIl 1)) :: (302, 1, some (aBin fAdd)) :: (303, 1, some (aIald D)) :: (304, 1, some (aIast D)) :: (305, 1, some (aAl 0)) :: (306, 3, some (aGetR [(1175, 329128)])) :: (309, 1, some (aIl 1)) :: (310, 1, some (aAl 0)) :: (311, 3, some (aGetR [(1175, 329128)])) :: (314, 2, some (aIc (40))) :: (316, 1, some (aIl 1)) :: (317, 1, some (aBin fAdd)) :: (318, 1, some (aIald D)) :: (319, 1, some (aIast D)) :: (320, 1, some (aAl 0)) :: (321, 3, some (aGetR [(1175, 329144)])) :: (324, 1, some (aIl 1)) :: (325, 1, some (aAl 0)) :: (326, 3, some (aGetR [(1175, 329144)])) :: (329, 2, some (aIc (40))) :: (331, 1, some (aIl 1)) :: (332, 1, some (aBin fAdd)) :: (333, 1, some (aIald D)) :: (334, 1, some (aIast D)) :: (335, 3, some (aInc 1 (1))) :: (338, 3, some (aGoto 224)) :: (341, 1, some (aVret)) :: []
set_option maxRecDepth 100000 in
set_option maxHeartbeats 4000000 in
theorem snX7_lays (d : Nat) (W : List Nat) (c : Nat × Nat) (hc : c = cA ∨ c = cB) : SndAll (d, TYg, c, W) cdX7_lays (adX7_lays (d, TYg, c, W)) := by
  unfold cdX7_lays adX7_lays
  refine sn_op sAl ?_
  refine sn_op sAl ?_
  refine sn_op sGetI ?_
  refine sn_op sPutI ?_
  refine sn_op sAl ?_
  refine sn_op sAl ?_
  refine sn_op sGetI ?_
  refine sn_op sPutI ?_
  refine sn_op sAl ?_
  refine sn_op sAl ?_
  refine sn_op sGetI ?_
  refine sn_op sPutI ?_
  refine sn_op sAl ?_
  refine sn_op sAl ?_
  refine sn_op sGetI ?_
  refine sn_op sPutI ?_
  refine sn_op sAl ?_
  refine sn_op sAl ?_
  refine sn_op sGetI ?_
  refine sn_op sPutI ?_
  refine sn_op sAl ?_
  refine sn_op (sIc (n := 0) (by decide)) ?_
  refine sn_op sPutI ?_
  refine sn_op sAl ?_
  refine sn_op (sIc (n := 0) (by decide)) ?_
  refine sn_op sPutI ?_
  refine sn_op (sIc (n := 0) (by decide)) ?_
  refine sn_op sIs ?_
  refine sn_st ?_
  refine sn_op sIl ?_
  refine sn_op (sIc (n := 5) (by decide)) ?_
  refine sn_op sCmGe ?_
  refine sn_op sAl ?_
  refine sn_op sGetR ?_
  refine sn_op sIl ?_
  refine sn_op sAl ?_
  refine sn_op sGetR ?_
  refine sn_op (sIc (n := 5) (by decide)) ?_
  refine sn_op sIl ?_
  refine sn_op sIadd ?_
  refine sn_op sIald ?_
  refine sn_op sIast ?_
  refine sn_op sAl ?_
  refine sn_op sGetR ?_
  refine sn_op sIl ?_
  refine sn_op sAl ?_
  refine sn_op sGetR ?_
  refine sn_op (sIc (n := 5) (by decide)) ?_
  refine sn_op sIl ?_
  refine sn_op sIadd ?_
  refine sn_op sIald ?_
  refine sn_op sIast ?_
  refine sn_op (sInc (n := 1) (by decide)) ?_
  refine sn_op sGoto ?_
  refine sn_op (sIc (n := 0) (by decide)) ?_
  refine sn_op sIs ?_
  refine sn_st ?_
  refine sn_op sIl ?_
  refine sn_op (sIc (n := 4) (by decide)) ?_
  refine sn_op sCmGe ?_
  refine sn_op sAl ?_
  refine sn_op sGetR ?_
  refine sn_op sIl ?_
  refine sn_op sAl ?_
  refine sn_op sGetR ?_
  refine sn_op (sIc (n := 4) (by decide)) ?_
  refine sn_op sIl ?_
  refine sn_op sIadd ?_
  refine sn_op sIald ?_
  refine sn_op sIast ?_
  refine sn_op (sInc (n := 1) (by decide)) ?_
  refine sn_op sGoto ?_
  refine sn_op (sIc (n := 0) (by decide)) ?_
  refine sn_op sIs ?_
  refine sn_st ?_
  refine sn_op sIl ?_
  refine sn_op (sIc (n := 12) (by decide)) ?_
  refine sn_op sCmGe ?_
  refine sn_op sAl ?_
  refine sn_op sGetR ?_
  refine sn_op sIl ?_
  refine sn_op sAl ?_
  refine sn_op sGetR ?_
  refine sn_op (sIc (n := 12) (by decide)) ?_
  refine sn_op sIl ?_
  refine sn_op sIadd ?_
  refine sn_op sIald ?_
  refine sn_op sIast ?_
  refine sn_op sAl ?_
  refine sn_op sGetR ?_
  refine sn_op sIl ?_
  refine sn_op sAl ?_
  refine sn_op sGetR ?_
  refine sn_op (sIc (n := 12) (by decide)) ?_
  refine sn_op sIl ?_
  refine sn_op sIadd ?_
  refine sn_op sIald ?_
  refine sn_op sIast ?_
  refine sn_op sAl ?_
  refine sn_op sGetR ?_
  refine sn_op sIl ?_
  refine sn_op sAl ?_
  refine sn_op sGetR ?_
  refine sn_op (sIc (n := 12) (by decide)) ?_
  refine sn_op sIl ?_
  refine sn_op sIadd ?_
  refine sn_op sIald ?_
  refine sn_op sIast ?_
  refine sn_op sAl ?_
  refine sn_op sGetR ?_
  refine sn_op sIl ?_
  refine sn_op sAl ?_
  refine sn_op sGetR ?_
  refine sn_op (sIc (n := 12) (by decide)) ?_
  refine sn_op sIl ?_
  refine sn_op sIadd ?_
  refine sn_op sIald ?_
  refine sn_op sIast ?_
  refine sn_op sAl ?_
  refine sn_op sGetR ?_
  refine sn_op sIl ?_
  refine sn_op sAl ?_
  refine sn_op sGetR ?_
  refine sn_op (sIc (n := 12) (by decide)) ?_
  refine sn_op sIl ?_
  refine sn_op sIadd ?_
  refine sn_op sIald ?_
  refine sn_op sIast ?_
  refine sn_op sAl ?_
  refine sn_op sGetR ?_
  refine sn_op sIl ?_
  refine sn_op sAl ?_
  refine sn_op sGetR ?_
  refine sn_op (sIc (n := 12) (by decide)) ?_
  refine sn_op sIl ?_
  refine sn_op sIadd ?_
  refine sn_op sIald ?_
  refine sn_op sIast ?_
  refine sn_op (sInc (n := 1) (by decide)) ?_
  refine sn_op sGoto ?_
  refine sn_op (sIc (n := 0) (by decide)) ?_
  refine sn_op sIs ?_
  refine sn_st ?_
  refine sn_op sIl ?_
  refine sn_op (sIc (n := 40) (by decide)) ?_
  refine sn_op sCmGe ?_
  refine sn_op sAl ?_
  refine sn_op sGetR ?_
  refine sn_op sIl ?_
  refine sn_op sAl ?_
  refine sn_op sGetR ?_
  refine sn_op (sIc (n := 40) (by decide)) ?_
  refine sn_op sIl ?_
  refine sn_op sIadd ?_
  refine sn_op sIald ?_
  refine sn_op sIast ?_
  refine sn_op sAl ?_
  refine sn_op sGetR ?_
  refine sn_op sIl ?_
  refine sn_op sAl ?_
  refine sn_op sGetR ?_
  refine sn_op (sIc (n := 40) (by decide)) ?_
  refine sn_op sIl ?_
  refine sn_op sIadd ?_
  refine sn_op sIald ?_
  refine sn_op sIast ?_
  refine sn_op sAl ?_
  refine sn_op sGetR ?_
  refine sn_op sIl ?_
  refine sn_op sAl ?_
  refine sn_op sGetR ?_
  refine sn_op (sIc (n := 40) (by decide)) ?_
  refine sn_op sIl ?_
  refine sn_op sIadd ?_
  refine sn_op sIald ?_
  refine sn_op sIast ?_
  refine sn_op sAl ?_
  refine sn_op sGetR ?_
  refine sn_op sIl ?_
  refine sn_op sAl ?_
  refine sn_op sGetR ?_
  refine sn_op (sIc (n := 40) (by decide)) ?_
  refine sn_op sIl ?_
  refine sn_op sIadd ?_
  refine sn_op sIald ?_
  refine sn_op sIast ?_
  refine sn_op sAl ?_
  refine sn_op sGetR ?_
  refine sn_op sIl ?_
  refine sn_op sAl ?_
  refine sn_op sGetR ?_
  refine sn_op (sIc (n := 40) (by decide)) ?_
  refine sn_op sIl ?_
  refine sn_op sIadd ?_
  refine sn_op sIald ?_
  refine sn_op sIast ?_
  refine sn_op sAl ?_
  refine sn_op sGetR ?_
  refine sn_op sIl ?_
  refine sn_op sAl ?_
  refine sn_op sGetR ?_
  refine sn_op (sIc (n := 40) (by decide)) ?_
  refine sn_op sIl ?_
  refine sn_op sIadd ?_
  refine sn_op sIald ?_
  refine sn_op sIast ?_
  refine sn_op sAl ?_
  refine sn_op sGetR ?_
  refine sn_op sIl ?_
  refine sn_op sAl ?_
  refine sn_op sGetR ?_
  refine sn_op (sIc (n := 40) (by decide)) ?_
  refine sn_op sIl ?_
  refine sn_op sIadd ?_
  refine sn_op sIald ?_
  refine sn_op sIast ?_
  refine sn_op (sInc (n := 1) (by decide)) ?_
  refine sn_op sGoto ?_
  refine sn_op sVret ?_
  exact sn_nil
def csX7_lays : List AC := [([(2, 1175, 0)], 1, [((9, 0, 0), [], [])], [34008, 42168, 42184, 99560, 99576, 99592, 99608, 99624, 99640, 329048, 329064, 329080, 329096, 329112, 329128, 329144, 17179870359, 21474837655, 25769804951, 30064772247, 34359739543, 171798693015, 176093660311], [])]
set_option maxRecDepth 100000 in
set_option maxHeartbeats 4000000 in
theorem sfX7_lays (c : Nat × Nat) (hc : c = cA ∨ c = cB) : ∀ ac ∈ csX7_lays, SafeC TYg c mX7_lays ac := by
  intro ac hac
  simp only [csX7_lays, List.mem_cons, List.not_mem_nil, or_false] at hac
  rcases hac with rfl
  · rcases hc with rfl | rfl
    · exact safe_of (ann := [(52, [(2, 1175, 0), (0, 0, 5)], [(3, 0, 0, 4), (0, 1, 0, 4294967296)]), (93, [(2, 1175, 0), (0, 0, 4)], [(3, 0, 0, 3), (0, 1, 0, 4294967296)]), (120, [(2, 1175, 0), (0, 0, 12)], [(3, 0, 0, 2), (0, 1, 0, 4294967296)]), (224, [(2, 1175, 0), (0, 0, 40)], [(3, 0, 0, 1), (0, 1, 0, 4294967296)])]) (fuel := 600) okX7_lays (snX7_lays _ _ cA (Or.inl rfl)) (List.forall_mem_cons.mpr ⟨⟨_, _, rfl⟩, List.forall_mem_cons.mpr ⟨⟨_, _, rfl⟩, List.forall_mem_cons.mpr ⟨⟨_, _, rfl⟩, List.forall_mem_cons.mpr ⟨⟨_, _, rfl⟩, (fun q hq => by cases hq)⟩⟩⟩⟩) (by decide) (by decide +kernel)
    · exact safe_of (ann := [(52, [(2, 1175, 0), (0, 0, 5)], [(3, 0, 0, 4), (0, 1, 0, 4294967296)]), (93, [(2, 1175, 0), (0, 0, 4)], [(3, 0, 0, 3), (0, 1, 0, 4294967296)]), (120, [(2, 1175, 0), (0, 0, 12)], [(3, 0, 0, 2), (0, 1, 0, 4294967296)]), (224, [(2, 1175, 0), (0, 0, 40)], [(3, 0, 0, 1), (0, 1, 0, 4294967296)])]) (fuel := 600) okX7_lays (snX7_lays _ _ cB (Or.inr rfl)) (List.forall_mem_cons.mpr ⟨⟨_, _, rfl⟩, List.forall_mem_cons.mpr ⟨⟨_, _, rfl⟩, List.forall_mem_cons.mpr ⟨⟨_, _, rfl⟩, List.forall_mem_cons.mpr ⟨⟨_, _, rfl⟩, (fun q hq => by cases hq)⟩⟩⟩⟩) (by decide) (by decide +kernel)
set_option maxRecDepth 100000 in
def adX7_look (D : KK) : List ACE := (0, 1, some (aAl 0)) :: (1, 1, some (aAl 0)) :: (2, 1, some (aIl 1)) :: (3, 3, some (aCall D 7 2 2 csX7_isSale)) :: (6, 3, some (aIf bNe bEq 13)) :: (9, 1, some (aIc (1))) :: (10, 3, some (aGoto 28)) :: (13, 1, some (aIl 2)) :: (14, 3, some (aIf bLt (fun C x y => bLe C y x) 23)) :: (17, 1, some (aIl 2)) :: (18, 2, some (aIc (7))) :: (20, 3, some (aCm bLe (fun C x y => bLt C y x) 27)) :: (23, 1, some (aIc (2))) :: (24, 3, some (aGoto 28)) :: (27, 1, some (aIc (0))) :: (28, 3, some (aPutI D 7 0)) :: (31, 1, some (aAl 0)) :: (32, 3, some (aGetI D 7 0)) :: (35, 3, some (aIf bEq bNe 40)) :: (38, 1, some (aIc (0))) :: (39, 1, some (aIret)) :: (40, 1, some (aIl 2)) :: (41, 43, some (aSw [(0, 84), (1, 91), (2, 98), (3, 105), (4, 112), (5, 119), (6, 126)] 133)) :: (84, 1, some (aAl 0)) :: (85, 3, some (aGetR [(1175, 329048)])) :: (88, 1, some (aIl 1)) :: (89, 1, some (aIald D)) :: (90, 1, some (aIret)) :: (91, 1, some (aAl 0)) :: (92, 3, some (aGetR [(1175, 329064)])) :: (95, 1, some (aIl 1)) :: (96, 1, some (aIald D)) :: (97, 1, some (aIret)) :: (98, 1, some (aAl 0)) :: (99, 3, some (aGetR [(1175, 329080)])) :: (102, 1, some (aIl 1)) :: (103, 1, some (aIald D)) :: (104, 1, some (aIret)) :: (105, 1, some (aAl 0)) :: (106, 3, some (aGetR [(1175, 329096)])) :: (109, 1, some (aIl 1)) :: (110, 1, some (aIald D)) :: (111, 1, some (aIret)) :: (112, 1, some (aAl 0)) :: (113, 3, some (aGetR [(1175, 329112)])) :: (116, 1, some (aIl 1)) :: (117, 1, some (aIald D)) :: (118, 1, some (aIret)) :: (119, 1, some (aAl 0)) :: (120, 3, some (aGetR [(1175, 329128)])) :: (123, 1, some (aIl 1)) :: (124, 1, some (aIald D)) :: (125, 1, some (aIret)) :: (126, 1, some (aAl 0)) :: (127, 3, some (aGetR [(1175, 329144)])) :: (130, 1, some (aIl 1)) :: (131, 1, some (aIald D)) :: (132, 1, some (aIret)) :: (133, 1, some (aAl 0)) :: (134, 1, some (aIl 1)) :: (135, 1, some (aAl 0)) :: (136, 3, some (aGetI D 7 40)) :: (139, 3, some (aCall D 7 3 3 csX7_taxOf)) :: (142, 1, some (aIret)) :: []
set_option maxRecDepth 100000 in
set_option maxHeartbeats 4000000 in
theorem snX7_look (d : Nat) (W : List Nat) (c : Nat × Nat) (hc : c = cA ∨ c = cB) : SndAll (d, TYg, c, W) cdX7_look (adX7_look (d, TYg, c, W)) := by
  unfold cdX7_look adX7_look
  refine sn_op sAl ?_
  refine sn_op sAl ?_
  refine sn_op sIl ?_
  refine sn_op (sCI (sfX7_isSale c hc) (by decide) (by decide +kernel)) ?_
  refine sn_op sIfNe ?_
  refine sn_op (sIc (n := 1) (by decide)) ?_
  refine sn_op sGoto ?_
  refine sn_op sIl ?_
  refine sn_op sIfLt ?_
  refine sn_op sIl ?_
  refine sn_op (sIc (n := 7) (by decide)) ?_
  refine sn_op sCmLe ?_
  refine sn_op (sIc (n := 2) (by decide)) ?_
  refine sn_op sGoto ?_
  refine sn_op (sIc (n := 0) (by decide)) ?_
  refine sn_op sPutI ?_
  refine sn_op sAl ?_
  refine sn_op sGetI ?_
  refine sn_op sIfEq ?_
  refine sn_op (sIc (n := 0) (by decide)) ?_
  refine sn_op sIret ?_
  refine sn_op sIl ?_
  refine sn_op (sSw (by decide)) ?_
  refine sn_op sAl ?_
  refine sn_op sGetR ?_
  refine sn_op sIl ?_
  refine sn_op sIald ?_
  refine sn_op sIret ?_
  refine sn_op sAl ?_
  refine sn_op sGetR ?_
  refine sn_op sIl ?_
  refine sn_op sIald ?_
  refine sn_op sIret ?_
  refine sn_op sAl ?_
  refine sn_op sGetR ?_
  refine sn_op sIl ?_
  refine sn_op sIald ?_
  refine sn_op sIret ?_
  refine sn_op sAl ?_
  refine sn_op sGetR ?_
  refine sn_op sIl ?_
  refine sn_op sIald ?_
  refine sn_op sIret ?_
  refine sn_op sAl ?_
  refine sn_op sGetR ?_
  refine sn_op sIl ?_
  refine sn_op sIald ?_
  refine sn_op sIret ?_
  refine sn_op sAl ?_
  refine sn_op sGetR ?_
  refine sn_op sIl ?_
  refine sn_op sIald ?_
  refine sn_op sIret ?_
  refine sn_op sAl ?_
  refine sn_op sGetR ?_
  refine sn_op sIl ?_
  refine sn_op sIald ?_
  refine sn_op sIret ?_
  refine sn_op sAl ?_
  refine sn_op sIl ?_
  refine sn_op sAl ?_
  refine sn_op sGetI ?_
  refine sn_op (sCI (sfX7_taxOf c hc) (by decide) (by decide +kernel)) ?_
  refine sn_op sIret ?_
  exact sn_nil
def csX7_look : List AC := [([(2, 1175, 0), (0, -2147483648, 2147483647), (0, -2147483648, 2147483647)], 3, [((0, -2147483648, 2147483647), [((1175, 0), (0, 0)), ((1175, 6), (1, 40))], [(1, (0, 39)), (2, (2, 7))]), ((0, 0, 11), [((1175, 0), (0, 2))], [])], [4294968471], [])]
set_option maxRecDepth 100000 in
set_option maxHeartbeats 4000000 in
theorem sfX7_look (c : Nat × Nat) (hc : c = cA ∨ c = cB) : ∀ ac ∈ csX7_look, SafeC TYg c mX7_look ac := by
  intro ac hac
  simp only [csX7_look, List.mem_cons, List.not_mem_nil, or_false] at hac
  rcases hac with rfl
  · rcases hc with rfl | rfl
    · exact safe_of (ann := []) (fuel := 600) okX7_look (snX7_look _ _ cA (Or.inl rfl)) (fun q hq => by cases hq) (by decide) (by decide +kernel)
    · exact safe_of (ann := []) (fuel := 600) okX7_look (snX7_look _ _ cB (Or.inr rfl)) (fun q hq => by cases hq) (by decide) (by decide +kernel)
set_option maxRecDepth 100000 in
def adX7_mayHand (D : KK) : List ACE := (0, 1, some (aAl 0)) :: (1, 3, some (aGetR [(1175, 329064)])) :: (4, 1, some (aIl 1)) :: (5, 1, some (aIald D)) :: (6, 1, some (aAl 0)) :: (7, 3, some (aGetR [(1175, 329048)])) :: (10, 1, some (aIl 2)) :: (11, 1, some (aIald D)) :: (12, 3, some (aCm bNe bEq 44)) :: (15, 1, some (aAl 0)) :: (16, 3, some (aGetR [(1175, 329064)])) :: (19, 1, some (aIl 1)) :: (20, 1, some (aIald D)) :: (21, 1, some (aIl 3)) :: (22, 3, some (aCm bEq bNe 44)) :: (25, 1, some (aAl 0)) :: (26, 3, some (aGetR [(1175, 329128)])) :: (29, 1, some (aIl 1)) :: (30, 1, some (aIald D)) :: (31, 1, some (aAl 0)) :: (32, 3, some (aGetR [(1175, 329128)])) :: (35, 1, some (aIl 2)) :: (36, 1, some (aIald D)) :: (37, 3, some (aCm (fun C x y => bLt C y x) bLe 44)) :: (40, 1, some (aIc (1))) :: (41, 3, some (aGoto 45)) :: (44, 1, some (aIc (0))) :: (45, 1, some (aZret)) :: []
set_option maxRecDepth 100000 in
set_option maxHeartbeats 4000000 in
theorem snX7_mayHand (d : Nat) (W : List Nat) (c : Nat × Nat) (hc : c = cA ∨ c = cB) : SndAll (d, TYg, c, W) cdX7_mayHand (adX7_mayHand (d, TYg, c, W)) := by
  unfold cdX7_mayHand adX7_mayHand
  refine sn_op sAl ?_
  refine sn_op sGetR ?_
  refine sn_op sIl ?_
  refine sn_op sIald ?_
  refine sn_op sAl ?_
  refine sn_op sGetR ?_
  refine sn_op sIl ?_
  refine sn_op sIald ?_
  refine sn_op sCmNe ?_
  refine sn_op sAl ?_
  refine sn_op sGetR ?_
  refine sn_op sIl ?_
  refine sn_op sIald ?_
  refine sn_op sIl ?_
  refine sn_op sCmEq ?_
  refine sn_op sAl ?_
  refine sn_op sGetR ?_
  refine sn_op sIl ?_
  refine sn_op sIald ?_
  refine sn_op sAl ?_
  refine sn_op sGetR ?_
  refine sn_op sIl ?_
  refine sn_op sIald ?_
  refine sn_op sCmGt ?_
  refine sn_op (sIc (n := 1) (by decide)) ?_
  refine sn_op sGoto ?_
  refine sn_op (sIc (n := 0) (by decide)) ?_
  refine sn_op sZret ?_
  exact sn_nil
def csX7_mayHand : List AC := [([(2, 1175, 0), (0, 0, 0), (0, 0, 0), (0, 0, 11)], 1, [((0, 0, 0), [], []), ((0, 1, 1), [], [])], [], []), ([(2, 1175, 0), (0, 0, 39), (0, 0, 39), (0, 0, 11)], 1, [((0, 0, 0), [], []), ((0, 1, 1), [], [])], [], [])]
set_option maxRecDepth 100000 in
set_option maxHeartbeats 4000000 in
theorem sfX7_mayHand (c : Nat × Nat) (hc : c = cA ∨ c = cB) : ∀ ac ∈ csX7_mayHand, SafeC TYg c mX7_mayHand ac := by
  intro ac hac
  simp only [csX7_mayHand, List.mem_cons, List.not_mem_nil, or_false] at hac
  rcases hac with rfl | rfl
  · rcases hc with rfl | rfl
    · exact safe_of (ann := []) (fuel := 600) okX7_mayHand (snX7_mayHand _ _ cA (Or.inl rfl)) (fun q hq => by cases hq) (by decide) (by decide +kernel)
    · exact safe_of (ann := []) (fuel := 600) okX7_mayHand (snX7_mayHand _ _ cB (Or.inr rfl)) (fun q hq => by cases hq) (by decide) (by decide +kernel)
  · rcases hc with rfl | rfl
    · exact safe_of (ann := []) (fuel := 600) okX7_mayHand (snX7_mayHand _ _ cA (Or.inl rfl)) (fun q hq => by cases hq) (by decide) (by decide +kernel)
    · exact safe_of (ann := []) (fuel := 600) okX7_mayHand (snX7_mayHand _ _ cB (Or.inr rfl)) (fun q hq => by cases hq) (by decide) (by decide +kernel)
set_option maxRecDepth 100000 in
def adX7_named (D : KK) : List ACE := (0, 1, some (aAl 0)) :: (1, 1, some (aIc (0))) :: (2, 3, some (aPutI D 7 0)) :: (5, 1, some (aIl 1)) :: (6, 3, some (aIf bNe bEq 25)) :: (9, 1, some (aAl 0)) :: (10, 3, some (aGetR [(1175, 42168)])) :: (13, 1, some (aIc (0))) :: (14, 1, some (aAl 0)) :: (15, 3, some (aGetI D 7 3)) :: (18, 1, some (aIl 2)) :: (19, 3, some (aCall D 16 4 5 csX7_found)) :: (22, 3, some (aGoto 68)) :: (25, 1, some (aIl 1)) :: (26, 1, some (aIc (1))) :: (27, 3, some (aCm bNe bEq 46)) :: (30, 1, some (aAl 0)) :: (31, 3, some (aGetR [(1175, 34008)])) :: (34, 1, some (aIc (0))) :: (35, 1, some (aAl 0)) :: (36, 3, some (aGetI D 7 4)) :: (39, 1, some (aIl 2)) :: (40, 3, some (aCall D 16 4 5 csX7_found)) :: (43, 3, some (aGoto 68)) :: (46, 1, some (aIl 1)) :: (47, 1, some (aIc (2))) :: (48, 3, some (aCm bNe bEq 67)) :: (51, 1, some (aAl 0)) :: (52, 3, some (aGetR [(1175, 99560)])) :: (55, 1, some (aIc (0))) :: (56, 1, some (aAl 0)) :: (57, 3, some (aGetI D 7 5)) :: (60, 1, some (aIl 2)) :: (61, 3, some (aCall D 16 4 5 csX7_found)) :: (64, 3, some (aGoto 68)) :: (67, 1, some (aIc (-1))) :: (68, 1, some (aIret)) :: []
set_option maxRecDepth 100000 in
set_option maxHeartbeats 4000000 in
theorem snX7_named (d : Nat) (W : List Nat) (c : Nat × Nat) (hc : c = cA ∨ c = cB) : SndAll (d, TYg, c, W) cdX7_named (adX7_named (d, TYg, c, W)) := by
  unfold cdX7_named adX7_named
  refine sn_op sAl ?_
  refine sn_op (sIc (n := 0) (by decide)) ?_
  refine sn_op sPutI ?_
  refine sn_op sIl ?_
  refine sn_op sIfNe ?_
  refine sn_op sAl ?_
  refine sn_op sGetR ?_
  refine sn_op (sIc (n := 0) (by decide)) ?_
  refine sn_op sAl ?_
  refine sn_op sGetI ?_
  refine sn_op sIl ?_
  refine sn_op (sCI (sfX7_found c hc) (by decide) (by decide +kernel)) ?_
  refine sn_op sGoto ?_
  refine sn_op sIl ?_
  refine sn_op (sIc (n := 1) (by decide)) ?_
  refine sn_op sCmNe ?_
  refine sn_op sAl ?_
  refine sn_op sGetR ?_
  refine sn_op (sIc (n := 0) (by decide)) ?_
  refine sn_op sAl ?_
  refine sn_op sGetI ?_
  refine sn_op sIl ?_
  refine sn_op (sCI (sfX7_found c hc) (by decide) (by decide +kernel)) ?_
  refine sn_op sGoto ?_
  refine sn_op sIl ?_
  refine sn_op (sIc (n := 2) (by decide)) ?_
  refine sn_op sCmNe ?_
  refine sn_op sAl ?_
  refine sn_op sGetR ?_
  refine sn_op (sIc (n := 0) (by decide)) ?_
  refine sn_op sAl ?_
  refine sn_op sGetI ?_
  refine sn_op sIl ?_
  refine sn_op (sCI (sfX7_found c hc) (by decide) (by decide +kernel)) ?_
  refine sn_op sGoto ?_
  refine sn_op (sIc (n := -1) (by decide)) ?_
  refine sn_op sIret ?_
  exact sn_nil
def csX7_named : List AC := [([(2, 1175, 0), (0, -2147483648, 2147483647), (0, -2147483648, 2147483647)], 2, [((0, -1, -1), [((1175, 0), (0, 0))], []), ((0, 0, 11), [((1175, 0), (0, 0))], [(1, (0, 2))])], [4294968471], [])]
set_option maxRecDepth 100000 in
set_option maxHeartbeats 4000000 in
theorem sfX7_named (c : Nat × Nat) (hc : c = cA ∨ c = cB) : ∀ ac ∈ csX7_named, SafeC TYg c mX7_named ac := by
  intro ac hac
  simp only [csX7_named, List.mem_cons, List.not_mem_nil, or_false] at hac
  rcases hac with rfl
  · rcases hc with rfl | rfl
    · exact safe_of (ann := []) (fuel := 600) okX7_named (snX7_named _ _ cA (Or.inl rfl)) (fun q hq => by cases hq) (by decide) (by decide +kernel)
    · exact safe_of (ann := []) (fuel := 600) okX7_named (snX7_named _ _ cB (Or.inr rfl)) (fun q hq => by cases hq) (by decide) (by decide +kernel)
set_option maxRecDepth 100000 in
def adX7_numeral (D : KK) : List ACE := (0, 1, some (aAl 0)) :: (1, 3, some (aGetI D 7 35)) :: (4, 3, some (aIf bEq bNe 9)) :: (7, 1, some (aIl 1)) :: (8, 1, some (aIret)) :: (9, 1, some (aAl 0)) :: (10, 3, some (aGetI D 7 33)) :: (13, 1, some (aIc (2))) :: (14, 3, some (aCm bEq bNe 25)) :: (17, 1, some (aAl 0)) :: (18, 1, some (aIc (1))) :: (19, 3, some (aNo)) :: (22, 3, some (aGoto 46)) :: (25, 1, some (aAl 0)) :: (26, 3, some (aGetI D 7 34)) :: (29, 1, some (aIl 1)) :: (30, 3, some (aCm bLt (fun C x y => bLe C y x) 41)) :: (33, 1, some (aAl 0)) :: (34, 3, some (aGetI D 7 34)) :: (37, 1, some (aIl 2)) :: (38, 3, some (aCm bLe (fun C x y => bLt C y x) 46)) :: (41, 1, some (aAl 0)) :: (42, 1, some (aIc (2))) :: (43, 3, some (aNo)) :: (46, 1, some (aAl 0)) :: (47, 3, some (aGetI D 7 35)) :: (50, 3, some (aIf bEq bNe 55)) :: (53, 1, some (aIl 1)) :: (54, 1, some (aIret)) :: (55, 1, some (aAl 0)) :: (56, 3, some (aGetI D 7 34)) :: (59, 1, some (aIs 3)) :: (60, 1, some (aAl 0)) :: (61, 3, some (aNo)) :: (64, 1, some (aIl 3)) :: (65, 1, some (aIret)) :: []
set_option maxRecDepth 100000 in
set_option maxHeartbeats 4000000 in
theorem snX7_numeral (d : Nat) (W : List Nat) (c : Nat × Nat) (hc : c = cA ∨ c = cB) : SndAll (d, TYg, c, W) cdX7_numeral (adX7_numeral (d, TYg, c, W)) := by
  unfold cdX7_numeral adX7_numeral
  refine sn_op sAl ?_
  refine sn_op sGetI ?_
  refine sn_op sIfEq ?_
  refine sn_op sIl ?_
  refine sn_op sIret ?_
  refine sn_op sAl ?_
  refine sn_op sGetI ?_
  refine sn_op (sIc (n := 2) (by decide)) ?_
  refine sn_op sCmEq ?_
  refine sn_op sAl ?_
  refine sn_op (sIc (n := 1) (by decide)) ?_
  refine sn_op sNo ?_
  refine sn_op sGoto ?_
  refine sn_op sAl ?_
  refine sn_op sGetI ?_
  refine sn_op sIl ?_
  refine sn_op sCmLt ?_
  refine sn_op sAl ?_
  refine sn_op sGetI ?_
  refine sn_op sIl ?_
  refine sn_op sCmLe ?_
  refine sn_op sAl ?_
  refine sn_op (sIc (n := 2) (by decide)) ?_
  refine sn_op sNo ?_
  refine sn_op sAl ?_
  refine sn_op sGetI ?_
  refine sn_op sIfEq ?_
  refine sn_op sIl ?_
  refine sn_op sIret ?_
  refine sn_op sAl ?_
  refine sn_op sGetI ?_
  refine sn_op sIs ?_
  refine sn_op sAl ?_
  refine sn_op sNo ?_
  refine sn_op sIl ?_
  refine sn_op sIret ?_
  exact sn_nil
def csX7_numeral : List AC := [([(2, 1175, 0), (0, 0, 0), (0, 40, 40)], 1, [((0, 0, 0), [((1175, 35), (1, 5))], [])], [], [((1175, 35), (1, 5))]), ([(2, 1175, 0), (0, 0, 0), (0, 999999, 999999)], 1, [((0, 0, 0), [((1175, 35), (1, 5))], [])], [], [((1175, 35), (1, 5))]), ([(2, 1175, 0), (0, 1, 1), (0, 999, 999)], 1, [((0, 1, 1), [((1175, 35), (1, 5))], [])], [], [((1175, 35), (1, 5))]), ([(2, 1175, 0), (0, 0, 0), (0, 400, 400)], 1, [((0, 0, 0), [((1175, 35), (1, 5))], [])], [], [((1175, 35), (1, 5))]), ([(2, 1175, 0), (0, 1, 1), (0, 99, 99)], 1, [((0, 1, 1), [((1175, 35), (1, 5))], [])], [], [((1175, 35), (1, 5))])]
set_option maxRecDepth 100000 in
set_option maxHeartbeats 4000000 in
theorem sfX7_numeral (c : Nat × Nat) (hc : c = cA ∨ c = cB) : ∀ ac ∈ csX7_numeral, SafeC TYg c mX7_numeral ac := by
  intro ac hac
  simp only [csX7_numeral, List.mem_cons, List.not_mem_nil, or_false] at hac
  rcases hac with rfl | rfl | rfl | rfl | rfl
  · rcases hc with rfl | rfl
    · exact safe_of (ann := []) (fuel := 600) okX7_numeral (snX7_numeral _ _ cA (Or.inl rfl)) (fun q hq => by cases hq) (by decide) (by decide +kernel)
    · exact safe_of (ann := []) (fuel := 600) okX7_numeral (snX7_numeral _ _ cB (Or.inr rfl)) (fun q hq => by cases hq) (by decide) (by decide +kernel)
  · rcases hc with rfl | rfl
    · exact safe_of (ann := []) (fuel := 600) okX7_numeral (snX7_numeral _ _ cA (Or.inl rfl)) (fun q hq => by cases hq) (by decide) (by decide +kernel)
    · exact safe_of (ann := []) (fuel := 600) okX7_numeral (snX7_numeral _ _ cB (Or.inr rfl)) (fun q hq => by cases hq) (by decide) (by decide +kernel)
  · rcases hc with rfl | rfl
    · exact safe_of (ann := []) (fuel := 600) okX7_numeral (snX7_numeral _ _ cA (Or.inl rfl)) (fun q hq => by cases hq) (by decide) (by decide +kernel)
    · exact safe_of (ann := []) (fuel := 600) okX7_numeral (snX7_numeral _ _ cB (Or.inr rfl)) (fun q hq => by cases hq) (by decide) (by decide +kernel)
  · rcases hc with rfl | rfl
    · exact safe_of (ann := []) (fuel := 600) okX7_numeral (snX7_numeral _ _ cA (Or.inl rfl)) (fun q hq => by cases hq) (by decide) (by decide +kernel)
    · exact safe_of (ann := []) (fuel := 600) okX7_numeral (snX7_numeral _ _ cB (Or.inr rfl)) (fun q hq => by cases hq) (by decide) (by decide +kernel)
  · rcases hc with rfl | rfl
    · exact safe_of (ann := []) (fuel := 600) okX7_numeral (snX7_numeral _ _ cA (Or.inl rfl)) (fun q hq => by cases hq) (by decide) (by decide +kernel)
    · exact safe_of (ann := []) (fuel := 600) okX7_numeral (snX7_numeral _ _ cB (Or.inr rfl)) (fun q hq => by cases hq) (by decide) (by decide +kernel)
set_option maxRecDepth 100000 in
def adX7_pay (D : KK) : List ACE := (0, 1, some (aAl 0)) :: (1, 1, some (aIc (0))) :: (2, 3, some (aPutI D 7 0)) :: (5, 1, some (aAl 0)) :: (6, 1, some (aIl 1)) :: (7, 3, some (aCall D 7 2 2 csX7_isFirm)) :: (10, 3, some (aIf bEq bNe 36)) :: (13, 1, some (aIl 2)) :: (14, 3, some (aIf bLt (fun C x y => bLe C y x) 36)) :: (17, 1, some (aIl 2)) :: (18, 2, some (aIc (999999))) :: (20, 3, some (aCm (fun C x y => bLt C y x) bLe 36)) :: (23, 1, some (aAl 0)) :: (24, 3, some (aGetR [(1175, 99640)])) :: (27, 1, some (aIl 1)) :: (28, 1, some (aIald D)) :: (29, 1, some (aIl 2)) :: (30, 1, some (aBin fAdd)) :: (31, 2, some (aIc (999999))) :: (33, 3, some (aCm bLe (fun C x y => bLt C y x) 38)) :: (36, 1, some (aIc (-1))) :: (37, 1, some (aIret)) :: (38, 1, some (aAl 0)) :: (39, 3, some (aGetR [(1175, 99640)])) :: (42, 1, some (aIl 1)) :: (43, 1, some (aDup2)) :: (44, 1, some (aIald D)) :: (45, 1, some (aIl 2)) :: (46, 1, some (aBin fAdd)) :: (47, 1, some (aIast D)) :: (48, 1, some (aAl 0)) :: (49, 3, some (aGetR [(1175, 99640)])) :: (52, 1, some (aIl 1)) :: (53, 1, some (aIald D)) :: (54, 1, some (aIret)) :: []
set_option maxRecDepth 100000 in
set_option maxHeartbeats 4000000 in
theorem snX7_pay (d : Nat) (W : List Nat) (c : Nat × Nat) (hc : c = cA ∨ c = cB) : SndAll (d, TYg, c, W) cdX7_pay (adX7_pay (d, TYg, c, W)) := by
  unfold cdX7_pay adX7_pay
  refine sn_op sAl ?_
  refine sn_op (sIc (n := 0) (by decide)) ?_
  refine sn_op sPutI ?_
  refine sn_op sAl ?_
  refine sn_op sIl ?_
  refine sn_op (sCI (sfX7_isFirm c hc) (by decide) (by decide +kernel)) ?_
  refine sn_op sIfEq ?_
  refine sn_op sIl ?_
  refine sn_op sIfLt ?_
  refine sn_op sIl ?_
  refine sn_op (sIc (n := 999999) (by decide)) ?_
  refine sn_op sCmGt ?_
  refine sn_op sAl ?_
  refine sn_op sGetR ?_
  refine sn_op sIl ?_
  refine sn_op sIald ?_
  refine sn_op sIl ?_
  refine sn_op sIadd ?_
  refine sn_op (sIc (n := 999999) (by decide)) ?_
  refine sn_op sCmLe ?_
  refine sn_op (sIc (n := -1) (by decide)) ?_
  refine sn_op sIret ?_
  refine sn_op sAl ?_
  refine sn_op sGetR ?_
  refine sn_op sIl ?_
  refine sn_op sDup2 ?_
  refine sn_op sIald ?_
  refine sn_op sIl ?_
  refine sn_op sIadd ?_
  refine sn_op sIast ?_
  refine sn_op sAl ?_
  refine sn_op sGetR ?_
  refine sn_op sIl ?_
  refine sn_op sIald ?_
  refine sn_op sIret ?_
  exact sn_nil
def csX7_pay : List AC := [([(2, 1175, 0), (0, -2147483648, 2147483647), (0, -2147483648, 2147483647)], 2, [((0, -2147483648, 2147483647), [((1175, 0), (0, 0)), ((1175, 5), (1, 12))], [(1, (0, 11)), (2, (0, 999999))]), ((0, -1, -1), [((1175, 0), (0, 0))], [])], [99640, 4294968471], [])]
set_option maxRecDepth 100000 in
set_option maxHeartbeats 4000000 in
theorem sfX7_pay (c : Nat × Nat) (hc : c = cA ∨ c = cB) : ∀ ac ∈ csX7_pay, SafeC TYg c mX7_pay ac := by
  intro ac hac
  simp only [csX7_pay, List.mem_cons, List.not_mem_nil, or_false] at hac
  rcases hac with rfl
  · rcases hc with rfl | rfl
    · exact safe_of (ann := []) (fuel := 600) okX7_pay (snX7_pay _ _ cA (Or.inl rfl)) (fun q hq => by cases hq) (by decide) (by decide +kernel)
    · exact safe_of (ann := []) (fuel := 600) okX7_pay (snX7_pay _ _ cB (Or.inr rfl)) (fun q hq => by cases hq) (by decide) (by decide +kernel)
set_option maxRecDepth 100000 in
def adX7_roundsWith (D : KK) : List ACE := (0, 1, some (aIc (0))) :: (1, 1, some (aIs 2)) :: (2, 1, some (aIc (0))) :: (3, 1, some (aIs 3)) :: (4, 0, none) :: (4, 1, some (aIl 3)) :: (5, 1, some (aAl 0)) :: (6, 3, some (aGetI D 7 42)) :: (9, 3, some (aCm (fun C x y => bLe C y x) bLt 30)) :: (12, 1, some (aIl 2)) :: (13, 1, some (aAl 0)) :: (14, 1, some (aIl 3)) :: (15, 3, some (aCall D 7 2 4 csX7_firmsOf)) :: (18, 1, some (aIl 1)) :: (19, 1, some (aBin fShr)) :: (20, 1, some (aIc (1))) :: (21, 1, some (aBin fAnd)) :: (22, 1, some (aBin fAdd)) :: (23, 1, some (aIs 2)) :: (24, 3, some (aInc 3 (1))) :: (27, 3, some (aGoto 4)) :: (30, 1, some (aIl 2)) :: (31, 1, some (aIret)) :: []
set_option maxRecDepth 100000 in
set_option maxHeartbeats 4000000 in
theorem snX7_roundsWith (d : Nat) (W : List Nat) (c : Nat × Nat) (hc : c = cA ∨ c = cB) : SndAll (d, TYg, c, W) cdX7_roundsWith (adX7_roundsWith (d, TYg, c, W)) := by
  unfold cdX7_roundsWith adX7_roundsWith
  refine sn_op (sIc (n := 0) (by decide)) ?_
  refine sn_op sIs ?_
  refine sn_op (sIc (n := 0) (by decide)) ?_
  refine sn_op sIs ?_
  refine sn_st ?_
  refine sn_op sIl ?_
  refine sn_op sAl ?_
  refine sn_op sGetI ?_
  refine sn_op sCmGe ?_
  refine sn_op sIl ?_
  refine sn_op sAl ?_
  refine sn_op sIl ?_
  refine sn_op (sCI (sfX7_firmsOf c hc) (by decide) (by decide +kernel)) ?_
  refine sn_op sIl ?_
  refine sn_op sIshr ?_
  refine sn_op (sIc (n := 1) (by decide)) ?_
  refine sn_op sIand ?_
  refine sn_op sIadd ?_
  refine sn_op sIs ?_
  refine sn_op (sInc (n := 1) (by decide)) ?_
  refine sn_op sGoto ?_
  refine sn_op sIl ?_
  refine sn_op sIret ?_
  exact sn_nil
def csX7_roundsWith : List AC := [([(2, 1175, 0), (0, 0, 0)], 2, [((0, -2147483648, 2147483647), [], [])], [], []), ([(2, 1175, 0), (0, 0, 11)], 2, [((0, -2147483648, 2147483647), [], [])], [], [])]
set_option maxRecDepth 100000 in
set_option maxHeartbeats 4000000 in
theorem sfX7_roundsWith (c : Nat × Nat) (hc : c = cA ∨ c = cB) : ∀ ac ∈ csX7_roundsWith, SafeC TYg c mX7_roundsWith ac := by
  intro ac hac
  simp only [csX7_roundsWith, List.mem_cons, List.not_mem_nil, or_false] at hac
  rcases hac with rfl | rfl
  · rcases hc with rfl | rfl
    · exact safe_of (ann := [(4, [(2, 1175, 0), (0, 0, 0), (0, -2147483648, 2147483647), (0, 0, 200)], [(0, 3, 0, 4294967296)])]) (fuel := 600) okX7_roundsWith (snX7_roundsWith _ _ cA (Or.inl rfl)) (List.forall_mem_cons.mpr ⟨⟨_, _, rfl⟩, (fun q hq => by cases hq)⟩) (by decide) (by decide +kernel)
    · exact safe_of (ann := [(4, [(2, 1175, 0), (0, 0, 0), (0, -2147483648, 2147483647), (0, 0, 200)], [(0, 3, 0, 4294967296)])]) (fuel := 600) okX7_roundsWith (snX7_roundsWith _ _ cB (Or.inr rfl)) (List.forall_mem_cons.mpr ⟨⟨_, _, rfl⟩, (fun q hq => by cases hq)⟩) (by decide) (by decide +kernel)
  · rcases hc with rfl | rfl
    · exact safe_of (ann := [(4, [(2, 1175, 0), (0, 0, 11), (0, -2147483648, 2147483647), (0, 0, 200)], [(0, 3, 0, 4294967296)])]) (fuel := 600) okX7_roundsWith (snX7_roundsWith _ _ cA (Or.inl rfl)) (List.forall_mem_cons.mpr ⟨⟨_, _, rfl⟩, (fun q hq => by cases hq)⟩) (by decide) (by decide +kernel)
    · exact safe_of (ann := [(4, [(2, 1175, 0), (0, 0, 11), (0, -2147483648, 2147483647), (0, 0, 200)], [(0, 3, 0, 4294967296)])]) (fuel := 600) okX7_roundsWith (snX7_roundsWith _ _ cB (Or.inr rfl)) (List.forall_mem_cons.mpr ⟨⟨_, _, rfl⟩, (fun q hq => by cases hq)⟩) (by decide) (by decide +kernel)
set_option maxRecDepth 100000 in
def adX7_rule (D : KK) : List ACE := (0, 1, some (aAl 0)) :: (1, 1, some (aIc (0))) :: (2, 3, some (aPutI D 7 0)) :: (5, 1, some (aIl 1)) :: (6, 3, some (aIf bLt (fun C x y => bLe C y x) 19)) :: (9, 1, some (aIl 1)) :: (10, 1, some (aIc (1))) :: (11, 1, some (aAl 0)) :: (12, 3, some (aGetI D 7 3)) :: (15, 1, some (aBin fTop)) :: (16, 3, some (aCm bLt (fun C x y => bLe C y x) 21)) :: (19, 1, some (aIc (-1))) :: (20, 1, some (aIret)) :: (21, 1, some (aAl 0)) :: (22, 1, some (aIl 1)) :: (23, 3, some (aPutI D 7 40)) :: (26, 1, some (aIl 1)) :: (27, 3, some (aCall D 16 1 3 csX7_bits)) :: (30, 1, some (aIret)) :: []
set_option maxRecDepth 100000 in
set_option maxHeartbeats 4000000 in
theorem snX7_rule (d : Nat) (W : List Nat) (c : Nat × Nat) (hc : c = cA ∨ c = cB) : SndAll (d, TYg, c, W) cdX7_rule (adX7_rule (d, TYg, c, W)) := by
  unfold cdX7_rule adX7_rule
  refine sn_op sAl ?_
  refine sn_op (sIc (n := 0) (by decide)) ?_
  refine sn_op sPutI ?_
  refine sn_op sIl ?_
  refine sn_op sIfLt ?_
  refine sn_op sIl ?_
  refine sn_op (sIc (n := 1) (by decide)) ?_
  refine sn_op sAl ?_
  refine sn_op sGetI ?_
  refine sn_op sIshl ?_
  refine sn_op sCmLt ?_
  refine sn_op (sIc (n := -1) (by decide)) ?_
  refine sn_op sIret ?_
  refine sn_op sAl ?_
  refine sn_op sIl ?_
  refine sn_op sPutI ?_
  refine sn_op sIl ?_
  refine sn_op (sCI (sfX7_bits c hc) (by decide) (by decide +kernel)) ?_
  refine sn_op sIret ?_
  exact sn_nil
def csX7_rule : List AC := [([(2, 1175, 0), (0, -2147483648, 2147483647)], 2, [((0, -2147483648, 2147483647), [((1175, 0), (0, 0)), ((1175, 40), (0, 2147483646))], [(1, (0, 2147483646))]), ((0, -1, -1), [((1175, 0), (0, 0))], [])], [4294968471, 176093660311], [])]
set_option maxRecDepth 100000 in
set_option maxHeartbeats 4000000 in
theorem sfX7_rule (c : Nat × Nat) (hc : c = cA ∨ c = cB) : ∀ ac ∈ csX7_rule, SafeC TYg c mX7_rule ac := by
  intro ac hac
  simp only [csX7_rule, List.mem_cons, List.not_mem_nil, or_false] at hac
  rcases hac with rfl
  · rcases hc with rfl | rfl
    · exact safe_of (ann := []) (fuel := 600) okX7_rule (snX7_rule _ _ cA (Or.inl rfl)) (fun q hq => by cases hq) (by decide) (by decide +kernel)
    · exact safe_of (ann := []) (fuel := 600) okX7_rule (snX7_rule _ _ cB (Or.inr rfl)) (fun q hq => by cases hq) (by decide) (by decide +kernel)
