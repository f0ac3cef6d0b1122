/-! contracts -/
set_option maxRecDepth 100000 in
def adJ6_bitCount_0f7a4 (D : KK) : List ACE := (0, 1, some (aIl 0)) :: (1, 1, some (aIl 0)) :: (2, 1, some (aIc (1))) :: (3, 1, some (aBin fTop)) :: (4, 3, some (aIc (1431655765))) :: (7, 1, some (aBin fAnd)) :: (8, 1, some (aBin fSub)) :: (9, 1, some (aIs 0)) :: (10, 1, some (aIl 0)) :: (11, 3, some (aIc (858993459))) :: (14, 1, some (aBin fAnd)) :: (15, 1, some (aIl 0)) :: (16, 1, some (aIc (2))) :: (17, 1, some (aBin fTop)) :: (18, 3, some (aIc (858993459))) :: (21, 1, some (aBin fAnd)) :: (22, 1, some (aBin fAdd)) :: (23, 1, some (aIs 0)) :: (24, 1, some (aIl 0)) :: (25, 1, some (aIl 0)) :: (26, 1, some (aIc (4))) :: (27, 1, some (aBin fTop)) :: (28, 1, some (aBin fAdd)) :: (29, 3, some (aIc (252645135))) :: (32, 1, some (aBin fAnd)) :: (33, 1, some (aIs 0)) :: (34, 1, some (aIl 0)) :: (35, 1, some (aIl 0)) :: (36, 2, some (aIc (8))) :: (38, 1, some (aBin fTop)) :: (39, 1, some (aBin fAdd)) :: (40, 1, some (aIs 0)) :: (41, 1, some (aIl 0)) :: (42, 1, some (aIl 0)) :: (43, 2, some (aIc (16))) :: (45, 1, some (aBin fTop)) :: (46, 1, some (aBin fAdd)) :: (47, 1, some (aIs 0)) :: (48, 1, some (aIl 0)) :: (49, 2, some (aIc (63))) :: (51, 1, some (aBin fAnd)) :: (52, 1, some (aIret)) :: []
set_option maxRecDepth 100000 in
set_option maxHeartbeats 4000000 in
theorem snJ6_bitCount_0f7a4 (d : Nat) (W : List Nat) (c : Nat × Nat) (hc : c = cA ∨ c = cB) : SndAll (d, TYg, c, W) cdJ6_bitCount_0f7a4 (adJ6_bitCount_0f7a4 (d, TYg, c, W)) := by
  unfold cdJ6_bitCount_0f7a4 adJ6_bitCount_0f7a4
  refine sn_op sIl ?_
  refine sn_op sIl ?_
  refine sn_op (sIc (n := 1) (by decide)) ?_
  refine sn_op sIushr ?_
  refine sn_op (sIc (n := 1431655765) (by decide)) ?_
  refine sn_op sIand ?_
  refine sn_op sIsub ?_
  refine sn_op sIs ?_
  refine sn_op sIl ?_
  refine sn_op (sIc (n := 858993459) (by decide)) ?_
  refine sn_op sIand ?_
  refine sn_op sIl ?_
  refine sn_op (sIc (n := 2) (by decide)) ?_
  refine sn_op sIushr ?_
  refine sn_op (sIc (n := 858993459) (by decide)) ?_
  refine sn_op sIand ?_
  refine sn_op sIadd ?_
  refine sn_op sIs ?_
  refine sn_op sIl ?_
  refine sn_op sIl ?_
  refine sn_op (sIc (n := 4) (by decide)) ?_
  refine sn_op sIushr ?_
  refine sn_op sIadd ?_
  refine sn_op (sIc (n := 252645135) (by decide)) ?_
  refine sn_op sIand ?_
  refine sn_op sIs ?_
  refine sn_op sIl ?_
  refine sn_op sIl ?_
  refine sn_op (sIc (n := 8) (by decide)) ?_
  refine sn_op sIushr ?_
  refine sn_op sIadd ?_
  refine sn_op sIs ?_
  refine sn_op sIl ?_
  refine sn_op sIl ?_
  refine sn_op (sIc (n := 16) (by decide)) ?_
  refine sn_op sIushr ?_
  refine sn_op sIadd ?_
  refine sn_op sIs ?_
  refine sn_op sIl ?_
  refine sn_op (sIc (n := 63) (by decide)) ?_
  refine sn_op sIand ?_
  refine sn_op sIret ?_
  exact sn_nil
def csJ6_bitCount_0f7a4 : List AC := [([(0, 0, 0)], 1, [((0, 0, 63), [], [])], [], []), ([(0, -2147483648, 2147483647)], 1, [((0, 0, 63), [], [])], [], [])]
set_option maxRecDepth 100000 in
set_option maxHeartbeats 4000000 in
theorem sfJ6_bitCount_0f7a4 (c : Nat × Nat) (hc : c = cA ∨ c = cB) : ∀ ac ∈ csJ6_bitCount_0f7a4, SafeC TYg c mJ6_bitCount_0f7a4 ac := by
  intro ac hac
  simp only [csJ6_bitCount_0f7a4, List.mem_cons, List.not_mem_nil, or_false] at hac
  rcases hac with rfl | rfl
  · rcases hc with rfl | rfl
    · exact safe_of (ann := []) (fuel := 600) okJ6_bitCount_0f7a4 (snJ6_bitCount_0f7a4 _ _ cA (Or.inl rfl)) (fun q hq => by cases hq) (by decide) (by decide +kernel)
    · exact safe_of (ann := []) (fuel := 600) okJ6_bitCount_0f7a4 (snJ6_bitCount_0f7a4 _ _ cB (Or.inr rfl)) (fun q hq => by cases hq) (by decide) (by decide +kernel)
  · rcases hc with rfl | rfl
    · exact safe_of (ann := []) (fuel := 600) okJ6_bitCount_0f7a4 (snJ6_bitCount_0f7a4 _ _ cA (Or.inl rfl)) (fun q hq => by cases hq) (by decide) (by decide +kernel)
    · exact safe_of (ann := []) (fuel := 600) okJ6_bitCount_0f7a4 (snJ6_bitCount_0f7a4 _ _ cB (Or.inr rfl)) (fun q hq => by cases hq) (by decide) (by decide +kernel)
set_option maxRecDepth 100000 in
def adX2_add (D : KK) : List ACE := (0, 1, some (aAl 0)) :: (1, 3, some (aGetI D 2 1)) :: (4, 2, some (aIc (12))) :: (6, 3, some (aCm bLt (fun C x y => bLe C y x) 11)) :: (9, 1, some (aIc (-1))) :: (10, 1, some (aIret)) :: (11, 1, some (aAl 0)) :: (12, 3, some (aGetR [(354, 49528), (386, 49560), (418, 49592), (738, 49912), (770, 49944), (802, 49976)])) :: (15, 1, some (aAl 0)) :: (16, 3, some (aGetI D 2 1)) :: (19, 1, some (aIl 1)) :: (20, 1, some (aIast D)) :: (21, 1, some (aAl 0)) :: (22, 1, some (aDup)) :: (23, 3, some (aGetI D 2 1)) :: (26, 1, some (aIc (1))) :: (27, 1, some (aBin fAdd)) :: (28, 3, some (aPutI D 2 1)) :: (31, 1, some (aAl 0)) :: (32, 3, some (aGetI D 2 1)) :: (35, 1, some (aIc (1))) :: (36, 1, some (aBin fSub)) :: (37, 1, some (aIret)) :: []
set_option maxRecDepth 100000 in
set_option maxHeartbeats 4000000 in
theorem snX2_add (d : Nat) (W : List Nat) (c : Nat × Nat) (hc : c = cA ∨ c = cB) : SndAll (d, TYg, c, W) cdX2_add (adX2_add (d, TYg, c, W)) := by
  unfold cdX2_add adX2_add
  refine sn_op sAl ?_
  refine sn_op sGetI ?_
  refine sn_op (sIc (n := 12) (by decide)) ?_
  refine sn_op sCmLt ?_
  refine sn_op (sIc (n := -1) (by decide)) ?_
  refine sn_op sIret ?_
  refine sn_op sAl ?_
  refine sn_op sGetR ?_
  refine sn_op sAl ?_
  refine sn_op sGetI ?_
  refine sn_op sIl ?_
  refine sn_op sIast ?_
  refine sn_op sAl ?_
  refine sn_op sDup ?_
  refine sn_op sGetI ?_
  refine sn_op (sIc (n := 1) (by decide)) ?_
  refine sn_op sIadd ?_
  refine sn_op sPutI ?_
  refine sn_op sAl ?_
  refine sn_op sGetI ?_
  refine sn_op (sIc (n := 1) (by decide)) ?_
  refine sn_op sIsub ?_
  refine sn_op sIret ?_
  exact sn_nil
def csX2_add : List AC := [([(2, 386, 0), (0, 0, 2147483647)], 1, [((0, -1, -1), [((386, 1), (12, 12))], []), ((0, 0, 11), [((386, 1), (1, 12))], [])], [49560, 8589934978], []), ([(2, 770, 0), (0, 0, 2147483647)], 1, [((0, -1, -1), [((770, 1), (12, 12))], []), ((0, 0, 11), [((770, 1), (1, 12))], [])], [49944, 8589935362], []), ([(2, 354, 0), (0, 0, 2147483647)], 1, [((0, 0, 4), [((354, 1), (1, 5))], [])], [49528, 8589934946], [((354, 1), (0, 4))]), ([(2, 738, 0), (0, 0, 2147483647)], 1, [((0, 0, 4), [((738, 1), (1, 5))], [])], [49912, 8589935330], [((738, 1), (0, 4))]), ([(2, 418, 0), (0, 0, 2147483647)], 1, [((0, -1, -1), [((418, 1), (12, 12))], []), ((0, 0, 11), [((418, 1), (1, 12))], [])], [49592, 8589935010], []), ([(2, 802, 0), (0, 0, 2147483647)], 1, [((0, -1, -1), [((802, 1), (12, 12))], []), ((0, 0, 11), [((802, 1), (1, 12))], [])], [49976, 8589935394], [])]
set_option maxRecDepth 100000 in
set_option maxHeartbeats 4000000 in
theorem sfX2_add (c : Nat × Nat) (hc : c = cA ∨ c = cB) : ∀ ac ∈ csX2_add, SafeC TYg c mX2_add ac := by
  intro ac hac
  simp only [csX2_add, List.mem_cons, List.not_mem_nil, or_false] at hac
  rcases hac with rfl | rfl | rfl | rfl | rfl | rfl
  · rcases hc with rfl | rfl
    · exact safe_of (ann := []) (fuel := 600) okX2_add (snX2_add _ _ cA (Or.inl rfl)) (fun q hq => by cases hq) (by decide) (by decide +kernel)
    · exact safe_of (ann := []) (fuel := 600) okX2_add (snX2_add _ _ cB (Or.inr rfl)) (fun q hq => by cases hq) (by decide) (by decide +kernel)
  · rcases hc with rfl | rfl
    · exact safe_of (ann := []) (fuel := 600) okX2_add (snX2_add _ _ cA (Or.inl rfl)) (fun q hq => by cases hq) (by decide) (by decide +kernel)
    · exact safe_of (ann := []) (fuel := 600) okX2_add (snX2_add _ _ cB (Or.inr rfl)) (fun q hq => by cases hq) (by decide) (by decide +kernel)
  · rcases hc with rfl | rfl
    · exact safe_of (ann := []) (fuel := 600) okX2_add (snX2_add _ _ cA (Or.inl rfl)) (fun q hq => by cases hq) (by decide) (by decide +kernel)
    · exact safe_of (ann := []) (fuel := 600) okX2_add (snX2_add _ _ cB (Or.inr rfl)) (fun q hq => by cases hq) (by decide) (by decide +kernel)
  · rcases hc with rfl | rfl
    · exact safe_of (ann := []) (fuel := 600) okX2_add (snX2_add _ _ cA (Or.inl rfl)) (fun q hq => by cases hq) (by decide) (by decide +kernel)
    · exact safe_of (ann := []) (fuel := 600) okX2_add (snX2_add _ _ cB (Or.inr rfl)) (fun q hq => by cases hq) (by decide) (by decide +kernel)
  · rcases hc with rfl | rfl
    · exact safe_of (ann := []) (fuel := 600) okX2_add (snX2_add _ _ cA (Or.inl rfl)) (fun q hq => by cases hq) (by decide) (by decide +kernel)
    · exact safe_of (ann := []) (fuel := 600) okX2_add (snX2_add _ _ cB (Or.inr rfl)) (fun q hq => by cases hq) (by decide) (by decide +kernel)
  · rcases hc with rfl | rfl
    · exact safe_of (ann := []) (fuel := 600) okX2_add (snX2_add _ _ cA (Or.inl rfl)) (fun q hq => by cases hq) (by decide) (by decide +kernel)
    · exact safe_of (ann := []) (fuel := 600) okX2_add (snX2_add _ _ cB (Or.inr rfl)) (fun q hq => by cases hq) (by decide) (by decide +kernel)
set_option maxRecDepth 100000 in
def adX0_addFirm (D : KK) : List ACE := (0, 1, some (aAl 0)) :: (1, 3, some (aGetR [(336, 418), (720, 802)])) :: (4, 1, some (aIl 1)) :: (5, 3, some (aCall D 2 2 2 csX2_add)) :: (8, 2, some (aIs 4)) :: (10, 2, some (aIl 4)) :: (12, 3, some (aIf bLt (fun C x y => bLe C y x) 63)) :: (15, 1, some (aAl 0)) :: (16, 3, some (aGetR [(336, 49752), (720, 50136)])) :: (19, 2, some (aIl 4)) :: (21, 1, some (aIl 2)) :: (22, 1, some (aIast D)) :: (23, 1, some (aAl 0)) :: (24, 3, some (aGetR [(336, 49768), (720, 50152)])) :: (27, 2, some (aIl 4)) :: (29, 1, some (aIl 3)) :: (30, 1, some (aIast D)) :: (31, 1, some (aAl 0)) :: (32, 3, some (aGetR [(336, 49784), (720, 50168)])) :: (35, 2, some (aIl 4)) :: (37, 1, some (aIc (0))) :: (38, 1, some (aIast D)) :: (39, 1, some (aAl 0)) :: (40, 3, some (aGetR [(336, 49800), (720, 50184)])) :: (43, 2, some (aIl 4)) :: (45, 1, some (aIc (0))) :: (46, 1, some (aIast D)) :: (47, 1, some (aAl 0)) :: (48, 3, some (aGetR [(336, 49816), (720, 50200)])) :: (51, 2, some (aIl 4)) :: (53, 1, some (aIc (0))) :: (54, 1, some (aIast D)) :: (55, 1, some (aAl 0)) :: (56, 3, some (aGetR [(336, 49835), (720, 50219)])) :: (59, 2, some (aIl 4)) :: (61, 1, some (aIc (0))) :: (62, 1, some (aBast D)) :: (63, 2, some (aIl 4)) :: (65, 1, some (aIret)) :: []
set_option maxRecDepth 100000 in
set_option maxHeartbeats 4000000 in
theorem snX0_addFirm (d : Nat) (W : List Nat) (c : Nat × Nat) (hc : c = cA ∨ c = cB) : SndAll (d, TYg, c, W) cdX0_addFirm (adX0_addFirm (d, TYg, c, W)) := by
  unfold cdX0_addFirm adX0_addFirm
  refine sn_op sAl ?_
  refine sn_op sGetR ?_
  refine sn_op sIl ?_
  refine sn_op (sCI (sfX2_add c hc) (by decide) (by decide +kernel)) ?_
  refine sn_op sIs ?_
  refine sn_op sIl ?_
  refine sn_op sIfLt ?_
  refine sn_op sAl ?_
  refine sn_op sGetR ?_
  refine sn_op sIl ?_
  refine sn_op sIl ?_
  refine sn_op sIast ?_
  refine sn_op sAl ?_
  refine sn_op sGetR ?_
  refine sn_op sIl ?_
  refine sn_op sIl ?_
  refine sn_op sIast ?_
  refine sn_op sAl ?_
  refine sn_op sGetR ?_
  refine sn_op sIl ?_
  refine sn_op (sIc (n := 0) (by decide)) ?_
  refine sn_op sIast ?_
  refine sn_op sAl ?_
  refine sn_op sGetR ?_
  refine sn_op sIl ?_
  refine sn_op (sIc (n := 0) (by decide)) ?_
  refine sn_op sIast ?_
  refine sn_op sAl ?_
  refine sn_op sGetR ?_
  refine sn_op sIl ?_
  refine sn_op (sIc (n := 0) (by decide)) ?_
  refine sn_op sIast ?_
  refine sn_op sAl ?_
  refine sn_op sGetR ?_
  refine sn_op sIl ?_
  refine sn_op (sIc (n := 0) (by decide)) ?_
  refine sn_op sBast ?_
  refine sn_op sIl ?_
  refine sn_op sIret ?_
  exact sn_nil
def csX0_addFirm : List AC := [([(2, 336, 0), (0, 0, 2147483647), (0, 0, 4), (0, 0, 400)], 2, [((0, -1, -1), [((418, 1), (12, 12))], []), ((0, 0, 11), [((418, 1), (1, 12))], [])], [49592, 49752, 49768, 49784, 49800, 49816, 49835, 8589935010], []), ([(2, 720, 0), (0, 0, 2147483647), (0, 0, 4), (0, 0, 400)], 2, [((0, -1, -1), [((802, 1), (12, 12))], []), ((0, 0, 11), [((802, 1), (1, 12))], [])], [49976, 50136, 50152, 50168, 50184, 50200, 50219, 8589935394], [])]
set_option maxRecDepth 100000 in
set_option maxHeartbeats 4000000 in
theorem sfX0_addFirm (c : Nat × Nat) (hc : c = cA ∨ c = cB) : ∀ ac ∈ csX0_addFirm, SafeC TYg c mX0_addFirm ac := by
  intro ac hac
  simp only [csX0_addFirm, List.mem_cons, List.not_mem_nil, or_false] at hac
  rcases hac with rfl | rfl
  · rcases hc with rfl | rfl
    · exact safe_of (ann := []) (fuel := 600) okX0_addFirm (snX0_addFirm _ _ cA (Or.inl rfl)) (fun q hq => by cases hq) (by decide) (by decide +kernel)
    · exact safe_of (ann := []) (fuel := 600) okX0_addFirm (snX0_addFirm _ _ cB (Or.inr rfl)) (fun q hq => by cases hq) (by decide) (by decide +kernel)
  · rcases hc with rfl | rfl
    · exact safe_of (ann := []) (fuel := 600) okX0_addFirm (snX0_addFirm _ _ cA (Or.inl rfl)) (fun q hq => by cases hq) (by decide) (by decide +kernel)
    · exact safe_of (ann := []) (fuel := 600) okX0_addFirm (snX0_addFirm _ _ cB (Or.inr rfl)) (fun q hq => by cases hq) (by decide) (by decide +kernel)
set_option maxRecDepth 100000 in
def adX0_areJoined (D : KK) : List ACE := (0, 1, some (aAl 0)) :: (1, 3, some (aGetR [(336, 49784), (720, 50168)])) :: (4, 1, some (aIl 1)) :: (5, 1, some (aIald D)) :: (6, 3, some (aIf bEq bNe 24)) :: (9, 1, some (aAl 0)) :: (10, 3, some (aGetR [(336, 49784), (720, 50168)])) :: (13, 1, some (aIl 1)) :: (14, 1, some (aIald D)) :: (15, 1, some (aAl 0)) :: (16, 3, some (aGetR [(336, 49784), (720, 50168)])) :: (19, 1, some (aIl 2)) :: (20, 1, some (aIald D)) :: (21, 3, some (aCm bEq bNe 48)) :: (24, 1, some (aAl 0)) :: (25, 3, some (aGetR [(336, 49800), (720, 50184)])) :: (28, 1, some (aIl 1)) :: (29, 1, some (aIald D)) :: (30, 3, some (aIf bEq bNe 52)) :: (33, 1, some (aAl 0)) :: (34, 3, some (aGetR [(336, 49800), (720, 50184)])) :: (37, 1, some (aIl 1)) :: (38, 1, some (aIald D)) :: (39, 1, some (aAl 0)) :: (40, 3, some (aGetR [(336, 49800), (720, 50184)])) :: (43, 1, some (aIl 2)) :: (44, 1, some (aIald D)) :: (45, 3, some (aCm bNe bEq 52)) :: (48, 1, some (aIc (1))) :: (49, 3, some (aGoto 53)) :: (52, 1, some (aIc (0))) :: (53, 1, some (aZret)) :: []
set_option maxRecDepth 100000 in
set_option maxHeartbeats 4000000 in
theorem snX0_areJoined (d : Nat) (W : List Nat) (c : Nat × Nat) (hc : c = cA ∨ c = cB) : SndAll (d, TYg, c, W) cdX0_areJoined (adX0_areJoined (d, TYg, c, W)) := by
  unfold cdX0_areJoined adX0_areJoined
  refine sn_op sAl ?_
  refine sn_op sGetR ?_
  refine sn_op sIl ?_
  refine sn_op sIald ?_
  refine sn_op sIfEq ?_
  refine sn_op sAl ?_
  refine sn_op sGetR ?_
  refine sn_op sIl ?_
  refine sn_op sIald ?_
  refine sn_op sAl ?_
  refine sn_op sGetR ?_
  refine sn_op sIl ?_
  refine sn_op sIald ?_
  refine sn_op sCmEq ?_
  refine sn_op sAl ?_
  refine sn_op sGetR ?_
  refine sn_op sIl ?_
  refine sn_op sIald ?_
  refine sn_op sIfEq ?_
  refine sn_op sAl ?_
  refine sn_op sGetR ?_
  refine sn_op sIl ?_
  refine sn_op sIald ?_
  refine sn_op sAl ?_
  refine sn_op sGetR ?_
  refine sn_op sIl ?_
  refine sn_op sIald ?_
  refine sn_op sCmNe ?_
  refine sn_op (sIc (n := 1) (by decide)) ?_
  refine sn_op sGoto ?_
  refine sn_op (sIc (n := 0) (by decide)) ?_
  refine sn_op sZret ?_
  exact sn_nil
def csX0_areJoined : List AC := [([(2, 336, 0), (0, 1, 1), (0, 0, 0)], 1, [((0, 0, 0), [], []), ((0, 1, 1), [], [])], [], []), ([(2, 720, 0), (0, 1, 1), (0, 0, 0)], 1, [((0, 0, 0), [], []), ((0, 1, 1), [], [])], [], []), ([(2, 336, 0), (0, 1, 11), (0, 0, 10)], 1, [((0, 0, 0), [], []), ((0, 1, 1), [], [])], [], []), ([(2, 720, 0), (0, 1, 11), (0, 0, 10)], 1, [((0, 0, 0), [], []), ((0, 1, 1), [], [])], [], [])]
set_option maxRecDepth 100000 in
set_option maxHeartbeats 4000000 in
theorem sfX0_areJoined (c : Nat × Nat) (hc : c = cA ∨ c = cB) : ∀ ac ∈ csX0_areJoined, SafeC TYg c mX0_areJoined ac := by
  intro ac hac
  simp only [csX0_areJoined, List.mem_cons, List.not_mem_nil, or_false] at hac
  rcases hac with rfl | rfl | rfl | rfl
  · rcases hc with rfl | rfl
    · exact safe_of (ann := []) (fuel := 600) okX0_areJoined (snX0_areJoined _ _ cA (Or.inl rfl)) (fun q hq => by cases hq) (by decide) (by decide +kernel)
    · exact safe_of (ann := []) (fuel := 600) okX0_areJoined (snX0_areJoined _ _ cB (Or.inr rfl)) (fun q hq => by cases hq) (by decide) (by decide +kernel)
  · rcases hc with rfl | rfl
    · exact safe_of (ann := []) (fuel := 600) okX0_areJoined (snX0_areJoined _ _ cA (Or.inl rfl)) (fun q hq => by cases hq) (by decide) (by decide +kernel)
    · exact safe_of (ann := []) (fuel := 600) okX0_areJoined (snX0_areJoined _ _ cB (Or.inr rfl)) (fun q hq => by cases hq) (by decide) (by decide +kernel)
  · rcases hc with rfl | rfl
    · exact safe_of (ann := []) (fuel := 600) okX0_areJoined (snX0_areJoined _ _ cA (Or.inl rfl)) (fun q hq => by cases hq) (by decide) (by decide +kernel)
    · exact safe_of (ann := []) (fuel := 600) okX0_areJoined (snX0_areJoined _ _ cB (Or.inr rfl)) (fun q hq => by cases hq) (by decide) (by decide +kernel)
  · rcases hc with rfl | rfl
    · exact safe_of (ann := []) (fuel := 600) okX0_areJoined (snX0_areJoined _ _ cA (Or.inl rfl)) (fun q hq => by cases hq) (by decide) (by decide +kernel)
    · exact safe_of (ann := []) (fuel := 600) okX0_areJoined (snX0_areJoined _ _ cB (Or.inr rfl)) (fun q hq => by cases hq) (by decide) (by decide +kernel)
def csX6_saleAt : List AC := [acSaleAtN 2, acSaleAtN 3, acSaleAtN 4, acSaleAtN 5, acSaleAtN 6, acSaleAt]
set_option maxRecDepth 100000 in
set_option maxHeartbeats 4000000 in
theorem sfX6_saleAt (c : Nat × Nat) (hc : c = cA ∨ c = cB) : ∀ ac ∈ csX6_saleAt, SafeC TYg c mX6_saleAt ac := by
  intro ac hac
  simp only [csX6_saleAt, List.mem_cons, List.not_mem_nil, or_false] at hac
  rcases hac with rfl | rfl | rfl | rfl | rfl | rfl
  · exact hpSaleAtN c (by decide) (by decide)
  · exact hpSaleAtN c (by decide) (by decide)
  · exact hpSaleAtN c (by decide) (by decide)
  · exact hpSaleAtN c (by decide) (by decide)
  · exact hpSaleAtN c (by decide) (by decide)
  · exact hpSaleAt c
set_option maxRecDepth 100000 in
def adX0_carriedBy (D : KK) : List ACE := (0, 3, some (aIc (999))) :: (3, 2, some (aIs 4)) :: (5, 1, some (aIc (0))) :: (6, 2, some (aIs 5)) :: (8, 0, none) :: (8, 2, some (aIl 5)) :: (10, 1, some (aIl 3)) :: (11, 3, some (aCm (fun C x y => bLe C y x) bLt 41)) :: (14, 2, some (aIl 4)) :: (16, 1, some (aAl 0)) :: (17, 3, some (aGetR [(336, 452), (720, 836)])) :: (20, 3, some (aGetR [(452, 164344), (836, 164728)])) :: (23, 1, some (aJl 1)) :: (24, 2, some (aIl 5)) :: (26, 3, some (aCall D 16 2 3 csX6_saleAt)) :: (29, 1, some (aIald D)) :: (30, 3, some (aMin D)) :: (33, 2, some (aIs 4)) :: (35, 3, some (aInc 5 (1))) :: (38, 3, some (aGoto 8)) :: (41, 2, some (aIl 4)) :: (43, 1, some (aIret)) :: []
set_option maxRecDepth 100000 in
set_option maxHeartbeats 4000000 in
theorem snX0_carriedBy (d : Nat) (W : List Nat) (c : Nat × Nat) (hc : c = cA ∨ c = cB) : SndAll (d, TYg, c, W) cdX0_carriedBy (adX0_carriedBy (d, TYg, c, W)) := by
  unfold cdX0_carriedBy adX0_carriedBy
  refine sn_op (sIc (n := 999) (by decide)) ?_
  refine sn_op sIs ?_
  refine sn_op (sIc (n := 0) (by decide)) ?_
  refine sn_op sIs ?_
  refine sn_st ?_
  refine sn_op sIl ?_
  refine sn_op sIl ?_
  refine sn_op sCmGe ?_
  refine sn_op sIl ?_
  refine sn_op sAl ?_
  refine sn_op sGetR ?_
  refine sn_op sGetR ?_
  refine sn_op sJl ?_
  refine sn_op sIl ?_
  refine sn_op (sCI (sfX6_saleAt c hc) (by decide) (by decide +kernel)) ?_
  refine sn_op sIald ?_
  refine sn_op sMin ?_
  refine sn_op sIs ?_
  refine sn_op (sInc (n := 1) (by decide)) ?_
  refine sn_op sGoto ?_
  refine sn_op sIl ?_
  refine sn_op sIret ?_
  exact sn_nil
def csX0_carriedBy : List AC := [([(2, 336, 0), (5, 0, 0), (0, 0, 0)], 1, [((0, 999, 999), [], [])], [], []), ([(2, 720, 0), (5, 0, 0), (0, 0, 0)], 1, [((0, 999, 999), [], [])], [], []), ([(2, 336, 0), (5, 0, 0), (0, 0, 6)], 2, [((0, -2147483648, 999), [], [])], [], []), ([(2, 720, 0), (5, 0, 0), (0, 0, 6)], 2, [((0, -2147483648, 999), [], [])], [], [])]
set_option maxRecDepth 100000 in
set_option maxHeartbeats 4000000 in
theorem sfX0_carriedBy (c : Nat × Nat) (hc : c = cA ∨ c = cB) : ∀ ac ∈ csX0_carriedBy, SafeC TYg c mX0_carriedBy ac := by
  intro ac hac
  simp only [csX0_carriedBy, List.mem_cons, List.not_mem_nil, or_false] at hac
  rcases hac with rfl | rfl | rfl | rfl
  · rcases hc with rfl | rfl
    · exact safe_of (ann := [(8, [(2, 336, 0), (5, 0, 0), (4, 0, 0), (0, 0, 0), (0, 999, 999), (0, 0, 0)], [(3, 0, 0, 1)])]) (fuel := 600) okX0_carriedBy (snX0_carriedBy _ _ cA (Or.inl rfl)) (List.forall_mem_cons.mpr ⟨⟨_, _, rfl⟩, (fun q hq => by cases hq)⟩) (by decide) (by decide +kernel)
    · exact safe_of (ann := [(8, [(2, 336, 0), (5, 0, 0), (4, 0, 0), (0, 0, 0), (0, 999, 999), (0, 0, 0)], [(3, 0, 0, 1)])]) (fuel := 600) okX0_carriedBy (snX0_carriedBy _ _ cB (Or.inr rfl)) (List.forall_mem_cons.mpr ⟨⟨_, _, rfl⟩, (fun q hq => by cases hq)⟩) (by decide) (by decide +kernel)
  · rcases hc with rfl | rfl
    · exact safe_of (ann := [(8, [(2, 720, 0), (5, 0, 0), (4, 0, 0), (0, 0, 0), (0, 999, 999), (0, 0, 0)], [(3, 0, 0, 1)])]) (fuel := 600) okX0_carriedBy (snX0_carriedBy _ _ cA (Or.inl rfl)) (List.forall_mem_cons.mpr ⟨⟨_, _, rfl⟩, (fun q hq => by cases hq)⟩) (by decide) (by decide +kernel)
    · exact safe_of (ann := [(8, [(2, 720, 0), (5, 0, 0), (4, 0, 0), (0, 0, 0), (0, 999, 999), (0, 0, 0)], [(3, 0, 0, 1)])]) (fuel := 600) okX0_carriedBy (snX0_carriedBy _ _ cB (Or.inr rfl)) (List.forall_mem_cons.mpr ⟨⟨_, _, rfl⟩, (fun q hq => by cases hq)⟩) (by decide) (by decide +kernel)
  · rcases hc with rfl | rfl
    · exact safe_of (ann := [(8, [(2, 336, 0), (5, 0, 0), (4, 0, 0), (0, 0, 6), (0, -2147483648, 999), (0, 0, 6)], [(0, 5, 0, 4294967296)])]) (fuel := 600) okX0_carriedBy (snX0_carriedBy _ _ cA (Or.inl rfl)) (List.forall_mem_cons.mpr ⟨⟨_, _, rfl⟩, (fun q hq => by cases hq)⟩) (by decide) (by decide +kernel)
    · exact safe_of (ann := [(8, [(2, 336, 0), (5, 0, 0), (4, 0, 0), (0, 0, 6), (0, -2147483648, 999), (0, 0, 6)], [(0, 5, 0, 4294967296)])]) (fuel := 600) okX0_carriedBy (snX0_carriedBy _ _ cB (Or.inr rfl)) (List.forall_mem_cons.mpr ⟨⟨_, _, rfl⟩, (fun q hq => by cases hq)⟩) (by decide) (by decide +kernel)
  · rcases hc with rfl | rfl
    · exact safe_of (ann := [(8, [(2, 720, 0), (5, 0, 0), (4, 0, 0), (0, 0, 6), (0, -2147483648, 999), (0, 0, 6)], [(0, 5, 0, 4294967296)])]) (fuel := 600) okX0_carriedBy (snX0_carriedBy _ _ cA (Or.inl rfl)) (List.forall_mem_cons.mpr ⟨⟨_, _, rfl⟩, (fun q hq => by cases hq)⟩) (by decide) (by decide +kernel)
    · exact safe_of (ann := [(8, [(2, 720, 0), (5, 0, 0), (4, 0, 0), (0, 0, 6), (0, -2147483648, 999), (0, 0, 6)], [(0, 5, 0, 4294967296)])]) (fuel := 600) okX0_carriedBy (snX0_carriedBy _ _ cB (Or.inr rfl)) (List.forall_mem_cons.mpr ⟨⟨_, _, rfl⟩, (fun q hq => by cases hq)⟩) (by decide) (by decide +kernel)
set_option maxRecDepth 100000 in
def adX0_clear (D : KK) : List ACE := (0, 1, some (aAl 0)) :: (1, 3, some (aGetR [(336, 354), (720, 738)])) :: (4, 1, some (aIc (0))) :: (5, 3, some (aPutI D 2 1)) :: (8, 1, some (aAl 0)) :: (9, 3, some (aGetR [(336, 386), (720, 770)])) :: (12, 1, some (aIc (0))) :: (13, 3, some (aPutI D 2 1)) :: (16, 1, some (aAl 0)) :: (17, 3, some (aGetR [(336, 418), (720, 802)])) :: (20, 1, some (aIc (0))) :: (21, 3, some (aPutI D 2 1)) :: (24, 1, some (aAl 0)) :: (25, 3, some (aGetR [(336, 452), (720, 836)])) :: (28, 1, some (aIc (0))) :: (29, 3, some (aPutI D 4 7)) :: (32, 1, some (aAl 0)) :: (33, 3, some (aGetR [(336, 452), (720, 836)])) :: (36, 1, some (aIc (0))) :: (37, 3, some (aPutI D 4 8)) :: (40, 1, some (aVret)) :: []
set_option maxRecDepth 100000 in
set_option maxHeartbeats 4000000 in
theorem snX0_clear (d : Nat) (W : List Nat) (c : Nat × Nat) (hc : c = cA ∨ c = cB) : SndAll (d, TYg, c, W) cdX0_clear (adX0_clear (d, TYg, c, W)) := by
  unfold cdX0_clear adX0_clear
  refine sn_op sAl ?_
  refine sn_op sGetR ?_
  refine sn_op (sIc (n := 0) (by decide)) ?_
  refine sn_op sPutI ?_
  refine sn_op sAl ?_
  refine sn_op sGetR ?_
  refine sn_op (sIc (n := 0) (by decide)) ?_
  refine sn_op sPutI ?_
  refine sn_op sAl ?_
  refine sn_op sGetR ?_
  refine sn_op (sIc (n := 0) (by decide)) ?_
  refine sn_op sPutI ?_
  refine sn_op sAl ?_
  refine sn_op sGetR ?_
  refine sn_op (sIc (n := 0) (by decide)) ?_
  refine sn_op sPutI ?_
  refine sn_op sAl ?_
  refine sn_op sGetR ?_
  refine sn_op (sIc (n := 0) (by decide)) ?_
  refine sn_op sPutI ?_
  refine sn_op sVret ?_
  exact sn_nil
def csX0_clear : List AC := [([(2, 336, 0)], 1, [((9, 0, 0), [((354, 1), (0, 0)), ((386, 1), (0, 0)), ((418, 1), (0, 0)), ((452, 7), (0, 0)), ((452, 8), (0, 0))], [])], [8589934946, 8589934978, 8589935010, 34359738820, 38654706116], []), ([(2, 720, 0)], 1, [((9, 0, 0), [((738, 1), (0, 0)), ((770, 1), (0, 0)), ((802, 1), (0, 0)), ((836, 7), (0, 0)), ((836, 8), (0, 0))], [])], [8589935330, 8589935362, 8589935394, 34359739204, 38654706500], [])]
set_option maxRecDepth 100000 in
set_option maxHeartbeats 4000000 in
theorem sfX0_clear (c : Nat × Nat) (hc : c = cA ∨ c = cB) : ∀ ac ∈ csX0_clear, SafeC TYg c mX0_clear ac := by
  intro ac hac
  simp only [csX0_clear, List.mem_cons, List.not_mem_nil, or_false] at hac
  rcases hac with rfl | rfl
  · rcases hc with rfl | rfl
    · exact safe_of (ann := []) (fuel := 600) okX0_clear (snX0_clear _ _ cA (Or.inl rfl)) (fun q hq => by cases hq) (by decide) (by decide +kernel)
    · exact safe_of (ann := []) (fuel := 600) okX0_clear (snX0_clear _ _ cB (Or.inr rfl)) (fun q hq => by cases hq) (by decide) (by decide +kernel)
  · rcases hc with rfl | rfl
    · exact safe_of (ann := []) (fuel := 600) okX0_clear (snX0_clear _ _ cA (Or.inl rfl)) (fun q hq => by cases hq) (by decide) (by decide +kernel)
    · exact safe_of (ann := []) (fuel := 600) okX0_clear (snX0_clear _ _ cB (Or.inr rfl)) (fun q hq => by cases hq) (by decide) (by decide +kernel)
set_option maxRecDepth 100000 in
def adX0_firmsIn (D : KK) : List ACE := (0, 1, some (aIc (0))) :: (1, 1, some (aIs 2)) :: (2, 1, some (aIc (0))) :: (3, 1, some (aIs 3)) :: (4, 0, none) :: (4, 1, some (aIl 3)) :: (5, 1, some (aAl 0)) :: (6, 3, some (aGetR [(336, 418), (720, 802)])) :: (9, 3, some (aGetI D 2 1)) :: (12, 3, some (aCm (fun C x y => bLe C y x) bLt 41)) :: (15, 1, some (aIl 2)) :: (16, 1, some (aAl 0)) :: (17, 3, some (aGetR [(336, 49752), (720, 50136)])) :: (20, 1, some (aIl 3)) :: (21, 1, some (aIald D)) :: (22, 1, some (aIl 1)) :: (23, 3, some (aCm bNe bEq 32)) :: (26, 1, some (aIc (1))) :: (27, 1, some (aIl 3)) :: (28, 1, some (aBin fTop)) :: (29, 3, some (aGoto 33)) :: (32, 1, some (aIc (0))) :: (33, 1, some (aBin fTop)) :: (34, 1, some (aIs 2)) :: (35, 3, some (aInc 3 (1))) :: (38, 3, some (aGoto 4)) :: (41, 1, some (aIl 2)) :: (42, 1, some (aIret)) :: []
set_option maxRecDepth 100000 in
set_option maxHeartbeats 4000000 in
theorem snX0_firmsIn (d : Nat) (W : List Nat) (c : Nat × Nat) (hc : c = cA ∨ c = cB) : SndAll (d, TYg, c, W) cdX0_firmsIn (adX0_firmsIn (d, TYg, c, W)) := by
  unfold cdX0_firmsIn adX0_firmsIn
  refine sn_op (sIc (n := 0) (by decide)) ?_
  refine sn_op sIs ?_
  refine sn_op (sIc (n := 0) (by decide)) ?_
  refine sn_op sIs ?_
  refine sn_st ?_
  refine sn_op sIl ?_
  refine sn_op sAl ?_
  refine sn_op sGetR ?_
  refine sn_op sGetI ?_
  refine sn_op sCmGe ?_
  refine sn_op sIl ?_
  refine sn_op sAl ?_
  refine sn_op sGetR ?_
  refine sn_op sIl ?_
  refine sn_op sIald ?_
  refine sn_op sIl ?_
  refine sn_op sCmNe ?_
  refine sn_op (sIc (n := 1) (by decide)) ?_
  refine sn_op sIl ?_
  refine sn_op sIshl ?_
  refine sn_op sGoto ?_
  refine sn_op (sIc (n := 0) (by decide)) ?_
  refine sn_op sIor ?_
  refine sn_op sIs ?_
  refine sn_op (sInc (n := 1) (by decide)) ?_
  refine sn_op sGoto ?_
  refine sn_op sIl ?_
  refine sn_op sIret ?_
  exact sn_nil
def csX0_firmsIn : List AC := [([(2, 336, 0), (0, 0, 0)], 1, [((0, -2147483648, 2147483647), [], [])], [], []), ([(2, 720, 0), (0, 0, 0)], 1, [((0, -2147483648, 2147483647), [], [])], [], []), ([(2, 336, 0), (0, 0, 4)], 1, [((0, -2147483648, 2147483647), [], [])], [], []), ([(2, 720, 0), (0, 0, 4)], 1, [((0, -2147483648, 2147483647), [], [])], [], [])]
set_option maxRecDepth 100000 in
set_option maxHeartbeats 4000000 in
theorem sfX0_firmsIn (c : Nat × Nat) (hc : c = cA ∨ c = cB) : ∀ ac ∈ csX0_firmsIn, SafeC TYg c mX0_firmsIn ac := by
  intro ac hac
  simp only [csX0_firmsIn, List.mem_cons, List.not_mem_nil, or_false] at hac
  rcases hac with rfl | rfl | rfl | rfl
  · rcases hc with rfl | rfl
    · exact safe_of (ann := [(4, [(2, 336, 0), (0, 0, 0), (0, -2147483648, 2147483647), (0, 0, 12)], [(0, 3, 0, 4294967296)])]) (fuel := 600) okX0_firmsIn (snX0_firmsIn _ _ cA (Or.inl rfl)) (List.forall_mem_cons.mpr ⟨⟨_, _, rfl⟩, (fun q hq => by cases hq)⟩) (by decide) (by decide +kernel)
    · exact safe_of (ann := [(4, [(2, 336, 0), (0, 0, 0), (0, -2147483648, 2147483647), (0, 0, 12)], [(0, 3, 0, 4294967296)])]) (fuel := 600) okX0_firmsIn (snX0_firmsIn _ _ cB (Or.inr rfl)) (List.forall_mem_cons.mpr ⟨⟨_, _, rfl⟩, (fun q hq => by cases hq)⟩) (by decide) (by decide +kernel)
  · rcases hc with rfl | rfl
    · exact safe_of (ann := [(4, [(2, 720, 0), (0, 0, 0), (0, -2147483648, 2147483647), (0, 0, 12)], [(0, 3, 0, 4294967296)])]) (fuel := 600) okX0_firmsIn (snX0_firmsIn _ _ cA (Or.inl rfl)) (List.forall_mem_cons.mpr ⟨⟨_, _, rfl⟩, (fun q hq => by cases hq)⟩) (by decide) (by decide +kernel)
    · exact safe_of (ann := [(4, [(2, 720, 0), (0, 0, 0), (0, -2147483648, 2147483647), (0, 0, 12)], [(0, 3, 0, 4294967296)])]) (fuel := 600) okX0_firmsIn (snX0_firmsIn _ _ cB (Or.inr rfl)) (List.forall_mem_cons.mpr ⟨⟨_, _, rfl⟩, (fun q hq => by cases hq)⟩) (by decide) (by decide +kernel)
  · rcases hc with rfl | rfl
    · exact safe_of (ann := [(4, [(2, 336, 0), (0, 0, 4), (0, -2147483648, 2147483647), (0, 0, 12)], [(0, 3, 0, 4294967296)])]) (fuel := 600) okX0_firmsIn (snX0_firmsIn _ _ cA (Or.inl rfl)) (List.forall_mem_cons.mpr ⟨⟨_, _, rfl⟩, (fun q hq => by cases hq)⟩) (by decide) (by decide +kernel)
    · exact safe_of (ann := [(4, [(2, 336, 0), (0, 0, 4), (0, -2147483648, 2147483647), (0, 0, 12)], [(0, 3, 0, 4294967296)])]) (fuel := 600) okX0_firmsIn (snX0_firmsIn _ _ cB (Or.inr rfl)) (List.forall_mem_cons.mpr ⟨⟨_, _, rfl⟩, (fun q hq => by cases hq)⟩) (by decide) (by decide +kernel)
  · rcases hc with rfl | rfl
    · exact safe_of (ann := [(4, [(2, 720, 0), (0, 0, 4), (0, -2147483648, 2147483647), (0, 0, 12)], [(0, 3, 0, 4294967296)])]) (fuel := 600) okX0_firmsIn (snX0_firmsIn _ _ cA (Or.inl rfl)) (List.forall_mem_cons.mpr ⟨⟨_, _, rfl⟩, (fun q hq => by cases hq)⟩) (by decide) (by decide +kernel)
    · exact safe_of (ann := [(4, [(2, 720, 0), (0, 0, 4), (0, -2147483648, 2147483647), (0, 0, 12)], [(0, 3, 0, 4294967296)])]) (fuel := 600) okX0_firmsIn (snX0_firmsIn _ _ cB (Or.inr rfl)) (List.forall_mem_cons.mpr ⟨⟨_, _, rfl⟩, (fun q hq => by cases hq)⟩) (by decide) (by decide +kernel)
set_option maxRecDepth 100000 in
def adX0_firmsOf (D : KK) : List ACE := (0, 1, some (aIc (0))) :: (1, 2, some (aIs 4)) :: (3, 1, some (aIc (0))) :: (4, 2, some (aIs 5)) :: (6, 0, none) :: (6, 2, some (aIl 5)) :: (8, 1, some (aIl 3)) :: (9, 3, some (aCm (fun C x y => bLe C y x) bLt 39)) :: (12, 2, some (aIl 4)) :: (14, 1, some (aIc (1))) :: (15, 1, some (aAl 0)) :: (16, 3, some (aGetR [(336, 452), (720, 836)])) :: (19, 3, some (aGetR [(452, 164312), (836, 164696)])) :: (22, 1, some (aJl 1)) :: (23, 2, some (aIl 5)) :: (25, 3, some (aCall D 16 2 3 csX6_saleAt)) :: (28, 1, some (aIald D)) :: (29, 1, some (aBin fTop)) :: (30, 1, some (aBin fTop)) :: (31, 2, some (aIs 4)) :: (33, 3, some (aInc 5 (1))) :: (36, 3, some (aGoto 6)) :: (39, 2, some (aIl 4)) :: (41, 1, some (aIret)) :: []
set_option maxRecDepth 100000 in
set_option maxHeartbeats 4000000 in
theorem snX0_firmsOf (d : Nat) (W : List Nat) (c : Nat × Nat) (hc : c = cA ∨ c = cB) : SndAll (d, TYg, c, W) cdX0_firmsOf (adX0_firmsOf (d, TYg, c, W)) := by
  unfold cdX0_firmsOf adX0_firmsOf
  refine sn_op (sIc (n := 0) (by decide)) ?_
  refine sn_op sIs ?_
  refine sn_op (sIc (n := 0) (by decide)) ?_
  refine sn_op sIs ?_
  refine sn_st ?_
  refine sn_op sIl ?_
  refine sn_op sIl ?_
  refine sn_op sCmGe ?_
  refine sn_op sIl ?_
  refine sn_op (sIc (n := 1) (by decide)) ?_
  refine sn_op sAl ?_
  refine sn_op sGetR ?_
  refine sn_op sGetR ?_
  refine sn_op sJl ?_
  refine sn_op sIl ?_
  refine sn_op (sCI (sfX6_saleAt c hc) (by decide) (by decide +kernel)) ?_
  refine sn_op sIald ?_
  refine sn_op sIshl ?_
  refine sn_op sIor ?_
  refine sn_op sIs ?_
  refine sn_op (sInc (n := 1) (by decide)) ?_
  refine sn_op sGoto ?_
  refine sn_op sIl ?_
  refine sn_op sIret ?_
  exact sn_nil
def csX0_firmsOf : List AC := [([(2, 336, 0), (5, 0, 0), (0, 0, 6)], 2, [((0, -2147483648, 2147483647), [], [])], [], []), ([(2, 720, 0), (5, 0, 0), (0, 0, 6)], 2, [((0, -2147483648, 2147483647), [], [])], [], [])]
set_option maxRecDepth 100000 in
set_option maxHeartbeats 4000000 in
theorem sfX0_firmsOf (c : Nat × Nat) (hc : c = cA ∨ c = cB) : ∀ ac ∈ csX0_firmsOf, SafeC TYg c mX0_firmsOf ac := by
  intro ac hac
  simp only [csX0_firmsOf, List.mem_cons, List.not_mem_nil, or_false] at hac
  rcases hac with rfl | rfl
  · rcases hc with rfl | rfl
    · exact safe_of (ann := [(6, [(2, 336, 0), (5, 0, 0), (4, 0, 0), (0, 0, 6), (0, -2147483648, 2147483647), (0, 0, 6)], [(0, 5, 0, 4294967296)])]) (fuel := 600) okX0_firmsOf (snX0_firmsOf _ _ cA (Or.inl rfl)) (List.forall_mem_cons.mpr ⟨⟨_, _, rfl⟩, (fun q hq => by cases hq)⟩) (by decide) (by decide +kernel)
    · exact safe_of (ann := [(6, [(2, 336, 0), (5, 0, 0), (4, 0, 0), (0, 0, 6), (0, -2147483648, 2147483647), (0, 0, 6)], [(0, 5, 0, 4294967296)])]) (fuel := 600) okX0_firmsOf (snX0_firmsOf _ _ cB (Or.inr rfl)) (List.forall_mem_cons.mpr ⟨⟨_, _, rfl⟩, (fun q hq => by cases hq)⟩) (by decide) (by decide +kernel)
  · rcases hc with rfl | rfl
    · exact safe_of (ann := [(6, [(2, 720, 0), (5, 0, 0), (4, 0, 0), (0, 0, 6), (0, -2147483648, 2147483647), (0, 0, 6)], [(0, 5, 0, 4294967296)])]) (fuel := 600) okX0_firmsOf (snX0_firmsOf _ _ cA (Or.inl rfl)) (List.forall_mem_cons.mpr ⟨⟨_, _, rfl⟩, (fun q hq => by cases hq)⟩) (by decide) (by decide +kernel)
    · exact safe_of (ann := [(6, [(2, 720, 0), (5, 0, 0), (4, 0, 0), (0, 0, 6), (0, -2147483648, 2147483647), (0, 0, 6)], [(0, 5, 0, 4294967296)])]) (fuel := 600) okX0_firmsOf (snX0_firmsOf _ _ cB (Or.inr rfl)) (List.forall_mem_cons.mpr ⟨⟨_, _, rfl⟩, (fun q hq => by cases hq)⟩) (by decide) (by decide +kernel)
set_option maxRecDepth 100000 in
def adX0_honestSales (D : KK) : List ACE := (0, 1, some (aAl 0)) :: (1, 1, some (aIl 1)) :: (2, 3, some (aCall D 0 2 4 csX0_firmsIn)) :: (5, 1, some (aIl 2)) :: (6, 1, some (aIc (-1))) :: (7, 1, some (aBin fTop)) :: (8, 1, some (aBin fAnd)) :: (9, 1, some (aIs 3)) :: (10, 1, some (aIc (0))) :: (11, 2, some (aIs 4)) :: (13, 1, some (aIc (0))) :: (14, 2, some (aIs 5)) :: (16, 0, none) :: (16, 2, some (aIl 5)) :: (18, 1, some (aAl 0)) :: (19, 3, some (aGetR [(336, 452), (720, 836)])) :: (22, 3, some (aGetI D 4 7)) :: (25, 3, some (aCm (fun C x y => bLe C y x) bLt 66)) :: (28, 2, some (aIl 4)) :: (30, 1, some (aIl 3)) :: (31, 1, some (aAl 0)) :: (32, 3, some (aGetR [(336, 452), (720, 836)])) :: (35, 3, some (aGetR [(452, 164312), (836, 164696)])) :: (38, 2, some (aIl 5)) :: (40, 1, some (aIald D)) :: (41, 1, some (aBin fShr)) :: (42, 1, some (aIl 3)) :: (43, 1, some (aAl 0)) :: (44, 3, some (aGetR [(336, 452), (720, 836)])) :: (47, 3, some (aGetR [(452, 164328), (836, 164712)])) :: (50, 2, some (aIl 5)) :: (52, 1, some (aIald D)) :: (53, 1, some (aBin fShr)) :: (54, 1, some (aBin fAnd)) :: (55, 1, some (aIc (1))) :: (56, 1, some (aBin fAnd)) :: (57, 1, some (aBin fAdd)) :: (58, 2, some (aIs 4)) :: (60, 3, some (aInc 5 (1))) :: (63, 3, some (aGoto 16)) :: (66, 2, some (aIl 4)) :: (68, 1, some (aIret)) :: []
set_option maxRecDepth 100000 in
set_option maxHeartbeats 4000000 in
theorem snX0_honestSales (d : Nat) (W : List Nat) (c : Nat × Nat) (hc : c = cA ∨ c = cB) : SndAll (d, TYg, c, W) cdX0_honestSales (adX0_honestSales (d, TYg, c, W)) := by
  unfold cdX0_honestSales adX0_honestSales
  refine sn_op sAl ?_
  refine sn_op sIl ?_
  refine sn_op (sCI (sfX0_firmsIn c hc) (by decide) (by decide +kernel)) ?_
  refine sn_op sIl ?_
  refine sn_op (sIc (n := -1) (by decide)) ?_
  refine sn_op sIxor ?_
  refine sn_op sIand ?_
  refine sn_op sIs ?_
  refine sn_op (sIc (n := 0) (by decide)) ?_
  refine sn_op sIs ?_
  refine sn_op (sIc (n := 0) (by decide)) ?_
  refine sn_op sIs ?_
  refine sn_st ?_
  refine sn_op sIl ?_
  refine sn_op sAl ?_
  refine sn_op sGetR ?_
  refine sn_op sGetI ?_
  refine sn_op sCmGe ?_
  refine sn_op sIl ?_
  refine sn_op sIl ?_
  refine sn_op sAl ?_
  refine sn_op sGetR ?_
  refine sn_op sGetR ?_
  refine sn_op sIl ?_
  refine sn_op sIald ?_
  refine sn_op sIshr ?_
  refine sn_op sIl ?_
  refine sn_op sAl ?_
  refine sn_op sGetR ?_
  refine sn_op sGetR ?_
  refine sn_op sIl ?_
  refine sn_op sIald ?_
  refine sn_op sIshr ?_
  refine sn_op sIand ?_
  refine sn_op (sIc (n := 1) (by decide)) ?_
  refine sn_op sIand ?_
  refine sn_op sIadd ?_
  refine sn_op sIs ?_
  refine sn_op (sInc (n := 1) (by decide)) ?_
  refine sn_op sGoto ?_
  refine sn_op sIl ?_
  refine sn_op sIret ?_
  exact sn_nil
def csX0_honestSales : List AC := [([(2, 336, 0), (0, 0, 0), (0, -2147483648, 2147483647)], 2, [((0, -2147483648, 2147483647), [], [])], [], []), ([(2, 720, 0), (0, 0, 0), (0, -2147483648, 2147483647)], 2, [((0, -2147483648, 2147483647), [], [])], [], []), ([(2, 336, 0), (0, 0, 4), (0, -2147483648, 2147483647)], 2, [((0, -2147483648, 2147483647), [], [])], [], []), ([(2, 720, 0), (0, 0, 4), (0, -2147483648, 2147483647)], 2, [((0, -2147483648, 2147483647), [], [])], [], [])]
set_option maxRecDepth 100000 in
set_option maxHeartbeats 4000000 in
theorem sfX0_honestSales (c : Nat × Nat) (hc : c = cA ∨ c = cB) : ∀ ac ∈ csX0_honestSales, SafeC TYg c mX0_honestSales ac := by
  intro ac hac
  simp only [csX0_honestSales, List.mem_cons, List.not_mem_nil, or_false] at hac
  rcases hac with rfl | rfl | rfl | rfl
  · rcases hc with rfl | rfl
    · exact safe_of (ann := [(16, [(2, 336, 0), (0, 0, 0), (0, -2147483648, 2147483647), (0, -2147483648, 2147483647), (0, -2147483648, 2147483647), (0, 0, 40)], [(0, 5, 0, 4294967296)])]) (fuel := 600) okX0_honestSales (snX0_honestSales _ _ cA (Or.inl rfl)) (List.forall_mem_cons.mpr ⟨⟨_, _, rfl⟩, (fun q hq => by cases hq)⟩) (by decide) (by decide +kernel)
    · exact safe_of (ann := [(16, [(2, 336, 0), (0, 0, 0), (0, -2147483648, 2147483647), (0, -2147483648, 2147483647), (0, -2147483648, 2147483647), (0, 0, 40)], [(0, 5, 0, 4294967296)])]) (fuel := 600) okX0_honestSales (snX0_honestSales _ _ cB (Or.inr rfl)) (List.forall_mem_cons.mpr ⟨⟨_, _, rfl⟩, (fun q hq => by cases hq)⟩) (by decide) (by decide +kernel)
  · rcases hc with rfl | rfl
    · exact safe_of (ann := [(16, [(2, 720, 0), (0, 0, 0), (0, -2147483648, 2147483647), (0, -2147483648, 2147483647), (0, -2147483648, 2147483647), (0, 0, 40)], [(0, 5, 0, 4294967296)])]) (fuel := 600) okX0_honestSales (snX0_honestSales _ _ cA (Or.inl rfl)) (List.forall_mem_cons.mpr ⟨⟨_, _, rfl⟩, (fun q hq => by cases hq)⟩) (by decide) (by decide +kernel)
    · exact safe_of (ann := [(16, [(2, 720, 0), (0, 0, 0), (0, -2147483648, 2147483647), (0, -2147483648, 2147483647), (0, -2147483648, 2147483647), (0, 0, 40)], [(0, 5, 0, 4294967296)])]) (fuel := 600) okX0_honestSales (snX0_honestSales _ _ cB (Or.inr rfl)) (List.forall_mem_cons.mpr ⟨⟨_, _, rfl⟩, (fun q hq => by cases hq)⟩) (by decide) (by decide +kernel)
  · rcases hc with rfl | rfl
    · exact safe_of (ann := [(16, [(2, 336, 0), (0, 0, 4), (0, -2147483648, 2147483647), (0, -2147483648, 2147483647), (0, -2147483648, 2147483647), (0, 0, 40)], [(0, 5, 0, 4294967296)])]) (fuel := 600) okX0_honestSales (snX0_honestSales _ _ cA (Or.inl rfl)) (List.forall_mem_cons.mpr ⟨⟨_, _, rfl⟩, (fun q hq => by cases hq)⟩) (by decide) (by decide +kernel)
    · exact safe_of (ann := [(16, [(2, 336, 0), (0, 0, 4), (0, -2147483648, 2147483647), (0, -2147483648, 2147483647), (0, -2147483648, 2147483647), (0, 0, 40)], [(0, 5, 0, 4294967296)])]) (fuel := 600) okX0_honestSales (snX0_honestSales _ _ cB (Or.inr rfl)) (List.forall_mem_cons.mpr ⟨⟨_, _, rfl⟩, (fun q hq => by cases hq)⟩) (by decide) (by decide +kernel)
  · rcases hc with rfl | rfl
    · exact safe_of (ann := [(16, [(2, 720, 0), (0, 0, 4), (0, -2147483648, 2147483647), (0, -2147483648, 2147483647), (0, -2147483648, 2147483647), (0, 0, 40)], [(0, 5, 0, 4294967296)])]) (fuel := 600) okX0_honestSales (snX0_honestSales _ _ cA (Or.inl rfl)) (List.forall_mem_cons.mpr ⟨⟨_, _, rfl⟩, (fun q hq => by cases hq)⟩) (by decide) (by decide +kernel)
    · exact safe_of (ann := [(16, [(2, 720, 0), (0, 0, 4), (0, -2147483648, 2147483647), (0, -2147483648, 2147483647), (0, -2147483648, 2147483647), (0, 0, 40)], [(0, 5, 0, 4294967296)])]) (fuel := 600) okX0_honestSales (snX0_honestSales _ _ cB (Or.inr rfl)) (List.forall_mem_cons.mpr ⟨⟨_, _, rfl⟩, (fun q hq => by cases hq)⟩) (by decide) (by decide +kernel)
set_option maxRecDepth 100000 in
def adX0_mergeParties (D : KK) : List ACE := (0, 1, some (aIl 1)) :: (1, 1, some (aIl 2)) :: (2, 3, some (aMin D)) :: (5, 1, some (aIs 3)) :: (6, 1, some (aIc (0))) :: (7, 2, some (aIs 4)) :: (9, 0, none) :: (9, 2, some (aIl 4)) :: (11, 1, some (aAl 0)) :: (12, 3, some (aGetR [(336, 418), (720, 802)])) :: (15, 3, some (aGetI D 2 1)) :: (18, 3, some (aCm (fun C x y => bLe C y x) bLt 57)) :: (21, 1, some (aAl 0)) :: (22, 3, some (aGetR [(336, 49848), (720, 50232)])) :: (25, 2, some (aIl 4)) :: (27, 1, some (aIald D)) :: (28, 1, some (aIl 1)) :: (29, 3, some (aCm bEq bNe 43)) :: (32, 1, some (aAl 0)) :: (33, 3, some (aGetR [(336, 49848), (720, 50232)])) :: (36, 2, some (aIl 4)) :: (38, 1, some (aIald D)) :: (39, 1, some (aIl 2)) :: (40, 3, some (aCm bNe bEq 51)) :: (43, 1, some (aAl 0)) :: (44, 3, some (aGetR [(336, 49848), (720, 50232)])) :: (47, 2, some (aIl 4)) :: (49, 1, some (aIl 3)) :: (50, 1, some (aIast D)) :: (51, 3, some (aInc 4 (1))) :: (54, 3, some (aGoto 9)) :: (57, 1, some (aVret)) :: []
set_option maxRecDepth 100000 in
set_option maxHeartbeats 4000000 in
theorem snX0_mergeParties (d : Nat) (W : List Nat) (c : Nat × Nat) (hc : c = cA ∨ c = cB) : SndAll (d, TYg, c, W) cdX0_mergeParties (adX0_mergeParties (d, TYg, c, W)) := by
  unfold cdX0_mergeParties adX0_mergeParties
  refine sn_op sIl ?_
  refine sn_op sIl ?_
  refine sn_op sMin ?_
  refine sn_op sIs ?_
  refine sn_op (sIc (n := 0) (by decide)) ?_
  refine sn_op sIs ?_
  refine sn_st ?_
  refine sn_op sIl ?_
  refine sn_op sAl ?_
  refine sn_op sGetR ?_
  refine sn_op sGetI ?_
  refine sn_op sCmGe ?_
  refine sn_op sAl ?_
  refine sn_op sGetR ?_
  refine sn_op sIl ?_
  refine sn_op sIald ?_
  refine sn_op sIl ?_
  refine sn_op sCmEq ?_
  refine sn_op sAl ?_
  refine sn_op sGetR ?_
  refine sn_op sIl ?_
  refine sn_op sIald ?_
  refine sn_op sIl ?_
  refine sn_op sCmNe ?_
  refine sn_op sAl ?_
  refine sn_op sGetR ?_
  refine sn_op sIl ?_
  refine sn_op sIl ?_
  refine sn_op sIast ?_
  refine sn_op (sInc (n := 1) (by decide)) ?_
  refine sn_op sGoto ?_
  refine sn_op sVret ?_
  exact sn_nil
def csX0_mergeParties : List AC := [([(2, 336, 0), (0, -2147483648, 2147483647), (0, -2147483648, 2147483647)], 1, [((9, 0, 0), [], [])], [49848], []), ([(2, 720, 0), (0, -2147483648, 2147483647), (0, -2147483648, 2147483647)], 1, [((9, 0, 0), [], [])], [50232], [])]
set_option maxRecDepth 100000 in
set_option maxHeartbeats 4000000 in
theorem sfX0_mergeParties (c : Nat × Nat) (hc : c = cA ∨ c = cB) : ∀ ac ∈ csX0_mergeParties, SafeC TYg c mX0_mergeParties ac := by
  intro ac hac
  simp only [csX0_mergeParties, List.mem_cons, List.not_mem_nil, or_false] at hac
  rcases hac with rfl | rfl
  · rcases hc with rfl | rfl
    · exact safe_of (ann := [(9, [(2, 336, 0), (0, -2147483648, 2147483647), (0, -2147483648, 2147483647), (0, -2147483648, 2147483647), (0, 0, 12)], [(0, 4, 0, 4294967296)])]) (fuel := 600) okX0_mergeParties (snX0_mergeParties _ _ cA (Or.inl rfl)) (List.forall_mem_cons.mpr ⟨⟨_, _, rfl⟩, (fun q hq => by cases hq)⟩) (by decide) (by decide +kernel)
    · exact safe_of (ann := [(9, [(2, 336, 0), (0, -2147483648, 2147483647), (0, -2147483648, 2147483647), (0, -2147483648, 2147483647), (0, 0, 12)], [(0, 4, 0, 4294967296)])]) (fuel := 600) okX0_mergeParties (snX0_mergeParties _ _ cB (Or.inr rfl)) (List.forall_mem_cons.mpr ⟨⟨_, _, rfl⟩, (fun q hq => by cases hq)⟩) (by decide) (by decide +kernel)
  · rcases hc with rfl | rfl
    · exact safe_of (ann := [(9, [(2, 720, 0), (0, -2147483648, 2147483647), (0, -2147483648, 2147483647), (0, -2147483648, 2147483647), (0, 0, 12)], [(0, 4, 0, 4294967296)])]) (fuel := 600) okX0_mergeParties (snX0_mergeParties _ _ cA (Or.inl rfl)) (List.forall_mem_cons.mpr ⟨⟨_, _, rfl⟩, (fun q hq => by cases hq)⟩) (by decide) (by decide +kernel)
    · exact safe_of (ann := [(9, [(2, 720, 0), (0, -2147483648, 2147483647), (0, -2147483648, 2147483647), (0, -2147483648, 2147483647), (0, 0, 12)], [(0, 4, 0, 4294967296)])]) (fuel := 600) okX0_mergeParties (snX0_mergeParties _ _ cB (Or.inr rfl)) (List.forall_mem_cons.mpr ⟨⟨_, _, rfl⟩, (fun q hq => by cases hq)⟩) (by decide) (by decide +kernel)
set_option maxRecDepth 100000 in
def adX0_joinParties (D : KK) : List ACE := (0, 1, some (aIc (0))) :: (1, 1, some (aIs 1)) :: (2, 0, none) :: (2, 1, some (aIl 1)) :: (3, 1, some (aAl 0)) :: (4, 3, some (aGetR [(336, 418), (720, 802)])) :: (7, 3, some (aGetI D 2 1)) :: (10, 3, some (aCm (fun C x y => bLe C y x) bLt 64)) :: (13, 1, some (aAl 0)) :: (14, 3, some (aGetR [(336, 49848), (720, 50232)])) :: (17, 1, some (aIl 1)) :: (18, 1, some (aIl 1)) :: (19, 1, some (aIast D)) :: (20, 1, some (aIc (0))) :: (21, 1, some (aIs 2)) :: (22, 0, none) :: (22, 1, some (aIl 2)) :: (23, 1, some (aIl 1)) :: (24, 3, some (aCm (fun C x y => bLe C y x) bLt 58)) :: (27, 1, some (aAl 0)) :: (28, 1, some (aIl 1)) :: (29, 1, some (aIl 2)) :: (30, 3, some (aCall D 0 3 3 csX0_areJoined)) :: (33, 3, some (aIf bEq bNe 52)) :: (36, 1, some (aAl 0)) :: (37, 1, some (aAl 0)) :: (38, 3, some (aGetR [(336, 49848), (720, 50232)])) :: (41, 1, some (aIl 1)) :: (42, 1, some (aIald D)) :: (43, 1, some (aAl 0)) :: (44, 3, some (aGetR [(336, 49848), (720, 50232)])) :: (47, 1, some (aIl 2)) :: (48, 1, some (aIald D)) :: (49, 3, some (aCall D 0 3 5 csX0_mergeParties)) :: (52, 3, some (aInc 2 (1))) :: (55, 3, some (aGoto 22)) :: (58, 3, some (aInc 1 (1))) :: (61, 3, some (aGoto 2)) :: (64, 1, some (aVret)) :: []
set_option maxRecDepth 100000 in
set_option maxHeartbeats 4000000 in
theorem snX0_joinParties (d : Nat) (W : List Nat) (c : Nat × Nat) (hc : c = cA ∨ c = cB) : SndAll (d, TYg, c, W) cdX0_joinParties (adX0_joinParties (d, TYg, c, W)) := by
  unfold cdX0_joinParties adX0_joinParties
  refine sn_op (sIc (n := 0) (by decide)) ?_
  refine sn_op sIs ?_
  refine sn_st ?_
  refine sn_op sIl ?_
  refine sn_op sAl ?_
  refine sn_op sGetR ?_
  refine sn_op sGetI ?_
  refine sn_op sCmGe ?_
  refine sn_op sAl ?_
  refine sn_op sGetR ?_
  refine sn_op sIl ?_
  refine sn_op sIl ?_
  refine sn_op sIast ?_
  refine sn_op (sIc (n := 0) (by decide)) ?_
  refine sn_op sIs ?_
  refine sn_st ?_
  refine sn_op sIl ?_
  refine sn_op sIl ?_
  refine sn_op sCmGe ?_
  refine sn_op sAl ?_
  refine sn_op sIl ?_
  refine sn_op sIl ?_
  refine sn_op (sCI (sfX0_areJoined c hc) (by decide) (by decide +kernel)) ?_
  refine sn_op sIfEq ?_
  refine sn_op sAl ?_
  refine sn_op sAl ?_
  refine sn_op sGetR ?_
  refine sn_op sIl ?_
  refine sn_op sIald ?_
  refine sn_op sAl ?_
  refine sn_op sGetR ?_
  refine sn_op sIl ?_
  refine sn_op sIald ?_
  refine sn_op (sCV (sfX0_mergeParties c hc) (by decide) (by decide +kernel)) ?_
  refine sn_op (sInc (n := 1) (by decide)) ?_
  refine sn_op sGoto ?_
  refine sn_op (sInc (n := 1) (by decide)) ?_
  refine sn_op sGoto ?_
  refine sn_op sVret ?_
  exact sn_nil
def csX0_joinParties : List AC := [([(2, 336, 0)], 2, [((9, 0, 0), [], [])], [49848], []), ([(2, 720, 0)], 2, [((9, 0, 0), [], [])], [50232], [])]
set_option maxRecDepth 100000 in
set_option maxHeartbeats 4000000 in
theorem sfX0_joinParties (c : Nat × Nat) (hc : c = cA ∨ c = cB) : ∀ ac ∈ csX0_joinParties, SafeC TYg c mX0_joinParties ac := by
  intro ac hac
  simp only [csX0_joinParties, List.mem_cons, List.not_mem_nil, or_false] at hac
  rcases hac with rfl | rfl
  · rcases hc with rfl | rfl
    · exact safe_of (ann := [(2, [(2, 336, 0), (0, 0, 12), (4, 0, 0)], [(0, 1, 0, 4294967296), (3, 0, 0, 2)]), (22, [(2, 336, 0), (0, 0, 11), (0, 0, 11)], [(0, 1, 0, 4294967296), (3, 0, 0, 1), (0, 2, 0, 4294967296)])]) (fuel := 600) okX0_joinParties (snX0_joinParties _ _ cA (Or.inl rfl)) (List.forall_mem_cons.mpr ⟨⟨_, _, rfl⟩, List.forall_mem_cons.mpr ⟨⟨_, _, rfl⟩, (fun q hq => by cases hq)⟩⟩) (by decide) (by decide +kernel)
    · exact safe_of (ann := [(2, [(2, 336, 0), (0, 0, 12), (4, 0, 0)], [(0, 1, 0, 4294967296), (3, 0, 0, 2)]), (22, [(2, 336, 0), (0, 0, 11), (0, 0, 11)], [(0, 1, 0, 4294967296), (3, 0, 0, 1), (0, 2, 0, 4294967296)])]) (fuel := 600) okX0_joinParties (snX0_joinParties _ _ cB (Or.inr rfl)) (List.forall_mem_cons.mpr ⟨⟨_, _, rfl⟩, List.forall_mem_cons.mpr ⟨⟨_, _, rfl⟩, (fun q hq => by cases hq)⟩⟩) (by decide) (by decide +kernel)
  · rcases hc with rfl | rfl
    · exact safe_of (ann := [(2, [(2, 720, 0), (0, 0, 12), (4, 0, 0)], [(0, 1, 0, 4294967296), (3, 0, 0, 2)]), (22, [(2, 720, 0), (0, 0, 11), (0, 0, 11)], [(0, 1, 0, 4294967296), (3, 0, 0, 1), (0, 2, 0, 4294967296)])]) (fuel := 600) okX0_joinParties (snX0_joinParties _ _ cA (Or.inl rfl)) (List.forall_mem_cons.mpr ⟨⟨_, _, rfl⟩, List.forall_mem_cons.mpr ⟨⟨_, _, rfl⟩, (fun q hq => by cases hq)⟩⟩) (by decide) (by decide +kernel)
    · exact safe_of (ann := [(2, [(2, 720, 0), (0, 0, 12), (4, 0, 0)], [(0, 1, 0, 4294967296), (3, 0, 0, 2)]), (22, [(2, 720, 0), (0, 0, 11), (0, 0, 11)], [(0, 1, 0, 4294967296), (3, 0, 0, 1), (0, 2, 0, 4294967296)])]) (fuel := 600) okX0_joinParties (snX0_joinParties _ _ cB (Or.inr rfl)) (List.forall_mem_cons.mpr ⟨⟨_, _, rfl⟩, List.forall_mem_cons.mpr ⟨⟨_, _, rfl⟩, (fun q hq => by cases hq)⟩⟩) (by decide) (by decide +kernel)
set_option maxRecDepth 100000 in
def adX0_taxEach (D : KK) : List ACE := (0, 1, some (aAl 0)) :: (1, 3, some (aGetR [(336, 49752), (720, 50136)])) :: (4, 1, some (aAl 0)) :: (5, 3, some (aGetR [(336, 452), (720, 836)])) :: (8, 3, some (aGetR [(452, 164312), (836, 164696)])) :: (11, 1, some (aIl 1)) :: (12, 1, some (aIald D)) :: (13, 1, some (aIald D)) :: (14, 1, some (aIs 3)) :: (15, 1, some (aIl 3)) :: (16, 1, some (aAl 0)) :: (17, 3, some (aGetR [(336, 49752), (720, 50136)])) :: (20, 1, some (aAl 0)) :: (21, 3, some (aGetR [(336, 452), (720, 836)])) :: (24, 3, some (aGetR [(452, 164328), (836, 164712)])) :: (27, 1, some (aIl 1)) :: (28, 1, some (aIald D)) :: (29, 1, some (aIald D)) :: (30, 3, some (aCm bNe bEq 41)) :: (33, 1, some (aIl 2)) :: (34, 1, some (aIl 3)) :: (35, 1, some (aBin fShr)) :: (36, 1, some (aIc (1))) :: (37, 1, some (aBin fAnd)) :: (38, 3, some (aIf bEq bNe 43)) :: (41, 1, some (aIc (0))) :: (42, 1, some (aIret)) :: (43, 1, some (aAl 0)) :: (44, 3, some (aGetR [(336, 452), (720, 836)])) :: (47, 3, some (aGetR [(452, 164376), (836, 164760)])) :: (50, 1, some (aIl 1)) :: (51, 1, some (aIald D)) :: (52, 1, some (aAl 0)) :: (53, 3, some (aGetR [(336, 21064), (720, 21448)])) :: (56, 1, some (aIl 3)) :: (57, 1, some (aIald D)) :: (58, 1, some (aBin fMul)) :: (59, 1, some (aIret)) :: []
set_option maxRecDepth 100000 in
set_option maxHeartbeats 4000000 in
theorem snX0_taxEach (d : Nat) (W : List Nat) (c : Nat × Nat) (hc : c = cA ∨ c = cB) : SndAll (d, TYg, c, W) cdX0_taxEach (adX0_taxEach (d, TYg, c, W)) := by
  unfold cdX0_taxEach adX0_taxEach
  refine sn_op sAl ?_
  refine sn_op sGetR ?_
  refine sn_op sAl ?_
  refine sn_op sGetR ?_
  refine sn_op sGetR ?_
  refine sn_op sIl ?_
  refine sn_op sIald ?_
  refine sn_op sIald ?_
  refine sn_op sIs ?_
  refine sn_op sIl ?_
  refine sn_op sAl ?_
  refine sn_op sGetR ?_
  refine sn_op sAl ?_
  refine sn_op sGetR ?_
  refine sn_op sGetR ?_
  refine sn_op sIl ?_
  refine sn_op sIald ?_
  refine sn_op sIald ?_
  refine sn_op sCmNe ?_
  refine sn_op sIl ?_
  refine sn_op sIl ?_
  refine sn_op sIshr ?_
  refine sn_op (sIc (n := 1) (by decide)) ?_
  refine sn_op sIand ?_
  refine sn_op sIfEq ?_
  refine sn_op (sIc (n := 0) (by decide)) ?_
  refine sn_op sIret ?_
  refine sn_op sAl ?_
  refine sn_op sGetR ?_
  refine sn_op sGetR ?_
  refine sn_op sIl ?_
  refine sn_op sIald ?_
  refine sn_op sAl ?_
  refine sn_op sGetR ?_
  refine sn_op sIl ?_
  refine sn_op sIald ?_
  refine sn_op sImul ?_
  refine sn_op sIret ?_
  exact sn_nil
def csX0_taxEach : List AC := [([(2, 336, 0), (0, 0, 0), (0, 0, 0)], 1, [((0, -2147483648, 2147483647), [], []), ((0, 0, 0), [], [])], [], []), ([(2, 720, 0), (0, 0, 0), (0, 0, 0)], 1, [((0, -2147483648, 2147483647), [], []), ((0, 0, 0), [], [])], [], []), ([(2, 336, 0), (0, 0, 39), (0, 0, 0)], 1, [((0, -2147483648, 2147483647), [], []), ((0, 0, 0), [], [])], [], []), ([(2, 720, 0), (0, 0, 39), (0, 0, 0)], 1, [((0, -2147483648, 2147483647), [], []), ((0, 0, 0), [], [])], [], []), ([(2, 336, 0), (0, 0, 0), (0, -2147483648, 2147483647)], 1, [((0, -2147483648, 2147483647), [], []), ((0, 0, 0), [], [])], [], []), ([(2, 720, 0), (0, 0, 0), (0, -2147483648, 2147483647)], 1, [((0, -2147483648, 2147483647), [], []), ((0, 0, 0), [], [])], [], []), ([(2, 336, 0), (0, 0, 39), (0, -2147483648, 2147483647)], 1, [((0, -2147483648, 2147483647), [], []), ((0, 0, 0), [], [])], [], []), ([(2, 720, 0), (0, 0, 39), (0, -2147483648, 2147483647)], 1, [((0, -2147483648, 2147483647), [], []), ((0, 0, 0), [], [])], [], [])]
set_option maxRecDepth 100000 in
set_option maxHeartbeats 4000000 in
theorem sfX0_taxEach (c : Nat × Nat) (hc : c = cA ∨ c = cB) : ∀ ac ∈ csX0_taxEach, SafeC TYg c mX0_taxEach ac := by
  intro ac hac
  simp only [csX0_taxEach, List.mem_cons, List.not_mem_nil, or_false] at hac
  rcases hac with rfl | rfl | rfl | rfl | rfl | rfl | rfl | rfl
  · rcases hc with rfl | rfl
    · exact safe_of (ann := []) (fuel := 600) okX0_taxEach (snX0_taxEach _ _ cA (Or.inl rfl)) (fun q hq => by cases hq) (by decide) (by decide +kernel)
    · exact safe_of (ann := []) (fuel := 600) okX0_taxEach (snX0_taxEach _ _ cB (Or.inr rfl)) (fun q hq => by cases hq) (by decide) (by decide +kernel)
  · rcases hc with rfl | rfl
    · exact safe_of (ann := []) (fuel := 600) okX0_taxEach (snX0_taxEach _ _ cA (Or.inl rfl)) (fun q hq => by cases hq) (by decide) (by decide +kernel)
    · exact safe_of (ann := []) (fuel := 600) okX0_taxEach (snX0_taxEach _ _ cB (Or.inr rfl)) (fun q hq => by cases hq) (by decide) (by decide +kernel)
  · rcases hc with rfl | rfl
    · exact safe_of (ann := []) (fuel := 600) okX0_taxEach (snX0_taxEach _ _ cA (Or.inl rfl)) (fun q hq => by cases hq) (by decide) (by decide +kernel)
    · exact safe_of (ann := []) (fuel := 600) okX0_taxEach (snX0_taxEach _ _ cB (Or.inr rfl)) (fun q hq => by cases hq) (by decide) (by decide +kernel)
  · rcases hc with rfl | rfl
    · exact safe_of (ann := []) (fuel := 600) okX0_taxEach (snX0_taxEach _ _ cA (Or.inl rfl)) (fun q hq => by cases hq) (by decide) (by decide +kernel)
    · exact safe_of (ann := []) (fuel := 600) okX0_taxEach (snX0_taxEach _ _ cB (Or.inr rfl)) (fun q hq => by cases hq) (by decide) (by decide +kernel)
  · rcases hc with rfl | rfl
    · exact safe_of (ann := []) (fuel := 600) okX0_taxEach (snX0_taxEach _ _ cA (Or.inl rfl)) (fun q hq => by cases hq) (by decide) (by decide +kernel)
    · exact safe_of (ann := []) (fuel := 600) okX0_taxEach (snX0_taxEach _ _ cB (Or.inr rfl)) (fun q hq => by cases hq) (by decide) (by decide +kernel)
  · rcases hc with rfl | rfl
    · exact safe_of (ann := []) (fuel := 600) okX0_taxEach (snX0_taxEach _ _ cA (Or.inl rfl)) (fun q hq => by cases hq) (by decide) (by decide +kernel)
    · exact safe_of (ann := []) (fuel := 600) okX0_taxEach (snX0_taxEach _ _ cB (Or.inr rfl)) (fun q hq => by cases hq) (by decide) (by decide +kernel)
  · rcases hc with rfl | rfl
    · exact safe_of (ann := []) (fuel := 600) okX0_taxEach (snX0_taxEach _ _ cA (Or.inl rfl)) (fun q hq => by cases hq) (by decide) (by decide +kernel)
    · exact safe_of (ann := []) (fuel := 600) okX0_taxEach (snX0_taxEach _ _ cB (Or.inr rfl)) (fun q hq => by cases hq) (by decide) (by decide +kernel)
  · rcases hc with rfl | rfl
    · exact safe_of (ann := []) (fuel := 600) okX0_taxEach (snX0_taxEach _ _ cA (Or.inl rfl)) (fun q hq => by cases hq) (by decide) (by decide +kernel)
    · exact safe_of (ann := []) (fuel := 600) okX0_taxEach (snX0_taxEach _ _ cB (Or.inr rfl)) (fun q hq => by cases hq) (by decide) (by decide +kernel)
set_option maxRecDepth 100000 in
def adX0_taxOf (D : KK) : List ACE := (0, 1, some (aAl 0)) :: (1, 3, some (aGetR [(336, 452), (720, 836)])) :: (4, 3, some (aGetR [(452, 164344), (836, 164728)])) :: (7, 1, some (aIl 1)) :: (8, 1, some (aIald D)) :: (9, 1, some (aAl 0)) :: (10, 1, some (aIl 1)) :: (11, 1, some (aIl 2)) :: (12, 3, some (aCall D 0 3 4 csX0_taxEach)) :: (15, 1, some (aBin fMul)) :: (16, 1, some (aIret)) :: []
set_option maxRecDepth 100000 in
set_option maxHeartbeats 4000000 in
theorem snX0_taxOf (d : Nat) (W : List Nat) (c : Nat × Nat) (hc : c = cA ∨ c = cB) : SndAll (d, TYg, c, W) cdX0_taxOf (adX0_taxOf (d, TYg, c, W)) := by
  unfold cdX0_taxOf adX0_taxOf
  refine sn_op sAl ?_
  refine sn_op sGetR ?_
  refine sn_op sGetR ?_
  refine sn_op sIl ?_
  refine sn_op sIald ?_
  refine sn_op sAl ?_
  refine sn_op sIl ?_
  refine sn_op sIl ?_
  refine sn_op (sCI (sfX0_taxEach c hc) (by decide) (by decide +kernel)) ?_
  refine sn_op sImul ?_
  refine sn_op sIret ?_
  exact sn_nil
def csX0_taxOf : List AC := [([(2, 336, 0), (0, 0, 0), (0, 0, 0)], 2, [((0, -2147483648, 2147483647), [], [])], [], []), ([(2, 720, 0), (0, 0, 0), (0, 0, 0)], 2, [((0, -2147483648, 2147483647), [], [])], [], []), ([(2, 336, 0), (0, 0, 39), (0, 0, 0)], 2, [((0, -2147483648, 2147483647), [], [])], [], []), ([(2, 720, 0), (0, 0, 39), (0, 0, 0)], 2, [((0, -2147483648, 2147483647), [], [])], [], []), ([(2, 336, 0), (0, 0, 0), (0, -2147483648, 2147483647)], 2, [((0, -2147483648, 2147483647), [], [])], [], []), ([(2, 720, 0), (0, 0, 0), (0, -2147483648, 2147483647)], 2, [((0, -2147483648, 2147483647), [], [])], [], []), ([(2, 336, 0), (0, 0, 39), (0, -2147483648, 2147483647)], 2, [((0, -2147483648, 2147483647), [], [])], [], []), ([(2, 720, 0), (0, 0, 39), (0, -2147483648, 2147483647)], 2, [((0, -2147483648, 2147483647), [], [])], [], [])]
set_option maxRecDepth 100000 in
set_option maxHeartbeats 4000000 in
theorem sfX0_taxOf (c : Nat × Nat) (hc : c = cA ∨ c = cB) : ∀ ac ∈ csX0_taxOf, SafeC TYg c mX0_taxOf ac := by
  intro ac hac
  simp only [csX0_taxOf, List.mem_cons, List.not_mem_nil, or_false] at hac
  rcases hac with rfl | rfl | rfl | rfl | rfl | rfl | rfl | rfl
  · rcases hc with rfl | rfl
    · exact safe_of (ann := []) (fuel := 600) okX0_taxOf (snX0_taxOf _ _ cA (Or.inl rfl)) (fun q hq => by cases hq) (by decide) (by decide +kernel)
    · exact safe_of (ann := []) (fuel := 600) okX0_taxOf (snX0_taxOf _ _ cB (Or.inr rfl)) (fun q hq => by cases hq) (by decide) (by decide +kernel)
  · rcases hc with rfl | rfl
    · exact safe_of (ann := []) (fuel := 600) okX0_taxOf (snX0_taxOf _ _ cA (Or.inl rfl)) (fun q hq => by cases hq) (by decide) (by decide +kernel)
    · exact safe_of (ann := []) (fuel := 600) okX0_taxOf (snX0_taxOf _ _ cB (Or.inr rfl)) (fun q hq => by cases hq) (by decide) (by decide +kernel)
  · rcases hc with rfl | rfl
    · exact safe_of (ann := []) (fuel := 600) okX0_taxOf (snX0_taxOf _ _ cA (Or.inl rfl)) (fun q hq => by cases hq) (by decide) (by decide +kernel)
    · exact safe_of (ann := []) (fuel := 600) okX0_taxOf (snX0_taxOf _ _ cB (Or.inr rfl)) (fun q hq => by cases hq) (by decide) (by decide +kernel)
  · rcases hc with rfl | rfl
    · exact safe_of (ann := []) (fuel := 600) okX0_taxOf (snX0_taxOf _ _ cA (Or.inl rfl)) (fun q hq => by cases hq) (by decide) (by decide +kernel)
    · exact safe_of (ann := []) (fuel := 600) okX0_taxOf (snX0_taxOf _ _ cB (Or.inr rfl)) (fun q hq => by cases hq) (by decide) (by decide +kernel)
  · rcases hc with rfl | rfl
    · exact safe_of (ann := []) (fuel := 600) okX0_taxOf (snX0_taxOf _ _ cA (Or.inl rfl)) (fun q hq => by cases hq) (by decide) (by decide +kernel)
    · exact safe_of (ann := []) (fuel := 600) okX0_taxOf (snX0_taxOf _ _ cB (Or.inr rfl)) (fun q hq => by cases hq) (by decide) (by decide +kernel)
  · rcases hc with rfl | rfl
    · exact safe_of (ann := []) (fuel := 600) okX0_taxOf (snX0_taxOf _ _ cA (Or.inl rfl)) (fun q hq => by cases hq) (by decide) (by decide +kernel)
    · exact safe_of (ann := []) (fuel := 600) okX0_taxOf (snX0_taxOf _ _ cB (Or.inr rfl)) (fun q hq => by cases hq) (by decide) (by decide +kernel)
  · rcases hc with rfl | rfl
    · exact safe_of (ann := []) (fuel := 600) okX0_taxOf (snX0_taxOf _ _ cA (Or.inl rfl)) (fun q hq => by cases hq) (by decide) (by decide +kernel)
    · exact safe_of (ann := []) (fuel := 600) okX0_taxOf (snX0_taxOf _ _ cB (Or.inr rfl)) (fun q hq => by cases hq) (by decide) (by decide +kernel)
  · rcases hc with rfl | rfl
    · exact safe_of (ann := []) (fuel := 600) okX0_taxOf (snX0_taxOf _ _ cA (Or.inl rfl)) (fun q hq => by cases hq) (by decide) (by decide +kernel)
    · exact safe_of (ann := []) (fuel := 600) okX0_taxOf (snX0_taxOf _ _ cB (Or.inr rfl)) (fun q hq => by cases hq) (by decide) (by decide +kernel)
set_option maxRecDepth 100000 in
def adX0_tally (D : KK) : List ACE := (0, 1, some (aIc (0))) :: (1, 1, some (aIs 2)) :: (2, 0, none) :: (2, 1, some (aIl 2)) :: (3, 1, some (aAl 0)) :: (4, 3, some (aGetR [(336, 418), (720, 802)])) :: (7, 3, some (aGetI D 2 1)) :: (10, 3, some (aCm (fun C x y => bLe C y x) bLt 26)) :: (13, 1, some (aAl 0)) :: (14, 3, some (aGetR [(336, 49864), (720, 50248)])) :: (17, 1, some (aIl 2)) :: (18, 1, some (aIc (0))) :: (19, 1, some (aIast D)) :: (20, 3, some (aInc 2 (1))) :: (23, 3, some (aGoto 2)) :: (26, 1, some (aIc (0))) :: (27, 1, some (aIs 2)) :: (28, 0, none) :: (28, 1, some (aIl 2)) :: (29, 1, some (aAl 0)) :: (30, 3, some (aGetR [(336, 452), (720, 836)])) :: (33, 3, some (aGetI D 4 7)) :: (36, 3, some (aCm (fun C x y => bLe C y x) bLt 88)) :: (39, 1, some (aAl 0)) :: (40, 1, some (aIl 2)) :: (41, 1, some (aIl 1)) :: (42, 3, some (aCall D 0 3 3 csX0_taxOf)) :: (45, 1, some (aIs 3)) :: (46, 1, some (aAl 0)) :: (47, 3, some (aGetR [(336, 49864), (720, 50248)])) :: (50, 1, some (aAl 0)) :: (51, 3, some (aGetR [(336, 452), (720, 836)])) :: (54, 3, some (aGetR [(452, 164312), (836, 164696)])) :: (57, 1, some (aIl 2)) :: (58, 1, some (aIald D)) :: (59, 1, some (aDup2)) :: (60, 1, some (aIald D)) :: (61, 1, some (aIl 3)) :: (62, 1, some (aBin fAdd)) :: (63, 1, some (aIast D)) :: (64, 1, some (aAl 0)) :: (65, 3, some (aGetR [(336, 49864), (720, 50248)])) :: (68, 1, some (aAl 0)) :: (69, 3, some (aGetR [(336, 452), (720, 836)])) :: (72, 3, some (aGetR [(452, 164328), (836, 164712)])) :: (75, 1, some (aIl 2)) :: (76, 1, some (aIald D)) :: (77, 1, some (aDup2)) :: (78, 1, some (aIald D)) :: (79, 1, some (aIl 3)) :: (80, 1, some (aBin fSub)) :: (81, 1, some (aIast D)) :: (82, 3, some (aInc 2 (1))) :: (85, 3, some (aGoto 28)) :: (88, 1, some (aVret)) :: []
set_option maxRecDepth 100000 in
set_option maxHeartbeats 4000000 in
theorem snX0_tally (d : Nat) (W : List Nat) (c : Nat × Nat) (hc : c = cA ∨ c = cB) : SndAll (d, TYg, c, W) cdX0_tally (adX0_tally (d, TYg, c, W)) := by
  unfold cdX0_tally adX0_tally
  refine sn_op (sIc (n := 0) (by decide)) ?_
  refine sn_op sIs ?_
  refine sn_st ?_
  refine sn_op sIl ?_
  refine sn_op sAl ?_
  refine sn_op sGetR ?_
  refine sn_op sGetI ?_
  refine sn_op sCmGe ?_
  refine sn_op sAl ?_
  refine sn_op sGetR ?_
  refine sn_op sIl ?_
  refine sn_op (sIc (n := 0) (by decide)) ?_
  refine sn_op sIast ?_
  refine sn_op (sInc (n := 1) (by decide)) ?_
  refine sn_op sGoto ?_
  refine sn_op (sIc (n := 0) (by decide)) ?_
  refine sn_op sIs ?_
  refine sn_st ?_
  refine sn_op sIl ?_
  refine sn_op sAl ?_
  refine sn_op sGetR ?_
  refine sn_op sGetI ?_
  refine sn_op sCmGe ?_
  refine sn_op sAl ?_
  refine sn_op sIl ?_
  refine sn_op sIl ?_
  refine sn_op (sCI (sfX0_taxOf c hc) (by decide) (by decide +kernel)) ?_
  refine sn_op sIs ?_
  refine sn_op sAl ?_
  refine sn_op sGetR ?_
  refine sn_op sAl ?_
  refine sn_op sGetR ?_
  refine sn_op sGetR ?_
  refine sn_op sIl ?_
  refine sn_op sIald ?_
  refine sn_op sDup2 ?_
  refine sn_op sIald ?_
  refine sn_op sIl ?_
  refine sn_op sIadd ?_
  refine sn_op sIast ?_
  refine sn_op sAl ?_
  refine sn_op sGetR ?_
  refine sn_op sAl ?_
  refine sn_op sGetR ?_
  refine sn_op sGetR ?_
  refine sn_op sIl ?_
  refine sn_op sIald ?_
  refine sn_op sDup2 ?_
  refine sn_op sIald ?_
  refine sn_op sIl ?_
  refine sn_op sIsub ?_
  refine sn_op sIast ?_
  refine sn_op (sInc (n := 1) (by decide)) ?_
  refine sn_op sGoto ?_
  refine sn_op sVret ?_
  exact sn_nil
def csX0_tally : List AC := [([(2, 336, 0), (0, 0, 0)], 3, [((9, 0, 0), [], [])], [49864], []), ([(2, 720, 0), (0, 0, 0)], 3, [((9, 0, 0), [], [])], [50248], []), ([(2, 336, 0), (0, -2147483648, 2147483647)], 3, [((9, 0, 0), [], [])], [49864], []), ([(2, 720, 0), (0, -2147483648, 2147483647)], 3, [((9, 0, 0), [], [])], [50248], [])]
set_option maxRecDepth 100000 in
set_option maxHeartbeats 4000000 in
theorem sfX0_tally (c : Nat × Nat) (hc : c = cA ∨ c = cB) : ∀ ac ∈ csX0_tally, SafeC TYg c mX0_tally ac := by
  intro ac hac
  simp only [csX0_tally, List.mem_cons, List.not_mem_nil, or_false] at hac
  rcases hac with rfl | rfl | rfl | rfl
  · rcases hc with rfl | rfl
    · exact safe_of (ann := [(2, [(2, 336, 0), (0, 0, 0), (0, 0, 12), (4, 0, 0)], [(3, 0, 0, 2), (0, 2, 0, 4294967296)]), (28, [(2, 336, 0), (0, 0, 0), (0, 0, 40), (4, 0, 0)], [(3, 0, 0, 1), (0, 2, 0, 4294967296)])]) (fuel := 600) okX0_tally (snX0_tally _ _ cA (Or.inl rfl)) (List.forall_mem_cons.mpr ⟨⟨_, _, rfl⟩, List.forall_mem_cons.mpr ⟨⟨_, _, rfl⟩, (fun q hq => by cases hq)⟩⟩) (by decide) (by decide +kernel)
    · exact safe_of (ann := [(2, [(2, 336, 0), (0, 0, 0), (0, 0, 12), (4, 0, 0)], [(3, 0, 0, 2), (0, 2, 0, 4294967296)]), (28, [(2, 336, 0), (0, 0, 0), (0, 0, 40), (4, 0, 0)], [(3, 0, 0, 1), (0, 2, 0, 4294967296)])]) (fuel := 600) okX0_tally (snX0_tally _ _ cB (Or.inr rfl)) (List.forall_mem_cons.mpr ⟨⟨_, _, rfl⟩, List.forall_mem_cons.mpr ⟨⟨_, _, rfl⟩, (fun q hq => by cases hq)⟩⟩) (by decide) (by decide +kernel)
  · rcases hc with rfl | rfl
    · exact safe_of (ann := [(2, [(2, 720, 0), (0, 0, 0), (0, 0, 12), (4, 0, 0)], [(3, 0, 0, 2), (0, 2, 0, 4294967296)]), (28, [(2, 720, 0), (0, 0, 0), (0, 0, 40), (4, 0, 0)], [(3, 0, 0, 1), (0, 2, 0, 4294967296)])]) (fuel := 600) okX0_tally (snX0_tally _ _ cA (Or.inl rfl)) (List.forall_mem_cons.mpr ⟨⟨_, _, rfl⟩, List.forall_mem_cons.mpr ⟨⟨_, _, rfl⟩, (fun q hq => by cases hq)⟩⟩) (by decide) (by decide +kernel)
    · exact safe_of (ann := [(2, [(2, 720, 0), (0, 0, 0), (0, 0, 12), (4, 0, 0)], [(3, 0, 0, 2), (0, 2, 0, 4294967296)]), (28, [(2, 720, 0), (0, 0, 0), (0, 0, 40), (4, 0, 0)], [(3, 0, 0, 1), (0, 2, 0, 4294967296)])]) (fuel := 600) okX0_tally (snX0_tally _ _ cB (Or.inr rfl)) (List.forall_mem_cons.mpr ⟨⟨_, _, rfl⟩, List.forall_mem_cons.mpr ⟨⟨_, _, rfl⟩, (fun q hq => by cases hq)⟩⟩) (by decide) (by decide +kernel)
  · rcases hc with rfl | rfl
    · exact safe_of (ann := [(2, [(2, 336, 0), (0, -2147483648, 2147483647), (0, 0, 12), (4, 0, 0)], [(3, 0, 0, 2), (0, 2, 0, 4294967296)]), (28, [(2, 336, 0), (0, -2147483648, 2147483647), (0, 0, 40), (4, 0, 0)], [(3, 0, 0, 1), (0, 2, 0, 4294967296)])]) (fuel := 600) okX0_tally (snX0_tally _ _ cA (Or.inl rfl)) (List.forall_mem_cons.mpr ⟨⟨_, _, rfl⟩, List.forall_mem_cons.mpr ⟨⟨_, _, rfl⟩, (fun q hq => by cases hq)⟩⟩) (by decide) (by decide +kernel)
    · exact safe_of (ann := [(2, [(2, 336, 0), (0, -2147483648, 2147483647), (0, 0, 12), (4, 0, 0)], [(3, 0, 0, 2), (0, 2, 0, 4294967296)]), (28, [(2, 336, 0), (0, -2147483648, 2147483647), (0, 0, 40), (4, 0, 0)], [(3, 0, 0, 1), (0, 2, 0, 4294967296)])]) (fuel := 600) okX0_tally (snX0_tally _ _ cB (Or.inr rfl)) (List.forall_mem_cons.mpr ⟨⟨_, _, rfl⟩, List.forall_mem_cons.mpr ⟨⟨_, _, rfl⟩, (fun q hq => by cases hq)⟩⟩) (by decide) (by decide +kernel)
  · rcases hc with rfl | rfl
    · exact safe_of (ann := [(2, [(2, 720, 0), (0, -2147483648, 2147483647), (0, 0, 12), (4, 0, 0)], [(3, 0, 0, 2), (0, 2, 0, 4294967296)]), (28, [(2, 720, 0), (0, -2147483648, 2147483647), (0, 0, 40), (4, 0, 0)], [(3, 0, 0, 1), (0, 2, 0, 4294967296)])]) (fuel := 600) okX0_tally (snX0_tally _ _ cA (Or.inl rfl)) (List.forall_mem_cons.mpr ⟨⟨_, _, rfl⟩, List.forall_mem_cons.mpr ⟨⟨_, _, rfl⟩, (fun q hq => by cases hq)⟩⟩) (by decide) (by decide +kernel)
    · exact safe_of (ann := [(2, [(2, 720, 0), (0, -2147483648, 2147483647), (0, 0, 12), (4, 0, 0)], [(3, 0, 0, 2), (0, 2, 0, 4294967296)]), (28, [(2, 720, 0), (0, -2147483648, 2147483647), (0, 0, 40), (4, 0, 0)], [(3, 0, 0, 1), (0, 2, 0, 4294967296)])]) (fuel := 600) okX0_tally (snX0_tally _ _ cB (Or.inr rfl)) (List.forall_mem_cons.mpr ⟨⟨_, _, rfl⟩, List.forall_mem_cons.mpr ⟨⟨_, _, rfl⟩, (fun q hq => by cases hq)⟩⟩) (by decide) (by decide +kernel)
set_option maxRecDepth 100000 in
def adX0_missing (D : KK) : List ACE := (0, 1, some (aAl 0)) :: (1, 1, some (aIl 1)) :: (2, 3, some (aCall D 0 2 4 csX0_tally)) :: (5, 1, some (aIc (0))) :: (6, 1, some (aIs 2)) :: (7, 1, some (aIc (0))) :: (8, 1, some (aIs 3)) :: (9, 0, none) :: (9, 1, some (aIl 3)) :: (10, 1, some (aAl 0)) :: (11, 3, some (aGetR [(336, 418), (720, 802)])) :: (14, 3, some (aGetI D 2 1)) :: (17, 3, some (aCm (fun C x y => bLe C y x) bLt 54)) :: (20, 1, some (aIl 2)) :: (21, 1, some (aAl 0)) :: (22, 3, some (aGetR [(336, 49864), (720, 50248)])) :: (25, 1, some (aIl 3)) :: (26, 1, some (aIald D)) :: (27, 2, some (aIc (100))) :: (29, 1, some (aAl 0)) :: (30, 3, some (aGetR [(336, 49816), (720, 50200)])) :: (33, 1, some (aIl 3)) :: (34, 1, some (aIald D)) :: (35, 1, some (aBin fMul)) :: (36, 3, some (aCm bLe (fun C x y => bLt C y x) 45)) :: (39, 1, some (aIc (1))) :: (40, 1, some (aIl 3)) :: (41, 1, some (aBin fTop)) :: (42, 3, some (aGoto 46)) :: (45, 1, some (aIc (0))) :: (46, 1, some (aBin fTop)) :: (47, 1, some (aIs 2)) :: (48, 3, some (aInc 3 (1))) :: (51, 3, some (aGoto 9)) :: (54, 1, some (aIl 2)) :: (55, 1, some (aIret)) :: []
set_option maxRecDepth 100000 in
set_option maxHeartbeats 4000000 in
theorem snX0_missing (d : Nat) (W : List Nat) (c : Nat × Nat) (hc : c = cA ∨ c = cB) : SndAll (d, TYg, c, W) cdX0_missing (adX0_missing (d, TYg, c, W)) := by
  unfold cdX0_missing adX0_missing
  refine sn_op sAl ?_
  refine sn_op sIl ?_
  refine sn_op (sCV (sfX0_tally c hc) (by decide) (by decide +kernel)) ?_
  refine sn_op (sIc (n := 0) (by decide)) ?_
  refine sn_op sIs ?_
  refine sn_op (sIc (n := 0) (by decide)) ?_
  refine sn_op sIs ?_
  refine sn_st ?_
  refine sn_op sIl ?_
  refine sn_op sAl ?_
  refine sn_op sGetR ?_
  refine sn_op sGetI ?_
  refine sn_op sCmGe ?_
  refine sn_op sIl ?_
  refine sn_op sAl ?_
  refine sn_op sGetR ?_
  refine sn_op sIl ?_
  refine sn_op sIald ?_
  refine sn_op (sIc (n := 100) (by decide)) ?_
  refine sn_op sAl ?_
  refine sn_op sGetR ?_
  refine sn_op sIl ?_
  refine sn_op sIald ?_
  refine sn_op sImul ?_
  refine sn_op sCmLe ?_
  refine sn_op (sIc (n := 1) (by decide)) ?_
  refine sn_op sIl ?_
  refine sn_op sIshl ?_
  refine sn_op sGoto ?_
  refine sn_op (sIc (n := 0) (by decide)) ?_
  refine sn_op sIor ?_
  refine sn_op sIs ?_
  refine sn_op (sInc (n := 1) (by decide)) ?_
  refine sn_op sGoto ?_
  refine sn_op sIl ?_
  refine sn_op sIret ?_
  exact sn_nil
def csX0_missing : List AC := [([(2, 336, 0), (0, 0, 0)], 4, [((0, -2147483648, 2147483647), [], [])], [49864], []), ([(2, 720, 0), (0, 0, 0)], 4, [((0, -2147483648, 2147483647), [], [])], [50248], []), ([(2, 336, 0), (0, -2147483648, 2147483647)], 4, [((0, -2147483648, 2147483647), [], [])], [49864], []), ([(2, 720, 0), (0, -2147483648, 2147483647)], 4, [((0, -2147483648, 2147483647), [], [])], [50248], [])]
set_option maxRecDepth 100000 in
set_option maxHeartbeats 4000000 in
theorem sfX0_missing (c : Nat × Nat) (hc : c = cA ∨ c = cB) : ∀ ac ∈ csX0_missing, SafeC TYg c mX0_missing ac := by
  intro ac hac
  simp only [csX0_missing, List.mem_cons, List.not_mem_nil, or_false] at hac
  rcases hac with rfl | rfl | rfl | rfl
  · rcases hc with rfl | rfl
    · exact safe_of (ann := [(9, [(2, 336, 0), (0, 0, 0), (0, -2147483648, 2147483647), (0, 0, 12)], [(0, 3, 0, 4294967296)])]) (fuel := 600) okX0_missing (snX0_missing _ _ cA (Or.inl rfl)) (List.forall_mem_cons.mpr ⟨⟨_, _, rfl⟩, (fun q hq => by cases hq)⟩) (by decide) (by decide +kernel)
    · exact safe_of (ann := [(9, [(2, 336, 0), (0, 0, 0), (0, -2147483648, 2147483647), (0, 0, 12)], [(0, 3, 0, 4294967296)])]) (fuel := 600) okX0_missing (snX0_missing _ _ cB (Or.inr rfl)) (List.forall_mem_cons.mpr ⟨⟨_, _, rfl⟩, (fun q hq => by cases hq)⟩) (by decide) (by decide +kernel)
  · rcases hc with rfl | rfl
    · exact safe_of (ann := [(9, [(2, 720, 0), (0, 0, 0), (0, -2147483648, 2147483647), (0, 0, 12)], [(0, 3, 0, 4294967296)])]) (fuel := 600) okX0_missing (snX0_missing _ _ cA (Or.inl rfl)) (List.forall_mem_cons.mpr ⟨⟨_, _, rfl⟩, (fun q hq => by cases hq)⟩) (by decide) (by decide +kernel)
    · exact safe_of (ann := [(9, [(2, 720, 0), (0, 0, 0), (0, -2147483648, 2147483647), (0, 0, 12)], [(0, 3, 0, 4294967296)])]) (fuel := 600) okX0_missing (snX0_missing _ _ cB (Or.inr rfl)) (List.forall_mem_cons.mpr ⟨⟨_, _, rfl⟩, (fun q hq => by cases hq)⟩) (by decide) (by decide +kernel)
  · rcases hc with rfl | rfl
    · exact safe_of (ann := [(9, [(2, 336, 0), (0, -2147483648, 2147483647), (0, -2147483648, 2147483647), (0, 0, 12)], [(0, 3, 0, 4294967296)])]) (fuel := 600) okX0_missing (snX0_missing _ _ cA (Or.inl rfl)) (List.forall_mem_cons.mpr ⟨⟨_, _, rfl⟩, (fun q hq => by cases hq)⟩) (by decide) (by decide +kernel)
    · exact safe_of (ann := [(9, [(2, 336, 0), (0, -2147483648, 2147483647), (0, -2147483648, 2147483647), (0, 0, 12)], [(0, 3, 0, 4294967296)])]) (fuel := 600) okX0_missing (snX0_missing _ _ cB (Or.inr rfl)) (List.forall_mem_cons.mpr ⟨⟨_, _, rfl⟩, (fun q hq => by cases hq)⟩) (by decide) (by decide +kernel)
  · rcases hc with rfl | rfl
    · exact safe_of (ann := [(9, [(2, 720, 0), (0, -2147483648, 2147483647), (0, -2147483648, 2147483647), (0, 0, 12)], [(0, 3, 0, 4294967296)])]) (fuel := 600) okX0_missing (snX0_missing _ _ cA (Or.inl rfl)) (List.forall_mem_cons.mpr ⟨⟨_, _, rfl⟩, (fun q hq => by cases hq)⟩) (by decide) (by decide +kernel)
    · exact safe_of (ann := [(9, [(2, 720, 0), (0, -2147483648, 2147483647), (0, -2147483648, 2147483647), (0, 0, 12)], [(0, 3, 0, 4294967296)])]) (fuel := 600) okX0_missing (snX0_missing _ _ cB (Or.inr rfl)) (List.forall_mem_cons.mpr ⟨⟨_, _, rfl⟩, (fun q hq => by cases hq)⟩) (by decide) (by decide +kernel)
set_option maxRecDepth 100000 in
def adX0_owed (D : KK) : List ACE := (0, 1, some (aAl 0)) :: (1, 1, some (aIl 2)) :: (2, 3, some (aCall D 0 2 4 csX0_tally)) :: (5, 1, some (aAl 0)) :: (6, 3, some (aGetR [(336, 49864), (720, 50248)])) :: (9, 1, some (aIl 1)) :: (10, 1, some (aIald D)) :: (11, 1, some (aIret)) :: []
set_option maxRecDepth 100000 in
set_option maxHeartbeats 4000000 in
theorem snX0_owed (d : Nat) (W : List Nat) (c : Nat × Nat) (hc : c = cA ∨ c = cB) : SndAll (d, TYg, c, W) cdX0_owed (adX0_owed (d, TYg, c, W)) := by
  unfold cdX0_owed adX0_owed
  refine sn_op sAl ?_
  refine sn_op sIl ?_
  refine sn_op (sCV (sfX0_tally c hc) (by decide) (by decide +kernel)) ?_
  refine sn_op sAl ?_
  refine sn_op sGetR ?_
  refine sn_op sIl ?_
  refine sn_op sIald ?_
  refine sn_op sIret ?_
  exact sn_nil
def csX0_owed : List AC := [([(2, 336, 0), (0, 0, 11), (0, -2147483648, 2147483647)], 4, [((0, -2147483648, 2147483647), [], [])], [49864], []), ([(2, 720, 0), (0, 0, 11), (0, -2147483648, 2147483647)], 4, [((0, -2147483648, 2147483647), [], [])], [50248], [])]
set_option maxRecDepth 100000 in
set_option maxHeartbeats 4000000 in
theorem sfX0_owed (c : Nat × Nat) (hc : c = cA ∨ c = cB) : ∀ ac ∈ csX0_owed, SafeC TYg c mX0_owed ac := by
  intro ac hac
  simp only [csX0_owed, List.mem_cons, List.not_mem_nil, or_false] at hac
  rcases hac with rfl | rfl
  · rcases hc with rfl | rfl
    · exact safe_of (ann := []) (fuel := 600) okX0_owed (snX0_owed _ _ cA (Or.inl rfl)) (fun q hq => by cases hq) (by decide) (by decide +kernel)
    · exact safe_of (ann := []) (fuel := 600) okX0_owed (snX0_owed _ _ cB (Or.inr rfl)) (fun q hq => by cases hq) (by decide) (by decide +kernel)
  · rcases hc with rfl | rfl
    · exact safe_of (ann := []) (fuel := 600) okX0_owed (snX0_owed _ _ cA (Or.inl rfl)) (fun q hq => by cases hq) (by decide) (by decide +kernel)
    · exact safe_of (ann := []) (fuel := 600) okX0_owed (snX0_owed _ _ cB (Or.inr rfl)) (fun q hq => by cases hq) (by decide) (by decide +kernel)
set_option maxRecDepth 100000 in
def adX0_partners (D : KK) : List ACE := (0, 1, some (aIc (0))) :: (1, 1, some (aIs 2)) :: (2, 1, some (aIc (0))) :: (3, 1, some (aIs 3)) :: (4, 0, none) :: (4, 1, some (aIl 3)) :: (5, 1, some (aAl 0)) :: (6, 3, some (aGetR [(336, 418), (720, 802)])) :: (9, 3, some (aGetI D 2 1)) :: (12, 3, some (aCm (fun C x y => bLe C y x) bLt 47)) :: (15, 1, some (aIl 3)) :: (16, 1, some (aIl 1)) :: (17, 3, some (aCm bEq bNe 41)) :: (20, 1, some (aAl 0)) :: (21, 3, some (aGetR [(336, 49848), (720, 50232)])) :: (24, 1, some (aIl 3)) :: (25, 1, some (aIald D)) :: (26, 1, some (aAl 0)) :: (27, 3, some (aGetR [(336, 49848), (720, 50232)])) :: (30, 1, some (aIl 1)) :: (31, 1, some (aIald D)) :: (32, 3, some (aCm bNe bEq 41)) :: (35, 1, some (aIl 2)) :: (36, 1, some (aIc (1))) :: (37, 1, some (aIl 3)) :: (38, 1, some (aBin fTop)) :: (39, 1, some (aBin fTop)) :: (40, 1, some (aIs 2)) :: (41, 3, some (aInc 3 (1))) :: (44, 3, some (aGoto 4)) :: (47, 1, some (aIl 2)) :: (48, 1, some (aIret)) :: []
set_option maxRecDepth 100000 in
set_option maxHeartbeats 4000000 in
theorem snX0_partners (d : Nat) (W : List Nat) (c : Nat × Nat) (hc : c = cA ∨ c = cB) : SndAll (d, TYg, c, W) cdX0_partners (adX0_partners (d, TYg, c, W)) := by
  unfold cdX0_partners adX0_partners
  refine sn_op (sIc (n := 0) (by decide)) ?_
  refine sn_op sIs ?_
  refine sn_op (sIc (n := 0) (by decide)) ?_
  refine sn_op sIs ?_
  refine sn_st ?_
  refine sn_op sIl ?_
  refine sn_op sAl ?_
  refine sn_op sGetR ?_
  refine sn_op sGetI ?_
  refine sn_op sCmGe ?_
  refine sn_op sIl ?_
  refine sn_op sIl ?_
  refine sn_op sCmEq ?_
  refine sn_op sAl ?_
  refine sn_op sGetR ?_
  refine sn_op sIl ?_
  refine sn_op sIald ?_
  refine sn_op sAl ?_
  refine sn_op sGetR ?_
  refine sn_op sIl ?_
  refine sn_op sIald ?_
  refine sn_op sCmNe ?_
  refine sn_op sIl ?_
  refine sn_op (sIc (n := 1) (by decide)) ?_
  refine sn_op sIl ?_
  refine sn_op sIshl ?_
  refine sn_op sIor ?_
  refine sn_op sIs ?_
  refine sn_op (sInc (n := 1) (by decide)) ?_
  refine sn_op sGoto ?_
  refine sn_op sIl ?_
  refine sn_op sIret ?_
  exact sn_nil
def csX0_partners : List AC := [([(2, 336, 0), (0, 0, 0)], 1, [((0, -2147483648, 2147483647), [], [])], [], []), ([(2, 720, 0), (0, 0, 0)], 1, [((0, -2147483648, 2147483647), [], [])], [], []), ([(2, 336, 0), (0, 0, 11)], 1, [((0, -2147483648, 2147483647), [], [])], [], []), ([(2, 720, 0), (0, 0, 11)], 1, [((0, -2147483648, 2147483647), [], [])], [], [])]
set_option maxRecDepth 100000 in
set_option maxHeartbeats 4000000 in
theorem sfX0_partners (c : Nat × Nat) (hc : c = cA ∨ c = cB) : ∀ ac ∈ csX0_partners, SafeC TYg c mX0_partners ac := by
  intro ac hac
  simp only [csX0_partners, List.mem_cons, List.not_mem_nil, or_false] at hac
  rcases hac with rfl | rfl | rfl | rfl
  · rcases hc with rfl | rfl
    · exact safe_of (ann := [(4, [(2, 336, 0), (0, 0, 0), (0, -2147483648, 2147483647), (0, 0, 12)], [(0, 3, 0, 4294967296)])]) (fuel := 600) okX0_partners (snX0_partners _ _ cA (Or.inl rfl)) (List.forall_mem_cons.mpr ⟨⟨_, _, rfl⟩, (fun q hq => by cases hq)⟩) (by decide) (by decide +kernel)
    · exact safe_of (ann := [(4, [(2, 336, 0), (0, 0, 0), (0, -2147483648, 2147483647), (0, 0, 12)], [(0, 3, 0, 4294967296)])]) (fuel := 600) okX0_partners (snX0_partners _ _ cB (Or.inr rfl)) (List.forall_mem_cons.mpr ⟨⟨_, _, rfl⟩, (fun q hq => by cases hq)⟩) (by decide) (by decide +kernel)
  · rcases hc with rfl | rfl
    · exact safe_of (ann := [(4, [(2, 720, 0), (0, 0, 0), (0, -2147483648, 2147483647), (0, 0, 12)], [(0, 3, 0, 4294967296)])]) (fuel := 600) okX0_partners (snX0_partners _ _ cA (Or.inl rfl)) (List.forall_mem_cons.mpr ⟨⟨_, _, rfl⟩, (fun q hq => by cases hq)⟩) (by decide) (by decide +kernel)
    · exact safe_of (ann := [(4, [(2, 720, 0), (0, 0, 0), (0, -2147483648, 2147483647), (0, 0, 12)], [(0, 3, 0, 4294967296)])]) (fuel := 600) okX0_partners (snX0_partners _ _ cB (Or.inr rfl)) (List.forall_mem_cons.mpr ⟨⟨_, _, rfl⟩, (fun q hq => by cases hq)⟩) (by decide) (by decide +kernel)
  · rcases hc with rfl | rfl
    · exact safe_of (ann := [(4, [(2, 336, 0), (0, 0, 11), (0, -2147483648, 2147483647), (0, 0, 12)], [(0, 3, 0, 4294967296)])]) (fuel := 600) okX0_partners (snX0_partners _ _ cA (Or.inl rfl)) (List.forall_mem_cons.mpr ⟨⟨_, _, rfl⟩, (fun q hq => by cases hq)⟩) (by decide) (by decide +kernel)
    · exact safe_of (ann := [(4, [(2, 336, 0), (0, 0, 11), (0, -2147483648, 2147483647), (0, 0, 12)], [(0, 3, 0, 4294967296)])]) (fuel := 600) okX0_partners (snX0_partners _ _ cB (Or.inr rfl)) (List.forall_mem_cons.mpr ⟨⟨_, _, rfl⟩, (fun q hq => by cases hq)⟩) (by decide) (by decide +kernel)
  · rcases hc with rfl | rfl
    · exact safe_of (ann := [(4, [(2, 720, 0), (0, 0, 11), (0, -2147483648, 2147483647), (0, 0, 12)], [(0, 3, 0, 4294967296)])]) (fuel := 600) okX0_partners (snX0_partners _ _ cA (Or.inl rfl)) (List.forall_mem_cons.mpr ⟨⟨_, _, rfl⟩, (fun q hq => by cases hq)⟩) (by decide) (by decide +kernel)
    · exact safe_of (ann := [(4, [(2, 720, 0), (0, 0, 11), (0, -2147483648, 2147483647), (0, 0, 12)], [(0, 3, 0, 4294967296)])]) (fuel := 600) okX0_partners (snX0_partners _ _ cB (Or.inr rfl)) (List.forall_mem_cons.mpr ⟨⟨_, _, rfl⟩, (fun q hq => by cases hq)⟩) (by decide) (by decide +kernel)
set_option maxRecDepth 100000 in
def adX0_sinceBoth (D : KK) : List ACE := (0, 1, some (aAl 0)) :: (1, 3, some (aGetR [(336, 49768), (720, 50152)])) :: (4, 1, some (aIl 1)) :: (5, 1, some (aIald D)) :: (6, 1, some (aAl 0)) :: (7, 3, some (aGetR [(336, 49768), (720, 50152)])) :: (10, 1, some (aIl 2)) :: (11, 1, some (aIald D)) :: (12, 3, some (aMax D)) :: (15, 1, some (aIret)) :: []
set_option maxRecDepth 100000 in
set_option maxHeartbeats 4000000 in
theorem snX0_sinceBoth (d : Nat) (W : List Nat) (c : Nat × Nat) (hc : c = cA ∨ c = cB) : SndAll (d, TYg, c, W) cdX0_sinceBoth (adX0_sinceBoth (d, TYg, c, W)) := by
  unfold cdX0_sinceBoth adX0_sinceBoth
  refine sn_op sAl ?_
  refine sn_op sGetR ?_
  refine sn_op sIl ?_
  refine sn_op sIald ?_
  refine sn_op sAl ?_
  refine sn_op sGetR ?_
  refine sn_op sIl ?_
  refine sn_op sIald ?_
  refine sn_op sMax ?_
  refine sn_op sIret ?_
  exact sn_nil
def csX0_sinceBoth : List AC := [([(2, 336, 0), (0, 0, 11), (0, 0, 11)], 1, [((0, -2147483648, 2147483647), [], [])], [], []), ([(2, 720, 0), (0, 0, 11), (0, 0, 11)], 1, [((0, -2147483648, 2147483647), [], [])], [], [])]
set_option maxRecDepth 100000 in
set_option maxHeartbeats 4000000 in
theorem sfX0_sinceBoth (c : Nat × Nat) (hc : c = cA ∨ c = cB) : ∀ ac ∈ csX0_sinceBoth, SafeC TYg c mX0_sinceBoth ac := by
  intro ac hac
  simp only [csX0_sinceBoth, List.mem_cons, List.not_mem_nil, or_false] at hac
  rcases hac with rfl | rfl
  · rcases hc with rfl | rfl
    · exact safe_of (ann := []) (fuel := 600) okX0_sinceBoth (snX0_sinceBoth _ _ cA (Or.inl rfl)) (fun q hq => by cases hq) (by decide) (by decide +kernel)
    · exact safe_of (ann := []) (fuel := 600) okX0_sinceBoth (snX0_sinceBoth _ _ cB (Or.inr rfl)) (fun q hq => by cases hq) (by decide) (by decide +kernel)
  · rcases hc with rfl | rfl
    · exact safe_of (ann := []) (fuel := 600) okX0_sinceBoth (snX0_sinceBoth _ _ cA (Or.inl rfl)) (fun q hq => by cases hq) (by decide) (by decide +kernel)
    · exact safe_of (ann := []) (fuel := 600) okX0_sinceBoth (snX0_sinceBoth _ _ cB (Or.inr rfl)) (fun q hq => by cases hq) (by decide) (by decide +kernel)
set_option maxRecDepth 100000 in
def adX0_takenBy (D : KK) : List ACE := (0, 1, some (aIc (0))) :: (1, 2, some (aIs 6)) :: (3, 1, some (aJl 1)) :: (4, 1, some (aIl 3)) :: (5, 1, some (aIc (1))) :: (6, 1, some (aBin fSub)) :: (7, 3, some (aCall D 16 2 3 csX6_saleAt)) :: (10, 2, some (aIs 7)) :: (12, 1, some (aIc (0))) :: (13, 2, some (aIs 8)) :: (15, 0, none) :: (15, 2, some (aIl 8)) :: (17, 1, some (aIl 3)) :: (18, 3, some (aCm (fun C x y => bLe C y x) bLt 83)) :: (21, 1, some (aJl 1)) :: (22, 2, some (aIl 8)) :: (24, 3, some (aCall D 16 2 3 csX6_saleAt)) :: (27, 2, some (aIs 9)) :: (29, 2, some (aIl 4)) :: (31, 1, some (aAl 0)) :: (32, 3, some (aGetR [(336, 452), (720, 836)])) :: (35, 3, some (aGetR [(452, 164312), (836, 164696)])) :: (38, 2, some (aIl 9)) :: (40, 1, some (aIald D)) :: (41, 1, some (aBin fShr)) :: (42, 1, some (aIc (1))) :: (43, 1, some (aBin fAnd)) :: (44, 3, some (aIf bEq bNe 73)) :: (47, 2, some (aIl 6)) :: (49, 1, some (aIc (0))) :: (50, 1, some (aAl 0)) :: (51, 2, some (aIl 9)) :: (53, 2, some (aIl 5)) :: (55, 3, some (aCall D 0 3 4 csX0_taxEach)) :: (58, 1, some (aAl 0)) :: (59, 2, some (aIl 7)) :: (61, 2, some (aIl 5)) :: (63, 3, some (aCall D 0 3 4 csX0_taxEach)) :: (66, 1, some (aBin fSub)) :: (67, 3, some (aMax D)) :: (70, 1, some (aBin fAdd)) :: (71, 2, some (aIs 6)) :: (73, 2, some (aIl 9)) :: (75, 2, some (aIs 7)) :: (77, 3, some (aInc 8 (1))) :: (80, 3, some (aGoto 15)) :: (83, 2, some (aIl 6)) :: (85, 1, some (aAl 0)) :: (86, 1, some (aJl 1)) :: (87, 1, some (aIl 3)) :: (88, 3, some (aCall D 0 3 6 csX0_carriedBy)) :: (91, 1, some (aBin fMul)) :: (92, 1, some (aIret)) :: []
set_option maxRecDepth 100000 in
set_option maxHeartbeats 4000000 in
theorem snX0_takenBy (d : Nat) (W : List Nat) (c : Nat × Nat) (hc : c = cA ∨ c = cB) : SndAll (d, TYg, c, W) cdX0_takenBy (adX0_takenBy (d, TYg, c, W)) := by
  unfold cdX0_takenBy adX0_takenBy
  refine sn_op (sIc (n := 0) (by decide)) ?_
  refine sn_op sIs ?_
  refine sn_op sJl ?_
  refine sn_op sIl ?_
  refine sn_op (sIc (n := 1) (by decide)) ?_
  refine sn_op sIsub ?_
  refine sn_op (sCI (sfX6_saleAt c hc) (by decide) (by decide +kernel)) ?_
  refine sn_op sIs ?_
  refine sn_op (sIc (n := 0) (by decide)) ?_
  refine sn_op sIs ?_
  refine sn_st ?_
  refine sn_op sIl ?_
  refine sn_op sIl ?_
  refine sn_op sCmGe ?_
  refine sn_op sJl ?_
  refine sn_op sIl ?_
  refine sn_op (sCI (sfX6_saleAt c hc) (by decide) (by decide +kernel)) ?_
  refine sn_op sIs ?_
  refine sn_op sIl ?_
  refine sn_op sAl ?_
  refine sn_op sGetR ?_
  refine sn_op sGetR ?_
  refine sn_op sIl ?_
  refine sn_op sIald ?_
  refine sn_op sIshr ?_
  refine sn_op (sIc (n := 1) (by decide)) ?_
  refine sn_op sIand ?_
  refine sn_op sIfEq ?_
  refine sn_op sIl ?_
  refine sn_op (sIc (n := 0) (by decide)) ?_
  refine sn_op sAl ?_
  refine sn_op sIl ?_
  refine sn_op sIl ?_
  refine sn_op (sCI (sfX0_taxEach c hc) (by decide) (by decide +kernel)) ?_
  refine sn_op sAl ?_
  refine sn_op sIl ?_
  refine sn_op sIl ?_
  refine sn_op (sCI (sfX0_taxEach c hc) (by decide) (by decide +kernel)) ?_
  refine sn_op sIsub ?_
  refine sn_op sMax ?_
  refine sn_op sIadd ?_
  refine sn_op sIs ?_
  refine sn_op sIl ?_
  refine sn_op sIs ?_
  refine sn_op (sInc (n := 1) (by decide)) ?_
  refine sn_op sGoto ?_
  refine sn_op sIl ?_
  refine sn_op sAl ?_
  refine sn_op sJl ?_
  refine sn_op sIl ?_
  refine sn_op (sCI (sfX0_carriedBy c hc) (by decide) (by decide +kernel)) ?_
  refine sn_op sImul ?_
  refine sn_op sIret ?_
  exact sn_nil
def csX0_takenBy : List AC := [([(2, 336, 0), (5, 0, 0), (0, 0, 6), (0, -2147483648, 2147483647), (0, 0, 0)], 3, [((0, -2147483648, 2147483647), [], [])], [], []), ([(2, 720, 0), (5, 0, 0), (0, 0, 6), (0, -2147483648, 2147483647), (0, 0, 0)], 3, [((0, -2147483648, 2147483647), [], [])], [], []), ([(2, 336, 0), (5, 0, 0), (0, 0, 6), (0, -2147483648, 2147483647), (0, -2147483648, 2147483647)], 3, [((0, -2147483648, 2147483647), [], [])], [], []), ([(2, 720, 0), (5, 0, 0), (0, 0, 6), (0, -2147483648, 2147483647), (0, -2147483648, 2147483647)], 3, [((0, -2147483648, 2147483647), [], [])], [], [])]
set_option maxRecDepth 100000 in
set_option maxHeartbeats 4000000 in
theorem sfX0_takenBy (c : Nat × Nat) (hc : c = cA ∨ c = cB) : ∀ ac ∈ csX0_takenBy, SafeC TYg c mX0_takenBy ac := by
  intro ac hac
  simp only [csX0_takenBy, List.mem_cons, List.not_mem_nil, or_false] at hac
  rcases hac with rfl | rfl | rfl | rfl
  · rcases hc with rfl | rfl
    · exact safe_of (ann := [(15, [(2, 336, 0), (5, 0, 0), (4, 0, 0), (0, 0, 6), (0, -2147483648, 2147483647), (0, 0, 0), (0, -2147483648, 2147483647), (0, 0, 39), (0, 0, 6), (4, 0, 0)], [(0, 8, 0, 4294967296)])]) (fuel := 600) okX0_takenBy (snX0_takenBy _ _ cA (Or.inl rfl)) (List.forall_mem_cons.mpr ⟨⟨_, _, rfl⟩, (fun q hq => by cases hq)⟩) (by decide) (by decide +kernel)
    · exact safe_of (ann := [(15, [(2, 336, 0), (5, 0, 0), (4, 0, 0), (0, 0, 6), (0, -2147483648, 2147483647), (0, 0, 0), (0, -2147483648, 2147483647), (0, 0, 39), (0, 0, 6), (4, 0, 0)], [(0, 8, 0, 4294967296)])]) (fuel := 600) okX0_takenBy (snX0_takenBy _ _ cB (Or.inr rfl)) (List.forall_mem_cons.mpr ⟨⟨_, _, rfl⟩, (fun q hq => by cases hq)⟩) (by decide) (by decide +kernel)
  · rcases hc with rfl | rfl
    · exact safe_of (ann := [(15, [(2, 720, 0), (5, 0, 0), (4, 0, 0), (0, 0, 6), (0, -2147483648, 2147483647), (0, 0, 0), (0, -2147483648, 2147483647), (0, 0, 39), (0, 0, 6), (4, 0, 0)], [(0, 8, 0, 4294967296)])]) (fuel := 600) okX0_takenBy (snX0_takenBy _ _ cA (Or.inl rfl)) (List.forall_mem_cons.mpr ⟨⟨_, _, rfl⟩, (fun q hq => by cases hq)⟩) (by decide) (by decide +kernel)
    · exact safe_of (ann := [(15, [(2, 720, 0), (5, 0, 0), (4, 0, 0), (0, 0, 6), (0, -2147483648, 2147483647), (0, 0, 0), (0, -2147483648, 2147483647), (0, 0, 39), (0, 0, 6), (4, 0, 0)], [(0, 8, 0, 4294967296)])]) (fuel := 600) okX0_takenBy (snX0_takenBy _ _ cB (Or.inr rfl)) (List.forall_mem_cons.mpr ⟨⟨_, _, rfl⟩, (fun q hq => by cases hq)⟩) (by decide) (by decide +kernel)
  · rcases hc with rfl | rfl
    · exact safe_of (ann := [(15, [(2, 336, 0), (5, 0, 0), (4, 0, 0), (0, 0, 6), (0, -2147483648, 2147483647), (0, -2147483648, 2147483647), (0, -2147483648, 2147483647), (0, 0, 39), (0, 0, 6), (4, 0, 0)], [(0, 8, 0, 4294967296)])]) (fuel := 600) okX0_takenBy (snX0_takenBy _ _ cA (Or.inl rfl)) (List.forall_mem_cons.mpr ⟨⟨_, _, rfl⟩, (fun q hq => by cases hq)⟩) (by decide) (by decide +kernel)
    · exact safe_of (ann := [(15, [(2, 336, 0), (5, 0, 0), (4, 0, 0), (0, 0, 6), (0, -2147483648, 2147483647), (0, -2147483648, 2147483647), (0, -2147483648, 2147483647), (0, 0, 39), (0, 0, 6), (4, 0, 0)], [(0, 8, 0, 4294967296)])]) (fuel := 600) okX0_takenBy (snX0_takenBy _ _ cB (Or.inr rfl)) (List.forall_mem_cons.mpr ⟨⟨_, _, rfl⟩, (fun q hq => by cases hq)⟩) (by decide) (by decide +kernel)
  · rcases hc with rfl | rfl
    · exact safe_of (ann := [(15, [(2, 720, 0), (5, 0, 0), (4, 0, 0), (0, 0, 6), (0, -2147483648, 2147483647), (0, -2147483648, 2147483647), (0, -2147483648, 2147483647), (0, 0, 39), (0, 0, 6), (4, 0, 0)], [(0, 8, 0, 4294967296)])]) (fuel := 600) okX0_takenBy (snX0_takenBy _ _ cA (Or.inl rfl)) (List.forall_mem_cons.mpr ⟨⟨_, _, rfl⟩, (fun q hq => by cases hq)⟩) (by decide) (by decide +kernel)
    · exact safe_of (ann := [(15, [(2, 720, 0), (5, 0, 0), (4, 0, 0), (0, 0, 6), (0, -2147483648, 2147483647), (0, -2147483648, 2147483647), (0, -2147483648, 2147483647), (0, 0, 39), (0, 0, 6), (4, 0, 0)], [(0, 8, 0, 4294967296)])]) (fuel := 600) okX0_takenBy (snX0_takenBy _ _ cB (Or.inr rfl)) (List.forall_mem_cons.mpr ⟨⟨_, _, rfl⟩, (fun q hq => by cases hq)⟩) (by decide) (by decide +kernel)
set_option maxRecDepth 100000 in
def adX1_keep (D : KK) : List ACE := (0, 1, some (aAl 0)) :: (1, 3, some (aGetI D 1 9)) :: (4, 3, some (aIc (200))) :: (7, 3, some (aCm (fun C x y => bLe C y x) bLt 30)) :: (10, 1, some (aAl 0)) :: (11, 3, some (aGetR [(49, 819273)])) :: (14, 1, some (aAl 0)) :: (15, 3, some (aGetI D 1 9)) :: (18, 1, some (aJl 1)) :: (19, 1, some (aJast D)) :: (20, 1, some (aAl 0)) :: (21, 3, some (aGetR [(49, 819288)])) :: (24, 1, some (aAl 0)) :: (25, 3, some (aGetI D 1 9)) :: (28, 1, some (aIl 3)) :: (29, 1, some (aIast D)) :: (30, 1, some (aAl 0)) :: (31, 1, some (aDup)) :: (32, 3, some (aGetI D 1 9)) :: (35, 1, some (aIc (1))) :: (36, 1, some (aBin fAdd)) :: (37, 3, some (aPutI D 1 9)) :: (40, 1, some (aVret)) :: []
set_option maxRecDepth 100000 in
set_option maxHeartbeats 4000000 in
theorem snX1_keep (d : Nat) (W : List Nat) (c : Nat × Nat) (hc : c = cA ∨ c = cB) : SndAll (d, TYg, c, W) cdX1_keep (adX1_keep (d, TYg, c, W)) := by
  unfold cdX1_keep adX1_keep
  refine sn_op sAl ?_
  refine sn_op sGetI ?_
  refine sn_op (sIc (n := 200) (by decide)) ?_
  refine sn_op sCmGe ?_
  refine sn_op sAl ?_
  refine sn_op sGetR ?_
  refine sn_op sAl ?_
  refine sn_op sGetI ?_
  refine sn_op sJl ?_
  refine sn_op sJast ?_
  refine sn_op sAl ?_
  refine sn_op sGetR ?_
  refine sn_op sAl ?_
  refine sn_op sGetI ?_
  refine sn_op sIl ?_
  refine sn_op sIast ?_
  refine sn_op sAl ?_
  refine sn_op sDup ?_
  refine sn_op sGetI ?_
  refine sn_op (sIc (n := 1) (by decide)) ?_
  refine sn_op sIadd ?_
  refine sn_op sPutI ?_
  refine sn_op sVret ?_
  exact sn_nil
def csX1_keep : List AC := [([(2, 49, 0), (5, 0, 0), (0, 2, 2)], 1, [((9, 0, 0), [((49, 9), (1, 201))], [])], [819273, 819288, 42949673009], [((49, 9), (0, 200))]), ([(2, 49, 0), (5, 0, 0), (0, 3, 3)], 1, [((9, 0, 0), [((49, 9), (1, 201))], [])], [819273, 819288, 42949673009], [((49, 9), (0, 200))]), ([(2, 49, 0), (5, 0, 0), (0, 4, 4)], 1, [((9, 0, 0), [((49, 9), (1, 201))], [])], [819273, 819288, 42949673009], [((49, 9), (0, 200))]), ([(2, 49, 0), (5, 0, 0), (0, 5, 5)], 1, [((9, 0, 0), [((49, 9), (1, 201))], [])], [819273, 819288, 42949673009], [((49, 9), (0, 200))]), ([(2, 49, 0), (5, 0, 0), (0, 6, 6)], 1, [((9, 0, 0), [((49, 9), (1, 201))], [])], [819273, 819288, 42949673009], [((49, 9), (0, 200))])]
set_option maxRecDepth 100000 in
set_option maxHeartbeats 4000000 in
theorem sfX1_keep (c : Nat × Nat) (hc : c = cA ∨ c = cB) : ∀ ac ∈ csX1_keep, SafeC TYg c mX1_keep ac := by
  intro ac hac
  simp only [csX1_keep, List.mem_cons, List.not_mem_nil, or_false] at hac
  rcases hac with rfl | rfl | rfl | rfl | rfl
  · rcases hc with rfl | rfl
    · exact safe_of (ann := []) (fuel := 600) okX1_keep (snX1_keep _ _ cA (Or.inl rfl)) (fun q hq => by cases hq) (by decide) (by decide +kernel)
    · exact safe_of (ann := []) (fuel := 600) okX1_keep (snX1_keep _ _ cB (Or.inr rfl)) (fun q hq => by cases hq) (by decide) (by decide +kernel)
  · rcases hc with rfl | rfl
    · exact safe_of (ann := []) (fuel := 600) okX1_keep (snX1_keep _ _ cA (Or.inl rfl)) (fun q hq => by cases hq) (by decide) (by decide +kernel)
    · exact safe_of (ann := []) (fuel := 600) okX1_keep (snX1_keep _ _ cB (Or.inr rfl)) (fun q hq => by cases hq) (by decide) (by decide +kernel)
  · rcases hc with rfl | rfl
    · exact safe_of (ann := []) (fuel := 600) okX1_keep (snX1_keep _ _ cA (Or.inl rfl)) (fun q hq => by cases hq) (by decide) (by decide +kernel)
    · exact safe_of (ann := []) (fuel := 600) okX1_keep (snX1_keep _ _ cB (Or.inr rfl)) (fun q hq => by cases hq) (by decide) (by decide +kernel)
  · rcases hc with rfl | rfl
    · exact safe_of (ann := []) (fuel := 600) okX1_keep (snX1_keep _ _ cA (Or.inl rfl)) (fun q hq => by cases hq) (by decide) (by decide +kernel)
    · exact safe_of (ann := []) (fuel := 600) okX1_keep (snX1_keep _ _ cB (Or.inr rfl)) (fun q hq => by cases hq) (by decide) (by decide +kernel)
  · rcases hc with rfl | rfl
    · exact safe_of (ann := []) (fuel := 600) okX1_keep (snX1_keep _ _ cA (Or.inl rfl)) (fun q hq => by cases hq) (by decide) (by decide +kernel)
    · exact safe_of (ann := []) (fuel := 600) okX1_keep (snX1_keep _ _ cB (Or.inr rfl)) (fun q hq => by cases hq) (by decide) (by decide +kernel)
set_option maxRecDepth 100000 in
def adX1_extend_6 (D : KK) : List ACE := (0, 1, some (aAl 0)) :: (1, 3, some (aGetR [(49, 163960)])) :: (4, 2, some (aIl 4)) :: (6, 1, some (aIald D)) :: (7, 1, some (aAl 0)) :: (8, 3, some (aGetI D 1 11)) :: (11, 3, some (aCm bNe bEq 26)) :: (14, 1, some (aIl 3)) :: (15, 1, some (aIc (2))) :: (16, 3, some (aCm bLt (fun C x y => bLe C y x) 25)) :: (19, 1, some (aAl 0)) :: (20, 1, some (aJl 1)) :: (21, 1, some (aIl 3)) :: (22, 3, some (aCall D 1 3 4 csX1_keep)) :: (25, 1, some (aVret)) :: (26, 1, some (aIl 3)) :: (27, 1, some (aAl 0)) :: (28, 3, some (aGetI D 1 10)) :: (31, 3, some (aCm (fun C x y => bLe C y x) bLt 55)) :: (34, 1, some (aIl 3)) :: (35, 2, some (aIc (6))) :: (37, 3, some (aCm (fun C x y => bLe C y x) bLt 55)) :: (40, 2, some (aIl 5)) :: (42, 1, some (aAl 0)) :: (43, 3, some (aGetR [(49, 163960)])) :: (46, 2, some (aIl 4)) :: (48, 1, some (aIald D)) :: (49, 1, some (aBin fShr)) :: (50, 1, some (aIc (1))) :: (51, 1, some (aBin fAnd)) :: (52, 3, some (aIf bEq bNe 56)) :: (55, 1, some (aVret)) :: (56, 1, some (aAl 0)) :: (57, 3, some (aGetR [(49, 164009)])) :: (60, 2, some (aIl 4)) :: (62, 1, some (aJald)) :: (63, 1, some (aAl 0)) :: (64, 3, some (aGetR [(49, 295097)])) :: (67, 1, some (aAl 0)) :: (68, 3, some (aGetI D 1 11)) :: (71, 2, some (aIc (6))) :: (73, 1, some (aBin fMul)) :: (74, 1, some (aAl 0)) :: (75, 3, some (aGetI D 1 10)) :: (78, 1, some (aBin fAdd)) :: (79, 1, some (aIl 3)) :: (80, 1, some (aBin fSub)) :: (81, 1, some (aJald)) :: (82, 1, some (aLL)) :: (83, 2, some (aJs 6)) :: (85, 1, some (aIc (0))) :: (86, 2, some (aIs 8)) :: (88, 0, none) :: (88, 2, some (aIl 8)) :: (90, 1, some (aAl 0)) :: (91, 3, some (aGetI D 1 8)) :: (94, 3, some (aCm (fun C x y => bLe C y x) bLt 180)) :: (97, 2, some (aJl 6)) :: (99, 2, some (aIl 8)) :: (101, 1, some (aLI)) :: (102, 1, some (aJc (0))) :: (103, 1, some (aLcmp)) :: (104, 3, some (aIf bEq bNe 180)) :: (107, 1, some (aAl 0)) :: (108, 3, some (aGetI D 1 9)) :: (111, 3, some (aIc (200))) :: (114, 3, some (aCm (fun C x y => bLt C y x) bLe 180)) :: (117, 2, some (aJl 6)) :: (119, 2, some (aIl 8)) :: (121, 1, some (aLI)) :: (122, 1, some (aJc (1))) :: (123, 1, some (aLL)) :: (124, 1, some (aJc (0))) :: (125, 1, some (aLcmp)) :: (126, 3, some (aIf bEq bNe 174)) :: (129, 1, some (aAl 0)) :: (130, 3, some (aGetR [(49, 163976)])) :: (133, 2, some (aIl 8)) :: (135, 1, some (aIald D)) :: (136, 1, some (aAl 0)) :: (137, 3, some (aGetI D 1 12)) :: (140, 3, some (aCm (fun C x y => bLt C y x) bLe 174)) :: (143, 1, some (aAl 0)) :: (144, 1, some (aJl 1)) :: (145, 2, some (aIl 8)) :: (147, 1, some (aUn (fun C x => (6, rng C x)))) :: (148, 2, some (aIc (6))) :: (150, 1, some (aIl 3)) :: (151, 1, some (aBin fMul)) :: (152, 1, some (aLshlP)) :: (153, 1, some (aLorP)) :: (154, 1, some (aIl 3)) :: (155, 1, some (aIc (1))) :: (156, 1, some (aBin fAdd)) :: (157, 2, some (aIl 8)) :: (159, 2, some (aIl 5)) :: (161, 1, some (aIc (1))) :: (162, 1, some (aAl 0)) :: (163, 3, some (aGetR [(49, 163960)])) :: (166, 2, some (aIl 4)) :: (168, 1, some (aIald D)) :: (169, 1, some (aBin fTop)) :: (170, 1, some (aBin fTop)) :: (171, 3, some (aNo)) :: (174, 3, some (aInc 8 (1))) :: (177, 3, some (aGoto 88)) :: (180, 1, some (aVret)) :: []
set_option maxRecDepth 100000 in
set_option maxHeartbeats 4000000 in
theorem snX1_extend_6 (d : Nat) (W : List Nat) (c : Nat × Nat) (hc : c = cA ∨ c = cB) : SndAll (d, TYg, c, W) cdX1_extend (adX1_extend_6 (d, TYg, c, W)) := by
  unfold cdX1_extend adX1_extend_6
  refine sn_op sAl ?_
  refine sn_op sGetR ?_
  refine sn_op sIl ?_
  refine sn_op sIald ?_
  refine sn_op sAl ?_
  refine sn_op sGetI ?_
  refine sn_op sCmNe ?_
  refine sn_op sIl ?_
  refine sn_op (sIc (n := 2) (by decide)) ?_
  refine sn_op sCmLt ?_
  refine sn_op sAl ?_
  refine sn_op sJl ?_
  refine sn_op sIl ?_
  refine sn_op (sCV (sfX1_keep c hc) (by decide) (by decide +kernel)) ?_
  refine sn_op sVret ?_
  refine sn_op sIl ?_
  refine sn_op sAl ?_
  refine sn_op sGetI ?_
  refine sn_op sCmGe ?_
  refine sn_op sIl ?_
  refine sn_op (sIc (n := 6) (by decide)) ?_
  refine sn_op sCmGe ?_
  refine sn_op sIl ?_
  refine sn_op sAl ?_
  refine sn_op sGetR ?_
  refine sn_op sIl ?_
  refine sn_op sIald ?_
  refine sn_op sIshr ?_
  refine sn_op (sIc (n := 1) (by decide)) ?_
  refine sn_op sIand ?_
  refine sn_op sIfEq ?_
  refine sn_op sVret ?_
  refine sn_op sAl ?_
  refine sn_op sGetR ?_
  refine sn_op sIl ?_
  refine sn_op sJald ?_
  refine sn_op sAl ?_
  refine sn_op sGetR ?_
  refine sn_op sAl ?_
  refine sn_op sGetI ?_
  refine sn_op (sIc (n := 6) (by decide)) ?_
  refine sn_op sImul ?_
  refine sn_op sAl ?_
  refine sn_op sGetI ?_
  refine sn_op sIadd ?_
  refine sn_op sIl ?_
  refine sn_op sIsub ?_
  refine sn_op sJald ?_
  refine sn_op sLand ?_
  refine sn_op sJs ?_
  refine sn_op (sIc (n := 0) (by decide)) ?_
  refine sn_op sIs ?_
  refine sn_st ?_
  refine sn_op sIl ?_
  refine sn_op sAl ?_
  refine sn_op sGetI ?_
  refine sn_op sCmGe ?_
  refine sn_op sJl ?_
  refine sn_op sIl ?_
  refine sn_op sLushr ?_
  refine sn_op (sJc (n := 0) (by decide)) ?_
  refine sn_op sLcmp ?_
  refine sn_op sIfEq ?_
  refine sn_op sAl ?_
  refine sn_op sGetI ?_
  refine sn_op (sIc (n := 200) (by decide)) ?_
  refine sn_op sCmGt ?_
  refine sn_op sJl ?_
  refine sn_op sIl ?_
  refine sn_op sLushr ?_
  refine sn_op (sJc (n := 1) (by decide)) ?_
  refine sn_op sLand ?_
  refine sn_op (sJc (n := 0) (by decide)) ?_
  refine sn_op sLcmp ?_
  refine sn_op sIfEq ?_
  refine sn_op sAl ?_
  refine sn_op sGetR ?_
  refine sn_op sIl ?_
  refine sn_op sIald ?_
  refine sn_op sAl ?_
  refine sn_op sGetI ?_
  refine sn_op sCmGt ?_
  refine sn_op sAl ?_
  refine sn_op sJl ?_
  refine sn_op sIl ?_
  refine sn_op sI2l ?_
  refine sn_op (sIc (n := 6) (by decide)) ?_
  refine sn_op sIl ?_
  refine sn_op sImul ?_
  refine sn_op sLshlP ?_
  refine sn_op sLorP ?_
  refine sn_op sIl ?_
  refine sn_op (sIc (n := 1) (by decide)) ?_
  refine sn_op sIadd ?_
  refine sn_op sIl ?_
  refine sn_op sIl ?_
  refine sn_op (sIc (n := 1) (by decide)) ?_
  refine sn_op sAl ?_
  refine sn_op sGetR ?_
  refine sn_op sIl ?_
  refine sn_op sIald ?_
  refine sn_op sIshl ?_
  refine sn_op sIor ?_
  refine sn_op sNo ?_
  refine sn_op (sInc (n := 1) (by decide)) ?_
  refine sn_op sGoto ?_
  refine sn_op sVret ?_
  exact sn_nil
def csX1_extend_6 : List AC := [([(2, 49, 0), (5, 0, 16), (0, 6, 6), (0, 0, 0), (0, -2147483648, 2147483647)], 2, [((9, 0, 0), [], [])], [819273, 819288, 42949673009], [((49, 9), (0, 200))]), ([(2, 49, 0), (5, 0, 16), (0, 6, 6), (0, 0, 39), (0, -2147483648, 2147483647)], 2, [((9, 0, 0), [], [])], [819273, 819288, 42949673009], [((49, 9), (0, 200))])]
set_option maxRecDepth 100000 in
set_option maxHeartbeats 4000000 in
theorem sfX1_extend_6 (c : Nat × Nat) (hc : c = cA ∨ c = cB) : ∀ ac ∈ csX1_extend_6, SafeC TYg c mX1_extend ac := by
  intro ac hac
  simp only [csX1_extend_6, List.mem_cons, List.not_mem_nil, or_false] at hac
  rcases hac with rfl | rfl
  · rcases hc with rfl | rfl
    · exact safe_of (ann := []) (fuel := 600) okX1_extend (snX1_extend_6 _ _ cA (Or.inl rfl)) (fun q hq => by cases hq) (by decide) (by decide +kernel)
    · exact safe_of (ann := []) (fuel := 600) okX1_extend (snX1_extend_6 _ _ cB (Or.inr rfl)) (fun q hq => by cases hq) (by decide) (by decide +kernel)
  · rcases hc with rfl | rfl
    · exact safe_of (ann := []) (fuel := 600) okX1_extend (snX1_extend_6 _ _ cA (Or.inl rfl)) (fun q hq => by cases hq) (by decide) (by decide +kernel)
    · exact safe_of (ann := []) (fuel := 600) okX1_extend (snX1_extend_6 _ _ cB (Or.inr rfl)) (fun q hq => by cases hq) (by decide) (by decide +kernel)
set_option maxRecDepth 100000 in
def adX1_extend_5 (D : KK) : List ACE := (0, 1, some (aAl 0)) :: (1, 3, some (aGetR [(49, 163960)])) :: (4, 2, some (aIl 4)) :: (6, 1, some (aIald D)) :: (7, 1, some (aAl 0)) :: (8, 3, some (aGetI D 1 11)) :: (11, 3, some (aCm bNe bEq 26)) :: (14, 1, some (aIl 3)) :: (15, 1, some (aIc (2))) :: (16, 3, some (aCm bLt (fun C x y => bLe C y x) 25)) :: (19, 1, some (aAl 0)) :: (20, 1, some (aJl 1)) :: (21, 1, some (aIl 3)) :: (22, 3, some (aCall D 1 3 4 csX1_keep)) :: (25, 1, some (aVret)) :: (26, 1, some (aIl 3)) :: (27, 1, some (aAl 0)) :: (28, 3, some (aGetI D 1 10)) :: (31, 3, some (aCm (fun C x y => bLe C y x) bLt 55)) :: (34, 1, some (aIl 3)) :: (35, 2, some (aIc (6))) :: (37, 3, some (aCm (fun C x y => bLe C y x) bLt 55)) :: (40, 2, some (aIl 5)) :: (42, 1, some (aAl 0)) :: (43, 3, some (aGetR [(49, 163960)])) :: (46, 2, some (aIl 4)) :: (48, 1, some (aIald D)) :: (49, 1, some (aBin fShr)) :: (50, 1, some (aIc (1))) :: (51, 1, some (aBin fAnd)) :: (52, 3, some (aIf bEq bNe 56)) :: (55, 1, some (aVret)) :: (56, 1, some (aAl 0)) :: (57, 3, some (aGetR [(49, 164009)])) :: (60, 2, some (aIl 4)) :: (62, 1, some (aJald)) :: (63, 1, some (aAl 0)) :: (64, 3, some (aGetR [(49, 295097)])) :: (67, 1, some (aAl 0)) :: (68, 3, some (aGetI D 1 11)) :: (71, 2, some (aIc (6))) :: (73, 1, some (aBin fMul)) :: (74, 1, some (aAl 0)) :: (75, 3, some (aGetI D 1 10)) :: (78, 1, some (aBin fAdd)) :: (79, 1, some (aIl 3)) :: (80, 1, some (aBin fSub)) :: (81, 1, some (aJald)) :: (82, 1, some (aLL)) :: (83, 2, some (aJs 6)) :: (85, 1, some (aIc (0))) :: (86, 2, some (aIs 8)) :: (88, 0, none) :: (88, 2, some (aIl 8)) :: (90, 1, some (aAl 0)) :: (91, 3, some (aGetI D 1 8)) :: (94, 3, some (aCm (fun C x y => bLe C y x) bLt 180)) :: (97, 2, some (aJl 6)) :: (99, 2, some (aIl 8)) :: (101, 1, some (aLI)) :: (102, 1, some (aJc (0))) :: (103, 1, some (aLcmp)) :: (104, 3, some (aIf bEq bNe 180)) :: (107, 1, some (aAl 0)) :: (108, 3, some (aGetI D 1 9)) :: (111, 3, some (aIc (200))) :: (114, 3, some (aCm (fun C x y => bLt C y x) bLe 180)) :: (117, 2, some (aJl 6)) :: (119, 2, some (aIl 8)) :: (121, 1, some (aLI)) :: (122, 1, some (aJc (1))) :: (123, 1, some (aLL)) :: (124, 1, some (aJc (0))) :: (125, 1, some (aLcmp)) :: (126, 3, some (aIf bEq bNe 174)) :: (129, 1, some (aAl 0)) :: (130, 3, some (aGetR [(49, 163976)])) :: (133, 2, some (aIl 8)) :: (135, 1, some (aIald D)) :: (136, 1, some (aAl 0)) :: (137, 3, some (aGetI D 1 12)) :: (140, 3, some (aCm (fun C x y => bLt C y x) bLe 174)) :: (143, 1, some (aAl 0)) :: (144, 1, some (aJl 1)) :: (145, 2, some (aIl 8)) :: (147, 1, some (aUn (fun C x => (6, rng C x)))) :: (148, 2, some (aIc (6))) :: (150, 1, some (aIl 3)) :: (151, 1, some (aBin fMul)) :: (152, 1, some (aLshlP)) :: (153, 1, some (aLorP)) :: (154, 1, some (aIl 3)) :: (155, 1, some (aIc (1))) :: (156, 1, some (aBin fAdd)) :: (157, 2, some (aIl 8)) :: (159, 2, some (aIl 5)) :: (161, 1, some (aIc (1))) :: (162, 1, some (aAl 0)) :: (163, 3, some (aGetR [(49, 163960)])) :: (166, 2, some (aIl 4)) :: (168, 1, some (aIald D)) :: (169, 1, some (aBin fTop)) :: (170, 1, some (aBin fTop)) :: (171, 3, some (aCall D 1 5 9 csX1_extend_6)) :: (174, 3, some (aInc 8 (1))) :: (177, 3, some (aGoto 88)) :: (180, 1, some (aVret)) :: []
set_option maxRecDepth 100000 in
set_option maxHeartbeats 4000000 in
theorem snX1_extend_5 (d : Nat) (W : List Nat) (c : Nat × Nat) (hc : c = cA ∨ c = cB) : SndAll (d, TYg, c, W) cdX1_extend (adX1_extend_5 (d, TYg, c, W)) := by
  unfold cdX1_extend adX1_extend_5
  refine sn_op sAl ?_
  refine sn_op sGetR ?_
  refine sn_op sIl ?_
  refine sn_op sIald ?_
  refine sn_op sAl ?_
  refine sn_op sGetI ?_
  refine sn_op sCmNe ?_
  refine sn_op sIl ?_
  refine sn_op (sIc (n := 2) (by decide)) ?_
  refine sn_op sCmLt ?_
  refine sn_op sAl ?_
  refine sn_op sJl ?_
  refine sn_op sIl ?_
  refine sn_op (sCV (sfX1_keep c hc) (by decide) (by decide +kernel)) ?_
  refine sn_op sVret ?_
  refine sn_op sIl ?_
  refine sn_op sAl ?_
  refine sn_op sGetI ?_
  refine sn_op sCmGe ?_
  refine sn_op sIl ?_
  refine sn_op (sIc (n := 6) (by decide)) ?_
  refine sn_op sCmGe ?_
  refine sn_op sIl ?_
  refine sn_op sAl ?_
  refine sn_op sGetR ?_
  refine sn_op sIl ?_
  refine sn_op sIald ?_
  refine sn_op sIshr ?_
  refine sn_op (sIc (n := 1) (by decide)) ?_
  refine sn_op sIand ?_
  refine sn_op sIfEq ?_
  refine sn_op sVret ?_
  refine sn_op sAl ?_
  refine sn_op sGetR ?_
  refine sn_op sIl ?_
  refine sn_op sJald ?_
  refine sn_op sAl ?_
  refine sn_op sGetR ?_
  refine sn_op sAl ?_
  refine sn_op sGetI ?_
  refine sn_op (sIc (n := 6) (by decide)) ?_
  refine sn_op sImul ?_
  refine sn_op sAl ?_
  refine sn_op sGetI ?_
  refine sn_op sIadd ?_
  refine sn_op sIl ?_
  refine sn_op sIsub ?_
  refine sn_op sJald ?_
  refine sn_op sLand ?_
  refine sn_op sJs ?_
  refine sn_op (sIc (n := 0) (by decide)) ?_
  refine sn_op sIs ?_
  refine sn_st ?_
  refine sn_op sIl ?_
  refine sn_op sAl ?_
  refine sn_op sGetI ?_
  refine sn_op sCmGe ?_
  refine sn_op sJl ?_
  refine sn_op sIl ?_
  refine sn_op sLushr ?_
  refine sn_op (sJc (n := 0) (by decide)) ?_
  refine sn_op sLcmp ?_
  refine sn_op sIfEq ?_
  refine sn_op sAl ?_
  refine sn_op sGetI ?_
  refine sn_op (sIc (n := 200) (by decide)) ?_
  refine sn_op sCmGt ?_
  refine sn_op sJl ?_
  refine sn_op sIl ?_
  refine sn_op sLushr ?_
  refine sn_op (sJc (n := 1) (by decide)) ?_
  refine sn_op sLand ?_
  refine sn_op (sJc (n := 0) (by decide)) ?_
  refine sn_op sLcmp ?_
  refine sn_op sIfEq ?_
  refine sn_op sAl ?_
  refine sn_op sGetR ?_
  refine sn_op sIl ?_
  refine sn_op sIald ?_
  refine sn_op sAl ?_
  refine sn_op sGetI ?_
  refine sn_op sCmGt ?_
  refine sn_op sAl ?_
  refine sn_op sJl ?_
  refine sn_op sIl ?_
  refine sn_op sI2l ?_
  refine sn_op (sIc (n := 6) (by decide)) ?_
  refine sn_op sIl ?_
  refine sn_op sImul ?_
  refine sn_op sLshlP ?_
  refine sn_op sLorP ?_
  refine sn_op sIl ?_
  refine sn_op (sIc (n := 1) (by decide)) ?_
  refine sn_op sIadd ?_
  refine sn_op sIl ?_
  refine sn_op sIl ?_
  refine sn_op (sIc (n := 1) (by decide)) ?_
  refine sn_op sAl ?_
  refine sn_op sGetR ?_
  refine sn_op sIl ?_
  refine sn_op sIald ?_
  refine sn_op sIshl ?_
  refine sn_op sIor ?_
  refine sn_op (sCV (sfX1_extend_6 c hc) (by decide) (by decide +kernel)) ?_
  refine sn_op (sInc (n := 1) (by decide)) ?_
  refine sn_op sGoto ?_
  refine sn_op sVret ?_
  exact sn_nil
def csX1_extend_5 : List AC := [([(2, 49, 0), (5, 0, 15), (0, 5, 5), (0, 0, 0), (0, -2147483648, 2147483647)], 3, [((9, 0, 0), [], [])], [819273, 819288, 42949673009], [((49, 9), (0, 200))]), ([(2, 49, 0), (5, 0, 15), (0, 5, 5), (0, 0, 39), (0, -2147483648, 2147483647)], 3, [((9, 0, 0), [], [])], [819273, 819288, 42949673009], [((49, 9), (0, 200))])]
set_option maxRecDepth 100000 in
set_option maxHeartbeats 4000000 in
theorem sfX1_extend_5 (c : Nat × Nat) (hc : c = cA ∨ c = cB) : ∀ ac ∈ csX1_extend_5, SafeC TYg c mX1_extend ac := by
  intro ac hac
  simp only [csX1_extend_5, List.mem_cons, List.not_mem_nil, or_false] at hac
  rcases hac with rfl | rfl
  · rcases hc with rfl | rfl
    · exact safe_of (ann := [(88, [(2, 49, 0), (5, 0, 15), (4, 0, 0), (0, 5, 5), (0, 0, 0), (0, -2147483648, 2147483647), (8, 0, 0), (4, 0, 0), (0, 0, 40)], [(0, 8, 0, 4294967296)])]) (fuel := 600) okX1_extend (snX1_extend_5 _ _ cA (Or.inl rfl)) (List.forall_mem_cons.mpr ⟨⟨_, _, rfl⟩, (fun q hq => by cases hq)⟩) (by decide) (by decide +kernel)
    · exact safe_of (ann := [(88, [(2, 49, 0), (5, 0, 15), (4, 0, 0), (0, 5, 5), (0, 0, 0), (0, -2147483648, 2147483647), (8, 0, 0), (4, 0, 0), (0, 0, 40)], [(0, 8, 0, 4294967296)])]) (fuel := 600) okX1_extend (snX1_extend_5 _ _ cB (Or.inr rfl)) (List.forall_mem_cons.mpr ⟨⟨_, _, rfl⟩, (fun q hq => by cases hq)⟩) (by decide) (by decide +kernel)
  · rcases hc with rfl | rfl
    · exact safe_of (ann := [(88, [(2, 49, 0), (5, 0, 15), (4, 0, 0), (0, 5, 5), (0, 0, 39), (0, -2147483648, 2147483647), (8, 0, 0), (4, 0, 0), (0, 0, 40)], [(0, 8, 0, 4294967296)])]) (fuel := 600) okX1_extend (snX1_extend_5 _ _ cA (Or.inl rfl)) (List.forall_mem_cons.mpr ⟨⟨_, _, rfl⟩, (fun q hq => by cases hq)⟩) (by decide) (by decide +kernel)
    · exact safe_of (ann := [(88, [(2, 49, 0), (5, 0, 15), (4, 0, 0), (0, 5, 5), (0, 0, 39), (0, -2147483648, 2147483647), (8, 0, 0), (4, 0, 0), (0, 0, 40)], [(0, 8, 0, 4294967296)])]) (fuel := 600) okX1_extend (snX1_extend_5 _ _ cB (Or.inr rfl)) (List.forall_mem_cons.mpr ⟨⟨_, _, rfl⟩, (fun q hq => by cases hq)⟩) (by decide) (by decide +kernel)
set_option maxRecDepth 100000 in
def adX1_extend_4 (D : KK) : List ACE := (0, 1, some (aAl 0)) :: (1, 3, some (aGetR [(49, 163960)])) :: (4, 2, some (aIl 4)) :: (6, 1, some (aIald D)) :: (7, 1, some (aAl 0)) :: (8, 3, some (aGetI D 1 11)) :: (11, 3, some (aCm bNe bEq 26)) :: (14, 1, some (aIl 3)) :: (15, 1, some (aIc (2))) :: (16, 3, some (aCm bLt (fun C x y => bLe C y x) 25)) :: (19, 1, some (aAl 0)) :: (20, 1, some (aJl 1)) :: (21, 1, some (aIl 3)) :: (22, 3, some (aCall D 1 3 4 csX1_keep)) :: (25, 1, some (aVret)) :: (26, 1, some (aIl 3)) :: (27, 1, some (aAl 0)) :: (28, 3, some (aGetI D 1 10)) :: (31, 3, some (aCm (fun C x y => bLe C y x) bLt 55)) :: (34, 1, some (aIl 3)) :: (35, 2, some (aIc (6))) :: (37, 3, some (aCm (fun C x y => bLe C y x) bLt 55)) :: (40, 2, some (aIl 5)) :: (42, 1, some (aAl 0)) :: (43, 3, some (aGetR [(49, 163960)])) :: (46, 2, some (aIl 4)) :: (48, 1, some (aIald D)) :: (49, 1, some (aBin fShr)) :: (50, 1, some (aIc (1))) :: (51, 1, some (aBin fAnd)) :: (52, 3, some (aIf bEq bNe 56)) :: (55, 1, some (aVret)) :: (56, 1, some (aAl 0)) :: (57, 3, some (aGetR [(49, 164009)])) :: (60, 2, some (aIl 4)) :: (62, 1, some (aJald)) :: (63, 1, some (aAl 0)) :: (64, 3, some (aGetR [(49, 295097)])) :: (67, 1, some (aAl 0)) :: (68, 3, some (aGetI D 1 11)) :: (71, 2, some (aIc (6))) :: (73, 1, some (aBin fMul)) :: (74, 1, some (aAl 0)) :: (75, 3, some (aGetI D 1 10)) :: (78, 1, some (aBin fAdd)) :: (79, 1, some (aIl 3)) :: (80, 1, some (aBin fSub)) :: (81, 1, some (aJald)) :: (82, 1, some (aLL)) :: (83, 2, some (aJs 6)) :: (85, 1, some (aIc (0))) :: (86, 2, some (aIs 8)) :: (88, 0, none) :: (88, 2, some (aIl 8)) :: (90, 1, some (aAl 0)) :: (91, 3, some (aGetI D 1 8)) :: (94, 3, some (aCm (fun C x y => bLe C y x) bLt 180)) :: (97, 2, some (aJl 6)) :: (99, 2, some (aIl 8)) :: (101, 1, some (aLI)) :: (102, 1, some (aJc (0))) :: (103, 1, some (aLcmp)) :: (104, 3, some (aIf bEq bNe 180)) :: (107, 1, some (aAl 0)) :: (108, 3, some (aGetI D 1 9)) :: (111, 3, some (aIc (200))) :: (114, 3, some (aCm (fun C x y => bLt C y x) bLe 180)) :: (117, 2, some (aJl 6)) :: (119, 2, some (aIl 8)) :: (121, 1, some (aLI)) :: (122, 1, some (aJc (1))) :: (123, 1, some (aLL)) :: (124, 1, some (aJc (0))) :: (125, 1, some (aLcmp)) :: (126, 3, some (aIf bEq bNe 174)) :: (129, 1, some (aAl 0)) :: (130, 3, some (aGetR [(49, 163976)])) :: (133, 2, some (aIl 8)) :: (135, 1, some (aIald D)) :: (136, 1, some (aAl 0)) :: (137, 3, some (aGetI D 1 12)) :: (140, 3, some (aCm (fun C x y => bLt C y x) bLe 174)) :: (143, 1, some (aAl 0)) :: (144, 1, some (aJl 1)) :: (145, 2, some (aIl 8)) :: (147, 1, some (aUn (fun C x => (6, rng C x)))) :: (148, 2, some (aIc (6))) :: (150, 1, some (aIl 3)) :: (151, 1, some (aBin fMul)) :: (152, 1, some (aLshlP)) :: (153, 1, some (aLorP)) :: (154, 1, some (aIl 3)) :: (155, 1, some (aIc (1))) :: (156, 1, some (aBin fAdd)) :: (157, 2, some (aIl 8)) :: (159, 2, some (aIl 5)) :: (161, 1, some (aIc (1))) :: (162, 1, some (aAl 0)) :: (163, 3, some (aGetR [(49, 163960)])) :: (166, 2, some (aIl 4)) :: (168, 1, some (aIald D)) :: (169, 1, some (aBin fTop)) :: (170, 1, some (aBin fTop)) :: (171, 3, some (aCall D 1 5 9 csX1_extend_5)) :: (174, 3, some (aInc 8 (1))) :: (177, 3, some (aGoto 88)) :: (180, 1, some (aVret)) :: []
set_option maxRecDepth 100000 in
set_option maxHeartbeats 4000000 in
theorem snX1_extend_4 (d : Nat) (W : List Nat) (c : Nat × Nat) (hc : c = cA ∨ c = cB) : SndAll (d, TYg, c, W) cdX1_extend (adX1_extend_4 (d, TYg, c, W)) := by
  unfold cdX1_extend adX1_extend_4
  refine sn_op sAl ?_
  refine sn_op sGetR ?_
  refine sn_op sIl ?_
  refine sn_op sIald ?_
  refine sn_op sAl ?_
  refine sn_op sGetI ?_
  refine sn_op sCmNe ?_
  refine sn_op sIl ?_
  refine sn_op (sIc (n := 2) (by decide)) ?_
  refine sn_op sCmLt ?_
  refine sn_op sAl ?_
  refine sn_op sJl ?_
  refine sn_op sIl ?_
  refine sn_op (sCV (sfX1_keep c hc) (by decide) (by decide +kernel)) ?_
  refine sn_op sVret ?_
  refine sn_op sIl ?_
  refine sn_op sAl ?_
  refine sn_op sGetI ?_
  refine sn_op sCmGe ?_
  refine sn_op sIl ?_
  refine sn_op (sIc (n := 6) (by decide)) ?_
  refine sn_op sCmGe ?_
  refine sn_op sIl ?_
  refine sn_op sAl ?_
  refine sn_op sGetR ?_
  refine sn_op sIl ?_
  refine sn_op sIald ?_
  refine sn_op sIshr ?_
  refine sn_op (sIc (n := 1) (by decide)) ?_
  refine sn_op sIand ?_
  refine sn_op sIfEq ?_
  refine sn_op sVret ?_
  refine sn_op sAl ?_
  refine sn_op sGetR ?_
  refine sn_op sIl ?_
  refine sn_op sJald ?_
  refine sn_op sAl ?_
  refine sn_op sGetR ?_
  refine sn_op sAl ?_
  refine sn_op sGetI ?_
  refine sn_op (sIc (n := 6) (by decide)) ?_
  refine sn_op sImul ?_
  refine sn_op sAl ?_
  refine sn_op sGetI ?_
  refine sn_op sIadd ?_
  refine sn_op sIl ?_
  refine sn_op sIsub ?_
  refine sn_op sJald ?_
  refine sn_op sLand ?_
  refine sn_op sJs ?_
  refine sn_op (sIc (n := 0) (by decide)) ?_
  refine sn_op sIs ?_
  refine sn_st ?_
  refine sn_op sIl ?_
  refine sn_op sAl ?_
  refine sn_op sGetI ?_
  refine sn_op sCmGe ?_
  refine sn_op sJl ?_
  refine sn_op sIl ?_
  refine sn_op sLushr ?_
  refine sn_op (sJc (n := 0) (by decide)) ?_
  refine sn_op sLcmp ?_
  refine sn_op sIfEq ?_
  refine sn_op sAl ?_
  refine sn_op sGetI ?_
  refine sn_op (sIc (n := 200) (by decide)) ?_
  refine sn_op sCmGt ?_
  refine sn_op sJl ?_
  refine sn_op sIl ?_
  refine sn_op sLushr ?_
  refine sn_op (sJc (n := 1) (by decide)) ?_
  refine sn_op sLand ?_
  refine sn_op (sJc (n := 0) (by decide)) ?_
  refine sn_op sLcmp ?_
  refine sn_op sIfEq ?_
  refine sn_op sAl ?_
  refine sn_op sGetR ?_
  refine sn_op sIl ?_
  refine sn_op sIald ?_
  refine sn_op sAl ?_
  refine sn_op sGetI ?_
  refine sn_op sCmGt ?_
  refine sn_op sAl ?_
  refine sn_op sJl ?_
  refine sn_op sIl ?_
  refine sn_op sI2l ?_
  refine sn_op (sIc (n := 6) (by decide)) ?_
  refine sn_op sIl ?_
  refine sn_op sImul ?_
  refine sn_op sLshlP ?_
  refine sn_op sLorP ?_
  refine sn_op sIl ?_
  refine sn_op (sIc (n := 1) (by decide)) ?_
  refine sn_op sIadd ?_
  refine sn_op sIl ?_
  refine sn_op sIl ?_
  refine sn_op (sIc (n := 1) (by decide)) ?_
  refine sn_op sAl ?_
  refine sn_op sGetR ?_
  refine sn_op sIl ?_
  refine sn_op sIald ?_
  refine sn_op sIshl ?_
  refine sn_op sIor ?_
  refine sn_op (sCV (sfX1_extend_5 c hc) (by decide) (by decide +kernel)) ?_
  refine sn_op (sInc (n := 1) (by decide)) ?_
  refine sn_op sGoto ?_
  refine sn_op sVret ?_
  exact sn_nil
def csX1_extend_4 : List AC := [([(2, 49, 0), (5, 0, 14), (0, 4, 4), (0, 0, 0), (0, -2147483648, 2147483647)], 4, [((9, 0, 0), [], [])], [819273, 819288, 42949673009], [((49, 9), (0, 200))]), ([(2, 49, 0), (5, 0, 14), (0, 4, 4), (0, 0, 39), (0, -2147483648, 2147483647)], 4, [((9, 0, 0), [], [])], [819273, 819288, 42949673009], [((49, 9), (0, 200))])]
set_option maxRecDepth 100000 in
set_option maxHeartbeats 4000000 in
theorem sfX1_extend_4 (c : Nat × Nat) (hc : c = cA ∨ c = cB) : ∀ ac ∈ csX1_extend_4, SafeC TYg c mX1_extend ac := by
  intro ac hac
  simp only [csX1_extend_4, List.mem_cons, List.not_mem_nil, or_false] at hac
  rcases hac with rfl | rfl
  · rcases hc with rfl | rfl
    · exact safe_of (ann := [(88, [(2, 49, 0), (5, 0, 14), (4, 0, 0), (0, 4, 4), (0, 0, 0), (0, -2147483648, 2147483647), (8, 0, 0), (4, 0, 0), (0, 0, 40)], [(0, 8, 0, 4294967296)])]) (fuel := 600) okX1_extend (snX1_extend_4 _ _ cA (Or.inl rfl)) (List.forall_mem_cons.mpr ⟨⟨_, _, rfl⟩, (fun q hq => by cases hq)⟩) (by decide) (by decide +kernel)
    · exact safe_of (ann := [(88, [(2, 49, 0), (5, 0, 14), (4, 0, 0), (0, 4, 4), (0, 0, 0), (0, -2147483648, 2147483647), (8, 0, 0), (4, 0, 0), (0, 0, 40)], [(0, 8, 0, 4294967296)])]) (fuel := 600) okX1_extend (snX1_extend_4 _ _ cB (Or.inr rfl)) (List.forall_mem_cons.mpr ⟨⟨_, _, rfl⟩, (fun q hq => by cases hq)⟩) (by decide) (by decide +kernel)
  · rcases hc with rfl | rfl
    · exact safe_of (ann := [(88, [(2, 49, 0), (5, 0, 14), (4, 0, 0), (0, 4, 4), (0, 0, 39), (0, -2147483648, 2147483647), (8, 0, 0), (4, 0, 0), (0, 0, 40)], [(0, 8, 0, 4294967296)])]) (fuel := 600) okX1_extend (snX1_extend_4 _ _ cA (Or.inl rfl)) (List.forall_mem_cons.mpr ⟨⟨_, _, rfl⟩, (fun q hq => by cases hq)⟩) (by decide) (by decide +kernel)
    · exact safe_of (ann := [(88, [(2, 49, 0), (5, 0, 14), (4, 0, 0), (0, 4, 4), (0, 0, 39), (0, -2147483648, 2147483647), (8, 0, 0), (4, 0, 0), (0, 0, 40)], [(0, 8, 0, 4294967296)])]) (fuel := 600) okX1_extend (snX1_extend_4 _ _ cB (Or.inr rfl)) (List.forall_mem_cons.mpr ⟨⟨_, _, rfl⟩, (fun q hq => by cases hq)⟩) (by decide) (by decide +kernel)
set_option maxRecDepth 100000 in
def adX1_extend_3 (D : KK) : List ACE := (0, 1, some (aAl 0)) :: (1, 3, some (aGetR [(49, 163960)])) :: (4, 2, some (aIl 4)) :: (6, 1, some (aIald D)) :: (7, 1, some (aAl 0)) :: (8, 3, some (aGetI D 1 11)) :: (11, 3, some (aCm bNe bEq 26)) :: (14, 1, some (aIl 3)) :: (15, 1, some (aIc (2))) :: (16, 3, some (aCm bLt (fun C x y => bLe C y x) 25)) :: (19, 1, some (aAl 0)) :: (20, 1, some (aJl 1)) :: (21, 1, some (aIl 3)) :: (22, 3, some (aCall D 1 3 4 csX1_keep)) :: (25, 1, some (aVret)) :: (26, 1, some (aIl 3)) :: (27, 1, some (aAl 0)) :: (28, 3, some (aGetI D 1 10)) :: (31, 3, some (aCm (fun C x y => bLe C y x) bLt 55)) :: (34, 1, some (aIl 3)) :: (35, 2, some (aIc (6))) :: (37, 3, some (aCm (fun C x y => bLe C y x) bLt 55)) :: (40, 2, some (aIl 5)) :: (42, 1, some (aAl 0)) :: (43, 3, some (aGetR [(49, 163960)])) :: (46, 2, some (aIl 4)) :: (48, 1, some (aIald D)) :: (49, 1, some (aBin fShr)) :: (50, 1, some (aIc (1))) :: (51, 1, some (aBin fAnd)) :: (52, 3, some (aIf bEq bNe 56)) :: (55, 1, some (aVret)) :: (56, 1, some (aAl 0)) :: (57, 3, some (aGetR [(49, 164009)])) :: (60, 2, some (aIl 4)) :: (62, 1, some (aJald)) :: (63, 1, some (aAl 0)) :: (64, 3, some (aGetR [(49, 295097)])) :: (67, 1, some (aAl 0)) :: (68, 3, some (aGetI D 1 11)) :: (71, 2, some (aIc (6))) :: (73, 1, some (aBin fMul)) :: (74, 1, some (aAl 0)) :: (75, 3, some (aGetI D 1 10)) :: (78, 1, some (aBin fAdd)) :: (79, 1, some (aIl 3)) :: (80, 1, some (aBin fSub)) :: (81, 1, some (aJald)) :: (82, 1, some (aLL)) :: (83, 2, some (aJs 6)) :: (85, 1, some (aIc (0))) :: (86, 2, some (aIs 8)) :: (88, 0, none) :: (88, 2, some (aIl 8)) :: (90, 1, some (aAl 0)) :: (91, 3, some (aGetI D 1 8)) :: (94, 3, some (aCm (fun C x y => bLe C y x) bLt 180)) :: (97, 2, some (aJl 6)) :: (99, 2, some (aIl 8)) :: (101, 1, some (aLI)) :: (102, 1, some (aJc (0))) :: (103, 1, some (aLcmp)) :: (104, 3, some (aIf bEq bNe 180)) :: (107, 1, some (aAl 0)) :: (108, 3, some (aGetI D 1 9)) :: (111, 3, some (aIc (200))) :: (114, 3, some (aCm (fun C x y => bLt C y x) bLe 180)) :: (117, 2, some (aJl 6)) :: (119, 2, some (aIl 8)) :: (121, 1, some (aLI)) :: (122, 1, some (aJc (1))) :: (123, 1, some (aLL)) :: (124, 1, some (aJc (0))) :: (125, 1, some (aLcmp)) :: (126, 3, some (aIf bEq bNe 174)) :: (129, 1, some (aAl 0)) :: (130, 3, some (aGetR [(49, 163976)])) :: (133, 2, some (aIl 8)) :: (135, 1, some (aIald D)) :: (136, 1, some (aAl 0)) :: (137, 3, some (aGetI D 1 12)) :: (140, 3, some (aCm (fun C x y => bLt C y x) bLe 174)) :: (143, 1, some (aAl 0)) :: (144, 1, some (aJl 1)) :: (145, 2, some (aIl 8)) :: (147, 1, some (aUn (fun C x => (6, rng C x)))) :: (148, 2, some (aIc (6))) :: (150, 1, some (aIl 3)) :: (151, 1, some (aBin fMul)) :: (152, 1, some (aLshlP)) :: (153, 1, some (aLorP)) :: (154, 1, some (aIl 3)) :: (155, 1, some (aIc (1))) :: (156, 1, some (aBin fAdd)) :: (157, 2, some (aIl 8)) :: (159, 2, some (aIl 5)) :: (161, 1, some (aIc (1))) :: (162, 1, some (aAl 0)) :: (163, 3, some (aGetR [(49, 163960)])) :: (166, 2, some (aIl 4)) :: (168, 1, some (aIald D)) :: (169, 1, some (aBin fTop)) :: (170, 1, some (aBin fTop)) :: (171, 3, some (aCall D 1 5 9 csX1_extend_4)) :: (174, 3, some (aInc 8 (1))) :: (177, 3, some (aGoto 88)) :: (180, 1, some (aVret)) :: []
set_option maxRecDepth 100000 in
set_option maxHeartbeats 4000000 in
theorem snX1_extend_3 (d : Nat) (W : List Nat) (c : Nat × Nat) (hc : c = cA ∨ c = cB) : SndAll (d, TYg, c, W) cdX1_extend (adX1_extend_3 (d, TYg, c, W)) := by
  unfold cdX1_extend adX1_extend_3
  refine sn_op sAl ?_
  refine sn_op sGetR ?_
  refine sn_op sIl ?_
  refine sn_op sIald ?_
  refine sn_op sAl ?_
  refine sn_op sGetI ?_
  refine sn_op sCmNe ?_
  refine sn_op sIl ?_
  refine sn_op (sIc (n := 2) (by decide)) ?_
  refine sn_op sCmLt ?_
  refine sn_op sAl ?_
  refine sn_op sJl ?_
  refine sn_op sIl ?_
  refine sn_op (sCV (sfX1_keep c hc) (by decide) (by decide +kernel)) ?_
  refine sn_op sVret ?_
  refine sn_op sIl ?_
  refine sn_op sAl ?_
  refine sn_op sGetI ?_
  refine sn_op sCmGe ?_
  refine sn_op sIl ?_
  refine sn_op (sIc (n := 6) (by decide)) ?_
  refine sn_op sCmGe ?_
  refine sn_op sIl ?_
  refine sn_op sAl ?_
  refine sn_op sGetR ?_
  refine sn_op sIl ?_
  refine sn_op sIald ?_
  refine sn_op sIshr ?_
  refine sn_op (sIc (n := 1) (by decide)) ?_
  refine sn_op sIand ?_
  refine sn_op sIfEq ?_
  refine sn_op sVret ?_
  refine sn_op sAl ?_
  refine sn_op sGetR ?_
  refine sn_op sIl ?_
  refine sn_op sJald ?_
  refine sn_op sAl ?_
  refine sn_op sGetR ?_
  refine sn_op sAl ?_
  refine sn_op sGetI ?_
  refine sn_op (sIc (n := 6) (by decide)) ?_
  refine sn_op sImul ?_
  refine sn_op sAl ?_
  refine sn_op sGetI ?_
  refine sn_op sIadd ?_
  refine sn_op sIl ?_
  refine sn_op sIsub ?_
  refine sn_op sJald ?_
  refine sn_op sLand ?_
  refine sn_op sJs ?_
  refine sn_op (sIc (n := 0) (by decide)) ?_
  refine sn_op sIs ?_
  refine sn_st ?_
  refine sn_op sIl ?_
  refine sn_op sAl ?_
  refine sn_op sGetI ?_
  refine sn_op sCmGe ?_
  refine sn_op sJl ?_
  refine sn_op sIl ?_
  refine sn_op sLushr ?_
  refine sn_op (sJc (n := 0) (by decide)) ?_
  refine sn_op sLcmp ?_
  refine sn_op sIfEq ?_
  refine sn_op sAl ?_
  refine sn_op sGetI ?_
  refine sn_op (sIc (n := 200) (by decide)) ?_
  refine sn_op sCmGt ?_
  refine sn_op sJl ?_
  refine sn_op sIl ?_
  refine sn_op sLushr ?_
  refine sn_op (sJc (n := 1) (by decide)) ?_
  refine sn_op sLand ?_
  refine sn_op (sJc (n := 0) (by decide)) ?_
  refine sn_op sLcmp ?_
  refine sn_op sIfEq ?_
  refine sn_op sAl ?_
  refine sn_op sGetR ?_
  refine sn_op sIl ?_
  refine sn_op sIald ?_
  refine sn_op sAl ?_
  refine sn_op sGetI ?_
  refine sn_op sCmGt ?_
  refine sn_op sAl ?_
  refine sn_op sJl ?_
  refine sn_op sIl ?_
  refine sn_op sI2l ?_
  refine sn_op (sIc (n := 6) (by decide)) ?_
  refine sn_op sIl ?_
  refine sn_op sImul ?_
  refine sn_op sLshlP ?_
  refine sn_op sLorP ?_
  refine sn_op sIl ?_
  refine sn_op (sIc (n := 1) (by decide)) ?_
  refine sn_op sIadd ?_
  refine sn_op sIl ?_
  refine sn_op sIl ?_
  refine sn_op (sIc (n := 1) (by decide)) ?_
  refine sn_op sAl ?_
  refine sn_op sGetR ?_
  refine sn_op sIl ?_
  refine sn_op sIald ?_
  refine sn_op sIshl ?_
  refine sn_op sIor ?_
  refine sn_op (sCV (sfX1_extend_4 c hc) (by decide) (by decide +kernel)) ?_
  refine sn_op (sInc (n := 1) (by decide)) ?_
  refine sn_op sGoto ?_
  refine sn_op sVret ?_
  exact sn_nil
def csX1_extend_3 : List AC := [([(2, 49, 0), (5, 0, 13), (0, 3, 3), (0, 0, 0), (0, -2147483648, 2147483647)], 5, [((9, 0, 0), [], [])], [819273, 819288, 42949673009], [((49, 9), (0, 200))]), ([(2, 49, 0), (5, 0, 13), (0, 3, 3), (0, 0, 39), (0, -2147483648, 2147483647)], 5, [((9, 0, 0), [], [])], [819273, 819288, 42949673009], [((49, 9), (0, 200))])]
set_option maxRecDepth 100000 in
set_option maxHeartbeats 4000000 in
theorem sfX1_extend_3 (c : Nat × Nat) (hc : c = cA ∨ c = cB) : ∀ ac ∈ csX1_extend_3, SafeC TYg c mX1_extend ac := by
  intro ac hac
  simp only [csX1_extend_3, List.mem_cons, List.not_mem_nil, or_false] at hac
  rcases hac with rfl | rfl
  · rcases hc with rfl | rfl
    · exact safe_of (ann := [(88, [(2, 49, 0), (5, 0, 13), (4, 0, 0), (0, 3, 3), (0, 0, 0), (0, -2147483648, 2147483647), (8, 0, 0), (4, 0, 0), (0, 0, 40)], [(0, 8, 0, 4294967296)])]) (fuel := 600) okX1_extend (snX1_extend_3 _ _ cA (Or.inl rfl)) (List.forall_mem_cons.mpr ⟨⟨_, _, rfl⟩, (fun q hq => by cases hq)⟩) (by decide) (by decide +kernel)
    · exact safe_of (ann := [(88, [(2, 49, 0), (5, 0, 13), (4, 0, 0), (0, 3, 3), (0, 0, 0), (0, -2147483648, 2147483647), (8, 0, 0), (4, 0, 0), (0, 0, 40)], [(0, 8, 0, 4294967296)])]) (fuel := 600) okX1_extend (snX1_extend_3 _ _ cB (Or.inr rfl)) (List.forall_mem_cons.mpr ⟨⟨_, _, rfl⟩, (fun q hq => by cases hq)⟩) (by decide) (by decide +kernel)
  · rcases hc with rfl | rfl
    · exact safe_of (ann := [(88, [(2, 49, 0), (5, 0, 13), (4, 0, 0), (0, 3, 3), (0, 0, 39), (0, -2147483648, 2147483647), (8, 0, 0), (4, 0, 0), (0, 0, 40)], [(0, 8, 0, 4294967296)])]) (fuel := 600) okX1_extend (snX1_extend_3 _ _ cA (Or.inl rfl)) (List.forall_mem_cons.mpr ⟨⟨_, _, rfl⟩, (fun q hq => by cases hq)⟩) (by decide) (by decide +kernel)
    · exact safe_of (ann := [(88, [(2, 49, 0), (5, 0, 13), (4, 0, 0), (0, 3, 3), (0, 0, 39), (0, -2147483648, 2147483647), (8, 0, 0), (4, 0, 0), (0, 0, 40)], [(0, 8, 0, 4294967296)])]) (fuel := 600) okX1_extend (snX1_extend_3 _ _ cB (Or.inr rfl)) (List.forall_mem_cons.mpr ⟨⟨_, _, rfl⟩, (fun q hq => by cases hq)⟩) (by decide) (by decide +kernel)
set_option maxRecDepth 100000 in
def adX1_extend_2 (D : KK) : List ACE := (0, 1, some (aAl 0)) :: (1, 3, some (aGetR [(49, 163960)])) :: (4, 2, some (aIl 4)) :: (6, 1, some (aIald D)) :: (7, 1, some (aAl 0)) :: (8, 3, some (aGetI D 1 11)) :: (11, 3, some (aCm bNe bEq 26)) :: (14, 1, some (aIl 3)) :: (15, 1, some (aIc (2))) :: (16, 3, some (aCm bLt (fun C x y => bLe C y x) 25)) :: (19, 1, some (aAl 0)) :: (20, 1, some (aJl 1)) :: (21, 1, some (aIl 3)) :: (22, 3, some (aCall D 1 3 4 csX1_keep)) :: (25, 1, some (aVret)) :: (26, 1, some (aIl 3)) :: (27, 1, some (aAl 0)) :: (28, 3, some (aGetI D 1 10)) :: (31, 3, some (aCm (fun C x y => bLe C y x) bLt 55)) :: (34, 1, some (aIl 3)) :: (35, 2, some (aIc (6))) :: (37, 3, some (aCm (fun C x y => bLe C y x) bLt 55)) :: (40, 2, some (aIl 5)) :: (42, 1, some (aAl 0)) :: (43, 3, some (aGetR [(49, 163960)])) :: (46, 2, some (aIl 4)) :: (48, 1, some (aIald D)) :: (49, 1, some (aBin fShr)) :: (50, 1, some (aIc (1))) :: (51, 1, some (aBin fAnd)) :: (52, 3, some (aIf bEq bNe 56)) :: (55, 1, some (aVret)) :: (56, 1, some (aAl 0)) :: (57, 3, some (aGetR [(49, 164009)])) :: (60, 2, some (aIl 4)) :: (62, 1, some (aJald)) :: (63, 1, some (aAl 0)) :: (64, 3, some (aGetR [(49, 295097)])) :: (67, 1, some (aAl 0)) :: (68, 3, some (aGetI D 1 11)) :: (71, 2, some (aIc (6))) :: (73, 1, some (aBin fMul)) :: (74, 1, some (aAl 0)) :: (75, 3, some (aGetI D 1 10)) :: (78, 1, some (aBin fAdd)) :: (79, 1, some (aIl 3)) :: (80, 1, some (aBin fSub)) :: (81, 1, some (aJald)) :: (82, 1, some (aLL)) :: (83, 2, some (aJs 6)) :: (85, 1, some (aIc (0))) :: (86, 2, some (aIs 8)) :: (88, 0, none) :: (88, 2, some (aIl 8)) :: (90, 1, some (aAl 0)) :: (91, 3, some (aGetI D 1 8)) :: (94, 3, some (aCm (fun C x y => bLe C y x) bLt 180)) :: (97, 2, some (aJl 6)) :: (99, 2, some (aIl 8)) :: (101, 1, some (aLI)) :: (102, 1, some (aJc (0))) :: (103, 1, some (aLcmp)) :: (104, 3, some (aIf bEq bNe 180)) :: (107, 1, some (aAl 0)) :: (108, 3, some (aGetI D 1 9)) :: (111, 3, some (aIc (200))) :: (114, 3, some (aCm (fun C x y => bLt C y x) bLe 180)) :: (117, 2, some (aJl 6)) :: (119, 2, some (aIl 8)) :: (121, 1, some (aLI)) :: (122, 1, some (aJc (1))) :: (123, 1, some (aLL)) :: (124, 1, some (aJc (0))) :: (125, 1, some (aLcmp)) :: (126, 3, some (aIf bEq bNe 174)) :: (129, 1, some (aAl 0)) :: (130, 3, some (aGetR [(49, 163976)])) :: (133, 2, some (aIl 8)) :: (135, 1, some (aIald D)) :: (136, 1, some (aAl 0)) :: (137, 3, some (aGetI D 1 12)) :: (140, 3, some (aCm (fun C x y => bLt C y x) bLe 174)) :: (143, 1, some (aAl 0)) :: (144, 1, some (aJl 1)) :: (145, 2, some (aIl 8)) :: (147, 1, some (aUn (fun C x => (6, rng C x)))) :: (148, 2, some (aIc (6))) :: (150, 1, some (aIl 3)) :: (151, 1, some (aBin fMul)) :: (152, 1, some (aLshlP)) :: (153, 1, some (aLorP)) :: (154, 1, some (aIl 3)) :: (155, 1, some (aIc (1))) :: (156, 1, some (aBin fAdd)) :: (157, 2, some (aIl 8)) :: (159, 2, some (aIl 5)) :: (161, 1, some (aIc (1))) :: (162, 1, some (aAl 0)) :: (163, 3, some (aGetR [(49, 163960)])) :: (166, 2, some (aIl 4)) :: (168, 1, some (aIald D)) :: (169, 1, some (aBin fTop)) :: (170, 1, some (aBin fTop)) :: (171, 3, some (aCall D 1 5 9 csX1_extend_3)) :: (174, 3, some (aInc 8 (1))) :: (177, 3, some (aGoto 88)) :: (180, 1, some (aVret)) :: []
set_option maxRecDepth 100000 in
set_option maxHeartbeats 4000000 in
theorem snX1_extend_2 (d : Nat) (W : List Nat) (c : Nat × Nat) (hc : c = cA ∨ c = cB) : SndAll (d, TYg, c, W) cdX1_extend (adX1_extend_2 (d, TYg, c, W)) := by
  unfold cdX1_extend adX1_extend_2
  refine sn_op sAl ?_
  refine sn_op sGetR ?_
  refine sn_op sIl ?_
  refine sn_op sIald ?_
  refine sn_op sAl ?_
  refine sn_op sGetI ?_
  refine sn_op sCmNe ?_
  refine sn_op sIl ?_
  refine sn_op (sIc (n := 2) (by decide)) ?_
  refine sn_op sCmLt ?_
  refine sn_op sAl ?_
  refine sn_op sJl ?_
  refine sn_op sIl ?_
  refine sn_op (sCV (sfX1_keep c hc) (by decide) (by decide +kernel)) ?_
  refine sn_op sVret ?_
  refine sn_op sIl ?_
  refine sn_op sAl ?_
  refine sn_op sGetI ?_
  refine sn_op sCmGe ?_
  refine sn_op sIl ?_
  refine sn_op (sIc (n := 6) (by decide)) ?_
  refine sn_op sCmGe ?_
  refine sn_op sIl ?_
  refine sn_op sAl ?_
  refine sn_op sGetR ?_
  refine sn_op sIl ?_
  refine sn_op sIald ?_
  refine sn_op sIshr ?_
  refine sn_op (sIc (n := 1) (by decide)) ?_
  refine sn_op sIand ?_
  refine sn_op sIfEq ?_
  refine sn_op sVret ?_
  refine sn_op sAl ?_
  refine sn_op sGetR ?_
  refine sn_op sIl ?_
  refine sn_op sJald ?_
  refine sn_op sAl ?_
  refine sn_op sGetR ?_
  refine sn_op sAl ?_
  refine sn_op sGetI ?_
  refine sn_op (sIc (n := 6) (by decide)) ?_
  refine sn_op sImul ?_
  refine sn_op sAl ?_
  refine sn_op sGetI ?_
  refine sn_op sIadd ?_
  refine sn_op sIl ?_
  refine sn_op sIsub ?_
  refine sn_op sJald ?_
  refine sn_op sLand ?_
  refine sn_op sJs ?_
  refine sn_op (sIc (n := 0) (by decide)) ?_
  refine sn_op sIs ?_
  refine sn_st ?_
  refine sn_op sIl ?_
  refine sn_op sAl ?_
  refine sn_op sGetI ?_
  refine sn_op sCmGe ?_
  refine sn_op sJl ?_
  refine sn_op sIl ?_
  refine sn_op sLushr ?_
  refine sn_op (sJc (n := 0) (by decide)) ?_
  refine sn_op sLcmp ?_
  refine sn_op sIfEq ?_
  refine sn_op sAl ?_
  refine sn_op sGetI ?_
  refine sn_op (sIc (n := 200) (by decide)) ?_
  refine sn_op sCmGt ?_
  refine sn_op sJl ?_
  refine sn_op sIl ?_
  refine sn_op sLushr ?_
  refine sn_op (sJc (n := 1) (by decide)) ?_
  refine sn_op sLand ?_
  refine sn_op (sJc (n := 0) (by decide)) ?_
  refine sn_op sLcmp ?_
  refine sn_op sIfEq ?_
  refine sn_op sAl ?_
  refine sn_op sGetR ?_
  refine sn_op sIl ?_
  refine sn_op sIald ?_
  refine sn_op sAl ?_
  refine sn_op sGetI ?_
  refine sn_op sCmGt ?_
  refine sn_op sAl ?_
  refine sn_op sJl ?_
  refine sn_op sIl ?_
  refine sn_op sI2l ?_
  refine sn_op (sIc (n := 6) (by decide)) ?_
  refine sn_op sIl ?_
  refine sn_op sImul ?_
  refine sn_op sLshlP ?_
  refine sn_op sLorP ?_
  refine sn_op sIl ?_
  refine sn_op (sIc (n := 1) (by decide)) ?_
  refine sn_op sIadd ?_
  refine sn_op sIl ?_
  refine sn_op sIl ?_
  refine sn_op (sIc (n := 1) (by decide)) ?_
  refine sn_op sAl ?_
  refine sn_op sGetR ?_
  refine sn_op sIl ?_
  refine sn_op sIald ?_
  refine sn_op sIshl ?_
  refine sn_op sIor ?_
  refine sn_op (sCV (sfX1_extend_3 c hc) (by decide) (by decide +kernel)) ?_
  refine sn_op (sInc (n := 1) (by decide)) ?_
  refine sn_op sGoto ?_
  refine sn_op sVret ?_
  exact sn_nil
def csX1_extend_2 : List AC := [([(2, 49, 0), (5, 0, 12), (0, 2, 2), (0, 0, 0), (0, -2147483648, 2147483647)], 6, [((9, 0, 0), [], [])], [819273, 819288, 42949673009], [((49, 9), (0, 200))]), ([(2, 49, 0), (5, 0, 12), (0, 2, 2), (0, 0, 39), (0, -2147483648, 2147483647)], 6, [((9, 0, 0), [], [])], [819273, 819288, 42949673009], [((49, 9), (0, 200))])]
set_option maxRecDepth 100000 in
set_option maxHeartbeats 4000000 in
theorem sfX1_extend_2 (c : Nat × Nat) (hc : c = cA ∨ c = cB) : ∀ ac ∈ csX1_extend_2, SafeC TYg c mX1_extend ac := by
  intro ac hac
  simp only [csX1_extend_2, List.mem_cons, List.not_mem_nil, or_false] at hac
  rcases hac with rfl | rfl
  · rcases hc with rfl | rfl
    · exact safe_of (ann := [(88, [(2, 49, 0), (5, 0, 12), (4, 0, 0), (0, 2, 2), (0, 0, 0), (0, -2147483648, 2147483647), (8, 0, 0), (4, 0, 0), (0, 0, 40)], [(0, 8, 0, 4294967296)])]) (fuel := 600) okX1_extend (snX1_extend_2 _ _ cA (Or.inl rfl)) (List.forall_mem_cons.mpr ⟨⟨_, _, rfl⟩, (fun q hq => by cases hq)⟩) (by decide) (by decide +kernel)
    · exact safe_of (ann := [(88, [(2, 49, 0), (5, 0, 12), (4, 0, 0), (0, 2, 2), (0, 0, 0), (0, -2147483648, 2147483647), (8, 0, 0), (4, 0, 0), (0, 0, 40)], [(0, 8, 0, 4294967296)])]) (fuel := 600) okX1_extend (snX1_extend_2 _ _ cB (Or.inr rfl)) (List.forall_mem_cons.mpr ⟨⟨_, _, rfl⟩, (fun q hq => by cases hq)⟩) (by decide) (by decide +kernel)
  · rcases hc with rfl | rfl
    · exact safe_of (ann := [(88, [(2, 49, 0), (5, 0, 12), (4, 0, 0), (0, 2, 2), (0, 0, 39), (0, -2147483648, 2147483647), (8, 0, 0), (4, 0, 0), (0, 0, 40)], [(0, 8, 0, 4294967296)])]) (fuel := 600) okX1_extend (snX1_extend_2 _ _ cA (Or.inl rfl)) (List.forall_mem_cons.mpr ⟨⟨_, _, rfl⟩, (fun q hq => by cases hq)⟩) (by decide) (by decide +kernel)
    · exact safe_of (ann := [(88, [(2, 49, 0), (5, 0, 12), (4, 0, 0), (0, 2, 2), (0, 0, 39), (0, -2147483648, 2147483647), (8, 0, 0), (4, 0, 0), (0, 0, 40)], [(0, 8, 0, 4294967296)])]) (fuel := 600) okX1_extend (snX1_extend_2 _ _ cB (Or.inr rfl)) (List.forall_mem_cons.mpr ⟨⟨_, _, rfl⟩, (fun q hq => by cases hq)⟩) (by decide) (by decide +kernel)
set_option maxRecDepth 100000 in
def adX1_extend_1 (D : KK) : List ACE := (0, 1, some (aAl 0)) :: (1, 3, some (aGetR [(49, 163960)])) :: (4, 2, some (aIl 4)) :: (6, 1, some (aIald D)) :: (7, 1, some (aAl 0)) :: (8, 3, some (aGetI D 1 11)) :: (11, 3, some (aCm bNe bEq 26)) :: (14, 1, some (aIl 3)) :: (15, 1, some (aIc (2))) :: (16, 3, some (aCm bLt (fun C x y => bLe C y x) 25)) :: (19, 1, some (aAl 0)) :: (20, 1, some (aJl 1)) :: (21, 1, some (aIl 3)) :: (22, 3, some (aCall D 1 3 4 csX1_keep)) :: (25, 1, some (aVret)) :: (26, 1, some (aIl 3)) :: (27, 1, some (aAl 0)) :: (28, 3, some (aGetI D 1 10)) :: (31, 3, some (aCm (fun C x y => bLe C y x) bLt 55)) :: (34, 1, some (aIl 3)) :: (35, 2, some (aIc (6))) :: (37, 3, some (aCm (fun C x y => bLe C y x) bLt 55)) :: (40, 2, some (aIl 5)) :: (42, 1, some (aAl 0)) :: (43, 3, some (aGetR [(49, 163960)])) :: (46, 2, some (aIl 4)) :: (48, 1, some (aIald D)) :: (49, 1, some (aBin fShr)) :: (50, 1, some (aIc (1))) :: (51, 1, some (aBin fAnd)) :: (52, 3, some (aIf bEq bNe 56)) :: (55, 1, some (aVret)) :: (56, 1, some (aAl 0)) :: (57, 3, some (aGetR [(49, 164009)])) :: (60, 2, some (aIl 4)) :: (62, 1, some (aJald)) :: (63, 1, some (aAl 0)) :: (64, 3, some (aGetR [(49, 295097)])) :: (67, 1, some (aAl 0)) :: (68, 3, some (aGetI D 1 11)) :: (71, 2, some (aIc (6))) :: (73, 1, some (aBin fMul)) :: (74, 1, some (aAl 0)) :: (75, 3, some (aGetI D 1 10)) :: (78, 1, some (aBin fAdd)) :: (79, 1, some (aIl 3)) :: (80, 1, some (aBin fSub)) :: (81, 1, some (aJald)) :: (82, 1, some (aLL)) :: (83, 2, some (aJs 6)) :: (85, 1, some (aIc (0))) :: (86, 2, some (aIs 8)) :: (88, 0, none) :: (88, 2, some (aIl 8)) :: (90, 1, some (aAl 0)) :: (91, 3, some (aGetI D 1 8)) :: (94, 3, some (aCm (fun C x y => bLe C y x) bLt 180)) :: (97, 2, some (aJl 6)) :: (99, 2, some (aIl 8)) :: (101, 1, some (aLI)) :: (102, 1, some (aJc (0))) :: (103, 1, some (aLcmp)) :: (104, 3, some (aIf bEq bNe 180)) :: (107, 1, some (aAl 0)) :: (108, 3, some (aGetI D 1 9)) :: (111, 3, some (aIc (200))) :: (114, 3, some (aCm (fun C x y => bLt C y x) bLe 180)) :: (117, 2, some (aJl 6)) :: (119, 2, some (aIl 8)) :: (121, 1, some (aLI)) :: (122, 1, some (aJc (1))) :: (123, 1, some (aLL)) :: (124, 1, some (aJc (0))) :: (125, 1, some (aLcmp)) :: (126, 3, some (aIf bEq bNe 174)) :: (129, 1, some (aAl 0)) :: (130, 3, some (aGetR [(49, 163976)])) :: (133, 2, some (aIl 8)) :: (135, 1, some (aIald D)) :: (136, 1, some (aAl 0)) :: (137, 3, some (aGetI D 1 12)) :: (140, 3, some (aCm (fun C x y => bLt C y x) bLe 174)) :: (143, 1, some (aAl 0)) :: (144, 1, some (aJl 1)) :: (145, 2, some (aIl 8)) :: (147, 1, some (aUn (fun C x => (6, rng C x)))) :: (148, 2, some (aIc (6))) :: (150, 1, some (aIl 3)) :: (151, 1, some (aBin fMul)) :: (152, 1, some (aLshlP)) :: (153, 1, some (aLorP)) :: (154, 1, some (aIl 3)) :: (155, 1, some (aIc (1))) :: (156, 1, some (aBin fAdd)) :: (157, 2, some (aIl 8)) :: (159, 2, some (aIl 5)) :: (161, 1, some (aIc (1))) :: (162, 1, some (aAl 0)) :: (163, 3, some (aGetR [(49, 163960)])) :: (166, 2, some (aIl 4)) :: (168, 1, some (aIald D)) :: (169, 1, some (aBin fTop)) :: (170, 1, some (aBin fTop)) :: (171, 3, some (aCall D 1 5 9 csX1_extend_2)) :: (174, 3, some (aInc 8 (1))) :: (177, 3, some (aGoto 88)) :: (180, 1, some (aVret)) :: []
set_option maxRecDepth 100000 in
set_option maxHeartbeats 4000000 in
theorem snX1_extend_1 (d : Nat) (W : List Nat) (c : Nat × Nat) (hc : c = cA ∨ c = cB) : SndAll (d, TYg, c, W) cdX1_extend (adX1_extend_1 (d, TYg, c, W)) := by
  unfold cdX1_extend adX1_extend_1
  refine sn_op sAl ?_
  refine sn_op sGetR ?_
  refine sn_op sIl ?_
  refine sn_op sIald ?_
  refine sn_op sAl ?_
  refine sn_op sGetI ?_
  refine sn_op sCmNe ?_
  refine sn_op sIl ?_
  refine sn_op (sIc (n := 2) (by decide)) ?_
  refine sn_op sCmLt ?_
  refine sn_op sAl ?_
  refine sn_op sJl ?_
  refine sn_op sIl ?_
  refine sn_op (sCV (sfX1_keep c hc) (by decide) (by decide +kernel)) ?_
  refine sn_op sVret ?_
  refine sn_op sIl ?_
  refine sn_op sAl ?_
  refine sn_op sGetI ?_
  refine sn_op sCmGe ?_
  refine sn_op sIl ?_
  refine sn_op (sIc (n := 6) (by decide)) ?_
  refine sn_op sCmGe ?_
  refine sn_op sIl ?_
  refine sn_op sAl ?_
  refine sn_op sGetR ?_
  refine sn_op sIl ?_
  refine sn_op sIald ?_
  refine sn_op sIshr ?_
  refine sn_op (sIc (n := 1) (by decide)) ?_
  refine sn_op sIand ?_
  refine sn_op sIfEq ?_
  refine sn_op sVret ?_
  refine sn_op sAl ?_
  refine sn_op sGetR ?_
  refine sn_op sIl ?_
  refine sn_op sJald ?_
  refine sn_op sAl ?_
  refine sn_op sGetR ?_
  refine sn_op sAl ?_
  refine sn_op sGetI ?_
  refine sn_op (sIc (n := 6) (by decide)) ?_
  refine sn_op sImul ?_
  refine sn_op sAl ?_
  refine sn_op sGetI ?_
  refine sn_op sIadd ?_
  refine sn_op sIl ?_
  refine sn_op sIsub ?_
  refine sn_op sJald ?_
  refine sn_op sLand ?_
  refine sn_op sJs ?_
  refine sn_op (sIc (n := 0) (by decide)) ?_
  refine sn_op sIs ?_
  refine sn_st ?_
  refine sn_op sIl ?_
  refine sn_op sAl ?_
  refine sn_op sGetI ?_
  refine sn_op sCmGe ?_
  refine sn_op sJl ?_
  refine sn_op sIl ?_
  refine sn_op sLushr ?_
  refine sn_op (sJc (n := 0) (by decide)) ?_
  refine sn_op sLcmp ?_
  refine sn_op sIfEq ?_
  refine sn_op sAl ?_
  refine sn_op sGetI ?_
  refine sn_op (sIc (n := 200) (by decide)) ?_
  refine sn_op sCmGt ?_
  refine sn_op sJl ?_
  refine sn_op sIl ?_
  refine sn_op sLushr ?_
  refine sn_op (sJc (n := 1) (by decide)) ?_
  refine sn_op sLand ?_
  refine sn_op (sJc (n := 0) (by decide)) ?_
  refine sn_op sLcmp ?_
  refine sn_op sIfEq ?_
  refine sn_op sAl ?_
  refine sn_op sGetR ?_
  refine sn_op sIl ?_
  refine sn_op sIald ?_
  refine sn_op sAl ?_
  refine sn_op sGetI ?_
  refine sn_op sCmGt ?_
  refine sn_op sAl ?_
  refine sn_op sJl ?_
  refine sn_op sIl ?_
  refine sn_op sI2l ?_
  refine sn_op (sIc (n := 6) (by decide)) ?_
  refine sn_op sIl ?_
  refine sn_op sImul ?_
  refine sn_op sLshlP ?_
  refine sn_op sLorP ?_
  refine sn_op sIl ?_
  refine sn_op (sIc (n := 1) (by decide)) ?_
  refine sn_op sIadd ?_
  refine sn_op sIl ?_
  refine sn_op sIl ?_
  refine sn_op (sIc (n := 1) (by decide)) ?_
  refine sn_op sAl ?_
  refine sn_op sGetR ?_
  refine sn_op sIl ?_
  refine sn_op sIald ?_
  refine sn_op sIshl ?_
  refine sn_op sIor ?_
  refine sn_op (sCV (sfX1_extend_2 c hc) (by decide) (by decide +kernel)) ?_
  refine sn_op (sInc (n := 1) (by decide)) ?_
  refine sn_op sGoto ?_
  refine sn_op sVret ?_
  exact sn_nil
def csX1_extend_1 : List AC := [([(2, 49, 0), (5, 0, 11), (0, 1, 1), (0, 0, 0), (0, -2147483648, 2147483647)], 7, [((9, 0, 0), [], [])], [819273, 819288, 42949673009], [((49, 9), (0, 200))]), ([(2, 49, 0), (5, 0, 11), (0, 1, 1), (0, 0, 39), (0, -2147483648, 2147483647)], 7, [((9, 0, 0), [], [])], [819273, 819288, 42949673009], [((49, 9), (0, 200))])]
set_option maxRecDepth 100000 in
set_option maxHeartbeats 4000000 in
theorem sfX1_extend_1 (c : Nat × Nat) (hc : c = cA ∨ c = cB) : ∀ ac ∈ csX1_extend_1, SafeC TYg c mX1_extend ac := by
  intro ac hac
  simp only [csX1_extend_1, List.mem_cons, List.not_mem_nil, or_false] at hac
  rcases hac with rfl | rfl
  · rcases hc with rfl | rfl
    · exact safe_of (ann := [(88, [(2, 49, 0), (5, 0, 11), (4, 0, 0), (0, 1, 1), (0, 0, 0), (0, -2147483648, 2147483647), (8, 0, 0), (4, 0, 0), (0, 0, 40)], [(0, 8, 0, 4294967296)])]) (fuel := 600) okX1_extend (snX1_extend_1 _ _ cA (Or.inl rfl)) (List.forall_mem_cons.mpr ⟨⟨_, _, rfl⟩, (fun q hq => by cases hq)⟩) (by decide) (by decide +kernel)
    · exact safe_of (ann := [(88, [(2, 49, 0), (5, 0, 11), (4, 0, 0), (0, 1, 1), (0, 0, 0), (0, -2147483648, 2147483647), (8, 0, 0), (4, 0, 0), (0, 0, 40)], [(0, 8, 0, 4294967296)])]) (fuel := 600) okX1_extend (snX1_extend_1 _ _ cB (Or.inr rfl)) (List.forall_mem_cons.mpr ⟨⟨_, _, rfl⟩, (fun q hq => by cases hq)⟩) (by decide) (by decide +kernel)
  · rcases hc with rfl | rfl
    · exact safe_of (ann := [(88, [(2, 49, 0), (5, 0, 11), (4, 0, 0), (0, 1, 1), (0, 0, 39), (0, -2147483648, 2147483647), (8, 0, 0), (4, 0, 0), (0, 0, 40)], [(0, 8, 0, 4294967296)])]) (fuel := 600) okX1_extend (snX1_extend_1 _ _ cA (Or.inl rfl)) (List.forall_mem_cons.mpr ⟨⟨_, _, rfl⟩, (fun q hq => by cases hq)⟩) (by decide) (by decide +kernel)
    · exact safe_of (ann := [(88, [(2, 49, 0), (5, 0, 11), (4, 0, 0), (0, 1, 1), (0, 0, 39), (0, -2147483648, 2147483647), (8, 0, 0), (4, 0, 0), (0, 0, 40)], [(0, 8, 0, 4294967296)])]) (fuel := 600) okX1_extend (snX1_extend_1 _ _ cB (Or.inr rfl)) (List.forall_mem_cons.mpr ⟨⟨_, _, rfl⟩, (fun q hq => by cases hq)⟩) (by decide) (by decide +kernel)
def csX1_extend : List AC := csX1_extend_1
theorem sfX1_extend (c : Nat × Nat) (hc : c = cA ∨ c = cB) : ∀ ac ∈ csX1_extend, SafeC TYg c mX1_extend ac := sfX1_extend_1 c hc
set_option maxRecDepth 100000 in
def adX1_measure (D : KK) : List ACE := (0, 1, some (aJc (0))) :: (1, 1, some (aJs 2)) :: (2, 1, some (aIc (0))) :: (3, 2, some (aIs 4)) :: (5, 0, none) :: (5, 2, some (aIl 4)) :: (7, 1, some (aAl 0)) :: (8, 3, some (aGetI D 1 8)) :: (11, 3, some (aCm (fun C x y => bLe C y x) bLt 52)) :: (14, 1, some (aJl 2)) :: (15, 1, some (aAl 0)) :: (16, 3, some (aGetR [(49, 163992)])) :: (19, 2, some (aIl 4)) :: (21, 1, some (aIald D)) :: (22, 3, some (aIf bLt (fun C x y => bLe C y x) 43)) :: (25, 1, some (aAl 0)) :: (26, 3, some (aGetR [(49, 163960)])) :: (29, 2, some (aIl 4)) :: (31, 1, some (aIald D)) :: (32, 1, some (aIl 1)) :: (33, 3, some (aCm bNe bEq 43)) :: (36, 1, some (aJc (1))) :: (37, 2, some (aIl 4)) :: (39, 1, some (aLI)) :: (40, 3, some (aGoto 44)) :: (43, 1, some (aJc (0))) :: (44, 1, some (aLL)) :: (45, 1, some (aJs 2)) :: (46, 3, some (aInc 4 (1))) :: (49, 3, some (aGoto 5)) :: (52, 1, some (aIl 1)) :: (53, 2, some (aIc (6))) :: (55, 1, some (aBin fMul)) :: (56, 2, some (aIs 4)) :: (58, 1, some (aIc (1))) :: (59, 2, some (aIs 5)) :: (61, 0, none) :: (61, 2, some (aIl 5)) :: (63, 1, some (aAl 0)) :: (64, 3, some (aGetI D 1 10)) :: (67, 3, some (aCm (fun C x y => bLe C y x) bLt 145)) :: (70, 2, some (aIl 5)) :: (72, 2, some (aIc (6))) :: (74, 3, some (aCm (fun C x y => bLe C y x) bLt 145)) :: (77, 1, some (aAl 0)) :: (78, 3, some (aGetR [(49, 295097)])) :: (81, 2, some (aIl 4)) :: (83, 2, some (aIl 5)) :: (85, 1, some (aBin fAdd)) :: (86, 1, some (aJl 2)) :: (87, 1, some (aJast D)) :: (88, 1, some (aJl 2)) :: (89, 2, some (aJs 6)) :: (91, 1, some (aIc (0))) :: (92, 2, some (aIs 8)) :: (94, 0, none) :: (94, 2, some (aIl 8)) :: (96, 1, some (aAl 0)) :: (97, 3, some (aGetI D 1 8)) :: (100, 3, some (aCm (fun C x y => bLe C y x) bLt 136)) :: (103, 2, some (aJl 6)) :: (105, 1, some (aAl 0)) :: (106, 3, some (aGetR [(49, 164009)])) :: (109, 2, some (aIl 8)) :: (111, 1, some (aJald)) :: (112, 1, some (aJl 2)) :: (113, 1, some (aLL)) :: (114, 1, some (aJc (0))) :: (115, 1, some (aLcmp)) :: (116, 3, some (aIf bEq bNe 126)) :: (119, 1, some (aJc (1))) :: (120, 2, some (aIl 8)) :: (122, 1, some (aLI)) :: (123, 3, some (aGoto 127)) :: (126, 1, some (aJc (0))) :: (127, 1, some (aLL)) :: (128, 2, some (aJs 6)) :: (130, 3, some (aInc 8 (1))) :: (133, 3, some (aGoto 94)) :: (136, 2, some (aJl 6)) :: (138, 1, some (aJs 2)) :: (139, 3, some (aInc 5 (1))) :: (142, 3, some (aGoto 61)) :: (145, 1, some (aVret)) :: []
set_option maxRecDepth 100000 in
set_option maxHeartbeats 4000000 in
theorem snX1_measure (d : Nat) (W : List Nat) (c : Nat × Nat) (hc : c = cA ∨ c = cB) : SndAll (d, TYg, c, W) cdX1_measure (adX1_measure (d, TYg, c, W)) := by
  unfold cdX1_measure adX1_measure
  refine sn_op (sJc (n := 0) (by decide)) ?_
  refine sn_op sJs ?_
  refine sn_op (sIc (n := 0) (by decide)) ?_
  refine sn_op sIs ?_
  refine sn_st ?_
  refine sn_op sIl ?_
  refine sn_op sAl ?_
  refine sn_op sGetI ?_
  refine sn_op sCmGe ?_
  refine sn_op sJl ?_
  refine sn_op sAl ?_
  refine sn_op sGetR ?_
  refine sn_op sIl ?_
  refine sn_op sIald ?_
  refine sn_op sIfLt ?_
  refine sn_op sAl ?_
  refine sn_op sGetR ?_
  refine sn_op sIl ?_
  refine sn_op sIald ?_
  refine sn_op sIl ?_
  refine sn_op sCmNe ?_
  refine sn_op (sJc (n := 1) (by decide)) ?_
  refine sn_op sIl ?_
  refine sn_op sLshl ?_
  refine sn_op sGoto ?_
  refine sn_op (sJc (n := 0) (by decide)) ?_
  refine sn_op sLor ?_
  refine sn_op sJs ?_
  refine sn_op (sInc (n := 1) (by decide)) ?_
  refine sn_op sGoto ?_
  refine sn_op sIl ?_
  refine sn_op (sIc (n := 6) (by decide)) ?_
  refine sn_op sImul ?_
  refine sn_op sIs ?_
  refine sn_op (sIc (n := 1) (by decide)) ?_
  refine sn_op sIs ?_
  refine sn_st ?_
  refine sn_op sIl ?_
  refine sn_op sAl ?_
  refine sn_op sGetI ?_
  refine sn_op sCmGe ?_
  refine sn_op sIl ?_
  refine sn_op (sIc (n := 6) (by decide)) ?_
  refine sn_op sCmGe ?_
  refine sn_op sAl ?_
  refine sn_op sGetR ?_
  refine sn_op sIl ?_
  refine sn_op sIl ?_
  refine sn_op sIadd ?_
  refine sn_op sJl ?_
  refine sn_op sJast ?_
  refine sn_op sJl ?_
  refine sn_op sJs ?_
  refine sn_op (sIc (n := 0) (by decide)) ?_
  refine sn_op sIs ?_
  refine sn_st ?_
  refine sn_op sIl ?_
  refine sn_op sAl ?_
  refine sn_op sGetI ?_
  refine sn_op sCmGe ?_
  refine sn_op sJl ?_
  refine sn_op sAl ?_
  refine sn_op sGetR ?_
  refine sn_op sIl ?_
  refine sn_op sJald ?_
  refine sn_op sJl ?_
  refine sn_op sLand ?_
  refine sn_op (sJc (n := 0) (by decide)) ?_
  refine sn_op sLcmp ?_
  refine sn_op sIfEq ?_
  refine sn_op (sJc (n := 1) (by decide)) ?_
  refine sn_op sIl ?_
  refine sn_op sLshl ?_
  refine sn_op sGoto ?_
  refine sn_op (sJc (n := 0) (by decide)) ?_
  refine sn_op sLor ?_
  refine sn_op sJs ?_
  refine sn_op (sInc (n := 1) (by decide)) ?_
  refine sn_op sGoto ?_
  refine sn_op sJl ?_
  refine sn_op sJs ?_
  refine sn_op (sInc (n := 1) (by decide)) ?_
  refine sn_op sGoto ?_
  refine sn_op sVret ?_
  exact sn_nil
def csX1_measure : List AC := [([(2, 49, 0), (0, 0, 0)], 1, [((9, 0, 0), [], [])], [295097], []), ([(2, 49, 0), (0, 0, 11)], 1, [((9, 0, 0), [], [])], [295097], [])]
set_option maxRecDepth 100000 in
set_option maxHeartbeats 4000000 in
theorem sfX1_measure (c : Nat × Nat) (hc : c = cA ∨ c = cB) : ∀ ac ∈ csX1_measure, SafeC TYg c mX1_measure ac := by
  intro ac hac
  simp only [csX1_measure, List.mem_cons, List.not_mem_nil, or_false] at hac
  rcases hac with rfl | rfl
  · rcases hc with rfl | rfl
    · exact safe_of (ann := [(5, [(2, 49, 0), (0, 0, 0), (8, 0, 0), (4, 0, 0), (0, 0, 40), (4, 0, 0), (4, 0, 0), (4, 0, 0), (4, 0, 0)], [(3, 0, 0, 2), (0, 4, 0, 4294967296)]), (61, [(2, 49, 0), (0, 0, 0), (8, 0, 0), (4, 0, 0), (0, 0, 0), (0, 1, 6), (4, 0, 0), (4, 0, 0), (4, 0, 0)], [(3, 0, 0, 1), (0, 5, 0, 4294967296), (3, 0, 0, 2)]), (94, [(2, 49, 0), (0, 0, 0), (8, 0, 0), (4, 0, 0), (0, 0, 0), (0, 1, 5), (8, 0, 0), (4, 0, 0), (0, 0, 40)], [(3, 0, 0, 1), (0, 5, 0, 4294967296), (3, 0, 0, 1), (0, 8, 0, 4294967296)])]) (fuel := 600) okX1_measure (snX1_measure _ _ cA (Or.inl rfl)) (List.forall_mem_cons.mpr ⟨⟨_, _, rfl⟩, List.forall_mem_cons.mpr ⟨⟨_, _, rfl⟩, List.forall_mem_cons.mpr ⟨⟨_, _, rfl⟩, (fun q hq => by cases hq)⟩⟩⟩) (by decide) (by decide +kernel)
    · exact safe_of (ann := [(5, [(2, 49, 0), (0, 0, 0), (8, 0, 0), (4, 0, 0), (0, 0, 40), (4, 0, 0), (4, 0, 0), (4, 0, 0), (4, 0, 0)], [(3, 0, 0, 2), (0, 4, 0, 4294967296)]), (61, [(2, 49, 0), (0, 0, 0), (8, 0, 0), (4, 0, 0), (0, 0, 0), (0, 1, 6), (4, 0, 0), (4, 0, 0), (4, 0, 0)], [(3, 0, 0, 1), (0, 5, 0, 4294967296), (3, 0, 0, 2)]), (94, [(2, 49, 0), (0, 0, 0), (8, 0, 0), (4, 0, 0), (0, 0, 0), (0, 1, 5), (8, 0, 0), (4, 0, 0), (0, 0, 40)], [(3, 0, 0, 1), (0, 5, 0, 4294967296), (3, 0, 0, 1), (0, 8, 0, 4294967296)])]) (fuel := 600) okX1_measure (snX1_measure _ _ cB (Or.inr rfl)) (List.forall_mem_cons.mpr ⟨⟨_, _, rfl⟩, List.forall_mem_cons.mpr ⟨⟨_, _, rfl⟩, List.forall_mem_cons.mpr ⟨⟨_, _, rfl⟩, (fun q hq => by cases hq)⟩⟩⟩) (by decide) (by decide +kernel)
  · rcases hc with rfl | rfl
    · exact safe_of (ann := [(5, [(2, 49, 0), (0, 0, 11), (8, 0, 0), (4, 0, 0), (0, 0, 40), (4, 0, 0), (4, 0, 0), (4, 0, 0), (4, 0, 0)], [(3, 0, 0, 2), (0, 4, 0, 4294967296)]), (61, [(2, 49, 0), (0, 0, 11), (8, 0, 0), (4, 0, 0), (0, 0, 66), (0, 1, 6), (4, 0, 0), (4, 0, 0), (4, 0, 0)], [(3, 0, 0, 1), (0, 5, 0, 4294967296), (3, 0, 0, 2)]), (94, [(2, 49, 0), (0, 0, 11), (8, 0, 0), (4, 0, 0), (0, 0, 66), (0, 1, 5), (8, 0, 0), (4, 0, 0), (0, 0, 40)], [(3, 0, 0, 1), (0, 5, 0, 4294967296), (3, 0, 0, 1), (0, 8, 0, 4294967296)])]) (fuel := 600) okX1_measure (snX1_measure _ _ cA (Or.inl rfl)) (List.forall_mem_cons.mpr ⟨⟨_, _, rfl⟩, List.forall_mem_cons.mpr ⟨⟨_, _, rfl⟩, List.forall_mem_cons.mpr ⟨⟨_, _, rfl⟩, (fun q hq => by cases hq)⟩⟩⟩) (by decide) (by decide +kernel)
    · exact safe_of (ann := [(5, [(2, 49, 0), (0, 0, 11), (8, 0, 0), (4, 0, 0), (0, 0, 40), (4, 0, 0), (4, 0, 0), (4, 0, 0), (4, 0, 0)], [(3, 0, 0, 2), (0, 4, 0, 4294967296)]), (61, [(2, 49, 0), (0, 0, 11), (8, 0, 0), (4, 0, 0), (0, 0, 66), (0, 1, 6), (4, 0, 0), (4, 0, 0), (4, 0, 0)], [(3, 0, 0, 1), (0, 5, 0, 4294967296), (3, 0, 0, 2)]), (94, [(2, 49, 0), (0, 0, 11), (8, 0, 0), (4, 0, 0), (0, 0, 66), (0, 1, 5), (8, 0, 0), (4, 0, 0), (0, 0, 40)], [(3, 0, 0, 1), (0, 5, 0, 4294967296), (3, 0, 0, 1), (0, 8, 0, 4294967296)])]) (fuel := 600) okX1_measure (snX1_measure _ _ cB (Or.inr rfl)) (List.forall_mem_cons.mpr ⟨⟨_, _, rfl⟩, List.forall_mem_cons.mpr ⟨⟨_, _, rfl⟩, List.forall_mem_cons.mpr ⟨⟨_, _, rfl⟩, (fun q hq => by cases hq)⟩⟩⟩) (by decide) (by decide +kernel)
set_option maxRecDepth 100000 in
def adX1_linkSales (D : KK) : List ACE := (0, 1, some (aIc (0))) :: (1, 1, some (aIs 1)) :: (2, 0, none) :: (2, 1, some (aIl 1)) :: (3, 1, some (aAl 0)) :: (4, 3, some (aGetI D 1 8)) :: (7, 3, some (aCm (fun C x y => bLe C y x) bLt 105)) :: (10, 1, some (aAl 0)) :: (11, 3, some (aGetR [(49, 164009)])) :: (14, 1, some (aIl 1)) :: (15, 1, some (aJc (0))) :: (16, 1, some (aJast D)) :: (17, 1, some (aIc (0))) :: (18, 1, some (aIs 2)) :: (19, 0, none) :: (19, 1, some (aIl 2)) :: (20, 1, some (aAl 0)) :: (21, 3, some (aGetI D 1 8)) :: (24, 3, some (aCm (fun C x y => bLe C y x) bLt 99)) :: (27, 1, some (aAl 0)) :: (28, 3, some (aGetR [(49, 163992)])) :: (31, 1, some (aIl 1)) :: (32, 1, some (aIald D)) :: (33, 3, some (aIf bLt (fun C x y => bLe C y x) 99)) :: (36, 1, some (aAl 0)) :: (37, 3, some (aGetR [(49, 163944)])) :: (40, 1, some (aIl 2)) :: (41, 1, some (aIald D)) :: (42, 1, some (aAl 0)) :: (43, 3, some (aGetR [(49, 163960)])) :: (46, 1, some (aIl 1)) :: (47, 1, some (aIald D)) :: (48, 3, some (aCm bNe bEq 93)) :: (51, 1, some (aAl 0)) :: (52, 3, some (aGetR [(49, 163992)])) :: (55, 1, some (aIl 2)) :: (56, 1, some (aIald D)) :: (57, 1, some (aAl 0)) :: (58, 3, some (aGetR [(49, 163992)])) :: (61, 1, some (aIl 1)) :: (62, 1, some (aIald D)) :: (63, 3, some (aCm bNe bEq 93)) :: (66, 1, some (aAl 0)) :: (67, 3, some (aGetR [(49, 163976)])) :: (70, 1, some (aIl 2)) :: (71, 1, some (aIald D)) :: (72, 1, some (aAl 0)) :: (73, 3, some (aGetR [(49, 163976)])) :: (76, 1, some (aIl 1)) :: (77, 1, some (aIald D)) :: (78, 3, some (aCm bLt (fun C x y => bLe C y x) 93)) :: (81, 1, some (aAl 0)) :: (82, 3, some (aGetR [(49, 164009)])) :: (85, 1, some (aIl 1)) :: (86, 1, some (aDup2)) :: (87, 1, some (aJald)) :: (88, 1, some (aJc (1))) :: (89, 1, some (aIl 2)) :: (90, 1, some (aLI)) :: (91, 1, some (aLL)) :: (92, 1, some (aJast D)) :: (93, 3, some (aInc 2 (1))) :: (96, 3, some (aGoto 19)) :: (99, 3, some (aInc 1 (1))) :: (102, 3, some (aGoto 2)) :: (105, 1, some (aVret)) :: []
set_option maxRecDepth 100000 in
set_option maxHeartbeats 4000000 in
theorem snX1_linkSales (d : Nat) (W : List Nat) (c : Nat × Nat) (hc : c = cA ∨ c = cB) : SndAll (d, TYg, c, W) cdX1_linkSales (adX1_linkSales (d, TYg, c, W)) := by
  unfold cdX1_linkSales adX1_linkSales
  refine sn_op (sIc (n := 0) (by decide)) ?_
  refine sn_op sIs ?_
  refine sn_st ?_
  refine sn_op sIl ?_
  refine sn_op sAl ?_
  refine sn_op sGetI ?_
  refine sn_op sCmGe ?_
  refine sn_op sAl ?_
  refine sn_op sGetR ?_
  refine sn_op sIl ?_
  refine sn_op (sJc (n := 0) (by decide)) ?_
  refine sn_op sJast ?_
  refine sn_op (sIc (n := 0) (by decide)) ?_
  refine sn_op sIs ?_
  refine sn_st ?_
  refine sn_op sIl ?_
  refine sn_op sAl ?_
  refine sn_op sGetI ?_
  refine sn_op sCmGe ?_
  refine sn_op sAl ?_
  refine sn_op sGetR ?_
  refine sn_op sIl ?_
  refine sn_op sIald ?_
  refine sn_op sIfLt ?_
  refine sn_op sAl ?_
  refine sn_op sGetR ?_
  refine sn_op sIl ?_
  refine sn_op sIald ?_
  refine sn_op sAl ?_
  refine sn_op sGetR ?_
  refine sn_op sIl ?_
  refine sn_op sIald ?_
  refine sn_op sCmNe ?_
  refine sn_op sAl ?_
  refine sn_op sGetR ?_
  refine sn_op sIl ?_
  refine sn_op sIald ?_
  refine sn_op sAl ?_
  refine sn_op sGetR ?_
  refine sn_op sIl ?_
  refine sn_op sIald ?_
  refine sn_op sCmNe ?_
  refine sn_op sAl ?_
  refine sn_op sGetR ?_
  refine sn_op sIl ?_
  refine sn_op sIald ?_
  refine sn_op sAl ?_
  refine sn_op sGetR ?_
  refine sn_op sIl ?_
  refine sn_op sIald ?_
  refine sn_op sCmLt ?_
  refine sn_op sAl ?_
  refine sn_op sGetR ?_
  refine sn_op sIl ?_
  refine sn_op sDup2 ?_
  refine sn_op sJald ?_
  refine sn_op (sJc (n := 1) (by decide)) ?_
  refine sn_op sIl ?_
  refine sn_op sLshl ?_
  refine sn_op sLor ?_
  refine sn_op sJast ?_
  refine sn_op (sInc (n := 1) (by decide)) ?_
  refine sn_op sGoto ?_
  refine sn_op (sInc (n := 1) (by decide)) ?_
  refine sn_op sGoto ?_
  refine sn_op sVret ?_
  exact sn_nil
def csX1_linkSales : List AC := [([(2, 49, 0)], 1, [((9, 0, 0), [], [])], [164009], [])]
set_option maxRecDepth 100000 in
set_option maxHeartbeats 4000000 in
theorem sfX1_linkSales (c : Nat × Nat) (hc : c = cA ∨ c = cB) : ∀ ac ∈ csX1_linkSales, SafeC TYg c mX1_linkSales ac := by
  intro ac hac
  simp only [csX1_linkSales, List.mem_cons, List.not_mem_nil, or_false] at hac
  rcases hac with rfl
  · rcases hc with rfl | rfl
    · exact safe_of (ann := [(2, [(2, 49, 0), (0, 0, 40), (4, 0, 0)], [(0, 1, 0, 4294967296), (3, 0, 0, 2)]), (19, [(2, 49, 0), (0, 0, 39), (0, 0, 40)], [(0, 1, 0, 4294967296), (3, 0, 0, 1), (0, 2, 0, 4294967296)])]) (fuel := 600) okX1_linkSales (snX1_linkSales _ _ cA (Or.inl rfl)) (List.forall_mem_cons.mpr ⟨⟨_, _, rfl⟩, List.forall_mem_cons.mpr ⟨⟨_, _, rfl⟩, (fun q hq => by cases hq)⟩⟩) (by decide) (by decide +kernel)
    · exact safe_of (ann := [(2, [(2, 49, 0), (0, 0, 40), (4, 0, 0)], [(0, 1, 0, 4294967296), (3, 0, 0, 2)]), (19, [(2, 49, 0), (0, 0, 39), (0, 0, 40)], [(0, 1, 0, 4294967296), (3, 0, 0, 1), (0, 2, 0, 4294967296)])]) (fuel := 600) okX1_linkSales (snX1_linkSales _ _ cB (Or.inr rfl)) (List.forall_mem_cons.mpr ⟨⟨_, _, rfl⟩, List.forall_mem_cons.mpr ⟨⟨_, _, rfl⟩, (fun q hq => by cases hq)⟩⟩) (by decide) (by decide +kernel)
set_option maxRecDepth 100000 in
def adX1_search (D : KK) : List ACE := (0, 1, some (aAl 0)) :: (1, 1, some (aIc (0))) :: (2, 3, some (aPutI D 1 9)) :: (5, 1, some (aAl 0)) :: (6, 1, some (aIl 1)) :: (7, 3, some (aPutI D 1 10)) :: (10, 1, some (aAl 0)) :: (11, 3, some (aCall D 1 1 3 csX1_linkSales)) :: (14, 1, some (aIc (0))) :: (15, 1, some (aIs 3)) :: (16, 0, none) :: (16, 1, some (aIl 3)) :: (17, 2, some (aIc (12))) :: (19, 3, some (aCm (fun C x y => bLe C y x) bLt 33)) :: (22, 1, some (aAl 0)) :: (23, 1, some (aIl 3)) :: (24, 3, some (aCall D 1 2 9 csX1_measure)) :: (27, 3, some (aInc 3 (1))) :: (30, 3, some (aGoto 16)) :: (33, 1, some (aIc (0))) :: (34, 1, some (aIs 3)) :: (35, 0, none) :: (35, 1, some (aIl 3)) :: (36, 1, some (aAl 0)) :: (37, 3, some (aGetI D 1 8)) :: (40, 3, some (aCm (fun C x y => bLe C y x) bLt 104)) :: (43, 1, some (aAl 0)) :: (44, 3, some (aGetI D 1 9)) :: (47, 3, some (aIc (200))) :: (50, 3, some (aCm (fun C x y => bLt C y x) bLe 104)) :: (53, 1, some (aAl 0)) :: (54, 3, some (aGetR [(49, 163992)])) :: (57, 1, some (aIl 3)) :: (58, 1, some (aIald D)) :: (59, 3, some (aIf bLt (fun C x y => bLe C y x) 98)) :: (62, 1, some (aAl 0)) :: (63, 1, some (aAl 0)) :: (64, 3, some (aGetR [(49, 163944)])) :: (67, 1, some (aIl 3)) :: (68, 1, some (aIald D)) :: (69, 3, some (aPutI D 1 11)) :: (72, 1, some (aAl 0)) :: (73, 1, some (aAl 0)) :: (74, 3, some (aGetR [(49, 163976)])) :: (77, 1, some (aIl 3)) :: (78, 1, some (aIald D)) :: (79, 1, some (aIl 2)) :: (80, 1, some (aBin fAdd)) :: (81, 3, some (aPutI D 1 12)) :: (84, 1, some (aAl 0)) :: (85, 1, some (aIl 3)) :: (86, 1, some (aUn (fun C x => (6, rng C x)))) :: (87, 1, some (aIc (1))) :: (88, 1, some (aIl 3)) :: (89, 1, some (aIc (1))) :: (90, 1, some (aAl 0)) :: (91, 3, some (aGetI D 1 11)) :: (94, 1, some (aBin fTop)) :: (95, 3, some (aCall D 1 5 9 csX1_extend)) :: (98, 3, some (aInc 3 (1))) :: (101, 3, some (aGoto 35)) :: (104, 1, some (aAl 0)) :: (105, 3, some (aGetI D 1 9)) :: (108, 3, some (aIc (200))) :: (111, 3, some (aCm bLe (fun C x y => bLt C y x) 119)) :: (114, 2, some (aIc (-2))) :: (116, 3, some (aGoto 123)) :: (119, 1, some (aAl 0)) :: (120, 3, some (aGetI D 1 9)) :: (123, 1, some (aIret)) :: []
set_option maxRecDepth 100000 in
set_option maxHeartbeats 4000000 in
theorem snX1_search (d : Nat) (W : List Nat) (c : Nat × Nat) (hc : c = cA ∨ c = cB) : SndAll (d, TYg, c, W) cdX1_search (adX1_search (d, TYg, c, W)) := by
  unfold cdX1_search adX1_search
  refine sn_op sAl ?_
  refine sn_op (sIc (n := 0) (by decide)) ?_
  refine sn_op sPutI ?_
  refine sn_op sAl ?_
  refine sn_op sIl ?_
  refine sn_op sPutI ?_
  refine sn_op sAl ?_
  refine sn_op (sCV (sfX1_linkSales c hc) (by decide) (by decide +kernel)) ?_
  refine sn_op (sIc (n := 0) (by decide)) ?_
  refine sn_op sIs ?_
  refine sn_st ?_
  refine sn_op sIl ?_
  refine sn_op (sIc (n := 12) (by decide)) ?_
  refine sn_op sCmGe ?_
  refine sn_op sAl ?_
  refine sn_op sIl ?_
  refine sn_op (sCV (sfX1_measure c hc) (by decide) (by decide +kernel)) ?_
  refine sn_op (sInc (n := 1) (by decide)) ?_
  refine sn_op sGoto ?_
  refine sn_op (sIc (n := 0) (by decide)) ?_
  refine sn_op sIs ?_
  refine sn_st ?_
  refine sn_op sIl ?_
  refine sn_op sAl ?_
  refine sn_op sGetI ?_
  refine sn_op sCmGe ?_
  refine sn_op sAl ?_
  refine sn_op sGetI ?_
  refine sn_op (sIc (n := 200) (by decide)) ?_
  refine sn_op sCmGt ?_
  refine sn_op sAl ?_
  refine sn_op sGetR ?_
  refine sn_op sIl ?_
  refine sn_op sIald ?_
  refine sn_op sIfLt ?_
  refine sn_op sAl ?_
  refine sn_op sAl ?_
  refine sn_op sGetR ?_
  refine sn_op sIl ?_
  refine sn_op sIald ?_
  refine sn_op sPutI ?_
  refine sn_op sAl ?_
  refine sn_op sAl ?_
  refine sn_op sGetR ?_
  refine sn_op sIl ?_
  refine sn_op sIald ?_
  refine sn_op sIl ?_
  refine sn_op sIadd ?_
  refine sn_op sPutI ?_
  refine sn_op sAl ?_
  refine sn_op sIl ?_
  refine sn_op sI2l ?_
  refine sn_op (sIc (n := 1) (by decide)) ?_
  refine sn_op sIl ?_
  refine sn_op (sIc (n := 1) (by decide)) ?_
  refine sn_op sAl ?_
  refine sn_op sGetI ?_
  refine sn_op sIshl ?_
  refine sn_op (sCV (sfX1_extend c hc) (by decide) (by decide +kernel)) ?_
  refine sn_op (sInc (n := 1) (by decide)) ?_
  refine sn_op sGoto ?_
  refine sn_op sAl ?_
  refine sn_op sGetI ?_
  refine sn_op (sIc (n := 200) (by decide)) ?_
  refine sn_op sCmLe ?_
  refine sn_op (sIc (n := -2) (by decide)) ?_
  refine sn_op sGoto ?_
  refine sn_op sAl ?_
  refine sn_op sGetI ?_
  refine sn_op sIret ?_
  exact sn_nil
def csX1_search : List AC := [([(2, 49, 0), (0, 2, 6), (0, 0, 400)], 8, [((0, -2, -2), [((49, 9), (201, 201))], []), ((0, 0, 200), [((49, 9), (0, 200))], [])], [164009, 295097, 819273, 819288, 42949673009, 47244640305, 51539607601, 55834574897], [])]
set_option maxRecDepth 100000 in
set_option maxHeartbeats 4000000 in
theorem sfX1_search (c : Nat × Nat) (hc : c = cA ∨ c = cB) : ∀ ac ∈ csX1_search, SafeC TYg c mX1_search ac := by
  intro ac hac
  simp only [csX1_search, List.mem_cons, List.not_mem_nil, or_false] at hac
  rcases hac with rfl
  · rcases hc with rfl | rfl
    · exact safe_of (ann := [(16, [(2, 49, 0), (0, 2, 6), (0, 0, 400), (0, 0, 12)], [(3, 0, 0, 2), (0, 3, 0, 4294967296)]), (35, [(2, 49, 0), (0, 2, 6), (0, 0, 400), (0, 0, 40)], [(3, 0, 0, 1), (0, 3, 0, 4294967296)])]) (fuel := 600) okX1_search (snX1_search _ _ cA (Or.inl rfl)) (List.forall_mem_cons.mpr ⟨⟨_, _, rfl⟩, List.forall_mem_cons.mpr ⟨⟨_, _, rfl⟩, (fun q hq => by cases hq)⟩⟩) (by decide) (by decide +kernel)
    · exact safe_of (ann := [(16, [(2, 49, 0), (0, 2, 6), (0, 0, 400), (0, 0, 12)], [(3, 0, 0, 2), (0, 3, 0, 4294967296)]), (35, [(2, 49, 0), (0, 2, 6), (0, 0, 400), (0, 0, 40)], [(3, 0, 0, 1), (0, 3, 0, 4294967296)])]) (fuel := 600) okX1_search (snX1_search _ _ cB (Or.inr rfl)) (List.forall_mem_cons.mpr ⟨⟨_, _, rfl⟩, List.forall_mem_cons.mpr ⟨⟨_, _, rfl⟩, (fun q hq => by cases hq)⟩⟩) (by decide) (by decide +kernel)
