/-! contracts -/
set_option maxRecDepth 100000 in
def adX7_mayHand (D : KK) : List ACE := (0, 1, some (aAl 0)) :: (1, 3, some (aGetR [(1175, 329064)])) :: (4, 1, some (aIl 1)) :: (5, 1, some (aIald D)) :: (6, 1, some (aAl 0)) :: (7, 3, some (aGetR [(1175, 329048)])) :: (10, 1, some (aIl 2)) :: (11, 1, some (aIald D)) :: (12, 3, some (aCm bNe bEq 44)) :: (15, 1, some (aAl 0)) :: (16, 3, some (aGetR [(1175, 329064)])) :: (19, 1, some (aIl 1)) :: (20, 1, some (aIald D)) :: (21, 1, some (aIl 3)) :: (22, 3, some (aCm bEq bNe 44)) :: (25, 1, some (aAl 0)) :: (26, 3, some (aGetR [(1175, 329128)])) :: (29, 1, some (aIl 1)) :: (30, 1, some (aIald D)) :: (31, 1, some (aAl 0)) :: (32, 3, some (aGetR [(1175, 329128)])) :: (35, 1, some (aIl 2)) :: (36, 1, some (aIald D)) :: (37, 3, some (aCm (fun C x y => bLt C y x) bLe 44)) :: (40, 1, some (aIc (1))) :: (41, 3, some (aGoto 45)) :: (44, 1, some (aIc (0))) :: (45, 1, some (aZret)) :: []
set_option maxRecDepth 100000 in
set_option maxHeartbeats 4000000 in
theorem snX7_mayHand (d : Nat) (W : List Nat) (c : Nat × Nat) (hc : c = cA ∨ c = cB) : SndAll (d, TYg, c, W) cdX7_mayHand (adX7_mayHand (d, TYg, c, W)) := by
  unfold cdX7_mayHand adX7_mayHand
  refine sn_op sAl ?_
  refine sn_op sGetR ?_
  refine sn_op sIl ?_
  refine sn_op sIald ?_
  refine sn_op sAl ?_
  refine sn_op sGetR ?_
  refine sn_op sIl ?_
  refine sn_op sIald ?_
  refine sn_op sCmNe ?_
  refine sn_op sAl ?_
  refine sn_op sGetR ?_
  refine sn_op sIl ?_
  refine sn_op sIald ?_
  refine sn_op sIl ?_
  refine sn_op sCmEq ?_
  refine sn_op sAl ?_
  refine sn_op sGetR ?_
  refine sn_op sIl ?_
  refine sn_op sIald ?_
  refine sn_op sAl ?_
  refine sn_op sGetR ?_
  refine sn_op sIl ?_
  refine sn_op sIald ?_
  refine sn_op sCmGt ?_
  refine sn_op (sIc (n := 1) (by decide)) ?_
  refine sn_op sGoto ?_
  refine sn_op (sIc (n := 0) (by decide)) ?_
  refine sn_op sZret ?_
  exact sn_nil
def csX7_mayHand : List AC := [([(2, 1175, 0), (0, 0, 0), (0, 0, 0), (0, 0, 11)], 1, [((0, 0, 0), [], []), ((0, 1, 1), [], [])], [], []), ([(2, 1175, 0), (0, 0, 39), (0, 0, 39), (0, 0, 11)], 1, [((0, 0, 0), [], []), ((0, 1, 1), [], [])], [], [])]
set_option maxRecDepth 100000 in
set_option maxHeartbeats 4000000 in
theorem sfX7_mayHand (c : Nat × Nat) (hc : c = cA ∨ c = cB) : ∀ ac ∈ csX7_mayHand, SafeC TYg c mX7_mayHand ac := by
  intro ac hac
  simp only [csX7_mayHand, List.mem_cons, List.not_mem_nil, or_false] at hac
  rcases hac with rfl | rfl
  · rcases hc with rfl | rfl
    · exact safe_of (ann := []) (fuel := 600) okX7_mayHand (snX7_mayHand _ _ cA (Or.inl rfl)) (fun q hq => by cases hq) (by decide) (by decide +kernel)
    · exact safe_of (ann := []) (fuel := 600) okX7_mayHand (snX7_mayHand _ _ cB (Or.inr rfl)) (fun q hq => by cases hq) (by decide) (by decide +kernel)
  · rcases hc with rfl | rfl
    · exact safe_of (ann := []) (fuel := 600) okX7_mayHand (snX7_mayHand _ _ cA (Or.inl rfl)) (fun q hq => by cases hq) (by decide) (by decide +kernel)
    · exact safe_of (ann := []) (fuel := 600) okX7_mayHand (snX7_mayHand _ _ cB (Or.inr rfl)) (fun q hq => by cases hq) (by decide) (by decide +kernel)
set_option maxRecDepth 100000 in
def adX7_named (D : KK) : List ACE := (0, 1, some (aAl 0)) :: (1, 1, some (aIc (0))) :: (2, 3, some (aPutI D 7 0)) :: (5, 1, some (aIl 1)) :: (6, 3, some (aIf bNe bEq 25)) :: (9, 1, some (aAl 0)) :: (10, 3, some (aGetR [(1175, 42168)])) :: (13, 1, some (aIc (0))) :: (14, 1, some (aAl 0)) :: (15, 3, some (aGetI D 7 3)) :: (18, 1, some (aIl 2)) :: (19, 3, some (aCall D 16 4 5 csX7_found)) :: (22, 3, some (aGoto 68)) :: (25, 1, some (aIl 1)) :: (26, 1, some (aIc (1))) :: (27, 3, some (aCm bNe bEq 46)) :: (30, 1, some (aAl 0)) :: (31, 3, some (aGetR [(1175, 34008)])) :: (34, 1, some (aIc (0))) :: (35, 1, some (aAl 0)) :: (36, 3, some (aGetI D 7 4)) :: (39, 1, some (aIl 2)) :: (40, 3, some (aCall D 16 4 5 csX7_found)) :: (43, 3, some (aGoto 68)) :: (46, 1, some (aIl 1)) :: (47, 1, some (aIc (2))) :: (48, 3, some (aCm bNe bEq 67)) :: (51, 1, some (aAl 0)) :: (52, 3, some (aGetR [(1175, 99560)])) :: (55, 1, some (aIc (0))) :: (56, 1, some (aAl 0)) :: (57, 3, some (aGetI D 7 5)) :: (60, 1, some (aIl 2)) :: (61, 3, some (aCall D 16 4 5 csX7_found)) :: (64, 3, some (aGoto 68)) :: (67, 1, some (aIc (-1))) :: (68, 1, some (aIret)) :: []
set_option maxRecDepth 100000 in
set_option maxHeartbeats 4000000 in
theorem snX7_named (d : Nat) (W : List Nat) (c : Nat × Nat) (hc : c = cA ∨ c = cB) : SndAll (d, TYg, c, W) cdX7_named (adX7_named (d, TYg, c, W)) := by
  unfold cdX7_named adX7_named
  refine sn_op sAl ?_
  refine sn_op (sIc (n := 0) (by decide)) ?_
  refine sn_op sPutI ?_
  refine sn_op sIl ?_
  refine sn_op sIfNe ?_
  refine sn_op sAl ?_
  refine sn_op sGetR ?_
  refine sn_op (sIc (n := 0) (by decide)) ?_
  refine sn_op sAl ?_
  refine sn_op sGetI ?_
  refine sn_op sIl ?_
  refine sn_op (sCI (sfX7_found c hc) (by decide) (by decide +kernel)) ?_
  refine sn_op sGoto ?_
  refine sn_op sIl ?_
  refine sn_op (sIc (n := 1) (by decide)) ?_
  refine sn_op sCmNe ?_
  refine sn_op sAl ?_
  refine sn_op sGetR ?_
  refine sn_op (sIc (n := 0) (by decide)) ?_
  refine sn_op sAl ?_
  refine sn_op sGetI ?_
  refine sn_op sIl ?_
  refine sn_op (sCI (sfX7_found c hc) (by decide) (by decide +kernel)) ?_
  refine sn_op sGoto ?_
  refine sn_op sIl ?_
  refine sn_op (sIc (n := 2) (by decide)) ?_
  refine sn_op sCmNe ?_
  refine sn_op sAl ?_
  refine sn_op sGetR ?_
  refine sn_op (sIc (n := 0) (by decide)) ?_
  refine sn_op sAl ?_
  refine sn_op sGetI ?_
  refine sn_op sIl ?_
  refine sn_op (sCI (sfX7_found c hc) (by decide) (by decide +kernel)) ?_
  refine sn_op sGoto ?_
  refine sn_op (sIc (n := -1) (by decide)) ?_
  refine sn_op sIret ?_
  exact sn_nil
def csX7_named : List AC := [([(2, 1175, 0), (0, -2147483648, 2147483647), (0, -2147483648, 2147483647)], 2, [((0, -1, -1), [((1175, 0), (0, 0))], []), ((0, 0, 11), [((1175, 0), (0, 0))], [(1, (0, 2))])], [4294968471], [])]
set_option maxRecDepth 100000 in
set_option maxHeartbeats 4000000 in
theorem sfX7_named (c : Nat × Nat) (hc : c = cA ∨ c = cB) : ∀ ac ∈ csX7_named, SafeC TYg c mX7_named ac := by
  intro ac hac
  simp only [csX7_named, List.mem_cons, List.not_mem_nil, or_false] at hac
  rcases hac with rfl
  · rcases hc with rfl | rfl
    · exact safe_of (ann := []) (fuel := 600) okX7_named (snX7_named _ _ cA (Or.inl rfl)) (fun q hq => by cases hq) (by decide) (by decide +kernel)
    · exact safe_of (ann := []) (fuel := 600) okX7_named (snX7_named _ _ cB (Or.inr rfl)) (fun q hq => by cases hq) (by decide) (by decide +kernel)
set_option maxRecDepth 100000 in
def adX7_numeral (D : KK) : List ACE := (0, 1, some (aAl 0)) :: (1, 3, some (aGetI D 7 35)) :: (4, 3, some (aIf bEq bNe 9)) :: (7, 1, some (aIl 1)) :: (8, 1, some (aIret)) :: (9, 1, some (aAl 0)) :: (10, 3, some (aGetI D 7 33)) :: (13, 1, some (aIc (2))) :: (14, 3, some (aCm bEq bNe 25)) :: (17, 1, some (aAl 0)) :: (18, 1, some (aIc (1))) :: (19, 3, some (aNo)) :: (22, 3, some (aGoto 46)) :: (25, 1, some (aAl 0)) :: (26, 3, some (aGetI D 7 34)) :: (29, 1, some (aIl 1)) :: (30, 3, some (aCm bLt (fun C x y => bLe C y x) 41)) :: (33, 1, some (aAl 0)) :: (34, 3, some (aGetI D 7 34)) :: (37, 1, some (aIl 2)) :: (38, 3, some (aCm bLe (fun C x y => bLt C y x) 46)) :: (41, 1, some (aAl 0)) :: (42, 1, some (aIc (2))) :: (43, 3, some (aNo)) :: (46, 1, some (aAl 0)) :: (47, 3, some (aGetI D 7 35)) :: (50, 3, some (aIf bEq bNe 55)) :: (53, 1, some (aIl 1)) :: (54, 1, some (aIret)) :: (55, 1, some (aAl 0)) :: (56, 3, some (aGetI D 7 34)) :: (59, 1, some (aIs 3)) :: (60, 1, some (aAl 0)) :: (61, 3, some (aNo)) :: (64, 1, some (aIl 3)) :: (65, 1, some (aIret)) :: []
set_option maxRecDepth 100000 in
set_option maxHeartbeats 4000000 in
theorem snX7_numeral (d : Nat) (W : List Nat) (c : Nat × Nat) (hc : c = cA ∨ c = cB) : SndAll (d, TYg, c, W) cdX7_numeral (adX7_numeral (d, TYg, c, W)) := by
  unfold cdX7_numeral adX7_numeral
  refine sn_op sAl ?_
  refine sn_op sGetI ?_
  refine sn_op sIfEq ?_
  refine sn_op sIl ?_
  refine sn_op sIret ?_
  refine sn_op sAl ?_
  refine sn_op sGetI ?_
  refine sn_op (sIc (n := 2) (by decide)) ?_
  refine sn_op sCmEq ?_
  refine sn_op sAl ?_
  refine sn_op (sIc (n := 1) (by decide)) ?_
  refine sn_op sNo ?_
  refine sn_op sGoto ?_
  refine sn_op sAl ?_
  refine sn_op sGetI ?_
  refine sn_op sIl ?_
  refine sn_op sCmLt ?_
  refine sn_op sAl ?_
  refine sn_op sGetI ?_
  refine sn_op sIl ?_
  refine sn_op sCmLe ?_
  refine sn_op sAl ?_
  refine sn_op (sIc (n := 2) (by decide)) ?_
  refine sn_op sNo ?_
  refine sn_op sAl ?_
  refine sn_op sGetI ?_
  refine sn_op sIfEq ?_
  refine sn_op sIl ?_
  refine sn_op sIret ?_
  refine sn_op sAl ?_
  refine sn_op sGetI ?_
  refine sn_op sIs ?_
  refine sn_op sAl ?_
  refine sn_op sNo ?_
  refine sn_op sIl ?_
  refine sn_op sIret ?_
  exact sn_nil
def csX7_numeral : List AC := [([(2, 1175, 0), (0, 0, 0), (0, 40, 40)], 1, [((0, 0, 0), [((1175, 35), (1, 5))], [])], [], [((1175, 35), (1, 5))]), ([(2, 1175, 0), (0, 0, 0), (0, 999999, 999999)], 1, [((0, 0, 0), [((1175, 35), (1, 5))], [])], [], [((1175, 35), (1, 5))]), ([(2, 1175, 0), (0, 1, 1), (0, 999, 999)], 1, [((0, 1, 1), [((1175, 35), (1, 5))], [])], [], [((1175, 35), (1, 5))]), ([(2, 1175, 0), (0, 0, 0), (0, 400, 400)], 1, [((0, 0, 0), [((1175, 35), (1, 5))], [])], [], [((1175, 35), (1, 5))]), ([(2, 1175, 0), (0, 1, 1), (0, 99, 99)], 1, [((0, 1, 1), [((1175, 35), (1, 5))], [])], [], [((1175, 35), (1, 5))])]
set_option maxRecDepth 100000 in
set_option maxHeartbeats 4000000 in
theorem sfX7_numeral (c : Nat × Nat) (hc : c = cA ∨ c = cB) : ∀ ac ∈ csX7_numeral, SafeC TYg c mX7_numeral ac := by
  intro ac hac
  simp only [csX7_numeral, List.mem_cons, List.not_mem_nil, or_false] at hac
  rcases hac with rfl | rfl | rfl | rfl | rfl
  · rcases hc with rfl | rfl
    · exact safe_of (ann := []) (fuel := 600) okX7_numeral (snX7_numeral _ _ cA (Or.inl rfl)) (fun q hq => by cases hq) (by decide) (by decide +kernel)
    · exact safe_of (ann := []) (fuel := 600) okX7_numeral (snX7_numeral _ _ cB (Or.inr rfl)) (fun q hq => by cases hq) (by decide) (by decide +kernel)
  · rcases hc with rfl | rfl
    · exact safe_of (ann := []) (fuel := 600) okX7_numeral (snX7_numeral _ _ cA (Or.inl rfl)) (fun q hq => by cases hq) (by decide) (by decide +kernel)
    · exact safe_of (ann := []) (fuel := 600) okX7_numeral (snX7_numeral _ _ cB (Or.inr rfl)) (fun q hq => by cases hq) (by decide) (by decide +kernel)
  · rcases hc with rfl | rfl
    · exact safe_of (ann := []) (fuel := 600) okX7_numeral (snX7_numeral _ _ cA (Or.inl rfl)) (fun q hq => by cases hq) (by decide) (by decide +kernel)
    · exact safe_of (ann := []) (fuel := 600) okX7_numeral (snX7_numeral _ _ cB (Or.inr rfl)) (fun q hq => by cases hq) (by decide) (by decide +kernel)
  · rcases hc with rfl | rfl
    · exact safe_of (ann := []) (fuel := 600) okX7_numeral (snX7_numeral _ _ cA (Or.inl rfl)) (fun q hq => by cases hq) (by decide) (by decide +kernel)
    · exact safe_of (ann := []) (fuel := 600) okX7_numeral (snX7_numeral _ _ cB (Or.inr rfl)) (fun q hq => by cases hq) (by decide) (by decide +kernel)
  · rcases hc with rfl | rfl
    · exact safe_of (ann := []) (fuel := 600) okX7_numeral (snX7_numeral _ _ cA (Or.inl rfl)) (fun q hq => by cases hq) (by decide) (by decide +kernel)
    · exact safe_of (ann := []) (fuel := 600) okX7_numeral (snX7_numeral _ _ cB (Or.inr rfl)) (fun q hq => by cases hq) (by decide) (by decide +kernel)
set_option maxRecDepth 100000 in
def adX7_pay (D : KK) : List ACE := (0, 1, some (aAl 0)) :: (1, 1, some (aIc (0))) :: (2, 3, some (aPutI D 7 0)) :: (5, 1, some (aAl 0)) :: (6, 1, some (aIl 1)) :: (7, 3, some (aCall D 7 2 2 csX7_isFirm)) :: (10, 3, some (aIf bEq bNe 36)) :: (13, 1, some (aIl 2)) :: (14, 3, some (aIf bLt (fun C x y => bLe C y x) 36)) :: (17, 1, some (aIl 2)) :: (18, 2, some (aIc (999999))) :: (20, 3, some (aCm (fun C x y => bLt C y x) bLe 36)) :: (23, 1, some (aAl 0)) :: (24, 3, some (aGetR [(1175, 99640)])) :: (27, 1, some (aIl 1)) :: (28, 1, some (aIald D)) :: (29, 1, some (aIl 2)) :: (30, 1, some (aBin fAdd)) :: (31, 2, some (aIc (999999))) :: (33, 3, some (aCm bLe (fun C x y => bLt C y x) 38)) :: (36, 1, some (aIc (-1))) :: (37, 1, some (aIret)) :: (38, 1, some (aAl 0)) :: (39, 3, some (aGetR [(1175, 99640)])) :: (42, 1, some (aIl 1)) :: (43, 1, some (aDup2)) :: (44, 1, some (aIald D)) :: (45, 1, some (aIl 2)) :: (46, 1, some (aBin fAdd)) :: (47, 1, some (aIast D)) :: (48, 1, some (aAl 0)) :: (49, 3, some (aGetR [(1175, 99640)])) :: (52, 1, some (aIl 1)) :: (53, 1, some (aIald D)) :: (54, 1, some (aIret)) :: []
set_option maxRecDepth 100000 in
set_option maxHeartbeats 4000000 in
theorem snX7_pay (d : Nat) (W : List Nat) (c : Nat × Nat) (hc : c = cA ∨ c = cB) : SndAll (d, TYg, c, W) cdX7_pay (adX7_pay (d, TYg, c, W)) := by
  unfold cdX7_pay adX7_pay
  refine sn_op sAl ?_
  refine sn_op (sIc (n := 0) (by decide)) ?_
  refine sn_op sPutI ?_
  refine sn_op sAl ?_
  refine sn_op sIl ?_
  refine sn_op (sCI (sfX7_isFirm c hc) (by decide) (by decide +kernel)) ?_
  refine sn_op sIfEq ?_
  refine sn_op sIl ?_
  refine sn_op sIfLt ?_
  refine sn_op sIl ?_
  refine sn_op (sIc (n := 999999) (by decide)) ?_
  refine sn_op sCmGt ?_
  refine sn_op sAl ?_
  refine sn_op sGetR ?_
  refine sn_op sIl ?_
  refine sn_op sIald ?_
  refine sn_op sIl ?_
  refine sn_op sIadd ?_
  refine sn_op (sIc (n := 999999) (by decide)) ?_
  refine sn_op sCmLe ?_
  refine sn_op (sIc (n := -1) (by decide)) ?_
  refine sn_op sIret ?_
  refine sn_op sAl ?_
  refine sn_op sGetR ?_
  refine sn_op sIl ?_
  refine sn_op sDup2 ?_
  refine sn_op sIald ?_
  refine sn_op sIl ?_
  refine sn_op sIadd ?_
  refine sn_op sIast ?_
  refine sn_op sAl ?_
  refine sn_op sGetR ?_
  refine sn_op sIl ?_
  refine sn_op sIald ?_
  refine sn_op sIret ?_
  exact sn_nil
def csX7_pay : List AC := [([(2, 1175, 0), (0, -2147483648, 2147483647), (0, -2147483648, 2147483647)], 2, [((0, -2147483648, 2147483647), [((1175, 0), (0, 0)), ((1175, 5), (1, 12))], [(1, (0, 11)), (2, (0, 999999))]), ((0, -1, -1), [((1175, 0), (0, 0))], [])], [99640, 4294968471], [])]
set_option maxRecDepth 100000 in
set_option maxHeartbeats 4000000 in
theorem sfX7_pay (c : Nat × Nat) (hc : c = cA ∨ c = cB) : ∀ ac ∈ csX7_pay, SafeC TYg c mX7_pay ac := by
  intro ac hac
  simp only [csX7_pay, List.mem_cons, List.not_mem_nil, or_false] at hac
  rcases hac with rfl
  · rcases hc with rfl | rfl
    · exact safe_of (ann := []) (fuel := 600) okX7_pay (snX7_pay _ _ cA (Or.inl rfl)) (fun q hq => by cases hq) (by decide) (by decide +kernel)
    · exact safe_of (ann := []) (fuel := 600) okX7_pay (snX7_pay _ _ cB (Or.inr rfl)) (fun q hq => by cases hq) (by decide) (by decide +kernel)
set_option maxRecDepth 100000 in
def adX7_round (D : KK) : List ACE := (0, 1, some (aAl 0)) :: (1, 1, some (aIc (0))) :: (2, 3, some (aPutI D 7 0)) :: (5, 1, some (aIl 1)) :: (6, 1, some (aIl 2)) :: (7, 1, some (aIl 3)) :: (8, 3, some (aCall D 16 3 3 csX7_isAsked)) :: (11, 3, some (aIf bEq bNe 19)) :: (14, 2, some (aIl 5)) :: (16, 3, some (aIf (fun C x y => bLe C y x) bLt 21)) :: (19, 1, some (aIc (-1))) :: (20, 1, some (aIret)) :: (21, 1, some (aAl 0)) :: (22, 1, some (aIl 1)) :: (23, 1, some (aIl 2)) :: (24, 1, some (aIl 3)) :: (25, 3, some (aCall D 7 4 5 csX7_seeksNow)) :: (28, 1, some (aAl 0)) :: (29, 3, some (aGetI D 7 47)) :: (32, 3, some (aIf bEq bNe 38)) :: (35, 2, some (aIc (-2))) :: (37, 1, some (aIret)) :: (38, 2, some (aIl 4)) :: (40, 3, some (aIf bLt (fun C x y => bLe C y x) 66)) :: (43, 2, some (aIl 4)) :: (45, 1, some (aAl 0)) :: (46, 3, some (aGetI D 7 42)) :: (49, 3, some (aCm (fun C x y => bLe C y x) bLt 66)) :: (52, 2, some (aIl 5)) :: (54, 1, some (aIc (4))) :: (55, 1, some (aBin fSub)) :: (56, 1, some (aAl 0)) :: (57, 3, some (aGetR [(1175, 820712)])) :: (60, 2, some (aIl 4)) :: (62, 1, some (aIald D)) :: (63, 3, some (aCm bLt (fun C x y => bLe C y x) 68)) :: (66, 1, some (aIc (-1))) :: (67, 1, some (aIret)) :: (68, 2, some (aIl 5)) :: (70, 30, some (aSw [(0, 100), (1, 108), (2, 115), (3, 130)] 137)) :: (100, 1, some (aAl 0)) :: (101, 3, some (aGetR [(1175, 820712)])) :: (104, 2, some (aIl 4)) :: (106, 1, some (aIald D)) :: (107, 1, some (aIret)) :: (108, 1, some (aAl 0)) :: (109, 2, some (aIl 4)) :: (111, 3, some (aCall D 7 2 4 csX7_carries)) :: (114, 1, some (aIret)) :: (115, 1, some (aAl 0)) :: (116, 2, some (aIl 4)) :: (118, 1, some (aAl 0)) :: (119, 3, some (aGetI D 7 40)) :: (122, 1, some (aAl 0)) :: (123, 3, some (aGetI D 7 40)) :: (126, 3, some (aCall D 7 4 8 csX7_takesOf)) :: (129, 1, some (aIret)) :: (130, 1, some (aAl 0)) :: (131, 2, some (aIl 4)) :: (133, 3, some (aCall D 7 2 4 csX7_firmsOf)) :: (136, 1, some (aIret)) :: (137, 1, some (aAl 0)) :: (138, 3, some (aGetR [(1175, 4916696)])) :: (141, 2, some (aIc (6))) :: (143, 2, some (aIl 4)) :: (145, 1, some (aBin fMul)) :: (146, 2, some (aIl 5)) :: (148, 1, some (aBin fAdd)) :: (149, 1, some (aIc (4))) :: (150, 1, some (aBin fSub)) :: (151, 1, some (aIald D)) :: (152, 1, some (aIret)) :: []
set_option maxRecDepth 100000 in
set_option maxHeartbeats 4000000 in
theorem snX7_round (d : Nat) (W : List Nat) (c : Nat × Nat) (hc : c = cA ∨ c = cB) : SndAll (d, TYg, c, W) cdX7_round (adX7_round (d, TYg, c, W)) := by
  unfold cdX7_round adX7_round
  refine sn_op sAl ?_
  refine sn_op (sIc (n := 0) (by decide)) ?_
  refine sn_op sPutI ?_
  refine sn_op sIl ?_
  refine sn_op sIl ?_
  refine sn_op sIl ?_
  refine sn_op (sCI (sfX7_isAsked c hc) (by decide) (by decide +kernel)) ?_
  refine sn_op sIfEq ?_
  refine sn_op sIl ?_
  refine sn_op sIfGe ?_
  refine sn_op (sIc (n := -1) (by decide)) ?_
  refine sn_op sIret ?_
  refine sn_op sAl ?_
  refine sn_op sIl ?_
  refine sn_op sIl ?_
  refine sn_op sIl ?_
  refine sn_op (sCV (sfX7_seeksNow c hc) (by decide) (by decide +kernel)) ?_
  refine sn_op sAl ?_
  refine sn_op sGetI ?_
  refine sn_op sIfEq ?_
  refine sn_op (sIc (n := -2) (by decide)) ?_
  refine sn_op sIret ?_
  refine sn_op sIl ?_
  refine sn_op sIfLt ?_
  refine sn_op sIl ?_
  refine sn_op sAl ?_
  refine sn_op sGetI ?_
  refine sn_op sCmGe ?_
  refine sn_op sIl ?_
  refine sn_op (sIc (n := 4) (by decide)) ?_
  refine sn_op sIsub ?_
  refine sn_op sAl ?_
  refine sn_op sGetR ?_
  refine sn_op sIl ?_
  refine sn_op sIald ?_
  refine sn_op sCmLt ?_
  refine sn_op (sIc (n := -1) (by decide)) ?_
  refine sn_op sIret ?_
  refine sn_op sIl ?_
  refine sn_op (sSw (by decide)) ?_
  refine sn_op sAl ?_
  refine sn_op sGetR ?_
  refine sn_op sIl ?_
  refine sn_op sIald ?_
  refine sn_op sIret ?_
  refine sn_op sAl ?_
  refine sn_op sIl ?_
  refine sn_op (sCI (sfX7_carries c hc) (by decide) (by decide +kernel)) ?_
  refine sn_op sIret ?_
  refine sn_op sAl ?_
  refine sn_op sIl ?_
  refine sn_op sAl ?_
  refine sn_op sGetI ?_
  refine sn_op sAl ?_
  refine sn_op sGetI ?_
  refine sn_op (sCI (sfX7_takesOf c hc) (by decide) (by decide +kernel)) ?_
  refine sn_op sIret ?_
  refine sn_op sAl ?_
  refine sn_op sIl ?_
  refine sn_op (sCI (sfX7_firmsOf c hc) (by decide) (by decide +kernel)) ?_
  refine sn_op sIret ?_
  refine sn_op sAl ?_
  refine sn_op sGetR ?_
  refine sn_op (sIc (n := 6) (by decide)) ?_
  refine sn_op sIl ?_
  refine sn_op sImul ?_
  refine sn_op sIl ?_
  refine sn_op sIadd ?_
  refine sn_op (sIc (n := 4) (by decide)) ?_
  refine sn_op sIsub ?_
  refine sn_op sIald ?_
  refine sn_op sIret ?_
  exact sn_nil
def csX7_round : List AC := [([(2, 1175, 0), (0, -2147483648, 2147483647), (0, -2147483648, 2147483647), (0, -2147483648, 2147483647), (0, -2147483648, 2147483647), (0, -2147483648, 2147483647)], 10, [((0, -2147483648, 2147483647), [((1175, 0), (0, 0)), ((1175, 42), (1, 200)), ((1175, 47), (0, 0)), ((1175, 49), (2, 6))], [(1, (0, 1)), (2, (2, 6)), (3, (0, 400)), (4, (0, 199)), (5, (1, 3))]), ((0, -2, -1), [((1175, 0), (0, 0))], []), ((0, 0, 39), [((1175, 0), (0, 0)), ((1175, 42), (1, 200)), ((1175, 47), (0, 0)), ((1175, 49), (2, 6))], [(1, (0, 1)), (2, (2, 6)), (3, (0, 400)), (4, (0, 199)), (5, (0, 9))])], [26104, 165384, 820712, 4916696, 4294968471, 184683594903, 206158431383, 210453398679, 214748365975, 219043333271], [])]
set_option maxRecDepth 100000 in
set_option maxHeartbeats 4000000 in
theorem sfX7_round (c : Nat × Nat) (hc : c = cA ∨ c = cB) : ∀ ac ∈ csX7_round, SafeC TYg c mX7_round ac := by
  intro ac hac
  simp only [csX7_round, List.mem_cons, List.not_mem_nil, or_false] at hac
  rcases hac with rfl
  · rcases hc with rfl | rfl
    · exact safe_of (ann := []) (fuel := 600) okX7_round (snX7_round _ _ cA (Or.inl rfl)) (fun q hq => by cases hq) (by decide) (by decide +kernel)
    · exact safe_of (ann := []) (fuel := 600) okX7_round (snX7_round _ _ cB (Or.inr rfl)) (fun q hq => by cases hq) (by decide) (by decide +kernel)
set_option maxRecDepth 100000 in
def adX7_rounds (D : KK) : List ACE := (0, 1, some (aAl 0)) :: (1, 1, some (aIc (0))) :: (2, 3, some (aPutI D 7 0)) :: (5, 1, some (aIl 1)) :: (6, 1, some (aIl 2)) :: (7, 1, some (aIl 3)) :: (8, 3, some (aCall D 16 3 3 csX7_isAsked)) :: (11, 3, some (aIf bNe bEq 16)) :: (14, 1, some (aIc (-1))) :: (15, 1, some (aIret)) :: (16, 1, some (aAl 0)) :: (17, 1, some (aIl 1)) :: (18, 1, some (aIl 2)) :: (19, 1, some (aIl 3)) :: (20, 3, some (aCall D 7 4 5 csX7_seeksNow)) :: (23, 1, some (aAl 0)) :: (24, 3, some (aGetI D 7 47)) :: (27, 3, some (aIf bEq bNe 35)) :: (30, 2, some (aIc (-2))) :: (32, 3, some (aGoto 39)) :: (35, 1, some (aAl 0)) :: (36, 3, some (aGetI D 7 42)) :: (39, 1, some (aIret)) :: []
set_option maxRecDepth 100000 in
set_option maxHeartbeats 4000000 in
theorem snX7_rounds (d : Nat) (W : List Nat) (c : Nat × Nat) (hc : c = cA ∨ c = cB) : SndAll (d, TYg, c, W) cdX7_rounds (adX7_rounds (d, TYg, c, W)) := by
  unfold cdX7_rounds adX7_rounds
  refine sn_op sAl ?_
  refine sn_op (sIc (n := 0) (by decide)) ?_
  refine sn_op sPutI ?_
  refine sn_op sIl ?_
  refine sn_op sIl ?_
  refine sn_op sIl ?_
  refine sn_op (sCI (sfX7_isAsked c hc) (by decide) (by decide +kernel)) ?_
  refine sn_op sIfNe ?_
  refine sn_op (sIc (n := -1) (by decide)) ?_
  refine sn_op sIret ?_
  refine sn_op sAl ?_
  refine sn_op sIl ?_
  refine sn_op sIl ?_
  refine sn_op sIl ?_
  refine sn_op (sCV (sfX7_seeksNow c hc) (by decide) (by decide +kernel)) ?_
  refine sn_op sAl ?_
  refine sn_op sGetI ?_
  refine sn_op sIfEq ?_
  refine sn_op (sIc (n := -2) (by decide)) ?_
  refine sn_op sGoto ?_
  refine sn_op sAl ?_
  refine sn_op sGetI ?_
  refine sn_op sIret ?_
  exact sn_nil
def csX7_rounds : List AC := [([(2, 1175, 0), (0, -2147483648, 2147483647), (0, -2147483648, 2147483647), (0, -2147483648, 2147483647)], 10, [((0, -2, -1), [((1175, 0), (0, 0))], []), ((0, 0, 200), [((1175, 0), (0, 0)), ((1175, 47), (0, 0)), ((1175, 49), (2, 6))], [(1, (0, 1)), (2, (2, 6)), (3, (0, 400))])], [26104, 165384, 820712, 4916696, 4294968471, 184683594903, 206158431383, 210453398679, 214748365975, 219043333271], [])]
set_option maxRecDepth 100000 in
set_option maxHeartbeats 4000000 in
theorem sfX7_rounds (c : Nat × Nat) (hc : c = cA ∨ c = cB) : ∀ ac ∈ csX7_rounds, SafeC TYg c mX7_rounds ac := by
  intro ac hac
  simp only [csX7_rounds, List.mem_cons, List.not_mem_nil, or_false] at hac
  rcases hac with rfl
  · rcases hc with rfl | rfl
    · exact safe_of (ann := []) (fuel := 600) okX7_rounds (snX7_rounds _ _ cA (Or.inl rfl)) (fun q hq => by cases hq) (by decide) (by decide +kernel)
    · exact safe_of (ann := []) (fuel := 600) okX7_rounds (snX7_rounds _ _ cB (Or.inr rfl)) (fun q hq => by cases hq) (by decide) (by decide +kernel)
set_option maxRecDepth 100000 in
def adX7_rule (D : KK) : List ACE := (0, 1, some (aAl 0)) :: (1, 1, some (aIc (0))) :: (2, 3, some (aPutI D 7 0)) :: (5, 1, some (aIl 1)) :: (6, 3, some (aIf bLt (fun C x y => bLe C y x) 19)) :: (9, 1, some (aIl 1)) :: (10, 1, some (aIc (1))) :: (11, 1, some (aAl 0)) :: (12, 3, some (aGetI D 7 3)) :: (15, 1, some (aBin fTop)) :: (16, 3, some (aCm bLt (fun C x y => bLe C y x) 21)) :: (19, 1, some (aIc (-1))) :: (20, 1, some (aIret)) :: (21, 1, some (aAl 0)) :: (22, 1, some (aIl 1)) :: (23, 3, some (aPutI D 7 40)) :: (26, 1, some (aIl 1)) :: (27, 3, some (aCall D 16 1 3 csX7_bits)) :: (30, 1, some (aIret)) :: []
set_option maxRecDepth 100000 in
set_option maxHeartbeats 4000000 in
theorem snX7_rule (d : Nat) (W : List Nat) (c : Nat × Nat) (hc : c = cA ∨ c = cB) : SndAll (d, TYg, c, W) cdX7_rule (adX7_rule (d, TYg, c, W)) := by
  unfold cdX7_rule adX7_rule
  refine sn_op sAl ?_
  refine sn_op (sIc (n := 0) (by decide)) ?_
  refine sn_op sPutI ?_
  refine sn_op sIl ?_
  refine sn_op sIfLt ?_
  refine sn_op sIl ?_
  refine sn_op (sIc (n := 1) (by decide)) ?_
  refine sn_op sAl ?_
  refine sn_op sGetI ?_
  refine sn_op sIshl ?_
  refine sn_op sCmLt ?_
  refine sn_op (sIc (n := -1) (by decide)) ?_
  refine sn_op sIret ?_
  refine sn_op sAl ?_
  refine sn_op sIl ?_
  refine sn_op sPutI ?_
  refine sn_op sIl ?_
  refine sn_op (sCI (sfX7_bits c hc) (by decide) (by decide +kernel)) ?_
  refine sn_op sIret ?_
  exact sn_nil
def csX7_rule : List AC := [([(2, 1175, 0), (0, -2147483648, 2147483647)], 2, [((0, -2147483648, 2147483647), [((1175, 0), (0, 0)), ((1175, 40), (0, 2147483646))], [(1, (0, 2147483646))]), ((0, -1, -1), [((1175, 0), (0, 0))], [])], [4294968471, 176093660311], [])]
set_option maxRecDepth 100000 in
set_option maxHeartbeats 4000000 in
theorem sfX7_rule (c : Nat × Nat) (hc : c = cA ∨ c = cB) : ∀ ac ∈ csX7_rule, SafeC TYg c mX7_rule ac := by
  intro ac hac
  simp only [csX7_rule, List.mem_cons, List.not_mem_nil, or_false] at hac
  rcases hac with rfl
  · rcases hc with rfl | rfl
    · exact safe_of (ann := []) (fuel := 600) okX7_rule (snX7_rule _ _ cA (Or.inl rfl)) (fun q hq => by cases hq) (by decide) (by decide +kernel)
    · exact safe_of (ann := []) (fuel := 600) okX7_rule (snX7_rule _ _ cB (Or.inr rfl)) (fun q hq => by cases hq) (by decide) (by decide +kernel)
set_option maxRecDepth 100000 in
def adX7_sell (D : KK) : List ACE := (0, 1, some (aAl 0)) :: (1, 1, some (aIc (0))) :: (2, 3, some (aPutI D 7 0)) :: (5, 1, some (aAl 0)) :: (6, 1, some (aIl 1)) :: (7, 3, some (aCall D 7 2 2 csX7_isFirm)) :: (10, 3, some (aIf bEq bNe 75)) :: (13, 1, some (aAl 0)) :: (14, 1, some (aIl 2)) :: (15, 3, some (aCall D 7 2 2 csX7_isFirm)) :: (18, 3, some (aIf bEq bNe 75)) :: (21, 1, some (aIl 1)) :: (22, 1, some (aIl 2)) :: (23, 3, some (aCm bEq bNe 75)) :: (26, 1, some (aIl 3)) :: (27, 1, some (aIc (1))) :: (28, 3, some (aCm bLt (fun C x y => bLe C y x) 75)) :: (31, 1, some (aIl 3)) :: (32, 3, some (aIc (999))) :: (35, 3, some (aCm (fun C x y => bLt C y x) bLe 75)) :: (38, 2, some (aIl 4)) :: (40, 3, some (aIf bLt (fun C x y => bLe C y x) 75)) :: (43, 2, some (aIl 4)) :: (45, 1, some (aAl 0)) :: (46, 3, some (aGetI D 7 4)) :: (49, 3, some (aCm (fun C x y => bLe C y x) bLt 75)) :: (52, 2, some (aIl 5)) :: (54, 1, some (aIc (1))) :: (55, 3, some (aCm bLt (fun C x y => bLe C y x) 75)) :: (58, 2, some (aIl 5)) :: (60, 3, some (aIc (999))) :: (63, 3, some (aCm (fun C x y => bLt C y x) bLe 75)) :: (66, 1, some (aAl 0)) :: (67, 3, some (aGetI D 7 6)) :: (70, 2, some (aIc (40))) :: (72, 3, some (aCm bNe bEq 77)) :: (75, 1, some (aIc (-1))) :: (76, 1, some (aIret)) :: (77, 2, some (aIl 6)) :: (79, 1, some (aAl 0)) :: (80, 3, some (aGetR [(1175, 99592)])) :: (83, 1, some (aIl 1)) :: (84, 1, some (aIald D)) :: (85, 3, some (aCm bLt (fun C x y => bLe C y x) 119)) :: (88, 2, some (aIl 6)) :: (90, 1, some (aAl 0)) :: (91, 3, some (aGetR [(1175, 99592)])) :: (94, 1, some (aIl 2)) :: (95, 1, some (aIald D)) :: (96, 3, some (aCm bLt (fun C x y => bLe C y x) 119)) :: (99, 2, some (aIl 6)) :: (101, 3, some (aIc (400))) :: (104, 3, some (aCm (fun C x y => bLt C y x) bLe 119)) :: (107, 2, some (aIl 7)) :: (109, 3, some (aIf bLt (fun C x y => bLe C y x) 119)) :: (112, 2, some (aIl 7)) :: (114, 2, some (aIc (99))) :: (116, 3, some (aCm bLe (fun C x y => bLt C y x) 121)) :: (119, 1, some (aIc (-1))) :: (120, 1, some (aIret)) :: (121, 1, some (aAl 0)) :: (122, 3, some (aGetR [(1175, 329048)])) :: (125, 1, some (aAl 0)) :: (126, 3, some (aGetI D 7 6)) :: (129, 1, some (aIl 1)) :: (130, 1, some (aIast D)) :: (131, 1, some (aAl 0)) :: (132, 3, some (aGetR [(1175, 329064)])) :: (135, 1, some (aAl 0)) :: (136, 3, some (aGetI D 7 6)) :: (139, 1, some (aIl 2)) :: (140, 1, some (aIast D)) :: (141, 1, some (aAl 0)) :: (142, 3, some (aGetR [(1175, 329080)])) :: (145, 1, some (aAl 0)) :: (146, 3, some (aGetI D 7 6)) :: (149, 1, some (aIl 3)) :: (150, 1, some (aIast D)) :: (151, 1, some (aAl 0)) :: (152, 3, some (aGetR [(1175, 329096)])) :: (155, 1, some (aAl 0)) :: (156, 3, some (aGetI D 7 6)) :: (159, 2, some (aIl 4)) :: (161, 1, some (aIast D)) :: (162, 1, some (aAl 0)) :: (163, 3, some (aGetR [(1175, 329112)])) :: (166, 1, some (aAl 0)) :: (167, 3, some (aGetI D 7 6)) :: (170, 2, some (aIl 5)) :: (172, 1, some (aIast D)) :: (173, 1, some (aAl 0)) :: (174, 3, some (aGetR [(1175, 329128)])) :: (177, 1, some (aAl 0)) :: (178, 3, some (aGetI D 7 6)) :: (181, 2, some (aIl 6)) :: (183, 1, some (aIast D)) :: (184, 1, some (aAl 0)) :: (185, 3, some (aGetR [(1175, 329144)])) :: (188, 1, some (aAl 0)) :: (189, 3, some (aGetI D 7 6)) :: (192, 2, some (aIl 7)) :: (194, 1, some (aIast D)) :: (195, 1, some (aAl 0)) :: (196, 1, some (aDup)) :: (197, 3, some (aGetI D 7 6)) :: (200, 1, some (aIc (1))) :: (201, 1, some (aBin fAdd)) :: (202, 3, some (aPutI D 7 6)) :: (205, 1, some (aAl 0)) :: (206, 3, some (aGetI D 7 6)) :: (209, 1, some (aIc (1))) :: (210, 1, some (aBin fSub)) :: (211, 1, some (aIret)) :: []
set_option maxRecDepth 100000 in
set_option maxHeartbeats 4000000 in
theorem snX7_sell (d : Nat) (W : List Nat) (c : Nat × Nat) (hc : c = cA ∨ c = cB) : SndAll (d, TYg, c, W) cdX7_sell (adX7_sell (d, TYg, c, W)) := by
  unfold cdX7_sell adX7_sell
  refine sn_op sAl ?_
  refine sn_op (sIc (n := 0) (by decide)) ?_
  refine sn_op sPutI ?_
  refine sn_op sAl ?_
  refine sn_op sIl ?_
  refine sn_op (sCI (sfX7_isFirm c hc) (by decide) (by decide +kernel)) ?_
  refine sn_op sIfEq ?_
  refine sn_op sAl ?_
  refine sn_op sIl ?_
  refine sn_op (sCI (sfX7_isFirm c hc) (by decide) (by decide +kernel)) ?_
  refine sn_op sIfEq ?_
  refine sn_op sIl ?_
  refine sn_op sIl ?_
  refine sn_op sCmEq ?_
  refine sn_op sIl ?_
  refine sn_op (sIc (n := 1) (by decide)) ?_
  refine sn_op sCmLt ?_
  refine sn_op sIl ?_
  refine sn_op (sIc (n := 999) (by decide)) ?_
  refine sn_op sCmGt ?_
  refine sn_op sIl ?_
  refine sn_op sIfLt ?_
  refine sn_op sIl ?_
  refine sn_op sAl ?_
  refine sn_op sGetI ?_
  refine sn_op sCmGe ?_
  refine sn_op sIl ?_
  refine sn_op (sIc (n := 1) (by decide)) ?_
  refine sn_op sCmLt ?_
  refine sn_op sIl ?_
  refine sn_op (sIc (n := 999) (by decide)) ?_
  refine sn_op sCmGt ?_
  refine sn_op sAl ?_
  refine sn_op sGetI ?_
  refine sn_op (sIc (n := 40) (by decide)) ?_
  refine sn_op sCmNe ?_
  refine sn_op (sIc (n := -1) (by decide)) ?_
  refine sn_op sIret ?_
  refine sn_op sIl ?_
  refine sn_op sAl ?_
  refine sn_op sGetR ?_
  refine sn_op sIl ?_
  refine sn_op sIald ?_
  refine sn_op sCmLt ?_
  refine sn_op sIl ?_
  refine sn_op sAl ?_
  refine sn_op sGetR ?_
  refine sn_op sIl ?_
  refine sn_op sIald ?_
  refine sn_op sCmLt ?_
  refine sn_op sIl ?_
  refine sn_op (sIc (n := 400) (by decide)) ?_
  refine sn_op sCmGt ?_
  refine sn_op sIl ?_
  refine sn_op sIfLt ?_
  refine sn_op sIl ?_
  refine sn_op (sIc (n := 99) (by decide)) ?_
  refine sn_op sCmLe ?_
  refine sn_op (sIc (n := -1) (by decide)) ?_
  refine sn_op sIret ?_
  refine sn_op sAl ?_
  refine sn_op sGetR ?_
  refine sn_op sAl ?_
  refine sn_op sGetI ?_
  refine sn_op sIl ?_
  refine sn_op sIast ?_
  refine sn_op sAl ?_
  refine sn_op sGetR ?_
  refine sn_op sAl ?_
  refine sn_op sGetI ?_
  refine sn_op sIl ?_
  refine sn_op sIast ?_
  refine sn_op sAl ?_
  refine sn_op sGetR ?_
  refine sn_op sAl ?_
  refine sn_op sGetI ?_
  refine sn_op sIl ?_
  refine sn_op sIast ?_
  refine sn_op sAl ?_
  refine sn_op sGetR ?_
  refine sn_op sAl ?_
  refine sn_op sGetI ?_
  refine sn_op sIl ?_
  refine sn_op sIast ?_
  refine sn_op sAl ?_
  refine sn_op sGetR ?_
  refine sn_op sAl ?_
  refine sn_op sGetI ?_
  refine sn_op sIl ?_
  refine sn_op sIast ?_
  refine sn_op sAl ?_
  refine sn_op sGetR ?_
  refine sn_op sAl ?_
  refine sn_op sGetI ?_
  refine sn_op sIl ?_
  refine sn_op sIast ?_
  refine sn_op sAl ?_
  refine sn_op sGetR ?_
  refine sn_op sAl ?_
  refine sn_op sGetI ?_
  refine sn_op sIl ?_
  refine sn_op sIast ?_
  refine sn_op sAl ?_
  refine sn_op sDup ?_
  refine sn_op sGetI ?_
  refine sn_op (sIc (n := 1) (by decide)) ?_
  refine sn_op sIadd ?_
  refine sn_op sPutI ?_
  refine sn_op sAl ?_
  refine sn_op sGetI ?_
  refine sn_op (sIc (n := 1) (by decide)) ?_
  refine sn_op sIsub ?_
  refine sn_op sIret ?_
  exact sn_nil
def csX7_sell : List AC := [([(2, 1175, 0), (0, -2147483648, 2147483647), (0, -2147483648, 2147483647), (0, -2147483648, 2147483647), (0, -2147483648, 2147483647), (0, -2147483648, 2147483647), (0, -2147483648, 2147483647), (0, -2147483648, 2147483647)], 2, [((0, -1, -1), [((1175, 0), (0, 0))], []), ((0, 0, 39), [((1175, 0), (0, 0)), ((1175, 4), (1, 4)), ((1175, 5), (1, 12)), ((1175, 6), (1, 40))], [(1, (0, 11)), (2, (0, 11)), (3, (1, 999)), (4, (0, 3)), (5, (1, 999)), (6, (-2147483648, 400)), (7, (0, 99))])], [329048, 329064, 329080, 329096, 329112, 329128, 329144, 4294968471, 30064772247], [])]
set_option maxRecDepth 100000 in
set_option maxHeartbeats 4000000 in
theorem sfX7_sell (c : Nat × Nat) (hc : c = cA ∨ c = cB) : ∀ ac ∈ csX7_sell, SafeC TYg c mX7_sell ac := by
  intro ac hac
  simp only [csX7_sell, List.mem_cons, List.not_mem_nil, or_false] at hac
  rcases hac with rfl
  · rcases hc with rfl | rfl
    · exact safe_of (ann := []) (fuel := 600) okX7_sell (snX7_sell _ _ cA (Or.inl rfl)) (fun q hq => by cases hq) (by decide) (by decide +kernel)
    · exact safe_of (ann := []) (fuel := 600) okX7_sell (snX7_sell _ _ cB (Or.inr rfl)) (fun q hq => by cases hq) (by decide) (by decide +kernel)
set_option maxRecDepth 100000 in
def adX7_signs (D : KK) : List ACE := (0, 1, some (aAl 0)) :: (1, 1, some (aIc (0))) :: (2, 3, some (aPutI D 7 0)) :: (5, 1, some (aAl 0)) :: (6, 1, some (aIl 1)) :: (7, 3, some (aCall D 7 2 2 csX7_isFirm)) :: (10, 3, some (aIf bEq bNe 23)) :: (13, 1, some (aIl 2)) :: (14, 1, some (aIl 3)) :: (15, 2, some (aIl 4)) :: (17, 3, some (aCall D 16 3 3 csX7_isAsked)) :: (20, 3, some (aIf bNe bEq 25)) :: (23, 1, some (aIc (-1))) :: (24, 1, some (aIret)) :: (25, 1, some (aAl 0)) :: (26, 1, some (aIl 2)) :: (27, 1, some (aIl 3)) :: (28, 2, some (aIl 4)) :: (30, 3, some (aCall D 7 4 5 csX7_seeksNow)) :: (33, 1, some (aAl 0)) :: (34, 3, some (aCall D 7 1 4 csX7_parties)) :: (37, 1, some (aAl 0)) :: (38, 3, some (aGetI D 7 47)) :: (41, 3, some (aIf bEq bNe 49)) :: (44, 2, some (aIc (-2))) :: (46, 3, some (aGoto 54)) :: (49, 1, some (aAl 0)) :: (50, 1, some (aIl 1)) :: (51, 3, some (aCall D 7 2 2 csX7_signsOf)) :: (54, 1, some (aIret)) :: []
set_option maxRecDepth 100000 in
set_option maxHeartbeats 4000000 in
theorem snX7_signs (d : Nat) (W : List Nat) (c : Nat × Nat) (hc : c = cA ∨ c = cB) : SndAll (d, TYg, c, W) cdX7_signs (adX7_signs (d, TYg, c, W)) := by
  unfold cdX7_signs adX7_signs
  refine sn_op sAl ?_
  refine sn_op (sIc (n := 0) (by decide)) ?_
  refine sn_op sPutI ?_
  refine sn_op sAl ?_
  refine sn_op sIl ?_
  refine sn_op (sCI (sfX7_isFirm c hc) (by decide) (by decide +kernel)) ?_
  refine sn_op sIfEq ?_
  refine sn_op sIl ?_
  refine sn_op sIl ?_
  refine sn_op sIl ?_
  refine sn_op (sCI (sfX7_isAsked c hc) (by decide) (by decide +kernel)) ?_
  refine sn_op sIfNe ?_
  refine sn_op (sIc (n := -1) (by decide)) ?_
  refine sn_op sIret ?_
  refine sn_op sAl ?_
  refine sn_op sIl ?_
  refine sn_op sIl ?_
  refine sn_op sIl ?_
  refine sn_op (sCV (sfX7_seeksNow c hc) (by decide) (by decide +kernel)) ?_
  refine sn_op sAl ?_
  refine sn_op (sCV (sfX7_parties c hc) (by decide) (by decide +kernel)) ?_
  refine sn_op sAl ?_
  refine sn_op sGetI ?_
  refine sn_op sIfEq ?_
  refine sn_op (sIc (n := -2) (by decide)) ?_
  refine sn_op sGoto ?_
  refine sn_op sAl ?_
  refine sn_op sIl ?_
  refine sn_op (sCI (sfX7_signsOf c hc) (by decide) (by decide +kernel)) ?_
  refine sn_op sIret ?_
  exact sn_nil
def csX7_signs : List AC := [([(2, 1175, 0), (0, -2147483648, 2147483647), (0, -2147483648, 2147483647), (0, -2147483648, 2147483647), (0, -2147483648, 2147483647)], 10, [((0, -2, -1), [((1175, 0), (0, 0))], []), ((0, 0, 15), [((1175, 0), (0, 0)), ((1175, 5), (1, 12)), ((1175, 47), (0, 0)), ((1175, 49), (2, 6))], [(1, (0, 11)), (2, (0, 1)), (3, (2, 6)), (4, (0, 400))])], [26104, 50632, 165384, 820712, 4916696, 4294968471, 184683594903, 206158431383, 210453398679, 214748365975, 219043333271], [])]
set_option maxRecDepth 100000 in
set_option maxHeartbeats 4000000 in
theorem sfX7_signs (c : Nat × Nat) (hc : c = cA ∨ c = cB) : ∀ ac ∈ csX7_signs, SafeC TYg c mX7_signs ac := by
  intro ac hac
  simp only [csX7_signs, List.mem_cons, List.not_mem_nil, or_false] at hac
  rcases hac with rfl
  · rcases hc with rfl | rfl
    · exact safe_of (ann := []) (fuel := 600) okX7_signs (snX7_signs _ _ cA (Or.inl rfl)) (fun q hq => by cases hq) (by decide) (by decide +kernel)
    · exact safe_of (ann := []) (fuel := 600) okX7_signs (snX7_signs _ _ cB (Or.inr rfl)) (fun q hq => by cases hq) (by decide) (by decide +kernel)
set_option maxRecDepth 100000 in
def adX7_starve (D : KK) : List ACE := (0, 1, some (aAl 0)) :: (1, 1, some (aIc (0))) :: (2, 3, some (aPutI D 7 0)) :: (5, 1, some (aIl 1)) :: (6, 1, some (aIl 2)) :: (7, 1, some (aIl 3)) :: (8, 3, some (aCall D 16 3 3 csX7_isAsked)) :: (11, 3, some (aIf bEq bNe 30)) :: (14, 2, some (aIl 4)) :: (16, 3, some (aIf bLt (fun C x y => bLe C y x) 30)) :: (19, 2, some (aIl 5)) :: (21, 3, some (aIf bLt (fun C x y => bLe C y x) 30)) :: (24, 2, some (aIl 5)) :: (26, 1, some (aIc (2))) :: (27, 3, some (aCm bLe (fun C x y => bLt C y x) 34)) :: (30, 3, some (aJc (-1))) :: (33, 1, some (aJret)) :: (34, 1, some (aAl 0)) :: (35, 1, some (aIl 1)) :: (36, 1, some (aIl 2)) :: (37, 1, some (aIl 3)) :: (38, 3, some (aCall D 7 4 5 csX7_seeksNow)) :: (41, 1, some (aAl 0)) :: (42, 3, some (aGetI D 7 47)) :: (45, 3, some (aIf bEq bNe 52)) :: (48, 3, some (aJc (-2))) :: (51, 1, some (aJret)) :: (52, 1, some (aIc (-1))) :: (53, 2, some (aIs 6)) :: (55, 1, some (aJc (0))) :: (56, 2, some (aJs 7)) :: (58, 1, some (aIc (0))) :: (59, 2, some (aIs 9)) :: (61, 1, some (aIc (0))) :: (62, 2, some (aIs 10)) :: (64, 0, none) :: (64, 2, some (aIl 10)) :: (66, 1, some (aIc (1))) :: (67, 1, some (aAl 0)) :: (68, 3, some (aGetI D 7 3)) :: (71, 1, some (aBin fTop)) :: (72, 3, some (aCm (fun C x y => bLe C y x) bLt 192)) :: (75, 1, some (aIc (0))) :: (76, 2, some (aIs 11)) :: (78, 1, some (aIc (0))) :: (79, 2, some (aIs 12)) :: (81, 0, none) :: (81, 2, some (aIl 12)) :: (83, 1, some (aAl 0)) :: (84, 3, some (aGetI D 7 3)) :: (87, 3, some (aCm (fun C x y => bLe C y x) bLt 122)) :: (90, 2, some (aIl 11)) :: (92, 2, some (aIl 10)) :: (94, 2, some (aIl 12)) :: (96, 1, some (aBin fShr)) :: (97, 1, some (aIc (1))) :: (98, 1, some (aBin fAnd)) :: (99, 1, some (aIc (1))) :: (100, 3, some (aCm bNe bEq 112)) :: (103, 1, some (aAl 0)) :: (104, 2, some (aIl 12)) :: (106, 3, some (aCall D 7 2 4 csX7_burdenOf)) :: (109, 3, some (aGoto 113)) :: (112, 1, some (aIc (0))) :: (113, 1, some (aBin fAdd)) :: (114, 2, some (aIs 11)) :: (116, 3, some (aInc 12 (1))) :: (119, 3, some (aGoto 81)) :: (122, 2, some (aIl 11)) :: (124, 2, some (aIl 4)) :: (126, 3, some (aCm bLe (fun C x y => bLt C y x) 132)) :: (129, 3, some (aGoto 186)) :: (132, 1, some (aAl 0)) :: (133, 1, some (aIc (0))) :: (134, 1, some (aIc (0))) :: (135, 2, some (aIl 10)) :: (137, 3, some (aCall D 7 4 7 csX7_allTakes)) :: (140, 2, some (aJs 12)) :: (142, 2, some (aIl 6)) :: (144, 1, some (aIc (-1))) :: (145, 3, some (aCm bEq bNe 174)) :: (148, 2, some (aJl 12)) :: (150, 2, some (aJl 7)) :: (152, 1, some (aLcmp)) :: (153, 3, some (aIf (fun C x y => bLt C y x) bLe 186)) :: (156, 2, some (aJl 12)) :: (158, 2, some (aJl 7)) :: (160, 1, some (aLcmp)) :: (161, 3, some (aIf bNe bEq 174)) :: (164, 2, some (aIl 11)) :: (166, 2, some (aIl 9)) :: (168, 3, some (aCm bLt (fun C x y => bLe C y x) 174)) :: (171, 3, some (aGoto 186)) :: (174, 2, some (aIl 10)) :: (176, 2, some (aIs 6)) :: (178, 2, some (aJl 12)) :: (180, 2, some (aJs 7)) :: (182, 2, some (aIl 11)) :: (184, 2, some (aIs 9)) :: (186, 3, some (aInc 10 (1))) :: (189, 3, some (aGoto 64)) :: (192, 2, some (aIl 5)) :: (194, 3, some (aIf bNe bEq 203)) :: (197, 2, some (aIl 6)) :: (199, 1, some (aUn (fun C x => (6, rng C x)))) :: (200, 3, some (aGoto 217)) :: (203, 2, some (aIl 5)) :: (205, 1, some (aIc (1))) :: (206, 3, some (aCm bNe bEq 214)) :: (209, 2, some (aJl 7)) :: (211, 3, some (aGoto 217)) :: (214, 2, some (aIl 9)) :: (216, 1, some (aUn (fun C x => (6, rng C x)))) :: (217, 1, some (aJret)) :: []
set_option maxRecDepth 100000 in
set_option maxHeartbeats 4000000 in
theorem snX7_starve (d : Nat) (W : List Nat) (c : Nat × Nat) (hc : c = cA ∨ c = cB) : SndAll (d, TYg, c, W) cdX7_starve (adX7_starve (d, TYg, c, W)) := by
  unfold cdX7_starve adX7_starve
  refine sn_op sAl ?_
  refine sn_op (sIc (n := 0) (by decide)) ?_
  refine sn_op sPutI ?_
  refine sn_op sIl ?_
  refine sn_op sIl ?_
  refine sn_op sIl ?_
  refine sn_op (sCI (sfX7_isAsked c hc) (by decide) (by decide +kernel)) ?_
  refine sn_op sIfEq ?_
  refine sn_op sIl ?_
  refine sn_op sIfLt ?_
  refine sn_op sIl ?_
  refine sn_op sIfLt ?_
  refine sn_op sIl ?_
  refine sn_op (sIc (n := 2) (by decide)) ?_
  refine sn_op sCmLe ?_
  refine sn_op (sJc (n := -1) (by decide)) ?_
  refine sn_op sJret ?_
  refine sn_op sAl ?_
  refine sn_op sIl ?_
  refine sn_op sIl ?_
  refine sn_op sIl ?_
  refine sn_op (sCV (sfX7_seeksNow c hc) (by decide) (by decide +kernel)) ?_
  refine sn_op sAl ?_
  refine sn_op sGetI ?_
  refine sn_op sIfEq ?_
  refine sn_op (sJc (n := -2) (by decide)) ?_
  refine sn_op sJret ?_
  refine sn_op (sIc (n := -1) (by decide)) ?_
  refine sn_op sIs ?_
  refine sn_op (sJc (n := 0) (by decide)) ?_
  refine sn_op sJs ?_
  refine sn_op (sIc (n := 0) (by decide)) ?_
  refine sn_op sIs ?_
  refine sn_op (sIc (n := 0) (by decide)) ?_
  refine sn_op sIs ?_
  refine sn_st ?_
  refine sn_op sIl ?_
  refine sn_op (sIc (n := 1) (by decide)) ?_
  refine sn_op sAl ?_
  refine sn_op sGetI ?_
  refine sn_op sIshl ?_
  refine sn_op sCmGe ?_
  refine sn_op (sIc (n := 0) (by decide)) ?_
  refine sn_op sIs ?_
  refine sn_op (sIc (n := 0) (by decide)) ?_
  refine sn_op sIs ?_
  refine sn_st ?_
  refine sn_op sIl ?_
  refine sn_op sAl ?_
  refine sn_op sGetI ?_
  refine sn_op sCmGe ?_
  refine sn_op sIl ?_
  refine sn_op sIl ?_
  refine sn_op sIl ?_
  refine sn_op sIshr ?_
  refine sn_op (sIc (n := 1) (by decide)) ?_
  refine sn_op sIand ?_
  refine sn_op (sIc (n := 1) (by decide)) ?_
  refine sn_op sCmNe ?_
  refine sn_op sAl ?_
  refine sn_op sIl ?_
  refine sn_op (sCI (sfX7_burdenOf c hc) (by decide) (by decide +kernel)) ?_
  refine sn_op sGoto ?_
  refine sn_op (sIc (n := 0) (by decide)) ?_
  refine sn_op sIadd ?_
  refine sn_op sIs ?_
  refine sn_op (sInc (n := 1) (by decide)) ?_
  refine sn_op sGoto ?_
  refine sn_op sIl ?_
  refine sn_op sIl ?_
  refine sn_op sCmLe ?_
  refine sn_op sGoto ?_
  refine sn_op sAl ?_
  refine sn_op (sIc (n := 0) (by decide)) ?_
  refine sn_op (sIc (n := 0) (by decide)) ?_
  refine sn_op sIl ?_
  refine sn_op (sCJ (sfX7_allTakes c hc) (by decide) (by decide +kernel)) ?_
  refine sn_op sJs ?_
  refine sn_op sIl ?_
  refine sn_op (sIc (n := -1) (by decide)) ?_
  refine sn_op sCmEq ?_
  refine sn_op sJl ?_
  refine sn_op sJl ?_
  refine sn_op sLcmp ?_
  refine sn_op sIfGt ?_
  refine sn_op sJl ?_
  refine sn_op sJl ?_
  refine sn_op sLcmp ?_
  refine sn_op sIfNe ?_
  refine sn_op sIl ?_
  refine sn_op sIl ?_
  refine sn_op sCmLt ?_
  refine sn_op sGoto ?_
  refine sn_op sIl ?_
  refine sn_op sIs ?_
  refine sn_op sJl ?_
  refine sn_op sJs ?_
  refine sn_op sIl ?_
  refine sn_op sIs ?_
  refine sn_op (sInc (n := 1) (by decide)) ?_
  refine sn_op sGoto ?_
  refine sn_op sIl ?_
  refine sn_op sIfNe ?_
  refine sn_op sIl ?_
  refine sn_op sI2l ?_
  refine sn_op sGoto ?_
  refine sn_op sIl ?_
  refine sn_op (sIc (n := 1) (by decide)) ?_
  refine sn_op sCmNe ?_
  refine sn_op sJl ?_
  refine sn_op sGoto ?_
  refine sn_op sIl ?_
  refine sn_op sI2l ?_
  refine sn_op sJret ?_
  exact sn_nil
def csX7_starve : List AC := [([(2, 1175, 0), (0, -2147483648, 2147483647), (0, -2147483648, 2147483647), (0, -2147483648, 2147483647), (0, -2147483648, 2147483647), (0, -2147483648, 2147483647)], 10, [((8, 0, 0), [], [])], [26104, 165384, 820712, 4916696, 4294968471, 184683594903, 206158431383, 210453398679, 214748365975, 219043333271], [])]
set_option maxRecDepth 100000 in
set_option maxHeartbeats 4000000 in
theorem sfX7_starve (c : Nat × Nat) (hc : c = cA ∨ c = cB) : ∀ ac ∈ csX7_starve, SafeC TYg c mX7_starve ac := by
  intro ac hac
  simp only [csX7_starve, List.mem_cons, List.not_mem_nil, or_false] at hac
  rcases hac with rfl
  · rcases hc with rfl | rfl
    · exact safe_of (ann := [(64, [(2, 1175, 0), (0, 0, 1), (0, 2, 6), (0, 0, 400), (0, 0, 2147483647), (0, 0, 2), (0, -1, 2147483646), (8, 0, 0), (4, 0, 0), (0, -2147483648, 2147483647), (0, 0, 2147483647), (4, 0, 0), (4, 0, 0), (4, 0, 0)], [(0, 10, 0, 4294967296), (3, 0, 0, 2)]), (81, [(2, 1175, 0), (0, 0, 1), (0, 2, 6), (0, 0, 400), (0, 0, 2147483647), (0, 0, 2), (0, -1, 2147483646), (8, 0, 0), (4, 0, 0), (0, -2147483648, 2147483647), (0, 0, 2147483646), (0, -2147483648, 2147483647), (0, 0, 5), (4, 0, 0)], [(0, 10, 0, 4294967296), (3, 0, 0, 1), (0, 12, 0, 4294967296)])]) (fuel := 600) okX7_starve (snX7_starve _ _ cA (Or.inl rfl)) (List.forall_mem_cons.mpr ⟨⟨_, _, rfl⟩, List.forall_mem_cons.mpr ⟨⟨_, _, rfl⟩, (fun q hq => by cases hq)⟩⟩) (by decide) (by decide +kernel)
    · exact safe_of (ann := [(64, [(2, 1175, 0), (0, 0, 1), (0, 2, 6), (0, 0, 400), (0, 0, 2147483647), (0, 0, 2), (0, -1, 2147483646), (8, 0, 0), (4, 0, 0), (0, -2147483648, 2147483647), (0, 0, 2147483647), (4, 0, 0), (4, 0, 0), (4, 0, 0)], [(0, 10, 0, 4294967296), (3, 0, 0, 2)]), (81, [(2, 1175, 0), (0, 0, 1), (0, 2, 6), (0, 0, 400), (0, 0, 2147483647), (0, 0, 2), (0, -1, 2147483646), (8, 0, 0), (4, 0, 0), (0, -2147483648, 2147483647), (0, 0, 2147483646), (0, -2147483648, 2147483647), (0, 0, 5), (4, 0, 0)], [(0, 10, 0, 4294967296), (3, 0, 0, 1), (0, 12, 0, 4294967296)])]) (fuel := 600) okX7_starve (snX7_starve _ _ cB (Or.inr rfl)) (List.forall_mem_cons.mpr ⟨⟨_, _, rfl⟩, List.forall_mem_cons.mpr ⟨⟨_, _, rfl⟩, (fun q hq => by cases hq)⟩⟩) (by decide) (by decide +kernel)
set_option maxRecDepth 100000 in
def adX7_stop (D : KK) : List ACE := (0, 1, some (aAl 0)) :: (1, 1, some (aIc (0))) :: (2, 3, some (aPutI D 7 0)) :: (5, 1, some (aIl 1)) :: (6, 3, some (aIf bLt (fun C x y => bLe C y x) 19)) :: (9, 1, some (aIl 1)) :: (10, 1, some (aIc (1))) :: (11, 1, some (aAl 0)) :: (12, 3, some (aGetI D 7 5)) :: (15, 1, some (aBin fTop)) :: (16, 3, some (aCm bLt (fun C x y => bLe C y x) 21)) :: (19, 1, some (aIc (-1))) :: (20, 1, some (aIret)) :: (21, 1, some (aAl 0)) :: (22, 1, some (aIl 1)) :: (23, 3, some (aPutI D 7 39)) :: (26, 1, some (aIl 1)) :: (27, 3, some (aCall D 16 1 3 csX7_bits)) :: (30, 1, some (aIret)) :: []
set_option maxRecDepth 100000 in
set_option maxHeartbeats 4000000 in
theorem snX7_stop (d : Nat) (W : List Nat) (c : Nat × Nat) (hc : c = cA ∨ c = cB) : SndAll (d, TYg, c, W) cdX7_stop (adX7_stop (d, TYg, c, W)) := by
  unfold cdX7_stop adX7_stop
  refine sn_op sAl ?_
  refine sn_op (sIc (n := 0) (by decide)) ?_
  refine sn_op sPutI ?_
  refine sn_op sIl ?_
  refine sn_op sIfLt ?_
  refine sn_op sIl ?_
  refine sn_op (sIc (n := 1) (by decide)) ?_
  refine sn_op sAl ?_
  refine sn_op sGetI ?_
  refine sn_op sIshl ?_
  refine sn_op sCmLt ?_
  refine sn_op (sIc (n := -1) (by decide)) ?_
  refine sn_op sIret ?_
  refine sn_op sAl ?_
  refine sn_op sIl ?_
  refine sn_op sPutI ?_
  refine sn_op sIl ?_
  refine sn_op (sCI (sfX7_bits c hc) (by decide) (by decide +kernel)) ?_
  refine sn_op sIret ?_
  exact sn_nil
def csX7_stop : List AC := [([(2, 1175, 0), (0, -2147483648, 2147483647)], 2, [((0, -2147483648, 2147483647), [((1175, 0), (0, 0)), ((1175, 39), (0, 2147483646))], [(1, (0, 2147483646))]), ((0, -1, -1), [((1175, 0), (0, 0))], [])], [4294968471, 171798693015], [])]
set_option maxRecDepth 100000 in
set_option maxHeartbeats 4000000 in
theorem sfX7_stop (c : Nat × Nat) (hc : c = cA ∨ c = cB) : ∀ ac ∈ csX7_stop, SafeC TYg c mX7_stop ac := by
  intro ac hac
  simp only [csX7_stop, List.mem_cons, List.not_mem_nil, or_false] at hac
  rcases hac with rfl
  · rcases hc with rfl | rfl
    · exact safe_of (ann := []) (fuel := 600) okX7_stop (snX7_stop _ _ cA (Or.inl rfl)) (fun q hq => by cases hq) (by decide) (by decide +kernel)
    · exact safe_of (ann := []) (fuel := 600) okX7_stop (snX7_stop _ _ cB (Or.inr rfl)) (fun q hq => by cases hq) (by decide) (by decide +kernel)
set_option maxRecDepth 100000 in
def adX7_takes (D : KK) : List ACE := (0, 1, some (aAl 0)) :: (1, 1, some (aIc (0))) :: (2, 3, some (aPutI D 7 0)) :: (5, 1, some (aIl 1)) :: (6, 1, some (aIl 2)) :: (7, 1, some (aIl 3)) :: (8, 3, some (aCall D 16 3 3 csX7_isAsked)) :: (11, 3, some (aIf bNe bEq 18)) :: (14, 3, some (aJc (-1))) :: (17, 1, some (aJret)) :: (18, 1, some (aAl 0)) :: (19, 1, some (aIl 1)) :: (20, 1, some (aIl 2)) :: (21, 1, some (aIl 3)) :: (22, 3, some (aCall D 7 4 5 csX7_seeksNow)) :: (25, 1, some (aAl 0)) :: (26, 3, some (aGetI D 7 47)) :: (29, 3, some (aIf bEq bNe 38)) :: (32, 3, some (aJc (-2))) :: (35, 3, some (aGoto 51)) :: (38, 1, some (aAl 0)) :: (39, 1, some (aIc (0))) :: (40, 1, some (aAl 0)) :: (41, 3, some (aGetI D 7 40)) :: (44, 1, some (aAl 0)) :: (45, 3, some (aGetI D 7 40)) :: (48, 3, some (aCall D 7 4 7 csX7_allTakes)) :: (51, 1, some (aJret)) :: []
set_option maxRecDepth 100000 in
set_option maxHeartbeats 4000000 in
theorem snX7_takes (d : Nat) (W : List Nat) (c : Nat × Nat) (hc : c = cA ∨ c = cB) : SndAll (d, TYg, c, W) cdX7_takes (adX7_takes (d, TYg, c, W)) := by
  unfold cdX7_takes adX7_takes
  refine sn_op sAl ?_
  refine sn_op (sIc (n := 0) (by decide)) ?_
  refine sn_op sPutI ?_
  refine sn_op sIl ?_
  refine sn_op sIl ?_
  refine sn_op sIl ?_
  refine sn_op (sCI (sfX7_isAsked c hc) (by decide) (by decide +kernel)) ?_
  refine sn_op sIfNe ?_
  refine sn_op (sJc (n := -1) (by decide)) ?_
  refine sn_op sJret ?_
  refine sn_op sAl ?_
  refine sn_op sIl ?_
  refine sn_op sIl ?_
  refine sn_op sIl ?_
  refine sn_op (sCV (sfX7_seeksNow c hc) (by decide) (by decide +kernel)) ?_
  refine sn_op sAl ?_
  refine sn_op sGetI ?_
  refine sn_op sIfEq ?_
  refine sn_op (sJc (n := -2) (by decide)) ?_
  refine sn_op sGoto ?_
  refine sn_op sAl ?_
  refine sn_op (sIc (n := 0) (by decide)) ?_
  refine sn_op sAl ?_
  refine sn_op sGetI ?_
  refine sn_op sAl ?_
  refine sn_op sGetI ?_
  refine sn_op (sCJ (sfX7_allTakes c hc) (by decide) (by decide +kernel)) ?_
  refine sn_op sJret ?_
  exact sn_nil
def csX7_takes : List AC := [([(2, 1175, 0), (0, -2147483648, 2147483647), (0, -2147483648, 2147483647), (0, -2147483648, 2147483647)], 10, [((8, 0, 0), [((1175, 0), (0, 0))], [])], [26104, 165384, 820712, 4916696, 4294968471, 184683594903, 206158431383, 210453398679, 214748365975, 219043333271], [])]
set_option maxRecDepth 100000 in
set_option maxHeartbeats 4000000 in
theorem sfX7_takes (c : Nat × Nat) (hc : c = cA ∨ c = cB) : ∀ ac ∈ csX7_takes, SafeC TYg c mX7_takes ac := by
  intro ac hac
  simp only [csX7_takes, List.mem_cons, List.not_mem_nil, or_false] at hac
  rcases hac with rfl
  · rcases hc with rfl | rfl
    · exact safe_of (ann := []) (fuel := 600) okX7_takes (snX7_takes _ _ cA (Or.inl rfl)) (fun q hq => by cases hq) (by decide) (by decide +kernel)
    · exact safe_of (ann := []) (fuel := 600) okX7_takes (snX7_takes _ _ cB (Or.inr rfl)) (fun q hq => by cases hq) (by decide) (by decide +kernel)
def csX7_told : List AC := [acTold34008, acTold42168, acTold99560]
set_option maxRecDepth 100000 in
set_option maxHeartbeats 4000000 in
theorem sfX7_told (c : Nat × Nat) (hc : c = cA ∨ c = cB) : ∀ ac ∈ csX7_told, SafeC TYg c mX7_told ac := by
  intro ac hac
  simp only [csX7_told, List.mem_cons, List.not_mem_nil, or_false] at hac
  rcases hac with rfl | rfl | rfl
  · exact hpTold34008 c
  · exact hpTold42168 c
  · exact hpTold99560 c
set_option maxRecDepth 100000 in
def adX7_wrong (D : KK) : List ACE := (0, 1, some (aAl 0)) :: (1, 3, some (aGetI D 7 35)) :: (4, 3, some (aIf bEq bNe 8)) :: (7, 1, some (aVret)) :: (8, 1, some (aAl 0)) :: (9, 1, some (aIl 1)) :: (10, 3, some (aPutI D 7 35)) :: (13, 1, some (aAl 0)) :: (14, 1, some (aAl 0)) :: (15, 3, some (aGetI D 7 32)) :: (18, 3, some (aPutI D 7 36)) :: (21, 1, some (aVret)) :: []
set_option maxRecDepth 100000 in
set_option maxHeartbeats 4000000 in
theorem snX7_wrong (d : Nat) (W : List Nat) (c : Nat × Nat) (hc : c = cA ∨ c = cB) : SndAll (d, TYg, c, W) cdX7_wrong (adX7_wrong (d, TYg, c, W)) := by
  unfold cdX7_wrong adX7_wrong
  refine sn_op sAl ?_
  refine sn_op sGetI ?_
  refine sn_op sIfEq ?_
  refine sn_op sVret ?_
  refine sn_op sAl ?_
  refine sn_op sIl ?_
  refine sn_op sPutI ?_
  refine sn_op sAl ?_
  refine sn_op sAl ?_
  refine sn_op sGetI ?_
  refine sn_op sPutI ?_
  refine sn_op sVret ?_
  exact sn_nil
def csX7_wrong : List AC := [([(2, 1175, 0), (0, 1, 1)], 1, [((9, 0, 0), [((1175, 35), (1, 5))], [])], [154618823831, 158913791127], []), ([(2, 1175, 0), (0, 2, 2)], 1, [((9, 0, 0), [((1175, 35), (1, 5))], [])], [154618823831, 158913791127], []), ([(2, 1175, 0), (0, 3, 3)], 1, [((9, 0, 0), [((1175, 35), (1, 5))], [])], [154618823831, 158913791127], []), ([(2, 1175, 0), (0, 5, 5)], 1, [((9, 0, 0), [((1175, 35), (1, 5))], [])], [154618823831, 158913791127], [])]
set_option maxRecDepth 100000 in
set_option maxHeartbeats 4000000 in
theorem sfX7_wrong (c : Nat × Nat) (hc : c = cA ∨ c = cB) : ∀ ac ∈ csX7_wrong, SafeC TYg c mX7_wrong ac := by
  intro ac hac
  simp only [csX7_wrong, List.mem_cons, List.not_mem_nil, or_false] at hac
  rcases hac with rfl | rfl | rfl | rfl
  · rcases hc with rfl | rfl
    · exact safe_of (ann := []) (fuel := 600) okX7_wrong (snX7_wrong _ _ cA (Or.inl rfl)) (fun q hq => by cases hq) (by decide) (by decide +kernel)
    · exact safe_of (ann := []) (fuel := 600) okX7_wrong (snX7_wrong _ _ cB (Or.inr rfl)) (fun q hq => by cases hq) (by decide) (by decide +kernel)
  · rcases hc with rfl | rfl
    · exact safe_of (ann := []) (fuel := 600) okX7_wrong (snX7_wrong _ _ cA (Or.inl rfl)) (fun q hq => by cases hq) (by decide) (by decide +kernel)
    · exact safe_of (ann := []) (fuel := 600) okX7_wrong (snX7_wrong _ _ cB (Or.inr rfl)) (fun q hq => by cases hq) (by decide) (by decide +kernel)
  · rcases hc with rfl | rfl
    · exact safe_of (ann := []) (fuel := 600) okX7_wrong (snX7_wrong _ _ cA (Or.inl rfl)) (fun q hq => by cases hq) (by decide) (by decide +kernel)
    · exact safe_of (ann := []) (fuel := 600) okX7_wrong (snX7_wrong _ _ cB (Or.inr rfl)) (fun q hq => by cases hq) (by decide) (by decide +kernel)
  · rcases hc with rfl | rfl
    · exact safe_of (ann := []) (fuel := 600) okX7_wrong (snX7_wrong _ _ cA (Or.inl rfl)) (fun q hq => by cases hq) (by decide) (by decide +kernel)
    · exact safe_of (ann := []) (fuel := 600) okX7_wrong (snX7_wrong _ _ cB (Or.inr rfl)) (fun q hq => by cases hq) (by decide) (by decide +kernel)
