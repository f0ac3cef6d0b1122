/-! contracts -/
set_option maxRecDepth 100000 in
def adX6_areBits (D : KK) : List ACE := (0, 1, some (aIl 0)) :: (1, 1, some (aIc (-1))) :: (2, 1, some (aIl 1)) :: (3, 1, some (aBin fTop)) :: (4, 1, some (aBin fAnd)) :: (5, 3, some (aIf bNe bEq 12)) :: (8, 1, some (aIc (1))) :: (9, 3, some (aGoto 13)) :: (12, 1, some (aIc (0))) :: (13, 1, some (aZret)) :: []
set_option maxRecDepth 100000 in
set_option maxHeartbeats 4000000 in
theorem snX6_areBits (d : Nat) (W : List Nat) (c : Nat × Nat) (hc : c = cA ∨ c = cB) : SndAll (d, TYg, c, W) cdX6_areBits (adX6_areBits (d, TYg, c, W)) := by
  unfold cdX6_areBits adX6_areBits
  refine sn_op sIl ?_
  refine sn_op (sIc (n := -1) (by decide)) ?_
  refine sn_op sIl ?_
  refine sn_op sIshl ?_
  refine sn_op sIand ?_
  refine sn_op sIfNe ?_
  refine sn_op (sIc (n := 1) (by decide)) ?_
  refine sn_op sGoto ?_
  refine sn_op (sIc (n := 0) (by decide)) ?_
  refine sn_op sZret ?_
  exact sn_nil
def csX6_areBits : List AC := [([(0, -2147483648, 2147483647), (0, 0, 12)], 1, [((0, 0, 0), [], []), ((0, 1, 1), [], [])], [], [])]
set_option maxRecDepth 100000 in
set_option maxHeartbeats 4000000 in
theorem sfX6_areBits (c : Nat × Nat) (hc : c = cA ∨ c = cB) : ∀ ac ∈ csX6_areBits, SafeC TYg c mX6_areBits ac := by
  intro ac hac
  simp only [csX6_areBits, List.mem_cons, List.not_mem_nil, or_false] at hac
  rcases hac with rfl
  · rcases hc with rfl | rfl
    · exact safe_of (ann := []) (fuel := 600) okX6_areBits (snX6_areBits _ _ cA (Or.inl rfl)) (fun q hq => by cases hq) (by decide) (by decide +kernel)
    · exact safe_of (ann := []) (fuel := 600) okX6_areBits (snX6_areBits _ _ cB (Or.inr rfl)) (fun q hq => by cases hq) (by decide) (by decide +kernel)
set_option maxRecDepth 100000 in
def adX6_takesOutside (D : KK) : List ACE := (0, 1, some (aJc (0))) :: (1, 1, some (aJs 2)) :: (2, 1, some (aIc (0))) :: (3, 2, some (aIs 4)) :: (5, 0, none) :: (5, 2, some (aIl 4)) :: (7, 1, some (aAl 0)) :: (8, 3, some (aGetNw D)) :: (11, 3, some (aGetR [(336, 354), (720, 738)])) :: (14, 3, some (aGetI D 2 1)) :: (17, 3, some (aCm (fun C x y => bLe C y x) bLt 49)) :: (20, 1, some (aJl 2)) :: (21, 1, some (aIl 1)) :: (22, 2, some (aIl 4)) :: (24, 1, some (aBin fShr)) :: (25, 1, some (aIc (1))) :: (26, 1, some (aBin fAnd)) :: (27, 3, some (aIf bNe bEq 40)) :: (30, 1, some (aAl 0)) :: (31, 3, some (aGetR [(6, 21625)])) :: (34, 2, some (aIl 4)) :: (36, 1, some (aJald)) :: (37, 3, some (aGoto 41)) :: (40, 1, some (aJc (0))) :: (41, 1, some (aLL)) :: (42, 1, some (aJs 2)) :: (43, 3, some (aInc 4 (1))) :: (46, 3, some (aGoto 5)) :: (49, 1, some (aJl 2)) :: (50, 1, some (aJret)) :: []
set_option maxRecDepth 100000 in
set_option maxHeartbeats 4000000 in
theorem snX6_takesOutside (d : Nat) (W : List Nat) (c : Nat × Nat) (hc : c = cA ∨ c = cB) : SndAll (d, TYg, c, W) cdX6_takesOutside (adX6_takesOutside (d, TYg, c, W)) := by
  unfold cdX6_takesOutside adX6_takesOutside
  refine sn_op (sJc (n := 0) (by decide)) ?_
  refine sn_op sJs ?_
  refine sn_op (sIc (n := 0) (by decide)) ?_
  refine sn_op sIs ?_
  refine sn_st ?_
  refine sn_op sIl ?_
  refine sn_op sAl ?_
  refine sn_op sGetNw ?_
  refine sn_op sGetR ?_
  refine sn_op sGetI ?_
  refine sn_op sCmGe ?_
  refine sn_op sJl ?_
  refine sn_op sIl ?_
  refine sn_op sIl ?_
  refine sn_op sIshr ?_
  refine sn_op (sIc (n := 1) (by decide)) ?_
  refine sn_op sIand ?_
  refine sn_op sIfNe ?_
  refine sn_op sAl ?_
  refine sn_op sGetR ?_
  refine sn_op sIl ?_
  refine sn_op sJald ?_
  refine sn_op sGoto ?_
  refine sn_op (sJc (n := 0) (by decide)) ?_
  refine sn_op sLadd ?_
  refine sn_op sJs ?_
  refine sn_op (sInc (n := 1) (by decide)) ?_
  refine sn_op sGoto ?_
  refine sn_op sJl ?_
  refine sn_op sJret ?_
  exact sn_nil
def csX6_takesOutside : List AC := [([(2, 6, 0), (0, 0, 0)], 1, [((8, 0, 0), [], [])], [], []), ([(2, 6, 0), (0, 1, 1)], 1, [((8, 0, 0), [], [])], [], []), ([(2, 6, 0), (0, 0, 2147483646)], 1, [((8, 0, 0), [], [])], [], [])]
set_option maxRecDepth 100000 in
set_option maxHeartbeats 4000000 in
theorem sfX6_takesOutside (c : Nat × Nat) (hc : c = cA ∨ c = cB) : ∀ ac ∈ csX6_takesOutside, SafeC TYg c mX6_takesOutside ac := by
  intro ac hac
  simp only [csX6_takesOutside, List.mem_cons, List.not_mem_nil, or_false] at hac
  rcases hac with rfl | rfl | rfl
  · rcases hc with rfl | rfl
    · exact safe_of (ann := [(5, [(2, 6, 0), (0, 0, 0), (8, 0, 0), (4, 0, 0), (0, 0, 5)], [(0, 4, 0, 4294967296)])]) (fuel := 600) okX6_takesOutside (snX6_takesOutside _ _ cA (Or.inl rfl)) (List.forall_mem_cons.mpr ⟨⟨_, _, rfl⟩, (fun q hq => by cases hq)⟩) (by decide) (by decide +kernel)
    · exact safe_of (ann := [(5, [(2, 6, 0), (0, 0, 0), (8, 0, 0), (4, 0, 0), (0, 0, 5)], [(0, 4, 0, 4294967296)])]) (fuel := 600) okX6_takesOutside (snX6_takesOutside _ _ cB (Or.inr rfl)) (List.forall_mem_cons.mpr ⟨⟨_, _, rfl⟩, (fun q hq => by cases hq)⟩) (by decide) (by decide +kernel)
  · rcases hc with rfl | rfl
    · exact safe_of (ann := [(5, [(2, 6, 0), (0, 1, 1), (8, 0, 0), (4, 0, 0), (0, 0, 5)], [(0, 4, 0, 4294967296)])]) (fuel := 600) okX6_takesOutside (snX6_takesOutside _ _ cA (Or.inl rfl)) (List.forall_mem_cons.mpr ⟨⟨_, _, rfl⟩, (fun q hq => by cases hq)⟩) (by decide) (by decide +kernel)
    · exact safe_of (ann := [(5, [(2, 6, 0), (0, 1, 1), (8, 0, 0), (4, 0, 0), (0, 0, 5)], [(0, 4, 0, 4294967296)])]) (fuel := 600) okX6_takesOutside (snX6_takesOutside _ _ cB (Or.inr rfl)) (List.forall_mem_cons.mpr ⟨⟨_, _, rfl⟩, (fun q hq => by cases hq)⟩) (by decide) (by decide +kernel)
  · rcases hc with rfl | rfl
    · exact safe_of (ann := [(5, [(2, 6, 0), (0, 0, 2147483646), (8, 0, 0), (4, 0, 0), (0, 0, 5)], [(0, 4, 0, 4294967296)])]) (fuel := 600) okX6_takesOutside (snX6_takesOutside _ _ cA (Or.inl rfl)) (List.forall_mem_cons.mpr ⟨⟨_, _, rfl⟩, (fun q hq => by cases hq)⟩) (by decide) (by decide +kernel)
    · exact safe_of (ann := [(5, [(2, 6, 0), (0, 0, 2147483646), (8, 0, 0), (4, 0, 0), (0, 0, 5)], [(0, 4, 0, 4294967296)])]) (fuel := 600) okX6_takesOutside (snX6_takesOutside _ _ cB (Or.inr rfl)) (List.forall_mem_cons.mpr ⟨⟨_, _, rfl⟩, (fun q hq => by cases hq)⟩) (by decide) (by decide +kernel)
set_option maxRecDepth 100000 in
def adX6_burdenInside (D : KK) : List ACE := (0, 1, some (aIc (0))) :: (1, 1, some (aIs 2)) :: (2, 1, some (aIc (0))) :: (3, 1, some (aIs 3)) :: (4, 0, none) :: (4, 1, some (aIl 3)) :: (5, 1, some (aAl 0)) :: (6, 3, some (aGetNw D)) :: (9, 3, some (aGetR [(336, 354), (720, 738)])) :: (12, 3, some (aGetI D 2 1)) :: (15, 3, some (aCm (fun C x y => bLe C y x) bLt 45)) :: (18, 1, some (aIl 2)) :: (19, 1, some (aIl 1)) :: (20, 1, some (aIl 3)) :: (21, 1, some (aBin fShr)) :: (22, 1, some (aIc (1))) :: (23, 1, some (aBin fAnd)) :: (24, 3, some (aIf bEq bNe 36)) :: (27, 1, some (aAl 0)) :: (28, 3, some (aGetR [(6, 21640)])) :: (31, 1, some (aIl 3)) :: (32, 1, some (aIald D)) :: (33, 3, some (aGoto 37)) :: (36, 1, some (aIc (0))) :: (37, 1, some (aBin fAdd)) :: (38, 1, some (aIs 2)) :: (39, 3, some (aInc 3 (1))) :: (42, 3, some (aGoto 4)) :: (45, 1, some (aIl 2)) :: (46, 1, some (aIret)) :: []
set_option maxRecDepth 100000 in
set_option maxHeartbeats 4000000 in
theorem snX6_burdenInside (d : Nat) (W : List Nat) (c : Nat × Nat) (hc : c = cA ∨ c = cB) : SndAll (d, TYg, c, W) cdX6_burdenInside (adX6_burdenInside (d, TYg, c, W)) := by
  unfold cdX6_burdenInside adX6_burdenInside
  refine sn_op (sIc (n := 0) (by decide)) ?_
  refine sn_op sIs ?_
  refine sn_op (sIc (n := 0) (by decide)) ?_
  refine sn_op sIs ?_
  refine sn_st ?_
  refine sn_op sIl ?_
  refine sn_op sAl ?_
  refine sn_op sGetNw ?_
  refine sn_op sGetR ?_
  refine sn_op sGetI ?_
  refine sn_op sCmGe ?_
  refine sn_op sIl ?_
  refine sn_op sIl ?_
  refine sn_op sIl ?_
  refine sn_op sIshr ?_
  refine sn_op (sIc (n := 1) (by decide)) ?_
  refine sn_op sIand ?_
  refine sn_op sIfEq ?_
  refine sn_op sAl ?_
  refine sn_op sGetR ?_
  refine sn_op sIl ?_
  refine sn_op sIald ?_
  refine sn_op sGoto ?_
  refine sn_op (sIc (n := 0) (by decide)) ?_
  refine sn_op sIadd ?_
  refine sn_op sIs ?_
  refine sn_op (sInc (n := 1) (by decide)) ?_
  refine sn_op sGoto ?_
  refine sn_op sIl ?_
  refine sn_op sIret ?_
  exact sn_nil
def csX6_burdenInside : List AC := [([(2, 6, 0), (0, 1, 1)], 1, [((0, -2147483648, 2147483647), [], [])], [], []), ([(2, 6, 0), (0, 0, 0)], 1, [((0, -2147483648, 2147483647), [], [])], [], []), ([(2, 6, 0), (0, 0, 2147483646)], 1, [((0, -2147483648, 2147483647), [], [])], [], [])]
set_option maxRecDepth 100000 in
set_option maxHeartbeats 4000000 in
theorem sfX6_burdenInside (c : Nat × Nat) (hc : c = cA ∨ c = cB) : ∀ ac ∈ csX6_burdenInside, SafeC TYg c mX6_burdenInside ac := by
  intro ac hac
  simp only [csX6_burdenInside, List.mem_cons, List.not_mem_nil, or_false] at hac
  rcases hac with rfl | rfl | rfl
  · rcases hc with rfl | rfl
    · exact safe_of (ann := [(4, [(2, 6, 0), (0, 1, 1), (0, -2147483648, 2147483647), (0, 0, 5)], [(0, 3, 0, 4294967296)])]) (fuel := 600) okX6_burdenInside (snX6_burdenInside _ _ cA (Or.inl rfl)) (List.forall_mem_cons.mpr ⟨⟨_, _, rfl⟩, (fun q hq => by cases hq)⟩) (by decide) (by decide +kernel)
    · exact safe_of (ann := [(4, [(2, 6, 0), (0, 1, 1), (0, -2147483648, 2147483647), (0, 0, 5)], [(0, 3, 0, 4294967296)])]) (fuel := 600) okX6_burdenInside (snX6_burdenInside _ _ cB (Or.inr rfl)) (List.forall_mem_cons.mpr ⟨⟨_, _, rfl⟩, (fun q hq => by cases hq)⟩) (by decide) (by decide +kernel)
  · rcases hc with rfl | rfl
    · exact safe_of (ann := [(4, [(2, 6, 0), (0, 0, 0), (0, -2147483648, 2147483647), (0, 0, 5)], [(0, 3, 0, 4294967296)])]) (fuel := 600) okX6_burdenInside (snX6_burdenInside _ _ cA (Or.inl rfl)) (List.forall_mem_cons.mpr ⟨⟨_, _, rfl⟩, (fun q hq => by cases hq)⟩) (by decide) (by decide +kernel)
    · exact safe_of (ann := [(4, [(2, 6, 0), (0, 0, 0), (0, -2147483648, 2147483647), (0, 0, 5)], [(0, 3, 0, 4294967296)])]) (fuel := 600) okX6_burdenInside (snX6_burdenInside _ _ cB (Or.inr rfl)) (List.forall_mem_cons.mpr ⟨⟨_, _, rfl⟩, (fun q hq => by cases hq)⟩) (by decide) (by decide +kernel)
  · rcases hc with rfl | rfl
    · exact safe_of (ann := [(4, [(2, 6, 0), (0, 0, 2147483646), (0, -2147483648, 2147483647), (0, 0, 5)], [(0, 3, 0, 4294967296)])]) (fuel := 600) okX6_burdenInside (snX6_burdenInside _ _ cA (Or.inl rfl)) (List.forall_mem_cons.mpr ⟨⟨_, _, rfl⟩, (fun q hq => by cases hq)⟩) (by decide) (by decide +kernel)
    · exact safe_of (ann := [(4, [(2, 6, 0), (0, 0, 2147483646), (0, -2147483648, 2147483647), (0, 0, 5)], [(0, 3, 0, 4294967296)])]) (fuel := 600) okX6_burdenInside (snX6_burdenInside _ _ cB (Or.inr rfl)) (List.forall_mem_cons.mpr ⟨⟨_, _, rfl⟩, (fun q hq => by cases hq)⟩) (by decide) (by decide +kernel)
set_option maxRecDepth 100000 in
def adX6_bestLands (D : KK) : List ACE := (0, 1, some (aIc (0))) :: (1, 1, some (aIs 2)) :: (2, 1, some (aAl 0)) :: (3, 1, some (aIc (0))) :: (4, 3, some (aCall D 6 2 5 csX6_takesOutside)) :: (7, 1, some (aJs 3)) :: (8, 1, some (aIc (0))) :: (9, 2, some (aIs 5)) :: (11, 1, some (aIc (1))) :: (12, 2, some (aIs 6)) :: (14, 0, none) :: (14, 2, some (aIl 6)) :: (16, 1, some (aIc (1))) :: (17, 1, some (aAl 0)) :: (18, 3, some (aGetNw D)) :: (21, 3, some (aGetR [(336, 354), (720, 738)])) :: (24, 3, some (aGetI D 2 1)) :: (27, 1, some (aBin fTop)) :: (28, 3, some (aCm (fun C x y => bLe C y x) bLt 90)) :: (31, 1, some (aAl 0)) :: (32, 2, some (aIl 6)) :: (34, 3, some (aCall D 6 2 4 csX6_burdenInside)) :: (37, 2, some (aIs 7)) :: (39, 1, some (aAl 0)) :: (40, 2, some (aIl 6)) :: (42, 3, some (aCall D 6 2 5 csX6_takesOutside)) :: (45, 2, some (aJs 8)) :: (47, 2, some (aIl 7)) :: (49, 1, some (aIl 1)) :: (50, 3, some (aCm (fun C x y => bLt C y x) bLe 84)) :: (53, 2, some (aJl 8)) :: (55, 1, some (aJl 3)) :: (56, 1, some (aLcmp)) :: (57, 3, some (aIf bLt (fun C x y => bLe C y x) 74)) :: (60, 2, some (aJl 8)) :: (62, 1, some (aJl 3)) :: (63, 1, some (aLcmp)) :: (64, 3, some (aIf bNe bEq 84)) :: (67, 2, some (aIl 7)) :: (69, 2, some (aIl 5)) :: (71, 3, some (aCm (fun C x y => bLe C y x) bLt 84)) :: (74, 2, some (aIl 6)) :: (76, 1, some (aIs 2)) :: (77, 2, some (aJl 8)) :: (79, 1, some (aJs 3)) :: (80, 2, some (aIl 7)) :: (82, 2, some (aIs 5)) :: (84, 3, some (aInc 6 (1))) :: (87, 3, some (aGoto 14)) :: (90, 1, some (aIl 2)) :: (91, 1, some (aIret)) :: []
set_option maxRecDepth 100000 in
set_option maxHeartbeats 4000000 in
theorem snX6_bestLands (d : Nat) (W : List Nat) (c : Nat × Nat) (hc : c = cA ∨ c = cB) : SndAll (d, TYg, c, W) cdX6_bestLands (adX6_bestLands (d, TYg, c, W)) := by
  unfold cdX6_bestLands adX6_bestLands
  refine sn_op (sIc (n := 0) (by decide)) ?_
  refine sn_op sIs ?_
  refine sn_op sAl ?_
  refine sn_op (sIc (n := 0) (by decide)) ?_
  refine sn_op (sCJ (sfX6_takesOutside c hc) (by decide) (by decide +kernel)) ?_
  refine sn_op sJs ?_
  refine sn_op (sIc (n := 0) (by decide)) ?_
  refine sn_op sIs ?_
  refine sn_op (sIc (n := 1) (by decide)) ?_
  refine sn_op sIs ?_
  refine sn_st ?_
  refine sn_op sIl ?_
  refine sn_op (sIc (n := 1) (by decide)) ?_
  refine sn_op sAl ?_
  refine sn_op sGetNw ?_
  refine sn_op sGetR ?_
  refine sn_op sGetI ?_
  refine sn_op sIshl ?_
  refine sn_op sCmGe ?_
  refine sn_op sAl ?_
  refine sn_op sIl ?_
  refine sn_op (sCI (sfX6_burdenInside c hc) (by decide) (by decide +kernel)) ?_
  refine sn_op sIs ?_
  refine sn_op sAl ?_
  refine sn_op sIl ?_
  refine sn_op (sCJ (sfX6_takesOutside c hc) (by decide) (by decide +kernel)) ?_
  refine sn_op sJs ?_
  refine sn_op sIl ?_
  refine sn_op sIl ?_
  refine sn_op sCmGt ?_
  refine sn_op sJl ?_
  refine sn_op sJl ?_
  refine sn_op sLcmp ?_
  refine sn_op sIfLt ?_
  refine sn_op sJl ?_
  refine sn_op sJl ?_
  refine sn_op sLcmp ?_
  refine sn_op sIfNe ?_
  refine sn_op sIl ?_
  refine sn_op sIl ?_
  refine sn_op sCmGe ?_
  refine sn_op sIl ?_
  refine sn_op sIs ?_
  refine sn_op sJl ?_
  refine sn_op sJs ?_
  refine sn_op sIl ?_
  refine sn_op sIs ?_
  refine sn_op (sInc (n := 1) (by decide)) ?_
  refine sn_op sGoto ?_
  refine sn_op sIl ?_
  refine sn_op sIret ?_
  exact sn_nil
def csX6_bestLands : List AC := [([(2, 6, 0), (0, 0, 2147483647)], 2, [((0, 0, 2147483646), [], [])], [], [])]
set_option maxRecDepth 100000 in
set_option maxHeartbeats 4000000 in
theorem sfX6_bestLands (c : Nat × Nat) (hc : c = cA ∨ c = cB) : ∀ ac ∈ csX6_bestLands, SafeC TYg c mX6_bestLands ac := by
  intro ac hac
  simp only [csX6_bestLands, List.mem_cons, List.not_mem_nil, or_false] at hac
  rcases hac with rfl
  · rcases hc with rfl | rfl
    · exact safe_of (ann := [(14, [(2, 6, 0), (0, 0, 2147483647), (0, 0, 2147483646), (8, 0, 0), (4, 0, 0), (0, -2147483648, 2147483647), (0, 1, 2147483647), (4, 0, 0), (4, 0, 0), (4, 0, 0)], [(0, 6, 0, 4294967296)])]) (fuel := 600) okX6_bestLands (snX6_bestLands _ _ cA (Or.inl rfl)) (List.forall_mem_cons.mpr ⟨⟨_, _, rfl⟩, (fun q hq => by cases hq)⟩) (by decide) (by decide +kernel)
    · exact safe_of (ann := [(14, [(2, 6, 0), (0, 0, 2147483647), (0, 0, 2147483646), (8, 0, 0), (4, 0, 0), (0, -2147483648, 2147483647), (0, 1, 2147483647), (4, 0, 0), (4, 0, 0), (4, 0, 0)], [(0, 6, 0, 4294967296)])]) (fuel := 600) okX6_bestLands (snX6_bestLands _ _ cB (Or.inr rfl)) (List.forall_mem_cons.mpr ⟨⟨_, _, rfl⟩, (fun q hq => by cases hq)⟩) (by decide) (by decide +kernel)
set_option maxRecDepth 100000 in
def adX6_burden (D : KK) : List ACE := (0, 1, some (aAl 0)) :: (1, 3, some (aGetNw D)) :: (4, 3, some (aGetR [(336, 354), (720, 738)])) :: (7, 1, some (aIl 1)) :: (8, 3, some (aCall D 2 2 2 csX2_has)) :: (11, 3, some (aIf bNe bEq 16)) :: (14, 1, some (aIc (-1))) :: (15, 1, some (aIret)) :: (16, 1, some (aAl 0)) :: (17, 3, some (aGetNw D)) :: (20, 1, some (aIl 1)) :: (21, 1, some (aAl 0)) :: (22, 3, some (aGetNw D)) :: (25, 1, some (aIc (0))) :: (26, 3, some (aCall D 0 2 4 csX0_missing)) :: (29, 3, some (aCall D 0 3 6 csX0_honestSales)) :: (32, 1, some (aIret)) :: []
set_option maxRecDepth 100000 in
set_option maxHeartbeats 4000000 in
theorem snX6_burden (d : Nat) (W : List Nat) (c : Nat × Nat) (hc : c = cA ∨ c = cB) : SndAll (d, TYg, c, W) cdX6_burden (adX6_burden (d, TYg, c, W)) := by
  unfold cdX6_burden adX6_burden
  refine sn_op sAl ?_
  refine sn_op sGetNw ?_
  refine sn_op sGetR ?_
  refine sn_op sIl ?_
  refine sn_op (sCI (sfX2_has c hc) (by decide) (by decide +kernel)) ?_
  refine sn_op sIfNe ?_
  refine sn_op (sIc (n := -1) (by decide)) ?_
  refine sn_op sIret ?_
  refine sn_op sAl ?_
  refine sn_op sGetNw ?_
  refine sn_op sIl ?_
  refine sn_op sAl ?_
  refine sn_op sGetNw ?_
  refine sn_op (sIc (n := 0) (by decide)) ?_
  refine sn_op (sCI (sfX0_missing c hc) (by decide) (by decide +kernel)) ?_
  refine sn_op (sCI (sfX0_honestSales c hc) (by decide) (by decide +kernel)) ?_
  refine sn_op sIret ?_
  exact sn_nil
def csX6_burden : List AC := [([(2, 6, 0), (0, -2147483648, 2147483647)], 5, [((0, -2147483648, 2147483647), [], [(1, (0, 4))]), ((0, -1, -1), [], [])], [49864, 50248], [])]
set_option maxRecDepth 100000 in
set_option maxHeartbeats 4000000 in
theorem sfX6_burden (c : Nat × Nat) (hc : c = cA ∨ c = cB) : ∀ ac ∈ csX6_burden, SafeC TYg c mX6_burden ac := by
  intro ac hac
  simp only [csX6_burden, List.mem_cons, List.not_mem_nil, or_false] at hac
  rcases hac with rfl
  · rcases hc with rfl | rfl
    · exact safe_of (ann := []) (fuel := 600) okX6_burden (snX6_burden _ _ cA (Or.inl rfl)) (fun q hq => by cases hq) (by decide) (by decide +kernel)
    · exact safe_of (ann := []) (fuel := 600) okX6_burden (snX6_burden _ _ cB (Or.inr rfl)) (fun q hq => by cases hq) (by decide) (by decide +kernel)
set_option maxRecDepth 100000 in
def adX6_count (D : KK) : List ACE := (0, 1, some (aIl 1)) :: (1, 47, some (aSw [(0, 48), (1, 59), (2, 70), (3, 81), (4, 92), (5, 103), (6, 111), (7, 119)] 134)) :: (48, 1, some (aAl 0)) :: (49, 3, some (aGetNw D)) :: (52, 3, some (aGetR [(336, 354), (720, 738)])) :: (55, 3, some (aGetI D 2 1)) :: (58, 1, some (aIret)) :: (59, 1, some (aAl 0)) :: (60, 3, some (aGetNw D)) :: (63, 3, some (aGetR [(336, 386), (720, 770)])) :: (66, 3, some (aGetI D 2 1)) :: (69, 1, some (aIret)) :: (70, 1, some (aAl 0)) :: (71, 3, some (aGetNw D)) :: (74, 3, some (aGetR [(336, 418), (720, 802)])) :: (77, 3, some (aGetI D 2 1)) :: (80, 1, some (aIret)) :: (81, 1, some (aAl 0)) :: (82, 3, some (aGetNw D)) :: (85, 3, some (aGetR [(336, 452), (720, 836)])) :: (88, 3, some (aGetI D 4 7)) :: (91, 1, some (aIret)) :: (92, 1, some (aAl 0)) :: (93, 3, some (aGetNw D)) :: (96, 3, some (aGetR [(336, 452), (720, 836)])) :: (99, 3, some (aGetI D 4 8)) :: (102, 1, some (aIret)) :: (103, 1, some (aAl 0)) :: (104, 3, some (aGetI D 6 5)) :: (107, 3, some (aCall D 16 1 1 csJ6_bitCount_0f7a4)) :: (110, 1, some (aIret)) :: (111, 1, some (aAl 0)) :: (112, 3, some (aGetI D 6 6)) :: (115, 3, some (aCall D 16 1 1 csJ6_bitCount_0f7a4)) :: (118, 1, some (aIret)) :: (119, 1, some (aAl 0)) :: (120, 3, some (aGetNw D)) :: (123, 1, some (aAl 0)) :: (124, 3, some (aGetI D 6 6)) :: (127, 3, some (aCall D 0 2 4 csX0_missing)) :: (130, 3, some (aCall D 16 1 1 csJ6_bitCount_0f7a4)) :: (133, 1, some (aIret)) :: (134, 1, some (aIc (-1))) :: (135, 1, some (aIret)) :: []
set_option maxRecDepth 100000 in
set_option maxHeartbeats 4000000 in
theorem snX6_count (d : Nat) (W : List Nat) (c : Nat × Nat) (hc : c = cA ∨ c = cB) : SndAll (d, TYg, c, W) cdX6_count (adX6_count (d, TYg, c, W)) := by
  unfold cdX6_count adX6_count
  refine sn_op sIl ?_
  refine sn_op (sSw (by decide)) ?_
  refine sn_op sAl ?_
  refine sn_op sGetNw ?_
  refine sn_op sGetR ?_
  refine sn_op sGetI ?_
  refine sn_op sIret ?_
  refine sn_op sAl ?_
  refine sn_op sGetNw ?_
  refine sn_op sGetR ?_
  refine sn_op sGetI ?_
  refine sn_op sIret ?_
  refine sn_op sAl ?_
  refine sn_op sGetNw ?_
  refine sn_op sGetR ?_
  refine sn_op sGetI ?_
  refine sn_op sIret ?_
  refine sn_op sAl ?_
  refine sn_op sGetNw ?_
  refine sn_op sGetR ?_
  refine sn_op sGetI ?_
  refine sn_op sIret ?_
  refine sn_op sAl ?_
  refine sn_op sGetNw ?_
  refine sn_op sGetR ?_
  refine sn_op sGetI ?_
  refine sn_op sIret ?_
  refine sn_op sAl ?_
  refine sn_op sGetI ?_
  refine sn_op (sCI (sfJ6_bitCount_0f7a4 c hc) (by decide) (by decide +kernel)) ?_
  refine sn_op sIret ?_
  refine sn_op sAl ?_
  refine sn_op sGetI ?_
  refine sn_op (sCI (sfJ6_bitCount_0f7a4 c hc) (by decide) (by decide +kernel)) ?_
  refine sn_op sIret ?_
  refine sn_op sAl ?_
  refine sn_op sGetNw ?_
  refine sn_op sAl ?_
  refine sn_op sGetI ?_
  refine sn_op (sCI (sfX0_missing c hc) (by decide) (by decide +kernel)) ?_
  refine sn_op (sCI (sfJ6_bitCount_0f7a4 c hc) (by decide) (by decide +kernel)) ?_
  refine sn_op sIret ?_
  refine sn_op (sIc (n := -1) (by decide)) ?_
  refine sn_op sIret ?_
  exact sn_nil
def csX6_count : List AC := [([(2, 6, 0), (0, -2147483648, 2147483647)], 5, [((0, -2147483648, 2147483647), [], [(1, (4, 4))]), ((0, -1, -1), [], []), ((0, 0, 63), [], [(1, (0, 7))])], [49864, 50248], [])]
set_option maxRecDepth 100000 in
set_option maxHeartbeats 4000000 in
theorem sfX6_count (c : Nat × Nat) (hc : c = cA ∨ c = cB) : ∀ ac ∈ csX6_count, SafeC TYg c mX6_count ac := by
  intro ac hac
  simp only [csX6_count, List.mem_cons, List.not_mem_nil, or_false] at hac
  rcases hac with rfl
  · rcases hc with rfl | rfl
    · exact safe_of (ann := []) (fuel := 600) okX6_count (snX6_count _ _ cA (Or.inl rfl)) (fun q hq => by cases hq) (by decide) (by decide +kernel)
    · exact safe_of (ann := []) (fuel := 600) okX6_count (snX6_count _ _ cB (Or.inr rfl)) (fun q hq => by cases hq) (by decide) (by decide +kernel)
set_option maxRecDepth 100000 in
def adX6_fault (D : KK) : List ACE := (0, 1, some (aIl 1)) :: (1, 27, some (aSw [(0, 28), (1, 36)] 44)) :: (28, 1, some (aAl 0)) :: (29, 3, some (aGetR [(6, 19)])) :: (32, 3, some (aGetI D 3 2)) :: (35, 1, some (aIret)) :: (36, 1, some (aAl 0)) :: (37, 3, some (aGetR [(6, 19)])) :: (40, 3, some (aGetI D 3 3)) :: (43, 1, some (aIret)) :: (44, 1, some (aIc (-1))) :: (45, 1, some (aIret)) :: []
set_option maxRecDepth 100000 in
set_option maxHeartbeats 4000000 in
theorem snX6_fault (d : Nat) (W : List Nat) (c : Nat × Nat) (hc : c = cA ∨ c = cB) : SndAll (d, TYg, c, W) cdX6_fault (adX6_fault (d, TYg, c, W)) := by
  unfold cdX6_fault adX6_fault
  refine sn_op sIl ?_
  refine sn_op (sSw (by decide)) ?_
  refine sn_op sAl ?_
  refine sn_op sGetR ?_
  refine sn_op sGetI ?_
  refine sn_op sIret ?_
  refine sn_op sAl ?_
  refine sn_op sGetR ?_
  refine sn_op sGetI ?_
  refine sn_op sIret ?_
  refine sn_op (sIc (n := -1) (by decide)) ?_
  refine sn_op sIret ?_
  exact sn_nil
def csX6_fault : List AC := [([(2, 6, 0), (0, -2147483648, 2147483647)], 1, [((0, -2147483648, 2147483647), [], [(1, (0, 1))]), ((0, -1, -1), [], [])], [], [])]
set_option maxRecDepth 100000 in
set_option maxHeartbeats 4000000 in
theorem sfX6_fault (c : Nat × Nat) (hc : c = cA ∨ c = cB) : ∀ ac ∈ csX6_fault, SafeC TYg c mX6_fault ac := by
  intro ac hac
  simp only [csX6_fault, List.mem_cons, List.not_mem_nil, or_false] at hac
  rcases hac with rfl
  · rcases hc with rfl | rfl
    · exact safe_of (ann := []) (fuel := 600) okX6_fault (snX6_fault _ _ cA (Or.inl rfl)) (fun q hq => by cases hq) (by decide) (by decide +kernel)
    · exact safe_of (ann := []) (fuel := 600) okX6_fault (snX6_fault _ _ cB (Or.inr rfl)) (fun q hq => by cases hq) (by decide) (by decide +kernel)
set_option maxRecDepth 100000 in
def adX6_feed (D : KK) : List ACE := (0, 1, some (aAl 0)) :: (1, 3, some (aGetR [(6, 19)])) :: (4, 2, some (aIc (20))) :: (6, 3, some (aCall D 3 2 2 csX3_hasSpace)) :: (9, 3, some (aIf bNe bEq 14)) :: (12, 1, some (aIc (-1))) :: (13, 1, some (aIret)) :: (14, 1, some (aAl 0)) :: (15, 3, some (aGetR [(6, 19)])) :: (18, 1, some (aIl 1)) :: (19, 3, some (aCall D 3 2 2 csX3_push)) :: (22, 1, some (aAl 0)) :: (23, 3, some (aGetR [(6, 19)])) :: (26, 1, some (aIl 2)) :: (27, 3, some (aCall D 3 2 2 csX3_push)) :: (30, 1, some (aAl 0)) :: (31, 3, some (aGetR [(6, 19)])) :: (34, 1, some (aIl 3)) :: (35, 3, some (aCall D 3 2 2 csX3_push)) :: (38, 1, some (aAl 0)) :: (39, 3, some (aGetR [(6, 19)])) :: (42, 2, some (aIl 4)) :: (44, 3, some (aCall D 3 2 2 csX3_push)) :: (47, 1, some (aAl 0)) :: (48, 3, some (aGetR [(6, 19)])) :: (51, 2, some (aIl 5)) :: (53, 3, some (aCall D 3 2 2 csX3_push)) :: (56, 1, some (aAl 0)) :: (57, 3, some (aGetR [(6, 19)])) :: (60, 3, some (aGetI D 3 1)) :: (63, 1, some (aIret)) :: []
set_option maxRecDepth 100000 in
set_option maxHeartbeats 4000000 in
theorem snX6_feed (d : Nat) (W : List Nat) (c : Nat × Nat) (hc : c = cA ∨ c = cB) : SndAll (d, TYg, c, W) cdX6_feed (adX6_feed (d, TYg, c, W)) := by
  unfold cdX6_feed adX6_feed
  refine sn_op sAl ?_
  refine sn_op sGetR ?_
  refine sn_op (sIc (n := 20) (by decide)) ?_
  refine sn_op (sCI (sfX3_hasSpace c hc) (by decide) (by decide +kernel)) ?_
  refine sn_op sIfNe ?_
  refine sn_op (sIc (n := -1) (by decide)) ?_
  refine sn_op sIret ?_
  refine sn_op sAl ?_
  refine sn_op sGetR ?_
  refine sn_op sIl ?_
  refine sn_op (sCV (sfX3_push c hc) (by decide) (by decide +kernel)) ?_
  refine sn_op sAl ?_
  refine sn_op sGetR ?_
  refine sn_op sIl ?_
  refine sn_op (sCV (sfX3_push c hc) (by decide) (by decide +kernel)) ?_
  refine sn_op sAl ?_
  refine sn_op sGetR ?_
  refine sn_op sIl ?_
  refine sn_op (sCV (sfX3_push c hc) (by decide) (by decide +kernel)) ?_
  refine sn_op sAl ?_
  refine sn_op sGetR ?_
  refine sn_op sIl ?_
  refine sn_op (sCV (sfX3_push c hc) (by decide) (by decide +kernel)) ?_
  refine sn_op sAl ?_
  refine sn_op sGetR ?_
  refine sn_op sIl ?_
  refine sn_op (sCV (sfX3_push c hc) (by decide) (by decide +kernel)) ?_
  refine sn_op sAl ?_
  refine sn_op sGetR ?_
  refine sn_op sGetI ?_
  refine sn_op sIret ?_
  exact sn_nil
def csX6_feed : List AC := [([(2, 6, 0), (0, -2147483648, 2147483647), (0, -2147483648, 2147483647), (0, -2147483648, 2147483647), (0, -2147483648, 2147483647), (0, -2147483648, 2147483647)], 3, [((0, -1, -1), [((19, 1), (781, 800))], []), ((0, 4, 800), [((19, 1), (4, 800))], [])], [3276842, 8589934611], [])]
set_option maxRecDepth 100000 in
set_option maxHeartbeats 4000000 in
theorem sfX6_feed (c : Nat × Nat) (hc : c = cA ∨ c = cB) : ∀ ac ∈ csX6_feed, SafeC TYg c mX6_feed ac := by
  intro ac hac
  simp only [csX6_feed, List.mem_cons, List.not_mem_nil, or_false] at hac
  rcases hac with rfl
  · rcases hc with rfl | rfl
    · exact safe_of (ann := []) (fuel := 600) okX6_feed (snX6_feed _ _ cA (Or.inl rfl)) (fun q hq => by cases hq) (by decide) (by decide +kernel)
    · exact safe_of (ann := []) (fuel := 600) okX6_feed (snX6_feed _ _ cB (Or.inr rfl)) (fun q hq => by cases hq) (by decide) (by decide +kernel)
set_option maxRecDepth 100000 in
def adX6_keepWorthy (D : KK) : List ACE := (0, 1, some (aAl 0)) :: (1, 3, some (aGetNw D)) :: (4, 1, some (aAl 0)) :: (5, 3, some (aGetI D 6 6)) :: (8, 3, some (aCall D 0 2 4 csX0_missing)) :: (11, 1, some (aIs 2)) :: (12, 1, some (aIc (0))) :: (13, 1, some (aIs 3)) :: (14, 1, some (aIc (0))) :: (15, 2, some (aIs 4)) :: (17, 0, none) :: (17, 2, some (aIl 4)) :: (19, 1, some (aIl 1)) :: (20, 3, some (aCm (fun C x y => bLe C y x) bLt 112)) :: (23, 1, some (aAl 0)) :: (24, 3, some (aGetNw D)) :: (27, 1, some (aAl 0)) :: (28, 3, some (aGetR [(6, 49)])) :: (31, 3, some (aGetR [(49, 819273)])) :: (34, 2, some (aIl 4)) :: (36, 1, some (aJald)) :: (37, 1, some (aAl 0)) :: (38, 3, some (aGetR [(6, 49)])) :: (41, 3, some (aGetR [(49, 819288)])) :: (44, 2, some (aIl 4)) :: (46, 1, some (aIald D)) :: (47, 1, some (aIl 2)) :: (48, 1, some (aAl 0)) :: (49, 3, some (aGetI D 6 6)) :: (52, 3, some (aCall D 0 5 10 csX0_takenBy)) :: (55, 2, some (aIs 5)) :: (57, 2, some (aIl 5)) :: (59, 3, some (aIf bLe (fun C x y => bLt C y x) 106)) :: (62, 1, some (aAl 0)) :: (63, 3, some (aGetR [(6, 820328)])) :: (66, 1, some (aIl 3)) :: (67, 2, some (aIl 5)) :: (69, 1, some (aIast D)) :: (70, 1, some (aAl 0)) :: (71, 3, some (aGetR [(6, 820312)])) :: (74, 1, some (aIl 3)) :: (75, 1, some (aAl 0)) :: (76, 3, some (aGetNw D)) :: (79, 1, some (aAl 0)) :: (80, 3, some (aGetR [(6, 49)])) :: (83, 3, some (aGetR [(49, 819273)])) :: (86, 2, some (aIl 4)) :: (88, 1, some (aJald)) :: (89, 1, some (aAl 0)) :: (90, 3, some (aGetR [(6, 49)])) :: (93, 3, some (aGetR [(49, 819288)])) :: (96, 2, some (aIl 4)) :: (98, 1, some (aIald D)) :: (99, 3, some (aCall D 0 3 6 csX0_firmsOf)) :: (102, 1, some (aIast D)) :: (103, 3, some (aInc 3 (1))) :: (106, 3, some (aInc 4 (1))) :: (109, 3, some (aGoto 17)) :: (112, 1, some (aIl 3)) :: (113, 1, some (aIret)) :: []
set_option maxRecDepth 100000 in
set_option maxHeartbeats 4000000 in
theorem snX6_keepWorthy (d : Nat) (W : List Nat) (c : Nat × Nat) (hc : c = cA ∨ c = cB) : SndAll (d, TYg, c, W) cdX6_keepWorthy (adX6_keepWorthy (d, TYg, c, W)) := by
  unfold cdX6_keepWorthy adX6_keepWorthy
  refine sn_op sAl ?_
  refine sn_op sGetNw ?_
  refine sn_op sAl ?_
  refine sn_op sGetI ?_
  refine sn_op (sCI (sfX0_missing c hc) (by decide) (by decide +kernel)) ?_
  refine sn_op sIs ?_
  refine sn_op (sIc (n := 0) (by decide)) ?_
  refine sn_op sIs ?_
  refine sn_op (sIc (n := 0) (by decide)) ?_
  refine sn_op sIs ?_
  refine sn_st ?_
  refine sn_op sIl ?_
  refine sn_op sIl ?_
  refine sn_op sCmGe ?_
  refine sn_op sAl ?_
  refine sn_op sGetNw ?_
  refine sn_op sAl ?_
  refine sn_op sGetR ?_
  refine sn_op sGetR ?_
  refine sn_op sIl ?_
  refine sn_op sJald ?_
  refine sn_op sAl ?_
  refine sn_op sGetR ?_
  refine sn_op sGetR ?_
  refine sn_op sIl ?_
  refine sn_op sIald ?_
  refine sn_op sIl ?_
  refine sn_op sAl ?_
  refine sn_op sGetI ?_
  refine sn_op (sCI (sfX0_takenBy c hc) (by decide) (by decide +kernel)) ?_
  refine sn_op sIs ?_
  refine sn_op sIl ?_
  refine sn_op sIfLe ?_
  refine sn_op sAl ?_
  refine sn_op sGetR ?_
  refine sn_op sIl ?_
  refine sn_op sIl ?_
  refine sn_op sIast ?_
  refine sn_op sAl ?_
  refine sn_op sGetR ?_
  refine sn_op sIl ?_
  refine sn_op sAl ?_
  refine sn_op sGetNw ?_
  refine sn_op sAl ?_
  refine sn_op sGetR ?_
  refine sn_op sGetR ?_
  refine sn_op sIl ?_
  refine sn_op sJald ?_
  refine sn_op sAl ?_
  refine sn_op sGetR ?_
  refine sn_op sGetR ?_
  refine sn_op sIl ?_
  refine sn_op sIald ?_
  refine sn_op (sCI (sfX0_firmsOf c hc) (by decide) (by decide +kernel)) ?_
  refine sn_op sIast ?_
  refine sn_op (sInc (n := 1) (by decide)) ?_
  refine sn_op (sInc (n := 1) (by decide)) ?_
  refine sn_op sGoto ?_
  refine sn_op sIl ?_
  refine sn_op sIret ?_
  exact sn_nil
def csX6_keepWorthy : List AC := [([(2, 6, 0), (0, 0, 200)], 5, [((0, 0, 200), [], [])], [49864, 50248, 820312, 820328], [])]
set_option maxRecDepth 100000 in
set_option maxHeartbeats 4000000 in
theorem sfX6_keepWorthy (c : Nat × Nat) (hc : c = cA ∨ c = cB) : ∀ ac ∈ csX6_keepWorthy, SafeC TYg c mX6_keepWorthy ac := by
  intro ac hac
  simp only [csX6_keepWorthy, List.mem_cons, List.not_mem_nil, or_false] at hac
  rcases hac with rfl
  · rcases hc with rfl | rfl
    · exact safe_ofF (ann := [(17, [(2, 6, 0), (0, 0, 200), (0, -2147483648, 2147483647), (0, 0, 200), (0, 0, 200), (4, 0, 0)], [(0, 4, 0, 4294967296)], [(3, 4, 0)])]) (fuel := 600) okX6_keepWorthy (snX6_keepWorthy _ _ cA (Or.inl rfl)) (List.forall_mem_cons.mpr ⟨⟨_, _, rfl⟩, (fun q hq => by cases hq)⟩) (by decide) (by decide +kernel)
    · exact safe_ofF (ann := [(17, [(2, 6, 0), (0, 0, 200), (0, -2147483648, 2147483647), (0, 0, 200), (0, 0, 200), (4, 0, 0)], [(0, 4, 0, 4294967296)], [(3, 4, 0)])]) (fuel := 600) okX6_keepWorthy (snX6_keepWorthy _ _ cB (Or.inr rfl)) (List.forall_mem_cons.mpr ⟨⟨_, _, rfl⟩, (fun q hq => by cases hq)⟩) (by decide) (by decide +kernel)
set_option maxRecDepth 100000 in
def adX6_gather (D : KK) : List ACE := (0, 1, some (aIl 1)) :: (1, 1, some (aIc (0))) :: (2, 1, some (aIc (1))) :: (3, 3, some (aCall D 16 3 3 csX6_within)) :: (6, 3, some (aIf bEq bNe 30)) :: (9, 1, some (aIl 2)) :: (10, 1, some (aIc (2))) :: (11, 2, some (aIc (6))) :: (13, 3, some (aCall D 16 3 3 csX6_within)) :: (16, 3, some (aIf bEq bNe 30)) :: (19, 1, some (aIl 3)) :: (20, 1, some (aIc (0))) :: (21, 3, some (aIc (400))) :: (24, 3, some (aCall D 16 3 3 csX6_within)) :: (27, 3, some (aIf bNe bEq 32)) :: (30, 1, some (aIc (-1))) :: (31, 1, some (aIret)) :: (32, 1, some (aAl 0)) :: (33, 3, some (aGetR [(6, 49)])) :: (36, 1, some (aAl 0)) :: (37, 3, some (aGetNw D)) :: (40, 3, some (aGetR [(336, 452), (720, 836)])) :: (43, 1, some (aIl 1)) :: (44, 1, some (aIl 2)) :: (45, 1, some (aIl 3)) :: (46, 1, some (aAl 0)) :: (47, 3, some (aGetI D 6 5)) :: (50, 3, some (aCall D 1 6 7 csX1_find)) :: (53, 1, some (aIret)) :: []
set_option maxRecDepth 100000 in
set_option maxHeartbeats 4000000 in
theorem snX6_gather (d : Nat) (W : List Nat) (c : Nat × Nat) (hc : c = cA ∨ c = cB) : SndAll (d, TYg, c, W) cdX6_gather (adX6_gather (d, TYg, c, W)) := by
  unfold cdX6_gather adX6_gather
  refine sn_op sIl ?_
  refine sn_op (sIc (n := 0) (by decide)) ?_
  refine sn_op (sIc (n := 1) (by decide)) ?_
  refine sn_op (sCI (sfX6_within c hc) (by decide) (by decide +kernel)) ?_
  refine sn_op sIfEq ?_
  refine sn_op sIl ?_
  refine sn_op (sIc (n := 2) (by decide)) ?_
  refine sn_op (sIc (n := 6) (by decide)) ?_
  refine sn_op (sCI (sfX6_within c hc) (by decide) (by decide +kernel)) ?_
  refine sn_op sIfEq ?_
  refine sn_op sIl ?_
  refine sn_op (sIc (n := 0) (by decide)) ?_
  refine sn_op (sIc (n := 400) (by decide)) ?_
  refine sn_op (sCI (sfX6_within c hc) (by decide) (by decide +kernel)) ?_
  refine sn_op sIfNe ?_
  refine sn_op (sIc (n := -1) (by decide)) ?_
  refine sn_op sIret ?_
  refine sn_op sAl ?_
  refine sn_op sGetR ?_
  refine sn_op sAl ?_
  refine sn_op sGetNw ?_
  refine sn_op sGetR ?_
  refine sn_op sIl ?_
  refine sn_op sIl ?_
  refine sn_op sIl ?_
  refine sn_op sAl ?_
  refine sn_op sGetI ?_
  refine sn_op (sCI (sfX1_find c hc) (by decide) (by decide +kernel)) ?_
  refine sn_op sIret ?_
  exact sn_nil
def csX6_gather : List AC := [([(2, 6, 0), (0, -2147483648, 2147483647), (0, -2147483648, 2147483647), (0, -2147483648, 2147483647)], 10, [((0, -2, -1), [], []), ((0, 0, 200), [((49, 9), (0, 200)), ((49, 13), (1, 1)), ((49, 14), (0, 1)), ((49, 15), (0, 400))], [(1, (0, 1)), (2, (2, 6)), (3, (0, 400))])], [163944, 163960, 163976, 163992, 164009, 295097, 819273, 819288, 38654705713, 42949673009, 47244640305, 51539607601, 55834574897, 60129542193, 64424509489, 68719476785, 73014444081], [])]
set_option maxRecDepth 100000 in
set_option maxHeartbeats 4000000 in
theorem sfX6_gather (c : Nat × Nat) (hc : c = cA ∨ c = cB) : ∀ ac ∈ csX6_gather, SafeC TYg c mX6_gather ac := by
  intro ac hac
  simp only [csX6_gather, List.mem_cons, List.not_mem_nil, or_false] at hac
  rcases hac with rfl
  · rcases hc with rfl | rfl
    · exact safe_of (ann := []) (fuel := 600) okX6_gather (snX6_gather _ _ cA (Or.inl rfl)) (fun q hq => by cases hq) (by decide) (by decide +kernel)
    · exact safe_of (ann := []) (fuel := 600) okX6_gather (snX6_gather _ _ cB (Or.inr rfl)) (fun q hq => by cases hq) (by decide) (by decide +kernel)
set_option maxRecDepth 100000 in
def adX6_leftIsAtMost (D : KK) : List ACE := (0, 1, some (aJc (0))) :: (1, 2, some (aJs 5)) :: (3, 1, some (aIc (0))) :: (4, 2, some (aIs 7)) :: (6, 0, none) :: (6, 2, some (aIl 7)) :: (8, 1, some (aIl 2)) :: (9, 3, some (aCm (fun C x y => bLe C y x) bLt 52)) :: (12, 1, some (aAl 0)) :: (13, 3, some (aGetR [(6, 820312)])) :: (16, 2, some (aIl 7)) :: (18, 1, some (aIald D)) :: (19, 1, some (aIl 1)) :: (20, 1, some (aBin fAnd)) :: (21, 3, some (aIf bNe bEq 46)) :: (24, 2, some (aJl 5)) :: (26, 1, some (aAl 0)) :: (27, 3, some (aGetR [(6, 820328)])) :: (30, 2, some (aIl 7)) :: (32, 1, some (aIald D)) :: (33, 1, some (aUn (fun C x => (6, rng C x)))) :: (34, 1, some (aLL)) :: (35, 2, some (aJs 5)) :: (37, 2, some (aJl 5)) :: (39, 1, some (aJl 3)) :: (40, 1, some (aLcmp)) :: (41, 3, some (aIf bLe (fun C x y => bLt C y x) 46)) :: (44, 1, some (aIc (0))) :: (45, 1, some (aZret)) :: (46, 3, some (aInc 7 (1))) :: (49, 3, some (aGoto 6)) :: (52, 1, some (aIc (1))) :: (53, 1, some (aZret)) :: []
set_option maxRecDepth 100000 in
set_option maxHeartbeats 4000000 in
theorem snX6_leftIsAtMost (d : Nat) (W : List Nat) (c : Nat × Nat) (hc : c = cA ∨ c = cB) : SndAll (d, TYg, c, W) cdX6_leftIsAtMost (adX6_leftIsAtMost (d, TYg, c, W)) := by
  unfold cdX6_leftIsAtMost adX6_leftIsAtMost
  refine sn_op (sJc (n := 0) (by decide)) ?_
  refine sn_op sJs ?_
  refine sn_op (sIc (n := 0) (by decide)) ?_
  refine sn_op sIs ?_
  refine sn_st ?_
  refine sn_op sIl ?_
  refine sn_op sIl ?_
  refine sn_op sCmGe ?_
  refine sn_op sAl ?_
  refine sn_op sGetR ?_
  refine sn_op sIl ?_
  refine sn_op sIald ?_
  refine sn_op sIl ?_
  refine sn_op sIand ?_
  refine sn_op sIfNe ?_
  refine sn_op sJl ?_
  refine sn_op sAl ?_
  refine sn_op sGetR ?_
  refine sn_op sIl ?_
  refine sn_op sIald ?_
  refine sn_op sI2l ?_
  refine sn_op sLadd ?_
  refine sn_op sJs ?_
  refine sn_op sJl ?_
  refine sn_op sJl ?_
  refine sn_op sLcmp ?_
  refine sn_op sIfLe ?_
  refine sn_op (sIc (n := 0) (by decide)) ?_
  refine sn_op sZret ?_
  refine sn_op (sInc (n := 1) (by decide)) ?_
  refine sn_op sGoto ?_
  refine sn_op (sIc (n := 1) (by decide)) ?_
  refine sn_op sZret ?_
  exact sn_nil
def csX6_leftIsAtMost : List AC := [([(2, 6, 0), (0, 0, 0), (0, 0, 200), (8, 0, 0)], 1, [((0, 0, 0), [], []), ((0, 1, 1), [], [])], [], []), ([(2, 6, 0), (0, 0, 2147483646), (0, 0, 200), (8, 0, 0)], 1, [((0, 0, 0), [], []), ((0, 1, 1), [], [])], [], [])]
set_option maxRecDepth 100000 in
set_option maxHeartbeats 4000000 in
theorem sfX6_leftIsAtMost (c : Nat × Nat) (hc : c = cA ∨ c = cB) : ∀ ac ∈ csX6_leftIsAtMost, SafeC TYg c mX6_leftIsAtMost ac := by
  intro ac hac
  simp only [csX6_leftIsAtMost, List.mem_cons, List.not_mem_nil, or_false] at hac
  rcases hac with rfl | rfl
  · rcases hc with rfl | rfl
    · exact safe_of (ann := [(6, [(2, 6, 0), (0, 0, 0), (0, 0, 200), (8, 0, 0), (4, 0, 0), (8, 0, 0), (4, 0, 0), (0, 0, 200)], [(0, 7, 0, 4294967296)])]) (fuel := 600) okX6_leftIsAtMost (snX6_leftIsAtMost _ _ cA (Or.inl rfl)) (List.forall_mem_cons.mpr ⟨⟨_, _, rfl⟩, (fun q hq => by cases hq)⟩) (by decide) (by decide +kernel)
    · exact safe_of (ann := [(6, [(2, 6, 0), (0, 0, 0), (0, 0, 200), (8, 0, 0), (4, 0, 0), (8, 0, 0), (4, 0, 0), (0, 0, 200)], [(0, 7, 0, 4294967296)])]) (fuel := 600) okX6_leftIsAtMost (snX6_leftIsAtMost _ _ cB (Or.inr rfl)) (List.forall_mem_cons.mpr ⟨⟨_, _, rfl⟩, (fun q hq => by cases hq)⟩) (by decide) (by decide +kernel)
  · rcases hc with rfl | rfl
    · exact safe_of (ann := [(6, [(2, 6, 0), (0, 0, 2147483646), (0, 0, 200), (8, 0, 0), (4, 0, 0), (8, 0, 0), (4, 0, 0), (0, 0, 200)], [(0, 7, 0, 4294967296)])]) (fuel := 600) okX6_leftIsAtMost (snX6_leftIsAtMost _ _ cA (Or.inl rfl)) (List.forall_mem_cons.mpr ⟨⟨_, _, rfl⟩, (fun q hq => by cases hq)⟩) (by decide) (by decide +kernel)
    · exact safe_of (ann := [(6, [(2, 6, 0), (0, 0, 2147483646), (0, 0, 200), (8, 0, 0), (4, 0, 0), (8, 0, 0), (4, 0, 0), (0, 0, 200)], [(0, 7, 0, 4294967296)])]) (fuel := 600) okX6_leftIsAtMost (snX6_leftIsAtMost _ _ cB (Or.inr rfl)) (List.forall_mem_cons.mpr ⟨⟨_, _, rfl⟩, (fun q hq => by cases hq)⟩) (by decide) (by decide +kernel)
set_option maxRecDepth 100000 in
def adX6_fewest (D : KK) : List ACE := (0, 2, some (aJl 4)) :: (2, 1, some (aJc (0))) :: (3, 1, some (aLcmp)) :: (4, 3, some (aIf (fun C x y => bLe C y x) bLt 9)) :: (7, 1, some (aIc (-1))) :: (8, 1, some (aIret)) :: (9, 1, some (aAl 0)) :: (10, 1, some (aIl 1)) :: (11, 1, some (aIl 2)) :: (12, 1, some (aIl 3)) :: (13, 3, some (aCall D 6 4 4 csX6_gather)) :: (16, 2, some (aIs 6)) :: (18, 2, some (aIl 6)) :: (20, 3, some (aIf (fun C x y => bLe C y x) bLt 26)) :: (23, 2, some (aIl 6)) :: (25, 1, some (aIret)) :: (26, 1, some (aAl 0)) :: (27, 2, some (aIl 6)) :: (29, 3, some (aCall D 6 2 6 csX6_keepWorthy)) :: (32, 2, some (aIs 7)) :: (34, 1, some (aAl 0)) :: (35, 3, some (aGetNw D)) :: (38, 3, some (aGetR [(336, 418), (720, 802)])) :: (41, 3, some (aGetI D 2 1)) :: (44, 2, some (aIs 8)) :: (46, 1, some (aIc (0))) :: (47, 2, some (aIs 9)) :: (49, 0, none) :: (49, 2, some (aIl 9)) :: (51, 2, some (aIl 8)) :: (53, 3, some (aCm (fun C x y => bLe C y x) bLt 106)) :: (56, 1, some (aIc (0))) :: (57, 2, some (aIs 10)) :: (59, 0, none) :: (59, 2, some (aIl 10)) :: (61, 1, some (aIc (1))) :: (62, 2, some (aIl 8)) :: (64, 1, some (aBin fTop)) :: (65, 3, some (aCm (fun C x y => bLe C y x) bLt 100)) :: (68, 2, some (aIl 10)) :: (70, 3, some (aCall D 16 1 1 csJ6_bitCount_0f7a4)) :: (73, 2, some (aIl 9)) :: (75, 3, some (aCm bNe bEq 94)) :: (78, 1, some (aAl 0)) :: (79, 2, some (aIl 10)) :: (81, 2, some (aIl 7)) :: (83, 2, some (aJl 4)) :: (85, 3, some (aCall D 6 4 8 csX6_leftIsAtMost)) :: (88, 3, some (aIf bEq bNe 94)) :: (91, 2, some (aIl 10)) :: (93, 1, some (aIret)) :: (94, 3, some (aInc 10 (1))) :: (97, 3, some (aGoto 59)) :: (100, 3, some (aInc 9 (1))) :: (103, 3, some (aGoto 49)) :: (106, 1, some (aIc (1))) :: (107, 2, some (aIl 8)) :: (109, 1, some (aBin fTop)) :: (110, 1, some (aIc (1))) :: (111, 1, some (aBin fSub)) :: (112, 1, some (aIret)) :: []
set_option maxRecDepth 100000 in
set_option maxHeartbeats 4000000 in
theorem snX6_fewest (d : Nat) (W : List Nat) (c : Nat × Nat) (hc : c = cA ∨ c = cB) : SndAll (d, TYg, c, W) cdX6_fewest (adX6_fewest (d, TYg, c, W)) := by
  unfold cdX6_fewest adX6_fewest
  refine sn_op sJl ?_
  refine sn_op (sJc (n := 0) (by decide)) ?_
  refine sn_op sLcmp ?_
  refine sn_op sIfGe ?_
  refine sn_op (sIc (n := -1) (by decide)) ?_
  refine sn_op sIret ?_
  refine sn_op sAl ?_
  refine sn_op sIl ?_
  refine sn_op sIl ?_
  refine sn_op sIl ?_
  refine sn_op (sCI (sfX6_gather c hc) (by decide) (by decide +kernel)) ?_
  refine sn_op sIs ?_
  refine sn_op sIl ?_
  refine sn_op sIfGe ?_
  refine sn_op sIl ?_
  refine sn_op sIret ?_
  refine sn_op sAl ?_
  refine sn_op sIl ?_
  refine sn_op (sCI (sfX6_keepWorthy c hc) (by decide) (by decide +kernel)) ?_
  refine sn_op sIs ?_
  refine sn_op sAl ?_
  refine sn_op sGetNw ?_
  refine sn_op sGetR ?_
  refine sn_op sGetI ?_
  refine sn_op sIs ?_
  refine sn_op (sIc (n := 0) (by decide)) ?_
  refine sn_op sIs ?_
  refine sn_st ?_
  refine sn_op sIl ?_
  refine sn_op sIl ?_
  refine sn_op sCmGe ?_
  refine sn_op (sIc (n := 0) (by decide)) ?_
  refine sn_op sIs ?_
  refine sn_st ?_
  refine sn_op sIl ?_
  refine sn_op (sIc (n := 1) (by decide)) ?_
  refine sn_op sIl ?_
  refine sn_op sIshl ?_
  refine sn_op sCmGe ?_
  refine sn_op sIl ?_
  refine sn_op (sCI (sfJ6_bitCount_0f7a4 c hc) (by decide) (by decide +kernel)) ?_
  refine sn_op sIl ?_
  refine sn_op sCmNe ?_
  refine sn_op sAl ?_
  refine sn_op sIl ?_
  refine sn_op sIl ?_
  refine sn_op sJl ?_
  refine sn_op (sCI (sfX6_leftIsAtMost c hc) (by decide) (by decide +kernel)) ?_
  refine sn_op sIfEq ?_
  refine sn_op sIl ?_
  refine sn_op sIret ?_
  refine sn_op (sInc (n := 1) (by decide)) ?_
  refine sn_op sGoto ?_
  refine sn_op (sInc (n := 1) (by decide)) ?_
  refine sn_op sGoto ?_
  refine sn_op (sIc (n := 1) (by decide)) ?_
  refine sn_op sIl ?_
  refine sn_op sIshl ?_
  refine sn_op (sIc (n := 1) (by decide)) ?_
  refine sn_op sIsub ?_
  refine sn_op sIret ?_
  exact sn_nil
def csX6_fewest : List AC := [([(2, 6, 0), (0, -2147483648, 2147483647), (0, -2147483648, 2147483647), (0, -2147483648, 2147483647), (8, 0, 0)], 11, [((0, -2147483648, 2147483647), [], []), ((0, -2, -1), [], []), ((0, 0, 2147483646), [], [])], [49864, 50248, 163944, 163960, 163976, 163992, 164009, 295097, 819273, 819288, 820312, 820328, 38654705713, 42949673009, 47244640305, 51539607601, 55834574897, 60129542193, 64424509489, 68719476785, 73014444081], [])]
set_option maxRecDepth 100000 in
set_option maxHeartbeats 4000000 in
theorem sfX6_fewest (c : Nat × Nat) (hc : c = cA ∨ c = cB) : ∀ ac ∈ csX6_fewest, SafeC TYg c mX6_fewest ac := by
  intro ac hac
  simp only [csX6_fewest, List.mem_cons, List.not_mem_nil, or_false] at hac
  rcases hac with rfl
  · rcases hc with rfl | rfl
    · exact safe_of (ann := [(49, [(2, 6, 0), (0, 0, 1), (0, 2, 6), (0, 0, 400), (8, 0, 0), (4, 0, 0), (0, 0, 200), (0, 0, 200), (0, 0, 12), (0, 0, 12), (4, 0, 0)], [(0, 9, 0, 4294967296), (3, 0, 0, 2)]), (59, [(2, 6, 0), (0, 0, 1), (0, 2, 6), (0, 0, 400), (8, 0, 0), (4, 0, 0), (0, 0, 200), (0, 0, 200), (0, 1, 12), (0, 0, 11), (0, 0, 2147483647)], [(0, 9, 0, 4294967296), (3, 0, 0, 1), (0, 10, 0, 4294967296)])]) (fuel := 600) okX6_fewest (snX6_fewest _ _ cA (Or.inl rfl)) (List.forall_mem_cons.mpr ⟨⟨_, _, rfl⟩, List.forall_mem_cons.mpr ⟨⟨_, _, rfl⟩, (fun q hq => by cases hq)⟩⟩) (by decide) (by decide +kernel)
    · exact safe_of (ann := [(49, [(2, 6, 0), (0, 0, 1), (0, 2, 6), (0, 0, 400), (8, 0, 0), (4, 0, 0), (0, 0, 200), (0, 0, 200), (0, 0, 12), (0, 0, 12), (4, 0, 0)], [(0, 9, 0, 4294967296), (3, 0, 0, 2)]), (59, [(2, 6, 0), (0, 0, 1), (0, 2, 6), (0, 0, 400), (8, 0, 0), (4, 0, 0), (0, 0, 200), (0, 0, 200), (0, 1, 12), (0, 0, 11), (0, 0, 2147483647)], [(0, 9, 0, 4294967296), (3, 0, 0, 1), (0, 10, 0, 4294967296)])]) (fuel := 600) okX6_fewest (snX6_fewest _ _ cB (Or.inr rfl)) (List.forall_mem_cons.mpr ⟨⟨_, _, rfl⟩, List.forall_mem_cons.mpr ⟨⟨_, _, rfl⟩, (fun q hq => by cases hq)⟩⟩) (by decide) (by decide +kernel)
set_option maxRecDepth 100000 in
def adX6_firm (D : KK) : List ACE := (0, 1, some (aAl 0)) :: (1, 3, some (aGetNw D)) :: (4, 3, some (aGetR [(336, 418), (720, 802)])) :: (7, 1, some (aIl 1)) :: (8, 3, some (aCall D 2 2 2 csX2_has)) :: (11, 3, some (aIf bNe bEq 17)) :: (14, 2, some (aIc (-2147483648))) :: (16, 1, some (aIret)) :: (17, 1, some (aIl 2)) :: (18, 46, some (aSw [(0, 64), (1, 74), (2, 84), (3, 94), (4, 104), (5, 117), (6, 130), (7, 146)] 156)) :: (64, 1, some (aAl 0)) :: (65, 3, some (aGetNw D)) :: (68, 3, some (aGetR [(336, 49752), (720, 50136)])) :: (71, 1, some (aIl 1)) :: (72, 1, some (aIald D)) :: (73, 1, some (aIret)) :: (74, 1, some (aAl 0)) :: (75, 3, some (aGetNw D)) :: (78, 3, some (aGetR [(336, 49768), (720, 50152)])) :: (81, 1, some (aIl 1)) :: (82, 1, some (aIald D)) :: (83, 1, some (aIret)) :: (84, 1, some (aAl 0)) :: (85, 3, some (aGetNw D)) :: (88, 3, some (aGetR [(336, 49784), (720, 50168)])) :: (91, 1, some (aIl 1)) :: (92, 1, some (aIald D)) :: (93, 1, some (aIret)) :: (94, 1, some (aAl 0)) :: (95, 3, some (aGetNw D)) :: (98, 3, some (aGetR [(336, 49800), (720, 50184)])) :: (101, 1, some (aIl 1)) :: (102, 1, some (aIald D)) :: (103, 1, some (aIret)) :: (104, 1, some (aAl 0)) :: (105, 3, some (aGetNw D)) :: (108, 1, some (aIl 1)) :: (109, 1, some (aAl 0)) :: (110, 3, some (aGetI D 6 6)) :: (113, 3, some (aCall D 0 3 3 csX0_owed)) :: (116, 1, some (aIret)) :: (117, 2, some (aIc (100))) :: (119, 1, some (aAl 0)) :: (120, 3, some (aGetNw D)) :: (123, 3, some (aGetR [(336, 49816), (720, 50200)])) :: (126, 1, some (aIl 1)) :: (127, 1, some (aIald D)) :: (128, 1, some (aBin fMul)) :: (129, 1, some (aIret)) :: (130, 1, some (aAl 0)) :: (131, 3, some (aGetNw D)) :: (134, 1, some (aAl 0)) :: (135, 3, some (aGetI D 6 6)) :: (138, 3, some (aCall D 0 2 4 csX0_missing)) :: (141, 1, some (aIl 1)) :: (142, 1, some (aBin fShr)) :: (143, 1, some (aIc (1))) :: (144, 1, some (aBin fAnd)) :: (145, 1, some (aIret)) :: (146, 1, some (aAl 0)) :: (147, 3, some (aGetNw D)) :: (150, 3, some (aGetR [(336, 49848), (720, 50232)])) :: (153, 1, some (aIl 1)) :: (154, 1, some (aIald D)) :: (155, 1, some (aIret)) :: (156, 2, some (aIc (-2147483648))) :: (158, 1, some (aIret)) :: []
set_option maxRecDepth 100000 in
set_option maxHeartbeats 4000000 in
theorem snX6_firm (d : Nat) (W : List Nat) (c : Nat × Nat) (hc : c = cA ∨ c = cB) : SndAll (d, TYg, c, W) cdX6_firm (adX6_firm (d, TYg, c, W)) := by
  unfold cdX6_firm adX6_firm
  refine sn_op sAl ?_
  refine sn_op sGetNw ?_
  refine sn_op sGetR ?_
  refine sn_op sIl ?_
  refine sn_op (sCI (sfX2_has c hc) (by decide) (by decide +kernel)) ?_
  refine sn_op sIfNe ?_
  refine sn_op (sIc (n := -2147483648) (by decide)) ?_
  refine sn_op sIret ?_
  refine sn_op sIl ?_
  refine sn_op (sSw (by decide)) ?_
  refine sn_op sAl ?_
  refine sn_op sGetNw ?_
  refine sn_op sGetR ?_
  refine sn_op sIl ?_
  refine sn_op sIald ?_
  refine sn_op sIret ?_
  refine sn_op sAl ?_
  refine sn_op sGetNw ?_
  refine sn_op sGetR ?_
  refine sn_op sIl ?_
  refine sn_op sIald ?_
  refine sn_op sIret ?_
  refine sn_op sAl ?_
  refine sn_op sGetNw ?_
  refine sn_op sGetR ?_
  refine sn_op sIl ?_
  refine sn_op sIald ?_
  refine sn_op sIret ?_
  refine sn_op sAl ?_
  refine sn_op sGetNw ?_
  refine sn_op sGetR ?_
  refine sn_op sIl ?_
  refine sn_op sIald ?_
  refine sn_op sIret ?_
  refine sn_op sAl ?_
  refine sn_op sGetNw ?_
  refine sn_op sIl ?_
  refine sn_op sAl ?_
  refine sn_op sGetI ?_
  refine sn_op (sCI (sfX0_owed c hc) (by decide) (by decide +kernel)) ?_
  refine sn_op sIret ?_
  refine sn_op (sIc (n := 100) (by decide)) ?_
  refine sn_op sAl ?_
  refine sn_op sGetNw ?_
  refine sn_op sGetR ?_
  refine sn_op sIl ?_
  refine sn_op sIald ?_
  refine sn_op sImul ?_
  refine sn_op sIret ?_
  refine sn_op sAl ?_
  refine sn_op sGetNw ?_
  refine sn_op sAl ?_
  refine sn_op sGetI ?_
  refine sn_op (sCI (sfX0_missing c hc) (by decide) (by decide +kernel)) ?_
  refine sn_op sIl ?_
  refine sn_op sIshr ?_
  refine sn_op (sIc (n := 1) (by decide)) ?_
  refine sn_op sIand ?_
  refine sn_op sIret ?_
  refine sn_op sAl ?_
  refine sn_op sGetNw ?_
  refine sn_op sGetR ?_
  refine sn_op sIl ?_
  refine sn_op sIald ?_
  refine sn_op sIret ?_
  refine sn_op (sIc (n := -2147483648) (by decide)) ?_
  refine sn_op sIret ?_
  exact sn_nil
def csX6_firm : List AC := [([(2, 6, 0), (0, -2147483648, 2147483647), (0, -2147483648, 2147483647)], 5, [((0, -2147483648, 2147483647), [], [(1, (0, 11)), (2, (1, 7))]), ((0, -2147483648, -2147483648), [], []), ((0, 0, 4), [], [(1, (0, 11)), (2, (0, 6))])], [49864, 50248], [])]
set_option maxRecDepth 100000 in
set_option maxHeartbeats 4000000 in
theorem sfX6_firm (c : Nat × Nat) (hc : c = cA ∨ c = cB) : ∀ ac ∈ csX6_firm, SafeC TYg c mX6_firm ac := by
  intro ac hac
  simp only [csX6_firm, List.mem_cons, List.not_mem_nil, or_false] at hac
  rcases hac with rfl
  · rcases hc with rfl | rfl
    · exact safe_of (ann := []) (fuel := 600) okX6_firm (snX6_firm _ _ cA (Or.inl rfl)) (fun q hq => by cases hq) (by decide) (by decide +kernel)
    · exact safe_of (ann := []) (fuel := 600) okX6_firm (snX6_firm _ _ cB (Or.inr rfl)) (fun q hq => by cases hq) (by decide) (by decide +kernel)
set_option maxRecDepth 100000 in
def adX6_flow (D : KK) : List ACE := (0, 1, some (aAl 0)) :: (1, 3, some (aGetNw D)) :: (4, 3, some (aGetR [(336, 418), (720, 802)])) :: (7, 1, some (aIl 1)) :: (8, 3, some (aCall D 2 2 2 csX2_has)) :: (11, 3, some (aIf bEq bNe 28)) :: (14, 1, some (aAl 0)) :: (15, 3, some (aGetNw D)) :: (18, 3, some (aGetR [(336, 386), (720, 770)])) :: (21, 1, some (aIl 2)) :: (22, 3, some (aCall D 2 2 2 csX2_has)) :: (25, 3, some (aIf bNe bEq 30)) :: (28, 1, some (aIc (-1))) :: (29, 1, some (aIret)) :: (30, 1, some (aAl 0)) :: (31, 3, some (aGetR [(6, 197)])) :: (34, 1, some (aAl 0)) :: (35, 3, some (aGetNw D)) :: (38, 3, some (aGetR [(336, 452), (720, 836)])) :: (41, 1, some (aIl 1)) :: (42, 1, some (aIl 2)) :: (43, 1, some (aAl 0)) :: (44, 3, some (aGetI D 6 5)) :: (47, 3, some (aCall D 5 5 9 csX5_most)) :: (50, 1, some (aIret)) :: []
set_option maxRecDepth 100000 in
set_option maxHeartbeats 4000000 in
theorem snX6_flow (d : Nat) (W : List Nat) (c : Nat × Nat) (hc : c = cA ∨ c = cB) : SndAll (d, TYg, c, W) cdX6_flow (adX6_flow (d, TYg, c, W)) := by
  unfold cdX6_flow adX6_flow
  refine sn_op sAl ?_
  refine sn_op sGetNw ?_
  refine sn_op sGetR ?_
  refine sn_op sIl ?_
  refine sn_op (sCI (sfX2_has c hc) (by decide) (by decide +kernel)) ?_
  refine sn_op sIfEq ?_
  refine sn_op sAl ?_
  refine sn_op sGetNw ?_
  refine sn_op sGetR ?_
  refine sn_op sIl ?_
  refine sn_op (sCI (sfX2_has c hc) (by decide) (by decide +kernel)) ?_
  refine sn_op sIfNe ?_
  refine sn_op (sIc (n := -1) (by decide)) ?_
  refine sn_op sIret ?_
  refine sn_op sAl ?_
  refine sn_op sGetR ?_
  refine sn_op sAl ?_
  refine sn_op sGetNw ?_
  refine sn_op sGetR ?_
  refine sn_op sIl ?_
  refine sn_op sIl ?_
  refine sn_op sAl ?_
  refine sn_op sGetI ?_
  refine sn_op (sCI (sfX5_most c hc) (by decide) (by decide +kernel)) ?_
  refine sn_op sIret ?_
  exact sn_nil
def csX6_flow : List AC := [([(2, 6, 0), (0, -2147483648, 2147483647), (0, -2147483648, 2147483647)], 5, [((0, -2147483648, 2147483647), [], [(1, (0, 11)), (2, (0, 11))]), ((0, -1, -1), [], [])], [164056, 164072, 164088, 164104, 164120, 327992, 328008, 6553896, 38654705861, 42949673157, 47244640453], [])]
set_option maxRecDepth 100000 in
set_option maxHeartbeats 4000000 in
theorem sfX6_flow (c : Nat × Nat) (hc : c = cA ∨ c = cB) : ∀ ac ∈ csX6_flow, SafeC TYg c mX6_flow ac := by
  intro ac hac
  simp only [csX6_flow, List.mem_cons, List.not_mem_nil, or_false] at hac
  rcases hac with rfl
  · rcases hc with rfl | rfl
    · exact safe_of (ann := []) (fuel := 600) okX6_flow (snX6_flow _ _ cA (Or.inl rfl)) (fun q hq => by cases hq) (by decide) (by decide +kernel)
    · exact safe_of (ann := []) (fuel := 600) okX6_flow (snX6_flow _ _ cB (Or.inr rfl)) (fun q hq => by cases hq) (by decide) (by decide +kernel)
set_option maxRecDepth 100000 in
def adX6_hands (D : KK) : List ACE := (0, 1, some (aIc (0))) :: (1, 1, some (aIs 1)) :: (2, 1, some (aIc (0))) :: (3, 1, some (aIs 2)) :: (4, 0, none) :: (4, 1, some (aIl 2)) :: (5, 1, some (aAl 0)) :: (6, 3, some (aGetNw D)) :: (9, 3, some (aGetR [(336, 418), (720, 802)])) :: (12, 3, some (aGetI D 2 1)) :: (15, 3, some (aCm (fun C x y => bLe C y x) bLt 45)) :: (18, 1, some (aIl 1)) :: (19, 1, some (aAl 0)) :: (20, 3, some (aGetNw D)) :: (23, 3, some (aGetR [(336, 49848), (720, 50232)])) :: (26, 1, some (aIl 2)) :: (27, 1, some (aIald D)) :: (28, 1, some (aIl 2)) :: (29, 3, some (aCm bNe bEq 36)) :: (32, 1, some (aIc (1))) :: (33, 3, some (aGoto 37)) :: (36, 1, some (aIc (0))) :: (37, 1, some (aBin fAdd)) :: (38, 1, some (aIs 1)) :: (39, 3, some (aInc 2 (1))) :: (42, 3, some (aGoto 4)) :: (45, 1, some (aIl 1)) :: (46, 1, some (aIret)) :: []
set_option maxRecDepth 100000 in
set_option maxHeartbeats 4000000 in
theorem snX6_hands (d : Nat) (W : List Nat) (c : Nat × Nat) (hc : c = cA ∨ c = cB) : SndAll (d, TYg, c, W) cdX6_hands (adX6_hands (d, TYg, c, W)) := by
  unfold cdX6_hands adX6_hands
  refine sn_op (sIc (n := 0) (by decide)) ?_
  refine sn_op sIs ?_
  refine sn_op (sIc (n := 0) (by decide)) ?_
  refine sn_op sIs ?_
  refine sn_st ?_
  refine sn_op sIl ?_
  refine sn_op sAl ?_
  refine sn_op sGetNw ?_
  refine sn_op sGetR ?_
  refine sn_op sGetI ?_
  refine sn_op sCmGe ?_
  refine sn_op sIl ?_
  refine sn_op sAl ?_
  refine sn_op sGetNw ?_
  refine sn_op sGetR ?_
  refine sn_op sIl ?_
  refine sn_op sIald ?_
  refine sn_op sIl ?_
  refine sn_op sCmNe ?_
  refine sn_op (sIc (n := 1) (by decide)) ?_
  refine sn_op sGoto ?_
  refine sn_op (sIc (n := 0) (by decide)) ?_
  refine sn_op sIadd ?_
  refine sn_op sIs ?_
  refine sn_op (sInc (n := 1) (by decide)) ?_
  refine sn_op sGoto ?_
  refine sn_op sIl ?_
  refine sn_op sIret ?_
  exact sn_nil
def csX6_hands : List AC := [([(2, 6, 0)], 1, [((0, -2147483648, 2147483647), [], [])], [], [])]
set_option maxRecDepth 100000 in
set_option maxHeartbeats 4000000 in
theorem sfX6_hands (c : Nat × Nat) (hc : c = cA ∨ c = cB) : ∀ ac ∈ csX6_hands, SafeC TYg c mX6_hands ac := by
  intro ac hac
  simp only [csX6_hands, List.mem_cons, List.not_mem_nil, or_false] at hac
  rcases hac with rfl
  · rcases hc with rfl | rfl
    · exact safe_of (ann := [(4, [(2, 6, 0), (0, -2147483648, 2147483647), (0, 0, 12)], [(0, 2, 0, 4294967296)])]) (fuel := 600) okX6_hands (snX6_hands _ _ cA (Or.inl rfl)) (List.forall_mem_cons.mpr ⟨⟨_, _, rfl⟩, (fun q hq => by cases hq)⟩) (by decide) (by decide +kernel)
    · exact safe_of (ann := [(4, [(2, 6, 0), (0, -2147483648, 2147483647), (0, 0, 12)], [(0, 2, 0, 4294967296)])]) (fuel := 600) okX6_hands (snX6_hands _ _ cB (Or.inr rfl)) (List.forall_mem_cons.mpr ⟨⟨_, _, rfl⟩, (fun q hq => by cases hq)⟩) (by decide) (by decide +kernel)
set_option maxRecDepth 100000 in
def adX6_roundsWith (D : KK) : List ACE := (0, 1, some (aIc (0))) :: (1, 1, some (aIs 3)) :: (2, 1, some (aIc (0))) :: (3, 2, some (aIs 4)) :: (5, 0, none) :: (5, 2, some (aIl 4)) :: (7, 1, some (aIl 2)) :: (8, 3, some (aCm (fun C x y => bLe C y x) bLt 51)) :: (11, 1, some (aIl 3)) :: (12, 1, some (aAl 0)) :: (13, 3, some (aGetNw D)) :: (16, 1, some (aAl 0)) :: (17, 3, some (aGetR [(6, 49)])) :: (20, 3, some (aGetR [(49, 819273)])) :: (23, 2, some (aIl 4)) :: (25, 1, some (aJald)) :: (26, 1, some (aAl 0)) :: (27, 3, some (aGetR [(6, 49)])) :: (30, 3, some (aGetR [(49, 819288)])) :: (33, 2, some (aIl 4)) :: (35, 1, some (aIald D)) :: (36, 3, some (aCall D 0 3 6 csX0_firmsOf)) :: (39, 1, some (aIl 1)) :: (40, 1, some (aBin fShr)) :: (41, 1, some (aIc (1))) :: (42, 1, some (aBin fAnd)) :: (43, 1, some (aBin fAdd)) :: (44, 1, some (aIs 3)) :: (45, 3, some (aInc 4 (1))) :: (48, 3, some (aGoto 5)) :: (51, 1, some (aIl 3)) :: (52, 1, some (aIret)) :: []
set_option maxRecDepth 100000 in
set_option maxHeartbeats 4000000 in
theorem snX6_roundsWith (d : Nat) (W : List Nat) (c : Nat × Nat) (hc : c = cA ∨ c = cB) : SndAll (d, TYg, c, W) cdX6_roundsWith (adX6_roundsWith (d, TYg, c, W)) := by
  unfold cdX6_roundsWith adX6_roundsWith
  refine sn_op (sIc (n := 0) (by decide)) ?_
  refine sn_op sIs ?_
  refine sn_op (sIc (n := 0) (by decide)) ?_
  refine sn_op sIs ?_
  refine sn_st ?_
  refine sn_op sIl ?_
  refine sn_op sIl ?_
  refine sn_op sCmGe ?_
  refine sn_op sIl ?_
  refine sn_op sAl ?_
  refine sn_op sGetNw ?_
  refine sn_op sAl ?_
  refine sn_op sGetR ?_
  refine sn_op sGetR ?_
  refine sn_op sIl ?_
  refine sn_op sJald ?_
  refine sn_op sAl ?_
  refine sn_op sGetR ?_
  refine sn_op sGetR ?_
  refine sn_op sIl ?_
  refine sn_op sIald ?_
  refine sn_op (sCI (sfX0_firmsOf c hc) (by decide) (by decide +kernel)) ?_
  refine sn_op sIl ?_
  refine sn_op sIshr ?_
  refine sn_op (sIc (n := 1) (by decide)) ?_
  refine sn_op sIand ?_
  refine sn_op sIadd ?_
  refine sn_op sIs ?_
  refine sn_op (sInc (n := 1) (by decide)) ?_
  refine sn_op sGoto ?_
  refine sn_op sIl ?_
  refine sn_op sIret ?_
  exact sn_nil
def csX6_roundsWith : List AC := [([(2, 6, 0), (0, 0, 0), (0, 0, 200)], 3, [((0, -2147483648, 2147483647), [], [])], [], []), ([(2, 6, 0), (0, 0, 11), (0, 0, 200)], 3, [((0, -2147483648, 2147483647), [], [])], [], [])]
set_option maxRecDepth 100000 in
set_option maxHeartbeats 4000000 in
theorem sfX6_roundsWith (c : Nat × Nat) (hc : c = cA ∨ c = cB) : ∀ ac ∈ csX6_roundsWith, SafeC TYg c mX6_roundsWith ac := by
  intro ac hac
  simp only [csX6_roundsWith, List.mem_cons, List.not_mem_nil, or_false] at hac
  rcases hac with rfl | rfl
  · rcases hc with rfl | rfl
    · exact safe_of (ann := [(5, [(2, 6, 0), (0, 0, 0), (0, 0, 200), (0, -2147483648, 2147483647), (0, 0, 200)], [(0, 4, 0, 4294967296)])]) (fuel := 600) okX6_roundsWith (snX6_roundsWith _ _ cA (Or.inl rfl)) (List.forall_mem_cons.mpr ⟨⟨_, _, rfl⟩, (fun q hq => by cases hq)⟩) (by decide) (by decide +kernel)
    · exact safe_of (ann := [(5, [(2, 6, 0), (0, 0, 0), (0, 0, 200), (0, -2147483648, 2147483647), (0, 0, 200)], [(0, 4, 0, 4294967296)])]) (fuel := 600) okX6_roundsWith (snX6_roundsWith _ _ cB (Or.inr rfl)) (List.forall_mem_cons.mpr ⟨⟨_, _, rfl⟩, (fun q hq => by cases hq)⟩) (by decide) (by decide +kernel)
  · rcases hc with rfl | rfl
    · exact safe_of (ann := [(5, [(2, 6, 0), (0, 0, 11), (0, 0, 200), (0, -2147483648, 2147483647), (0, 0, 200)], [(0, 4, 0, 4294967296)])]) (fuel := 600) okX6_roundsWith (snX6_roundsWith _ _ cA (Or.inl rfl)) (List.forall_mem_cons.mpr ⟨⟨_, _, rfl⟩, (fun q hq => by cases hq)⟩) (by decide) (by decide +kernel)
    · exact safe_of (ann := [(5, [(2, 6, 0), (0, 0, 11), (0, 0, 200), (0, -2147483648, 2147483647), (0, 0, 200)], [(0, 4, 0, 4294967296)])]) (fuel := 600) okX6_roundsWith (snX6_roundsWith _ _ cB (Or.inr rfl)) (List.forall_mem_cons.mpr ⟨⟨_, _, rfl⟩, (fun q hq => by cases hq)⟩) (by decide) (by decide +kernel)
set_option maxRecDepth 100000 in
def adX6_signBits (D : KK) : List ACE := (0, 1, some (aIc (0))) :: (1, 2, some (aIs 4)) :: (3, 1, some (aAl 0)) :: (4, 3, some (aGetNw D)) :: (7, 3, some (aGetR [(336, 452), (720, 836)])) :: (10, 1, some (aIl 1)) :: (11, 3, some (aCall D 4 2 3 csX4_soldBelow)) :: (14, 3, some (aIf bEq bNe 23)) :: (17, 2, some (aIl 4)) :: (19, 1, some (aIc (1))) :: (20, 1, some (aBin fTop)) :: (21, 2, some (aIs 4)) :: (23, 1, some (aAl 0)) :: (24, 3, some (aGetNw D)) :: (27, 3, some (aGetR [(336, 452), (720, 836)])) :: (30, 1, some (aIl 1)) :: (31, 1, some (aIl 2)) :: (32, 1, some (aAl 0)) :: (33, 3, some (aGetNw D)) :: (36, 3, some (aGetR [(336, 452), (720, 836)])) :: (39, 1, some (aIl 2)) :: (40, 3, some (aCall D 4 2 4 csX4_buyersFrom)) :: (43, 1, some (aBin fTop)) :: (44, 3, some (aCall D 4 3 5 csX4_boughtOnlyFrom)) :: (47, 3, some (aIf bEq bNe 56)) :: (50, 2, some (aIl 4)) :: (52, 1, some (aIc (2))) :: (53, 1, some (aBin fTop)) :: (54, 2, some (aIs 4)) :: (56, 1, some (aAl 0)) :: (57, 1, some (aIl 1)) :: (58, 1, some (aIl 3)) :: (59, 3, some (aCall D 6 3 5 csX6_roundsWith)) :: (62, 1, some (aIc (2))) :: (63, 3, some (aCm bLt (fun C x y => bLe C y x) 72)) :: (66, 2, some (aIl 4)) :: (68, 1, some (aIc (4))) :: (69, 1, some (aBin fTop)) :: (70, 2, some (aIs 4)) :: (72, 1, some (aIl 2)) :: (73, 1, some (aAl 0)) :: (74, 3, some (aGetNw D)) :: (77, 1, some (aIl 1)) :: (78, 3, some (aCall D 0 2 4 csX0_partners)) :: (81, 1, some (aBin fAnd)) :: (82, 3, some (aIf bEq bNe 92)) :: (85, 2, some (aIl 4)) :: (87, 2, some (aIc (8))) :: (89, 1, some (aBin fTop)) :: (90, 2, some (aIs 4)) :: (92, 2, some (aIl 4)) :: (94, 1, some (aIret)) :: []
set_option maxRecDepth 100000 in
set_option maxHeartbeats 4000000 in
theorem snX6_signBits (d : Nat) (W : List Nat) (c : Nat × Nat) (hc : c = cA ∨ c = cB) : SndAll (d, TYg, c, W) cdX6_signBits (adX6_signBits (d, TYg, c, W)) := by
  unfold cdX6_signBits adX6_signBits
  refine sn_op (sIc (n := 0) (by decide)) ?_
  refine sn_op sIs ?_
  refine sn_op sAl ?_
  refine sn_op sGetNw ?_
  refine sn_op sGetR ?_
  refine sn_op sIl ?_
  refine sn_op (sCI (sfX4_soldBelow c hc) (by decide) (by decide +kernel)) ?_
  refine sn_op sIfEq ?_
  refine sn_op sIl ?_
  refine sn_op (sIc (n := 1) (by decide)) ?_
  refine sn_op sIor ?_
  refine sn_op sIs ?_
  refine sn_op sAl ?_
  refine sn_op sGetNw ?_
  refine sn_op sGetR ?_
  refine sn_op sIl ?_
  refine sn_op sIl ?_
  refine sn_op sAl ?_
  refine sn_op sGetNw ?_
  refine sn_op sGetR ?_
  refine sn_op sIl ?_
  refine sn_op (sCI (sfX4_buyersFrom c hc) (by decide) (by decide +kernel)) ?_
  refine sn_op sIor ?_
  refine sn_op (sCI (sfX4_boughtOnlyFrom c hc) (by decide) (by decide +kernel)) ?_
  refine sn_op sIfEq ?_
  refine sn_op sIl ?_
  refine sn_op (sIc (n := 2) (by decide)) ?_
  refine sn_op sIor ?_
  refine sn_op sIs ?_
  refine sn_op sAl ?_
  refine sn_op sIl ?_
  refine sn_op sIl ?_
  refine sn_op (sCI (sfX6_roundsWith c hc) (by decide) (by decide +kernel)) ?_
  refine sn_op (sIc (n := 2) (by decide)) ?_
  refine sn_op sCmLt ?_
  refine sn_op sIl ?_
  refine sn_op (sIc (n := 4) (by decide)) ?_
  refine sn_op sIor ?_
  refine sn_op sIs ?_
  refine sn_op sIl ?_
  refine sn_op sAl ?_
  refine sn_op sGetNw ?_
  refine sn_op sIl ?_
  refine sn_op (sCI (sfX0_partners c hc) (by decide) (by decide +kernel)) ?_
  refine sn_op sIand ?_
  refine sn_op sIfEq ?_
  refine sn_op sIl ?_
  refine sn_op (sIc (n := 8) (by decide)) ?_
  refine sn_op sIor ?_
  refine sn_op sIs ?_
  refine sn_op sIl ?_
  refine sn_op sIret ?_
  exact sn_nil
def csX6_signBits : List AC := [([(2, 6, 0), (0, 0, 0), (0, -2147483648, 2147483647), (0, 0, 200)], 4, [((0, -2147483648, 2147483647), [], []), ((0, 0, 0), [], [])], [], []), ([(2, 6, 0), (0, 0, 11), (0, -2147483648, 2147483647), (0, 0, 200)], 4, [((0, -2147483648, 2147483647), [], []), ((0, 0, 0), [], [])], [], [])]
set_option maxRecDepth 100000 in
set_option maxHeartbeats 4000000 in
theorem sfX6_signBits (c : Nat × Nat) (hc : c = cA ∨ c = cB) : ∀ ac ∈ csX6_signBits, SafeC TYg c mX6_signBits ac := by
  intro ac hac
  simp only [csX6_signBits, List.mem_cons, List.not_mem_nil, or_false] at hac
  rcases hac with rfl | rfl
  · rcases hc with rfl | rfl
    · exact safe_of (ann := []) (fuel := 600) okX6_signBits (snX6_signBits _ _ cA (Or.inl rfl)) (fun q hq => by cases hq) (by decide) (by decide +kernel)
    · exact safe_of (ann := []) (fuel := 600) okX6_signBits (snX6_signBits _ _ cB (Or.inr rfl)) (fun q hq => by cases hq) (by decide) (by decide +kernel)
  · rcases hc with rfl | rfl
    · exact safe_of (ann := []) (fuel := 600) okX6_signBits (snX6_signBits _ _ cA (Or.inl rfl)) (fun q hq => by cases hq) (by decide) (by decide +kernel)
    · exact safe_of (ann := []) (fuel := 600) okX6_signBits (snX6_signBits _ _ cB (Or.inr rfl)) (fun q hq => by cases hq) (by decide) (by decide +kernel)
set_option maxRecDepth 100000 in
def adX6_knew (D : KK) : List ACE := (0, 1, some (aIl 1)) :: (1, 1, some (aIc (1))) :: (2, 2, some (aIc (15))) :: (4, 3, some (aCall D 16 3 3 csX6_within)) :: (7, 3, some (aIf bEq bNe 20)) :: (10, 2, some (aIl 5)) :: (12, 1, some (aIc (0))) :: (13, 1, some (aIc (1))) :: (14, 3, some (aCall D 16 3 3 csX6_within)) :: (17, 3, some (aIf bNe bEq 22)) :: (20, 1, some (aIc (-1))) :: (21, 1, some (aIret)) :: (22, 1, some (aAl 0)) :: (23, 1, some (aIl 2)) :: (24, 1, some (aIl 3)) :: (25, 2, some (aIl 4)) :: (27, 3, some (aCall D 6 4 4 csX6_gather)) :: (30, 2, some (aIs 6)) :: (32, 2, some (aIl 6)) :: (34, 3, some (aIf (fun C x y => bLe C y x) bLt 40)) :: (37, 2, some (aIl 6)) :: (39, 1, some (aIret)) :: (40, 1, some (aAl 0)) :: (41, 3, some (aGetNw D)) :: (44, 1, some (aAl 0)) :: (45, 3, some (aGetI D 6 6)) :: (48, 3, some (aCall D 0 2 4 csX0_missing)) :: (51, 2, some (aIs 7)) :: (53, 1, some (aIc (0))) :: (54, 2, some (aIs 8)) :: (56, 1, some (aIc (0))) :: (57, 2, some (aIs 9)) :: (59, 0, none) :: (59, 2, some (aIl 9)) :: (61, 1, some (aAl 0)) :: (62, 3, some (aGetNw D)) :: (65, 3, some (aGetR [(336, 418), (720, 802)])) :: (68, 3, some (aGetI D 2 1)) :: (71, 3, some (aCm (fun C x y => bLe C y x) bLt 149)) :: (74, 1, some (aAl 0)) :: (75, 2, some (aIl 9)) :: (77, 2, some (aIl 7)) :: (79, 2, some (aIl 6)) :: (81, 3, some (aCall D 6 4 5 csX6_signBits)) :: (84, 1, some (aIl 1)) :: (85, 1, some (aBin fAnd)) :: (86, 2, some (aIs 10)) :: (88, 2, some (aIl 5)) :: (90, 3, some (aIf bNe bEq 107)) :: (93, 2, some (aIl 10)) :: (95, 1, some (aIl 1)) :: (96, 3, some (aCm bNe bEq 103)) :: (99, 1, some (aIc (1))) :: (100, 3, some (aGoto 117)) :: (103, 1, some (aIc (0))) :: (104, 3, some (aGoto 117)) :: (107, 2, some (aIl 10)) :: (109, 3, some (aIf bEq bNe 116)) :: (112, 1, some (aIc (1))) :: (113, 3, some (aGoto 117)) :: (116, 1, some (aIc (0))) :: (117, 2, some (aIs 11)) :: (119, 2, some (aIl 11)) :: (121, 3, some (aIf bEq bNe 143)) :: (124, 2, some (aIl 7)) :: (126, 2, some (aIl 9)) :: (128, 1, some (aBin fShr)) :: (129, 1, some (aIc (1))) :: (130, 1, some (aBin fAnd)) :: (131, 3, some (aIf bNe bEq 143)) :: (134, 2, some (aIl 8)) :: (136, 1, some (aIc (1))) :: (137, 2, some (aIl 9)) :: (139, 1, some (aBin fTop)) :: (140, 1, some (aBin fTop)) :: (141, 2, some (aIs 8)) :: (143, 3, some (aInc 9 (1))) :: (146, 3, some (aGoto 59)) :: (149, 2, some (aIl 8)) :: (151, 1, some (aIret)) :: []
set_option maxRecDepth 100000 in
set_option maxHeartbeats 4000000 in
theorem snX6_knew (d : Nat) (W : List Nat) (c : Nat × Nat) (hc : c = cA ∨ c = cB) : SndAll (d, TYg, c, W) cdX6_knew (adX6_knew (d, TYg, c, W)) := by
  unfold cdX6_knew adX6_knew
  refine sn_op sIl ?_
  refine sn_op (sIc (n := 1) (by decide)) ?_
  refine sn_op (sIc (n := 15) (by decide)) ?_
  refine sn_op (sCI (sfX6_within c hc) (by decide) (by decide +kernel)) ?_
  refine sn_op sIfEq ?_
  refine sn_op sIl ?_
  refine sn_op (sIc (n := 0) (by decide)) ?_
  refine sn_op (sIc (n := 1) (by decide)) ?_
  refine sn_op (sCI (sfX6_within c hc) (by decide) (by decide +kernel)) ?_
  refine sn_op sIfNe ?_
  refine sn_op (sIc (n := -1) (by decide)) ?_
  refine sn_op sIret ?_
  refine sn_op sAl ?_
  refine sn_op sIl ?_
  refine sn_op sIl ?_
  refine sn_op sIl ?_
  refine sn_op (sCI (sfX6_gather c hc) (by decide) (by decide +kernel)) ?_
  refine sn_op sIs ?_
  refine sn_op sIl ?_
  refine sn_op sIfGe ?_
  refine sn_op sIl ?_
  refine sn_op sIret ?_
  refine sn_op sAl ?_
  refine sn_op sGetNw ?_
  refine sn_op sAl ?_
  refine sn_op sGetI ?_
  refine sn_op (sCI (sfX0_missing c hc) (by decide) (by decide +kernel)) ?_
  refine sn_op sIs ?_
  refine sn_op (sIc (n := 0) (by decide)) ?_
  refine sn_op sIs ?_
  refine sn_op (sIc (n := 0) (by decide)) ?_
  refine sn_op sIs ?_
  refine sn_st ?_
  refine sn_op sIl ?_
  refine sn_op sAl ?_
  refine sn_op sGetNw ?_
  refine sn_op sGetR ?_
  refine sn_op sGetI ?_
  refine sn_op sCmGe ?_
  refine sn_op sAl ?_
  refine sn_op sIl ?_
  refine sn_op sIl ?_
  refine sn_op sIl ?_
  refine sn_op (sCI (sfX6_signBits c hc) (by decide) (by decide +kernel)) ?_
  refine sn_op sIl ?_
  refine sn_op sIand ?_
  refine sn_op sIs ?_
  refine sn_op sIl ?_
  refine sn_op sIfNe ?_
  refine sn_op sIl ?_
  refine sn_op sIl ?_
  refine sn_op sCmNe ?_
  refine sn_op (sIc (n := 1) (by decide)) ?_
  refine sn_op sGoto ?_
  refine sn_op (sIc (n := 0) (by decide)) ?_
  refine sn_op sGoto ?_
  refine sn_op sIl ?_
  refine sn_op sIfEq ?_
  refine sn_op (sIc (n := 1) (by decide)) ?_
  refine sn_op sGoto ?_
  refine sn_op (sIc (n := 0) (by decide)) ?_
  refine sn_op sIs ?_
  refine sn_op sIl ?_
  refine sn_op sIfEq ?_
  refine sn_op sIl ?_
  refine sn_op sIl ?_
  refine sn_op sIshr ?_
  refine sn_op (sIc (n := 1) (by decide)) ?_
  refine sn_op sIand ?_
  refine sn_op sIfNe ?_
  refine sn_op sIl ?_
  refine sn_op (sIc (n := 1) (by decide)) ?_
  refine sn_op sIl ?_
  refine sn_op sIshl ?_
  refine sn_op sIor ?_
  refine sn_op sIs ?_
  refine sn_op (sInc (n := 1) (by decide)) ?_
  refine sn_op sGoto ?_
  refine sn_op sIl ?_
  refine sn_op sIret ?_
  exact sn_nil
def csX6_knew : List AC := [([(2, 6, 0), (0, -2147483648, 2147483647), (0, -2147483648, 2147483647), (0, -2147483648, 2147483647), (0, -2147483648, 2147483647), (0, -2147483648, 2147483647)], 11, [((0, -2147483648, 2147483647), [], []), ((0, -2, -1), [], [])], [49864, 50248, 163944, 163960, 163976, 163992, 164009, 295097, 819273, 819288, 38654705713, 42949673009, 47244640305, 51539607601, 55834574897, 60129542193, 64424509489, 68719476785, 73014444081], [])]
set_option maxRecDepth 100000 in
set_option maxHeartbeats 4000000 in
theorem sfX6_knew (c : Nat × Nat) (hc : c = cA ∨ c = cB) : ∀ ac ∈ csX6_knew, SafeC TYg c mX6_knew ac := by
  intro ac hac
  simp only [csX6_knew, List.mem_cons, List.not_mem_nil, or_false] at hac
  rcases hac with rfl
  · rcases hc with rfl | rfl
    · exact safe_of (ann := [(59, [(2, 6, 0), (0, 1, 15), (0, 0, 1), (0, 2, 6), (0, 0, 400), (0, 0, 1), (0, 0, 200), (0, -2147483648, 2147483647), (0, -2147483648, 2147483647), (0, 0, 12), (4, 0, 0), (4, 0, 0)], [(0, 9, 0, 4294967296)])]) (fuel := 600) okX6_knew (snX6_knew _ _ cA (Or.inl rfl)) (List.forall_mem_cons.mpr ⟨⟨_, _, rfl⟩, (fun q hq => by cases hq)⟩) (by decide) (by decide +kernel)
    · exact safe_of (ann := [(59, [(2, 6, 0), (0, 1, 15), (0, 0, 1), (0, 2, 6), (0, 0, 400), (0, 0, 1), (0, 0, 200), (0, -2147483648, 2147483647), (0, -2147483648, 2147483647), (0, 0, 12), (4, 0, 0), (4, 0, 0)], [(0, 9, 0, 4294967296)])]) (fuel := 600) okX6_knew (snX6_knew _ _ cB (Or.inr rfl)) (List.forall_mem_cons.mpr ⟨⟨_, _, rfl⟩, (fun q hq => by cases hq)⟩) (by decide) (by decide +kernel)
set_option maxRecDepth 100000 in
def adX6_lacking (D : KK) : List ACE := (0, 1, some (aIl 1)) :: (1, 1, some (aIc (1))) :: (2, 2, some (aIc (99))) :: (4, 3, some (aCall D 16 3 3 csX6_within)) :: (7, 3, some (aIf bNe bEq 12)) :: (10, 1, some (aIc (-1))) :: (11, 1, some (aIret)) :: (12, 1, some (aAl 0)) :: (13, 3, some (aGetNw D)) :: (16, 3, some (aGetR [(336, 452), (720, 836)])) :: (19, 1, some (aIl 1)) :: (20, 3, some (aCall D 4 2 6 csX4_gapsOf)) :: (23, 1, some (aIret)) :: []
set_option maxRecDepth 100000 in
set_option maxHeartbeats 4000000 in
theorem snX6_lacking (d : Nat) (W : List Nat) (c : Nat × Nat) (hc : c = cA ∨ c = cB) : SndAll (d, TYg, c, W) cdX6_lacking (adX6_lacking (d, TYg, c, W)) := by
  unfold cdX6_lacking adX6_lacking
  refine sn_op sIl ?_
  refine sn_op (sIc (n := 1) (by decide)) ?_
  refine sn_op (sIc (n := 99) (by decide)) ?_
  refine sn_op (sCI (sfX6_within c hc) (by decide) (by decide +kernel)) ?_
  refine sn_op sIfNe ?_
  refine sn_op (sIc (n := -1) (by decide)) ?_
  refine sn_op sIret ?_
  refine sn_op sAl ?_
  refine sn_op sGetNw ?_
  refine sn_op sGetR ?_
  refine sn_op sIl ?_
  refine sn_op (sCI (sfX4_gapsOf c hc) (by decide) (by decide +kernel)) ?_
  refine sn_op sIret ?_
  exact sn_nil
def csX6_lacking : List AC := [([(2, 6, 0), (0, -2147483648, 2147483647)], 4, [((0, -2147483648, 2147483647), [], [(1, (1, 99))]), ((0, -1, -1), [], [])], [], [])]
set_option maxRecDepth 100000 in
set_option maxHeartbeats 4000000 in
theorem sfX6_lacking (c : Nat × Nat) (hc : c = cA ∨ c = cB) : ∀ ac ∈ csX6_lacking, SafeC TYg c mX6_lacking ac := by
  intro ac hac
  simp only [csX6_lacking, List.mem_cons, List.not_mem_nil, or_false] at hac
  rcases hac with rfl
  · rcases hc with rfl | rfl
    · exact safe_of (ann := []) (fuel := 600) okX6_lacking (snX6_lacking _ _ cA (Or.inl rfl)) (fun q hq => by cases hq) (by decide) (by decide +kernel)
    · exact safe_of (ann := []) (fuel := 600) okX6_lacking (snX6_lacking _ _ cB (Or.inr rfl)) (fun q hq => by cases hq) (by decide) (by decide +kernel)
set_option maxRecDepth 100000 in
def adX6_luck (D : KK) : List ACE := (0, 2, some (aIl 4)) :: (2, 3, some (aIf bLt (fun C x y => bLe C y x) 16)) :: (5, 2, some (aIl 5)) :: (7, 1, some (aIc (1))) :: (8, 2, some (aIc (10))) :: (10, 3, some (aCall D 16 3 3 csX6_within)) :: (13, 3, some (aIf bNe bEq 18)) :: (16, 1, some (aIc (-1))) :: (17, 1, some (aIret)) :: (18, 1, some (aAl 0)) :: (19, 1, some (aIl 1)) :: (20, 1, some (aIl 2)) :: (21, 1, some (aIl 3)) :: (22, 3, some (aCall D 6 4 4 csX6_gather)) :: (25, 2, some (aIs 6)) :: (27, 2, some (aIl 6)) :: (29, 3, some (aIf (fun C x y => bLe C y x) bLt 35)) :: (32, 2, some (aIl 6)) :: (34, 1, some (aIret)) :: (35, 1, some (aAl 0)) :: (36, 3, some (aGetR [(6, 49)])) :: (39, 3, some (aCall D 1 1 1 csX1_forget)) :: (42, 2, some (aIl 4)) :: (44, 1, some (aUn (fun C x => (6, rng C x)))) :: (45, 2, some (aJs 7)) :: (47, 1, some (aIc (0))) :: (48, 2, some (aIs 9)) :: (50, 1, some (aIc (0))) :: (51, 2, some (aIs 10)) :: (53, 0, none) :: (53, 2, some (aIl 10)) :: (55, 2, some (aIl 5)) :: (57, 3, some (aCm (fun C x y => bLe C y x) bLt 132)) :: (60, 1, some (aAl 0)) :: (61, 3, some (aGetR [(6, 49)])) :: (64, 1, some (aAl 0)) :: (65, 3, some (aGetNw D)) :: (68, 3, some (aGetR [(336, 452), (720, 836)])) :: (71, 1, some (aIl 1)) :: (72, 1, some (aAl 0)) :: (73, 3, some (aGetI D 6 5)) :: (76, 3, some (aCall D 1 4 6 csX1_load)) :: (79, 1, some (aAl 0)) :: (80, 3, some (aGetR [(6, 49)])) :: (83, 2, some (aJl 7)) :: (85, 3, some (aCall D 1 2 8 csX1_shuffle)) :: (88, 2, some (aJs 7)) :: (90, 1, some (aAl 0)) :: (91, 3, some (aGetR [(6, 49)])) :: (94, 1, some (aIl 2)) :: (95, 1, some (aIl 3)) :: (96, 3, some (aCall D 1 3 4 csX1_search)) :: (99, 2, some (aIs 11)) :: (101, 2, some (aIl 11)) :: (103, 3, some (aIf (fun C x y => bLe C y x) bLt 109)) :: (106, 2, some (aIc (-2))) :: (108, 1, some (aIret)) :: (109, 2, some (aIl 9)) :: (111, 2, some (aIl 11)) :: (113, 2, some (aIl 6)) :: (115, 3, some (aCm bLt (fun C x y => bLe C y x) 122)) :: (118, 1, some (aIc (1))) :: (119, 3, some (aGoto 123)) :: (122, 1, some (aIc (0))) :: (123, 1, some (aBin fAdd)) :: (124, 2, some (aIs 9)) :: (126, 3, some (aInc 10 (1))) :: (129, 3, some (aGoto 53)) :: (132, 2, some (aIl 9)) :: (134, 1, some (aIret)) :: []
set_option maxRecDepth 100000 in
set_option maxHeartbeats 4000000 in
theorem snX6_luck (d : Nat) (W : List Nat) (c : Nat × Nat) (hc : c = cA ∨ c = cB) : SndAll (d, TYg, c, W) cdX6_luck (adX6_luck (d, TYg, c, W)) := by
  unfold cdX6_luck adX6_luck
  refine sn_op sIl ?_
  refine sn_op sIfLt ?_
  refine sn_op sIl ?_
  refine sn_op (sIc (n := 1) (by decide)) ?_
  refine sn_op (sIc (n := 10) (by decide)) ?_
  refine sn_op (sCI (sfX6_within c hc) (by decide) (by decide +kernel)) ?_
  refine sn_op sIfNe ?_
  refine sn_op (sIc (n := -1) (by decide)) ?_
  refine sn_op sIret ?_
  refine sn_op sAl ?_
  refine sn_op sIl ?_
  refine sn_op sIl ?_
  refine sn_op sIl ?_
  refine sn_op (sCI (sfX6_gather c hc) (by decide) (by decide +kernel)) ?_
  refine sn_op sIs ?_
  refine sn_op sIl ?_
  refine sn_op sIfGe ?_
  refine sn_op sIl ?_
  refine sn_op sIret ?_
  refine sn_op sAl ?_
  refine sn_op sGetR ?_
  refine sn_op (sCV (sfX1_forget c hc) (by decide) (by decide +kernel)) ?_
  refine sn_op sIl ?_
  refine sn_op sI2l ?_
  refine sn_op sJs ?_
  refine sn_op (sIc (n := 0) (by decide)) ?_
  refine sn_op sIs ?_
  refine sn_op (sIc (n := 0) (by decide)) ?_
  refine sn_op sIs ?_
  refine sn_st ?_
  refine sn_op sIl ?_
  refine sn_op sIl ?_
  refine sn_op sCmGe ?_
  refine sn_op sAl ?_
  refine sn_op sGetR ?_
  refine sn_op sAl ?_
  refine sn_op sGetNw ?_
  refine sn_op sGetR ?_
  refine sn_op sIl ?_
  refine sn_op sAl ?_
  refine sn_op sGetI ?_
  refine sn_op (sCV (sfX1_load c hc) (by decide) (by decide +kernel)) ?_
  refine sn_op sAl ?_
  refine sn_op sGetR ?_
  refine sn_op sJl ?_
  refine sn_op (sCJ (sfX1_shuffle c hc) (by decide) (by decide +kernel)) ?_
  refine sn_op sJs ?_
  refine sn_op sAl ?_
  refine sn_op sGetR ?_
  refine sn_op sIl ?_
  refine sn_op sIl ?_
  refine sn_op (sCI (sfX1_search c hc) (by decide) (by decide +kernel)) ?_
  refine sn_op sIs ?_
  refine sn_op sIl ?_
  refine sn_op sIfGe ?_
  refine sn_op (sIc (n := -2) (by decide)) ?_
  refine sn_op sIret ?_
  refine sn_op sIl ?_
  refine sn_op sIl ?_
  refine sn_op sIl ?_
  refine sn_op sCmLt ?_
  refine sn_op (sIc (n := 1) (by decide)) ?_
  refine sn_op sGoto ?_
  refine sn_op (sIc (n := 0) (by decide)) ?_
  refine sn_op sIadd ?_
  refine sn_op sIs ?_
  refine sn_op (sInc (n := 1) (by decide)) ?_
  refine sn_op sGoto ?_
  refine sn_op sIl ?_
  refine sn_op sIret ?_
  exact sn_nil
def csX6_luck : List AC := [([(2, 6, 0), (0, -2147483648, 2147483647), (0, -2147483648, 2147483647), (0, -2147483648, 2147483647), (0, -2147483648, 2147483647), (0, -2147483648, 2147483647)], 11, [((0, -2147483648, 2147483647), [], []), ((0, -2, -1), [], [])], [163944, 163960, 163976, 163992, 164009, 295097, 819273, 819288, 38654705713, 42949673009, 47244640305, 51539607601, 55834574897, 60129542193, 64424509489, 68719476785, 73014444081], [])]
set_option maxRecDepth 100000 in
set_option maxHeartbeats 4000000 in
theorem sfX6_luck (c : Nat × Nat) (hc : c = cA ∨ c = cB) : ∀ ac ∈ csX6_luck, SafeC TYg c mX6_luck ac := by
  intro ac hac
  simp only [csX6_luck, List.mem_cons, List.not_mem_nil, or_false] at hac
  rcases hac with rfl
  · rcases hc with rfl | rfl
    · exact safe_of (ann := [(53, [(2, 6, 0), (0, 0, 1), (0, 2, 6), (0, 0, 400), (0, 0, 2147483647), (0, 1, 10), (0, 0, 200), (8, 0, 0), (4, 0, 0), (0, -2147483648, 2147483647), (0, 0, 10), (4, 0, 0)], [(0, 10, 0, 4294967296)])]) (fuel := 600) okX6_luck (snX6_luck _ _ cA (Or.inl rfl)) (List.forall_mem_cons.mpr ⟨⟨_, _, rfl⟩, (fun q hq => by cases hq)⟩) (by decide) (by decide +kernel)
    · exact safe_of (ann := [(53, [(2, 6, 0), (0, 0, 1), (0, 2, 6), (0, 0, 400), (0, 0, 2147483647), (0, 1, 10), (0, 0, 200), (8, 0, 0), (4, 0, 0), (0, -2147483648, 2147483647), (0, 0, 10), (4, 0, 0)], [(0, 10, 0, 4294967296)])]) (fuel := 600) okX6_luck (snX6_luck _ _ cB (Or.inr rfl)) (List.forall_mem_cons.mpr ⟨⟨_, _, rfl⟩, (fun q hq => by cases hq)⟩) (by decide) (by decide +kernel)
set_option maxRecDepth 100000 in
def adX6_named (D : KK) : List ACE := (0, 1, some (aIl 1)) :: (1, 27, some (aSw [(0, 28), (1, 40), (2, 52)] 64)) :: (28, 1, some (aAl 0)) :: (29, 3, some (aGetNw D)) :: (32, 3, some (aGetR [(336, 354), (720, 738)])) :: (35, 1, some (aIl 2)) :: (36, 3, some (aCall D 2 2 3 csX2_find)) :: (39, 1, some (aIret)) :: (40, 1, some (aAl 0)) :: (41, 3, some (aGetNw D)) :: (44, 3, some (aGetR [(336, 386), (720, 770)])) :: (47, 1, some (aIl 2)) :: (48, 3, some (aCall D 2 2 3 csX2_find)) :: (51, 1, some (aIret)) :: (52, 1, some (aAl 0)) :: (53, 3, some (aGetNw D)) :: (56, 3, some (aGetR [(336, 418), (720, 802)])) :: (59, 1, some (aIl 2)) :: (60, 3, some (aCall D 2 2 3 csX2_find)) :: (63, 1, some (aIret)) :: (64, 1, some (aIc (-1))) :: (65, 1, some (aIret)) :: []
set_option maxRecDepth 100000 in
set_option maxHeartbeats 4000000 in
theorem snX6_named (d : Nat) (W : List Nat) (c : Nat × Nat) (hc : c = cA ∨ c = cB) : SndAll (d, TYg, c, W) cdX6_named (adX6_named (d, TYg, c, W)) := by
  unfold cdX6_named adX6_named
  refine sn_op sIl ?_
  refine sn_op (sSw (by decide)) ?_
  refine sn_op sAl ?_
  refine sn_op sGetNw ?_
  refine sn_op sGetR ?_
  refine sn_op sIl ?_
  refine sn_op (sCI (sfX2_find c hc) (by decide) (by decide +kernel)) ?_
  refine sn_op sIret ?_
  refine sn_op sAl ?_
  refine sn_op sGetNw ?_
  refine sn_op sGetR ?_
  refine sn_op sIl ?_
  refine sn_op (sCI (sfX2_find c hc) (by decide) (by decide +kernel)) ?_
  refine sn_op sIret ?_
  refine sn_op sAl ?_
  refine sn_op sGetNw ?_
  refine sn_op sGetR ?_
  refine sn_op sIl ?_
  refine sn_op (sCI (sfX2_find c hc) (by decide) (by decide +kernel)) ?_
  refine sn_op sIret ?_
  refine sn_op (sIc (n := -1) (by decide)) ?_
  refine sn_op sIret ?_
  exact sn_nil
def csX6_named : List AC := [([(2, 6, 0), (0, -2147483648, 2147483647), (0, -2147483648, 2147483647)], 2, [((0, -1, -1), [], []), ((0, 0, 11), [], [(1, (0, 2))])], [], [])]
set_option maxRecDepth 100000 in
set_option maxHeartbeats 4000000 in
theorem sfX6_named (c : Nat × Nat) (hc : c = cA ∨ c = cB) : ∀ ac ∈ csX6_named, SafeC TYg c mX6_named ac := by
  intro ac hac
  simp only [csX6_named, List.mem_cons, List.not_mem_nil, or_false] at hac
  rcases hac with rfl
  · rcases hc with rfl | rfl
    · exact safe_of (ann := []) (fuel := 600) okX6_named (snX6_named _ _ cA (Or.inl rfl)) (fun q hq => by cases hq) (by decide) (by decide +kernel)
    · exact safe_of (ann := []) (fuel := 600) okX6_named (snX6_named _ _ cB (Or.inr rfl)) (fun q hq => by cases hq) (by decide) (by decide +kernel)
set_option maxRecDepth 100000 in
def adX6_pay (D : KK) : List ACE := (0, 1, some (aAl 0)) :: (1, 3, some (aGetNw D)) :: (4, 3, some (aGetR [(336, 418), (720, 802)])) :: (7, 1, some (aIl 1)) :: (8, 3, some (aCall D 2 2 2 csX2_has)) :: (11, 3, some (aIf bEq bNe 34)) :: (14, 1, some (aIl 2)) :: (15, 1, some (aIc (0))) :: (16, 2, some (aIc (999999))) :: (18, 1, some (aAl 0)) :: (19, 3, some (aGetNw D)) :: (22, 3, some (aGetR [(336, 49816), (720, 50200)])) :: (25, 1, some (aIl 1)) :: (26, 1, some (aIald D)) :: (27, 1, some (aBin fSub)) :: (28, 3, some (aCall D 16 3 3 csX6_within)) :: (31, 3, some (aIf bNe bEq 36)) :: (34, 1, some (aIc (-1))) :: (35, 1, some (aIret)) :: (36, 1, some (aAl 0)) :: (37, 3, some (aGetNw D)) :: (40, 3, some (aGetR [(336, 49816), (720, 50200)])) :: (43, 1, some (aIl 1)) :: (44, 1, some (aDup2)) :: (45, 1, some (aIald D)) :: (46, 1, some (aIl 2)) :: (47, 1, some (aBin fAdd)) :: (48, 1, some (aIast D)) :: (49, 1, some (aAl 0)) :: (50, 3, some (aGetNw D)) :: (53, 3, some (aGetR [(336, 49816), (720, 50200)])) :: (56, 1, some (aIl 1)) :: (57, 1, some (aIald D)) :: (58, 1, some (aIret)) :: []
set_option maxRecDepth 100000 in
set_option maxHeartbeats 4000000 in
theorem snX6_pay (d : Nat) (W : List Nat) (c : Nat × Nat) (hc : c = cA ∨ c = cB) : SndAll (d, TYg, c, W) cdX6_pay (adX6_pay (d, TYg, c, W)) := by
  unfold cdX6_pay adX6_pay
  refine sn_op sAl ?_
  refine sn_op sGetNw ?_
  refine sn_op sGetR ?_
  refine sn_op sIl ?_
  refine sn_op (sCI (sfX2_has c hc) (by decide) (by decide +kernel)) ?_
  refine sn_op sIfEq ?_
  refine sn_op sIl ?_
  refine sn_op (sIc (n := 0) (by decide)) ?_
  refine sn_op (sIc (n := 999999) (by decide)) ?_
  refine sn_op sAl ?_
  refine sn_op sGetNw ?_
  refine sn_op sGetR ?_
  refine sn_op sIl ?_
  refine sn_op sIald ?_
  refine sn_op sIsub ?_
  refine sn_op (sCI (sfX6_within c hc) (by decide) (by decide +kernel)) ?_
  refine sn_op sIfNe ?_
  refine sn_op (sIc (n := -1) (by decide)) ?_
  refine sn_op sIret ?_
  refine sn_op sAl ?_
  refine sn_op sGetNw ?_
  refine sn_op sGetR ?_
  refine sn_op sIl ?_
  refine sn_op sDup2 ?_
  refine sn_op sIald ?_
  refine sn_op sIl ?_
  refine sn_op sIadd ?_
  refine sn_op sIast ?_
  refine sn_op sAl ?_
  refine sn_op sGetNw ?_
  refine sn_op sGetR ?_
  refine sn_op sIl ?_
  refine sn_op sIald ?_
  refine sn_op sIret ?_
  exact sn_nil
def csX6_pay : List AC := [([(2, 6, 0), (0, -2147483648, 2147483647), (0, -2147483648, 2147483647)], 2, [((0, -2147483648, 2147483647), [], [(1, (0, 11)), (2, (0, 2147483647))]), ((0, -1, -1), [], [])], [49816, 50200], [])]
set_option maxRecDepth 100000 in
set_option maxHeartbeats 4000000 in
theorem sfX6_pay (c : Nat × Nat) (hc : c = cA ∨ c = cB) : ∀ ac ∈ csX6_pay, SafeC TYg c mX6_pay ac := by
  intro ac hac
  simp only [csX6_pay, List.mem_cons, List.not_mem_nil, or_false] at hac
  rcases hac with rfl
  · rcases hc with rfl | rfl
    · exact safe_of (ann := []) (fuel := 600) okX6_pay (snX6_pay _ _ cA (Or.inl rfl)) (fun q hq => by cases hq) (by decide) (by decide +kernel)
    · exact safe_of (ann := []) (fuel := 600) okX6_pay (snX6_pay _ _ cB (Or.inr rfl)) (fun q hq => by cases hq) (by decide) (by decide +kernel)
set_option maxRecDepth 100000 in
def adX6_round (D : KK) : List ACE := (0, 1, some (aAl 0)) :: (1, 1, some (aIl 1)) :: (2, 1, some (aIl 2)) :: (3, 1, some (aIl 3)) :: (4, 3, some (aCall D 6 4 4 csX6_gather)) :: (7, 2, some (aIs 6)) :: (9, 2, some (aIl 6)) :: (11, 3, some (aIf (fun C x y => bLe C y x) bLt 17)) :: (14, 2, some (aIl 6)) :: (16, 1, some (aIret)) :: (17, 2, some (aIl 4)) :: (19, 3, some (aIf bLt (fun C x y => bLe C y x) 34)) :: (22, 2, some (aIl 4)) :: (24, 2, some (aIl 6)) :: (26, 3, some (aCm (fun C x y => bLe C y x) bLt 34)) :: (29, 2, some (aIl 5)) :: (31, 3, some (aIf (fun C x y => bLe C y x) bLt 36)) :: (34, 1, some (aIc (-1))) :: (35, 1, some (aIret)) :: (36, 1, some (aAl 0)) :: (37, 3, some (aGetR [(6, 49)])) :: (40, 3, some (aGetR [(49, 819273)])) :: (43, 2, some (aIl 4)) :: (45, 1, some (aJald)) :: (46, 2, some (aJs 7)) :: (48, 1, some (aAl 0)) :: (49, 3, some (aGetR [(6, 49)])) :: (52, 3, some (aGetR [(49, 819288)])) :: (55, 2, some (aIl 4)) :: (57, 1, some (aIald D)) :: (58, 2, some (aIs 9)) :: (60, 2, some (aIl 5)) :: (62, 30, some (aSw [(0, 92), (1, 95), (2, 107), (3, 134)] 146)) :: (92, 2, some (aIl 9)) :: (94, 1, some (aIret)) :: (95, 1, some (aAl 0)) :: (96, 3, some (aGetNw D)) :: (99, 2, some (aJl 7)) :: (101, 2, some (aIl 9)) :: (103, 3, some (aCall D 0 3 6 csX0_carriedBy)) :: (106, 1, some (aIret)) :: (107, 1, some (aAl 0)) :: (108, 3, some (aGetNw D)) :: (111, 2, some (aJl 7)) :: (113, 2, some (aIl 9)) :: (115, 1, some (aAl 0)) :: (116, 3, some (aGetNw D)) :: (119, 1, some (aAl 0)) :: (120, 3, some (aGetI D 6 6)) :: (123, 3, some (aCall D 0 2 4 csX0_missing)) :: (126, 1, some (aAl 0)) :: (127, 3, some (aGetI D 6 6)) :: (130, 3, some (aCall D 0 5 10 csX0_takenBy)) :: (133, 1, some (aIret)) :: (134, 1, some (aAl 0)) :: (135, 3, some (aGetNw D)) :: (138, 2, some (aJl 7)) :: (140, 2, some (aIl 9)) :: (142, 3, some (aCall D 0 3 6 csX0_firmsOf)) :: (145, 1, some (aIret)) :: (146, 2, some (aIl 5)) :: (148, 1, some (aIc (4))) :: (149, 1, some (aBin fSub)) :: (150, 2, some (aIl 9)) :: (152, 3, some (aCm (fun C x y => bLe C y x) bLt 167)) :: (155, 2, some (aJl 7)) :: (157, 2, some (aIl 5)) :: (159, 1, some (aIc (4))) :: (160, 1, some (aBin fSub)) :: (161, 3, some (aCall D 16 2 3 csX6_saleAt)) :: (164, 3, some (aGoto 168)) :: (167, 1, some (aIc (-1))) :: (168, 1, some (aIret)) :: []
set_option maxRecDepth 100000 in
set_option maxHeartbeats 4000000 in
theorem snX6_round (d : Nat) (W : List Nat) (c : Nat × Nat) (hc : c = cA ∨ c = cB) : SndAll (d, TYg, c, W) cdX6_round (adX6_round (d, TYg, c, W)) := by
  unfold cdX6_round adX6_round
  refine sn_op sAl ?_
  refine sn_op sIl ?_
  refine sn_op sIl ?_
  refine sn_op sIl ?_
  refine sn_op (sCI (sfX6_gather c hc) (by decide) (by decide +kernel)) ?_
  refine sn_op sIs ?_
  refine sn_op sIl ?_
  refine sn_op sIfGe ?_
  refine sn_op sIl ?_
  refine sn_op sIret ?_
  refine sn_op sIl ?_
  refine sn_op sIfLt ?_
  refine sn_op sIl ?_
  refine sn_op sIl ?_
  refine sn_op sCmGe ?_
  refine sn_op sIl ?_
  refine sn_op sIfGe ?_
  refine sn_op (sIc (n := -1) (by decide)) ?_
  refine sn_op sIret ?_
  refine sn_op sAl ?_
  refine sn_op sGetR ?_
  refine sn_op sGetR ?_
  refine sn_op sIl ?_
  refine sn_op sJald ?_
  refine sn_op sJs ?_
  refine sn_op sAl ?_
  refine sn_op sGetR ?_
  refine sn_op sGetR ?_
  refine sn_op sIl ?_
  refine sn_op sIald ?_
  refine sn_op sIs ?_
  refine sn_op sIl ?_
  refine sn_op (sSw (by decide)) ?_
  refine sn_op sIl ?_
  refine sn_op sIret ?_
  refine sn_op sAl ?_
  refine sn_op sGetNw ?_
  refine sn_op sJl ?_
  refine sn_op sIl ?_
  refine sn_op (sCI (sfX0_carriedBy c hc) (by decide) (by decide +kernel)) ?_
  refine sn_op sIret ?_
  refine sn_op sAl ?_
  refine sn_op sGetNw ?_
  refine sn_op sJl ?_
  refine sn_op sIl ?_
  refine sn_op sAl ?_
  refine sn_op sGetNw ?_
  refine sn_op sAl ?_
  refine sn_op sGetI ?_
  refine sn_op (sCI (sfX0_missing c hc) (by decide) (by decide +kernel)) ?_
  refine sn_op sAl ?_
  refine sn_op sGetI ?_
  refine sn_op (sCI (sfX0_takenBy c hc) (by decide) (by decide +kernel)) ?_
  refine sn_op sIret ?_
  refine sn_op sAl ?_
  refine sn_op sGetNw ?_
  refine sn_op sJl ?_
  refine sn_op sIl ?_
  refine sn_op (sCI (sfX0_firmsOf c hc) (by decide) (by decide +kernel)) ?_
  refine sn_op sIret ?_
  refine sn_op sIl ?_
  refine sn_op (sIc (n := 4) (by decide)) ?_
  refine sn_op sIsub ?_
  refine sn_op sIl ?_
  refine sn_op sCmGe ?_
  refine sn_op sJl ?_
  refine sn_op sIl ?_
  refine sn_op (sIc (n := 4) (by decide)) ?_
  refine sn_op sIsub ?_
  refine sn_op (sCI (sfX6_saleAt c hc) (by decide) (by decide +kernel)) ?_
  refine sn_op sGoto ?_
  refine sn_op (sIc (n := -1) (by decide)) ?_
  refine sn_op sIret ?_
  exact sn_nil
def csX6_round : List AC := [([(2, 6, 0), (0, -2147483648, 2147483647), (0, -2147483648, 2147483647), (0, -2147483648, 2147483647), (0, -2147483648, 2147483647), (0, -2147483648, 2147483647)], 11, [((0, -2147483648, 2147483647), [((49, 9), (0, 200)), ((49, 13), (1, 1)), ((49, 14), (0, 1)), ((49, 15), (0, 400))], [(1, (0, 1)), (2, (2, 6)), (3, (0, 400)), (4, (0, 199)), (5, (1, 3))]), ((0, -2, -1), [], []), ((0, 0, 39), [((49, 9), (0, 200)), ((49, 13), (1, 1)), ((49, 14), (0, 1)), ((49, 15), (0, 400))], [(1, (0, 1)), (2, (2, 6)), (3, (0, 400)), (4, (0, 199)), (5, (0, 9))])], [49864, 50248, 163944, 163960, 163976, 163992, 164009, 295097, 819273, 819288, 38654705713, 42949673009, 47244640305, 51539607601, 55834574897, 60129542193, 64424509489, 68719476785, 73014444081], [])]
set_option maxRecDepth 100000 in
set_option maxHeartbeats 4000000 in
theorem sfX6_round (c : Nat × Nat) (hc : c = cA ∨ c = cB) : ∀ ac ∈ csX6_round, SafeC TYg c mX6_round ac := by
  intro ac hac
  simp only [csX6_round, List.mem_cons, List.not_mem_nil, or_false] at hac
  rcases hac with rfl
  · rcases hc with rfl | rfl
    · exact safe_of (ann := []) (fuel := 600) okX6_round (snX6_round _ _ cA (Or.inl rfl)) (fun q hq => by cases hq) (by decide) (by decide +kernel)
    · exact safe_of (ann := []) (fuel := 600) okX6_round (snX6_round _ _ cB (Or.inr rfl)) (fun q hq => by cases hq) (by decide) (by decide +kernel)
set_option maxRecDepth 100000 in
def adX6_rounds (D : KK) : List ACE := (0, 1, some (aAl 0)) :: (1, 1, some (aIl 1)) :: (2, 1, some (aIl 2)) :: (3, 1, some (aIl 3)) :: (4, 3, some (aCall D 6 4 4 csX6_gather)) :: (7, 1, some (aIret)) :: []
set_option maxRecDepth 100000 in
set_option maxHeartbeats 4000000 in
theorem snX6_rounds (d : Nat) (W : List Nat) (c : Nat × Nat) (hc : c = cA ∨ c = cB) : SndAll (d, TYg, c, W) cdX6_rounds (adX6_rounds (d, TYg, c, W)) := by
  unfold cdX6_rounds adX6_rounds
  refine sn_op sAl ?_
  refine sn_op sIl ?_
  refine sn_op sIl ?_
  refine sn_op sIl ?_
  refine sn_op (sCI (sfX6_gather c hc) (by decide) (by decide +kernel)) ?_
  refine sn_op sIret ?_
  exact sn_nil
def csX6_rounds : List AC := [([(2, 6, 0), (0, -2147483648, 2147483647), (0, -2147483648, 2147483647), (0, -2147483648, 2147483647)], 11, [((0, -2, -1), [], []), ((0, 0, 200), [((49, 9), (0, 200)), ((49, 13), (1, 1)), ((49, 14), (0, 1)), ((49, 15), (0, 400))], [(1, (0, 1)), (2, (2, 6)), (3, (0, 400))])], [163944, 163960, 163976, 163992, 164009, 295097, 819273, 819288, 38654705713, 42949673009, 47244640305, 51539607601, 55834574897, 60129542193, 64424509489, 68719476785, 73014444081], [])]
set_option maxRecDepth 100000 in
set_option maxHeartbeats 4000000 in
theorem sfX6_rounds (c : Nat × Nat) (hc : c = cA ∨ c = cB) : ∀ ac ∈ csX6_rounds, SafeC TYg c mX6_rounds ac := by
  intro ac hac
  simp only [csX6_rounds, List.mem_cons, List.not_mem_nil, or_false] at hac
  rcases hac with rfl
  · rcases hc with rfl | rfl
    · exact safe_of (ann := []) (fuel := 600) okX6_rounds (snX6_rounds _ _ cA (Or.inl rfl)) (fun q hq => by cases hq) (by decide) (by decide +kernel)
    · exact safe_of (ann := []) (fuel := 600) okX6_rounds (snX6_rounds _ _ cB (Or.inr rfl)) (fun q hq => by cases hq) (by decide) (by decide +kernel)
set_option maxRecDepth 100000 in
def adX6_rule (D : KK) : List ACE := (0, 1, some (aIl 1)) :: (1, 1, some (aAl 0)) :: (2, 3, some (aGetNw D)) :: (5, 3, some (aGetR [(336, 354), (720, 738)])) :: (8, 3, some (aGetI D 2 1)) :: (11, 3, some (aCall D 16 2 2 csX6_areBits)) :: (14, 3, some (aIf bNe bEq 19)) :: (17, 1, some (aIc (-1))) :: (18, 1, some (aIret)) :: (19, 1, some (aAl 0)) :: (20, 1, some (aIl 1)) :: (21, 3, some (aPutI D 6 6)) :: (24, 1, some (aIl 1)) :: (25, 3, some (aCall D 16 1 1 csJ6_bitCount_0f7a4)) :: (28, 1, some (aIret)) :: []
set_option maxRecDepth 100000 in
set_option maxHeartbeats 4000000 in
theorem snX6_rule (d : Nat) (W : List Nat) (c : Nat × Nat) (hc : c = cA ∨ c = cB) : SndAll (d, TYg, c, W) cdX6_rule (adX6_rule (d, TYg, c, W)) := by
  unfold cdX6_rule adX6_rule
  refine sn_op sIl ?_
  refine sn_op sAl ?_
  refine sn_op sGetNw ?_
  refine sn_op sGetR ?_
  refine sn_op sGetI ?_
  refine sn_op (sCI (sfX6_areBits c hc) (by decide) (by decide +kernel)) ?_
  refine sn_op sIfNe ?_
  refine sn_op (sIc (n := -1) (by decide)) ?_
  refine sn_op sIret ?_
  refine sn_op sAl ?_
  refine sn_op sIl ?_
  refine sn_op sPutI ?_
  refine sn_op sIl ?_
  refine sn_op (sCI (sfJ6_bitCount_0f7a4 c hc) (by decide) (by decide +kernel)) ?_
  refine sn_op sIret ?_
  exact sn_nil
def csX6_rule : List AC := [([(2, 6, 0), (0, -2147483648, 2147483647)], 2, [((0, -1, -1), [], []), ((0, 0, 63), [], [])], [30064771078], [])]
set_option maxRecDepth 100000 in
set_option maxHeartbeats 4000000 in
theorem sfX6_rule (c : Nat × Nat) (hc : c = cA ∨ c = cB) : ∀ ac ∈ csX6_rule, SafeC TYg c mX6_rule ac := by
  intro ac hac
  simp only [csX6_rule, List.mem_cons, List.not_mem_nil, or_false] at hac
  rcases hac with rfl
  · rcases hc with rfl | rfl
    · exact safe_of (ann := []) (fuel := 600) okX6_rule (snX6_rule _ _ cA (Or.inl rfl)) (fun q hq => by cases hq) (by decide) (by decide +kernel)
    · exact safe_of (ann := []) (fuel := 600) okX6_rule (snX6_rule _ _ cB (Or.inr rfl)) (fun q hq => by cases hq) (by decide) (by decide +kernel)
