/-! name -/
set_option maxRecDepth 100000 in
def adX7_name (D : KK) : List ACE := (0, 1, some (aAl 0)) :: (1, 1, some (aIc (0))) :: (2, 3, some (aPutI D 7 34)) :: (5, 1, some (aIc (0))) :: (6, 1, some (aIs 1)) :: (7, 0, none) :: (7, 1, some (aIl 1)) :: (8, 2, some (aIc (6))) :: (10, 3, some (aCm (fun C x y => bLe C y x) bLt 63)) :: (13, 1, some (aAl 0)) :: (14, 1, some (aAl 0)) :: (15, 3, some (aGetI D 7 34)) :: (18, 1, some (aIc (5))) :: (19, 1, some (aBin fTop)) :: (20, 1, some (aAl 0)) :: (21, 3, some (aGetI D 7 32)) :: (24, 1, some (aIl 1)) :: (25, 1, some (aBin fAdd)) :: (26, 1, some (aAl 0)) :: (27, 3, some (aGetI D 7 31)) :: (30, 3, some (aCm (fun C x y => bLe C y x) bLt 52)) :: (33, 1, some (aAl 0)) :: (34, 3, some (aGetR [(1175, 3277992)])) :: (37, 1, some (aAl 0)) :: (38, 3, some (aGetI D 7 32)) :: (41, 1, some (aIl 1)) :: (42, 1, some (aBin fAdd)) :: (43, 1, some (aIald D)) :: (44, 2, some (aIc (97))) :: (46, 1, some (aBin fSub)) :: (47, 1, some (aIc (1))) :: (48, 1, some (aBin fAdd)) :: (49, 3, some (aGoto 53)) :: (52, 1, some (aIc (0))) :: (53, 1, some (aBin fTop)) :: (54, 3, some (aPutI D 7 34)) :: (57, 3, some (aInc 1 (1))) :: (60, 3, some (aGoto 7)) :: (63, 1, some (aVret)) :: []
set_option maxRecDepth 100000 in
set_option maxHeartbeats 4000000 in
theorem snX7_name (d : Nat) (W : List Nat) (c : Nat × Nat) (hc : c = cA ∨ c = cB) : SndAll (d, TYg, c, W) cdX7_name (adX7_name (d, TYg, c, W)) := by
  unfold cdX7_name adX7_name
  refine sn_op sAl ?_
  refine sn_op (sIc (n := 0) (by decide)) ?_
  refine sn_op sPutI ?_
  refine sn_op (sIc (n := 0) (by decide)) ?_
  refine sn_op sIs ?_
  refine sn_st ?_
  refine sn_op sIl ?_
  refine sn_op (sIc (n := 6) (by decide)) ?_
  refine sn_op sCmGe ?_
  refine sn_op sAl ?_
  refine sn_op sAl ?_
  refine sn_op sGetI ?_
  refine sn_op (sIc (n := 5) (by decide)) ?_
  refine sn_op sIshl ?_
  refine sn_op sAl ?_
  refine sn_op sGetI ?_
  refine sn_op sIl ?_
  refine sn_op sIadd ?_
  refine sn_op sAl ?_
  refine sn_op sGetI ?_
  refine sn_op sCmGe ?_
  refine sn_op sAl ?_
  refine sn_op sGetR ?_
  refine sn_op sAl ?_
  refine sn_op sGetI ?_
  refine sn_op sIl ?_
  refine sn_op sIadd ?_
  refine sn_op sIald ?_
  refine sn_op (sIc (n := 97) (by decide)) ?_
  refine sn_op sIsub ?_
  refine sn_op (sIc (n := 1) (by decide)) ?_
  refine sn_op sIadd ?_
  refine sn_op sGoto ?_
  refine sn_op (sIc (n := 0) (by decide)) ?_
  refine sn_op sIor ?_
  refine sn_op sPutI ?_
  refine sn_op (sInc (n := 1) (by decide)) ?_
  refine sn_op sGoto ?_
  refine sn_op sVret ?_
  exact sn_nil
def csX7_name : List AC := [([(2, 1175, 0)], 1, [((9, 0, 0), [], [])], [150323856535], [])]
set_option maxRecDepth 100000 in
set_option maxHeartbeats 4000000 in
theorem sfX7_name (c : Nat × Nat) (hc : c = cA ∨ c = cB) : ∀ ac ∈ csX7_name, SafeC TYg c mX7_name ac := by
  intro ac hac
  simp only [csX7_name, List.mem_cons, List.not_mem_nil, or_false] at hac
  rcases hac with rfl
  · rcases hc with rfl | rfl
    · exact safe_of (ann := [(7, [], [])]) (fuel := 4000) okX7_name (snX7_name _ _ cA (Or.inl rfl)) (List.forall_mem_cons.mpr ⟨⟨_, _, rfl⟩, (fun q hq => by cases hq)⟩) (by decide) (by decide +kernel)
    · exact safe_of (ann := [(7, [], [])]) (fuel := 4000) okX7_name (snX7_name _ _ cB (Or.inr rfl)) (List.forall_mem_cons.mpr ⟨⟨_, _, rfl⟩, (fun q hq => by cases hq)⟩) (by decide) (by decide +kernel)
