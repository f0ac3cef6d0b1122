/-! the ranges of all ints of the memory -/
def tyOL : List ((Nat × Nat) × (Int × Int)) := [((19, 1), (0, 800)), ((19, 4), (0, 800)), ((19, 5), (0, 800)), ((19, 7), (0, 800)), ((49, 8), (0, 40)), ((49, 9), (0, 201)), ((49, 10), (0, 6)), ((49, 11), (0, 11)), ((49, 13), (0, 1)), ((197, 8), (0, 40)), ((197, 9), (0, 80)), ((354, 1), (0, 5)), ((738, 1), (0, 5)), ((386, 1), (0, 12)), ((770, 1), (0, 12)), ((418, 1), (0, 12)), ((802, 1), (0, 12)), ((452, 7), (0, 40)), ((836, 7), (0, 40)), ((1175, 2), (0, 800)), ((1175, 3), (0, 5)), ((1175, 4), (0, 4)), ((1175, 5), (0, 12)), ((1175, 6), (0, 40)), ((1175, 7), (0, 40)), ((1175, 25), (0, 5)), ((1175, 26), (0, 4)), ((1175, 27), (0, 12)), ((1175, 28), (0, 30)), ((1175, 30), (0, 800)), ((1175, 31), (0, 800)), ((1175, 32), (0, 800)), ((1175, 42), (0, 200)), ((1175, 47), (0, 1)), ((1175, 49), (0, 6))]
def tyAL : List (Nat × (Int × Int)) := [(164312, (0, 11)), (164328, (0, 11)), (164696, (0, 11)), (164712, (0, 11)), (49752, (0, 4)), (50136, (0, 4)), (163944, (0, 11)), (163960, (0, 11)), (819288, (0, 6)), (327992, (-2, 79)), (328008, (0, 79)), (3276842, (-128, 127)), (49835, (0, 1)), (50219, (0, 1)), (3277992, (0, 255)), (99576, (0, 4)), (329048, (0, 11)), (329064, (0, 11)), (4916696, (0, 39)), (820712, (0, 6)), (26104, (0, 39)), (165384, (0, 11)), (337448, (-1, 81)), (337464, (0, 81)), (99659, (0, 1))]
def lkO (a k : Nat) : List ((Nat × Nat) × (Int × Int)) → Int × Int
  | [] => (i32lo, i32hi)
  | q :: r => match Nat.beq q.1.1 a && Nat.beq q.1.2 k with
    | true => q.2
    | false => lkO a k r
def lkA (a : Nat) : List (Nat × (Int × Int)) → Int × Int
  | [] => (i32lo, i32hi)
  | q :: r => match Nat.beq q.1 a with
    | true => q.2
    | false => lkA a r
def TYg : TY := (fun a k => lkO a k tyOL, fun a => lkA a tyAL)
def cA : Nat × Nat := (336, 720)
def cB : Nat × Nat := (720, 336)
set_option maxRecDepth 100000 in
def adX6_within (D : KK) : List ACE := (0, 1, some (aIl 0)) :: (1, 1, some (aIl 1)) :: (2, 3, some (aCm bLt (fun C x y => bLe C y x) 14)) :: (5, 1, some (aIl 0)) :: (6, 1, some (aIl 2)) :: (7, 3, some (aCm (fun C x y => bLt C y x) bLe 14)) :: (10, 1, some (aIc (1))) :: (11, 3, some (aGoto 15)) :: (14, 1, some (aIc (0))) :: (15, 1, some (aZret)) :: []
set_option maxRecDepth 100000 in
set_option maxHeartbeats 4000000 in
theorem snX6_within (d : Nat) (W : List Nat) (c : Nat × Nat) (hc : c = cA ∨ c = cB) : SndAll (d, TYg, c, W) cdX6_within (adX6_within (d, TYg, c, W)) := by
  unfold cdX6_within adX6_within
  refine sn_op sIl ?_
  refine sn_op sIl ?_
  refine sn_op sCmLt ?_
  refine sn_op sIl ?_
  refine sn_op sIl ?_
  refine sn_op sCmGt ?_
  refine sn_op (sIc (n := 1) (by decide)) ?_
  refine sn_op sGoto ?_
  refine sn_op (sIc (n := 0) (by decide)) ?_
  refine sn_op sZret ?_
  exact sn_nil
def csX6_within : List AC := [([(0, i32lo, i32hi), (0, i32lo, i32hi), (0, i32lo, i32hi)], 1, [((0, 0, 1), [], [])], [])]
set_option maxRecDepth 100000 in
set_option maxHeartbeats 4000000 in
theorem sfX6_within (c : Nat × Nat) (hc : c = cA ∨ c = cB) : ∀ ac ∈ csX6_within, SafeC TYg c mX6_within ac := by
  intro ac hac
  simp only [csX6_within, List.mem_cons, List.not_mem_nil, or_false] at hac
  rcases hac with rfl
  · rcases hc with rfl | rfl
    · exact safe_of (ann := []) (fuel := 400) okX6_within (snX6_within _ _ cA (Or.inl rfl)) (fun q hq => by cases hq) (by decide) (by decide +kernel)
    · exact safe_of (ann := []) (fuel := 400) okX6_within (snX6_within _ _ cB (Or.inr rfl)) (fun q hq => by cases hq) (by decide) (by decide +kernel)
set_option maxRecDepth 100000 in
def adX2_has (D : KK) : List ACE := (0, 1, some (aIl 1)) :: (1, 3, some (aIf bLt (fun C x y => bLe C y x) 16)) :: (4, 1, some (aIl 1)) :: (5, 1, some (aAl 0)) :: (6, 3, some (aGetI D 2 1)) :: (9, 3, some (aCm (fun C x y => bLe C y x) bLt 16)) :: (12, 1, some (aIc (1))) :: (13, 3, some (aGoto 17)) :: (16, 1, some (aIc (0))) :: (17, 1, some (aZret)) :: []
set_option maxRecDepth 100000 in
set_option maxHeartbeats 4000000 in
theorem snX2_has (d : Nat) (W : List Nat) (c : Nat × Nat) (hc : c = cA ∨ c = cB) : SndAll (d, TYg, c, W) cdX2_has (adX2_has (d, TYg, c, W)) := by
  unfold cdX2_has adX2_has
  refine sn_op sIl ?_
  refine sn_op sIfLt ?_
  refine sn_op sIl ?_
  refine sn_op sAl ?_
  refine sn_op sGetI ?_
  refine sn_op sCmGe ?_
  refine sn_op (sIc (n := 1) (by decide)) ?_
  refine sn_op sGoto ?_
  refine sn_op (sIc (n := 0) (by decide)) ?_
  refine sn_op sZret ?_
  exact sn_nil
def csX2_has : List AC := [([(2, 354, 0), (0, i32lo, i32hi)], 1, [((0, 0, 0), [], []), ((0, 1, 1), [], [(1, (0, 4))])], []), ([(2, 386, 0), (0, i32lo, i32hi)], 1, [((0, 0, 0), [], []), ((0, 1, 1), [], [(1, (0, 11))])], []), ([(2, 418, 0), (0, i32lo, i32hi)], 1, [((0, 0, 0), [], []), ((0, 1, 1), [], [(1, (0, 11))])], []), ([(2, 738, 0), (0, i32lo, i32hi)], 1, [((0, 0, 0), [], []), ((0, 1, 1), [], [(1, (0, 4))])], []), ([(2, 770, 0), (0, i32lo, i32hi)], 1, [((0, 0, 0), [], []), ((0, 1, 1), [], [(1, (0, 11))])], []), ([(2, 802, 0), (0, i32lo, i32hi)], 1, [((0, 0, 0), [], []), ((0, 1, 1), [], [(1, (0, 11))])], [])]
set_option maxRecDepth 100000 in
set_option maxHeartbeats 4000000 in
theorem sfX2_has (c : Nat × Nat) (hc : c = cA ∨ c = cB) : ∀ ac ∈ csX2_has, SafeC TYg c mX2_has ac := by
  intro ac hac
  simp only [csX2_has, List.mem_cons, List.not_mem_nil, or_false] at hac
  rcases hac with rfl | rfl | rfl | rfl | rfl | rfl
  · rcases hc with rfl | rfl
    · exact safe_of (ann := []) (fuel := 400) okX2_has (snX2_has _ _ cA (Or.inl rfl)) (fun q hq => by cases hq) (by decide) (by decide +kernel)
    · exact safe_of (ann := []) (fuel := 400) okX2_has (snX2_has _ _ cB (Or.inr rfl)) (fun q hq => by cases hq) (by decide) (by decide +kernel)
  · rcases hc with rfl | rfl
    · exact safe_of (ann := []) (fuel := 400) okX2_has (snX2_has _ _ cA (Or.inl rfl)) (fun q hq => by cases hq) (by decide) (by decide +kernel)
    · exact safe_of (ann := []) (fuel := 400) okX2_has (snX2_has _ _ cB (Or.inr rfl)) (fun q hq => by cases hq) (by decide) (by decide +kernel)
  · rcases hc with rfl | rfl
    · exact safe_of (ann := []) (fuel := 400) okX2_has (snX2_has _ _ cA (Or.inl rfl)) (fun q hq => by cases hq) (by decide) (by decide +kernel)
    · exact safe_of (ann := []) (fuel := 400) okX2_has (snX2_has _ _ cB (Or.inr rfl)) (fun q hq => by cases hq) (by decide) (by decide +kernel)
  · rcases hc with rfl | rfl
    · exact safe_of (ann := []) (fuel := 400) okX2_has (snX2_has _ _ cA (Or.inl rfl)) (fun q hq => by cases hq) (by decide) (by decide +kernel)
    · exact safe_of (ann := []) (fuel := 400) okX2_has (snX2_has _ _ cB (Or.inr rfl)) (fun q hq => by cases hq) (by decide) (by decide +kernel)
  · rcases hc with rfl | rfl
    · exact safe_of (ann := []) (fuel := 400) okX2_has (snX2_has _ _ cA (Or.inl rfl)) (fun q hq => by cases hq) (by decide) (by decide +kernel)
    · exact safe_of (ann := []) (fuel := 400) okX2_has (snX2_has _ _ cB (Or.inr rfl)) (fun q hq => by cases hq) (by decide) (by decide +kernel)
  · rcases hc with rfl | rfl
    · exact safe_of (ann := []) (fuel := 400) okX2_has (snX2_has _ _ cA (Or.inl rfl)) (fun q hq => by cases hq) (by decide) (by decide +kernel)
    · exact safe_of (ann := []) (fuel := 400) okX2_has (snX2_has _ _ cB (Or.inr rfl)) (fun q hq => by cases hq) (by decide) (by decide +kernel)
set_option maxRecDepth 100000 in
def adX2_find (D : KK) : List ACE := (0, 1, some (aIc (0))) :: (1, 1, some (aIs 2)) :: (2, 0, none) :: (2, 1, some (aIl 2)) :: (3, 1, some (aAl 0)) :: (4, 3, some (aGetI D 2 1)) :: (7, 3, some (aCm (fun C x y => bLe C y x) bLt 28)) :: (10, 1, some (aAl 0)) :: (11, 3, some (aGetR [(354, 49528), (386, 49560), (418, 49592), (738, 49912), (770, 49944), (802, 49976)])) :: (14, 1, some (aIl 2)) :: (15, 1, some (aIald D)) :: (16, 1, some (aIl 1)) :: (17, 3, some (aCm bNe bEq 22)) :: (20, 1, some (aIl 2)) :: (21, 1, some (aIret)) :: (22, 3, some (aInc 2 (1))) :: (25, 3, some (aGoto 2)) :: (28, 1, some (aIc (-1))) :: (29, 1, some (aIret)) :: []
set_option maxRecDepth 100000 in
set_option maxHeartbeats 4000000 in
theorem snX2_find (d : Nat) (W : List Nat) (c : Nat × Nat) (hc : c = cA ∨ c = cB) : SndAll (d, TYg, c, W) cdX2_find (adX2_find (d, TYg, c, W)) := by
  unfold cdX2_find adX2_find
  refine sn_op (sIc (n := 0) (by decide)) ?_
  refine sn_op sIs ?_
  refine sn_st ?_
  refine sn_op sIl ?_
  refine sn_op sAl ?_
  refine sn_op sGetI ?_
  refine sn_op sCmGe ?_
  refine sn_op sAl ?_
  refine sn_op sGetR ?_
  refine sn_op sIl ?_
  refine sn_op sIald ?_
  refine sn_op sIl ?_
  refine sn_op sCmNe ?_
  refine sn_op sIl ?_
  refine sn_op sIret ?_
  refine sn_op (sInc (n := 1) (by decide)) ?_
  refine sn_op sGoto ?_
  refine sn_op (sIc (n := -1) (by decide)) ?_
  refine sn_op sIret ?_
  exact sn_nil
def csX2_find : List AC := [([(2, 354, 0), (0, i32lo, i32hi)], 1, [((0, -1, 4), [], [])], []), ([(2, 386, 0), (0, i32lo, i32hi)], 1, [((0, -1, 11), [], [])], []), ([(2, 418, 0), (0, i32lo, i32hi)], 1, [((0, -1, 11), [], [])], []), ([(2, 738, 0), (0, i32lo, i32hi)], 1, [((0, -1, 4), [], [])], []), ([(2, 770, 0), (0, i32lo, i32hi)], 1, [((0, -1, 11), [], [])], []), ([(2, 802, 0), (0, i32lo, i32hi)], 1, [((0, -1, 11), [], [])], [])]
set_option maxRecDepth 100000 in
set_option maxHeartbeats 4000000 in
theorem sfX2_find (c : Nat × Nat) (hc : c = cA ∨ c = cB) : ∀ ac ∈ csX2_find, SafeC TYg c mX2_find ac := by
  intro ac hac
  simp only [csX2_find, List.mem_cons, List.not_mem_nil, or_false] at hac
  rcases hac with rfl | rfl | rfl | rfl | rfl | rfl
  · rcases hc with rfl | rfl
    · exact safe_of (ann := [(2, [(2, 354, 0), (0, i32lo, i32hi), (0, 0, 5)], [(0, 2, 0, 4294967296)])]) (fuel := 400) okX2_find (snX2_find _ _ cA (Or.inl rfl)) (List.forall_mem_cons.mpr ⟨⟨_, _, rfl⟩, (fun q hq => by cases hq)⟩) (by decide) (by decide +kernel)
    · exact safe_of (ann := [(2, [(2, 354, 0), (0, i32lo, i32hi), (0, 0, 5)], [(0, 2, 0, 4294967296)])]) (fuel := 400) okX2_find (snX2_find _ _ cB (Or.inr rfl)) (List.forall_mem_cons.mpr ⟨⟨_, _, rfl⟩, (fun q hq => by cases hq)⟩) (by decide) (by decide +kernel)
  · rcases hc with rfl | rfl
    · exact safe_of (ann := [(2, [(2, 386, 0), (0, i32lo, i32hi), (0, 0, 12)], [(0, 2, 0, 4294967296)])]) (fuel := 400) okX2_find (snX2_find _ _ cA (Or.inl rfl)) (List.forall_mem_cons.mpr ⟨⟨_, _, rfl⟩, (fun q hq => by cases hq)⟩) (by decide) (by decide +kernel)
    · exact safe_of (ann := [(2, [(2, 386, 0), (0, i32lo, i32hi), (0, 0, 12)], [(0, 2, 0, 4294967296)])]) (fuel := 400) okX2_find (snX2_find _ _ cB (Or.inr rfl)) (List.forall_mem_cons.mpr ⟨⟨_, _, rfl⟩, (fun q hq => by cases hq)⟩) (by decide) (by decide +kernel)
  · rcases hc with rfl | rfl
    · exact safe_of (ann := [(2, [(2, 418, 0), (0, i32lo, i32hi), (0, 0, 12)], [(0, 2, 0, 4294967296)])]) (fuel := 400) okX2_find (snX2_find _ _ cA (Or.inl rfl)) (List.forall_mem_cons.mpr ⟨⟨_, _, rfl⟩, (fun q hq => by cases hq)⟩) (by decide) (by decide +kernel)
    · exact safe_of (ann := [(2, [(2, 418, 0), (0, i32lo, i32hi), (0, 0, 12)], [(0, 2, 0, 4294967296)])]) (fuel := 400) okX2_find (snX2_find _ _ cB (Or.inr rfl)) (List.forall_mem_cons.mpr ⟨⟨_, _, rfl⟩, (fun q hq => by cases hq)⟩) (by decide) (by decide +kernel)
  · rcases hc with rfl | rfl
    · exact safe_of (ann := [(2, [(2, 738, 0), (0, i32lo, i32hi), (0, 0, 5)], [(0, 2, 0, 4294967296)])]) (fuel := 400) okX2_find (snX2_find _ _ cA (Or.inl rfl)) (List.forall_mem_cons.mpr ⟨⟨_, _, rfl⟩, (fun q hq => by cases hq)⟩) (by decide) (by decide +kernel)
    · exact safe_of (ann := [(2, [(2, 738, 0), (0, i32lo, i32hi), (0, 0, 5)], [(0, 2, 0, 4294967296)])]) (fuel := 400) okX2_find (snX2_find _ _ cB (Or.inr rfl)) (List.forall_mem_cons.mpr ⟨⟨_, _, rfl⟩, (fun q hq => by cases hq)⟩) (by decide) (by decide +kernel)
  · rcases hc with rfl | rfl
    · exact safe_of (ann := [(2, [(2, 770, 0), (0, i32lo, i32hi), (0, 0, 12)], [(0, 2, 0, 4294967296)])]) (fuel := 400) okX2_find (snX2_find _ _ cA (Or.inl rfl)) (List.forall_mem_cons.mpr ⟨⟨_, _, rfl⟩, (fun q hq => by cases hq)⟩) (by decide) (by decide +kernel)
    · exact safe_of (ann := [(2, [(2, 770, 0), (0, i32lo, i32hi), (0, 0, 12)], [(0, 2, 0, 4294967296)])]) (fuel := 400) okX2_find (snX2_find _ _ cB (Or.inr rfl)) (List.forall_mem_cons.mpr ⟨⟨_, _, rfl⟩, (fun q hq => by cases hq)⟩) (by decide) (by decide +kernel)
  · rcases hc with rfl | rfl
    · exact safe_of (ann := [(2, [(2, 802, 0), (0, i32lo, i32hi), (0, 0, 12)], [(0, 2, 0, 4294967296)])]) (fuel := 400) okX2_find (snX2_find _ _ cA (Or.inl rfl)) (List.forall_mem_cons.mpr ⟨⟨_, _, rfl⟩, (fun q hq => by cases hq)⟩) (by decide) (by decide +kernel)
    · exact safe_of (ann := [(2, [(2, 802, 0), (0, i32lo, i32hi), (0, 0, 12)], [(0, 2, 0, 4294967296)])]) (fuel := 400) okX2_find (snX2_find _ _ cB (Or.inr rfl)) (List.forall_mem_cons.mpr ⟨⟨_, _, rfl⟩, (fun q hq => by cases hq)⟩) (by decide) (by decide +kernel)
