/-! the model lays a new book: the new rows come onto the first ones -/
def put (L : List Nat) (i j : Nat) (m : MM) : MM := match L with
  | [] => m
  | a :: r => put r i j (sI m a i (gI m a j))
theorem put_row {i j : Nat} (hij : i ≠ j) : ∀ (L : List Nat) (m : MM) (a q : Nat), L.Nodup → gI (put L i j m) a q = if a ∈ L ∧ q = i then gI m a j else gI m a q
  | [], m, a, q, _ => by
    rw [if_neg (fun z => by cases z.1)]
    rfl
  | c :: r, m, a, q, hn => by
    show gI (put r i j (sI m c i (gI m c j))) a q = _
    have hn := List.nodup_cons.mp hn
    rw [put_row hij r _ a q hn.2]
    by_cases h1 : a ∈ r ∧ q = i
    · have hac : a ≠ c := fun z => hn.1 (z ▸ h1.1)
      rw [if_pos h1, if_pos ⟨List.mem_cons_of_mem _ h1.1, h1.2⟩, gI_if, if_neg (fun z => hac z.1)]
    · rw [if_neg h1, gI_if]
      by_cases h2 : a = c ∧ q = i
      · rw [if_pos h2, if_pos ⟨by rw [h2.1]; exact List.mem_cons_self, h2.2⟩, h2.1]
      · rw [if_neg h2, if_neg (fun z => by
          rcases List.mem_cons.mp z.1 with y | y
          · exact h2 ⟨y, z.2⟩
          · exact h1 ⟨y, z.2⟩)]
theorem put_St {W : List Nat} {i j : Nat} {m0 : MM} : ∀ (L : List Nat) (m : MM), St W m0 m → (∀ a ∈ L, Nat.ble 8 (a % 16) = true ∧ a ∈ W) → St W m0 (put L i j m)
  | [], m, h, _ => h
  | c :: r, m, h, hL => by
    show St W m0 (put r i j (sI m c i (gI m c j)))
    have hc := hL c List.mem_cons_self
    have hb := h.1.1 c j
    rw [tyF_row hc.1] at hb
    exact put_St r _ (h.row hc.1 hc.2 hb.1 hb.2) (fun a ha => hL a (List.mem_cons_of_mem _ ha))
/-- rows copied so far -/
def CpK (L : List Nat) (off k : Nat) (m0 m1 : MM) : Prop := St L m0 m1 ∧ ∀ a ∈ L, ∀ j, (j < k → gI m1 a j = gI m0 a (off + j)) ∧ (off ≤ j → gI m1 a j = gI m0 a j)
theorem CpK.go {L : List Nat} {off k : Nat} {m0 m1 : MM} (h : CpK L off k m0 m1) (hk : k < off) (hn : L.Nodup) (h8 : ∀ a ∈ L, Nat.ble 8 (a % 16) = true) : CpK L off (k + 1) m0 (put L k (off + k) m1) := by
  refine ⟨put_St L m1 h.1 (fun a ha => ⟨h8 a ha, ha⟩), fun a ha j => ⟨fun hj => ?_, fun hj => ?_⟩⟩
  · rw [put_row (by omega) L m1 a j hn]
    by_cases q : j = k
    · rw [if_pos ⟨ha, q⟩, q]
      exact (h.2 a ha (off + k)).2 (by omega)
    · rw [if_neg (fun z => q z.2)]
      exact (h.2 a ha j).1 (by omega)
  · rw [put_row (by omega) L m1 a j hn, if_neg (fun z => by omega)]
    exact (h.2 a ha j).2 hj
theorem CpK.rf {L : List Nat} {off : Nat} {m : MM} (hM : Mok TYg m) : CpK L off 0 m m := ⟨St.rf hM, fun a _ j => ⟨fun h => absurd h (Nat.not_lt_zero j), fun _ => rfl⟩⟩
section Ly
variable {Q : QQ} {m0 : MM}
set_option maxRecDepth 100000 in
set_option maxHeartbeats 4000000 in
theorem ly52 (K : ∀ m2, CpK [42168, 42184] 5 5 m0 m2 → At (E0 1) mX7_lays Q 93 [.ref 1175, .int 0] [] m2) : ∀ (n k : Nat) (kI : Int32) (m1 : MM), kI.toInt = k → k + n = 5 → CpK [42168, 42184] 5 k m0 m1 → At (E0 1) mX7_lays Q 52 [.ref 1175, .int kI] [] m1 := by
  have eo : (5 : Int32).toInt = 5 := rfl
  intro n
  induction n with
  | zero =>
    intro k kI m1 hk hn h
    obtain rfl : k = 5 := by omega
    refine At.ls okX7_lays 60 ⟨_, _, rfl⟩ ?_
    (conv => whnf)
    refine And.intro (fun _ => ?_) (fun z => absurd (le_i.mpr (by omega)) z)
    (conv => whnf)
    exact And.intro rfl (K m1 h)
  | succ n ih =>
    intro k kI m1 hk hn h
    have e1 : (kI + 1).toInt = ((k + 1 : Nat) : Int) := by rw [inc1 (by omega), hk]; omega
    have e5 : ((5 : Int32) + kI).toInt = ((5 + k : Nat) : Int) := by
      rw [tI_add (by rw [eo]; unfold i32lo; omega) (by rw [eo]; unfold i32hi; omega), eo, hk]; omega
    have v1 : vp_in kI 10 := vp_in_iff.mpr ⟨by omega, show kI.toInt < ((10 : Nat) : Int) by omega⟩
    have v2 : vp_in ((5 : Int32) + kI) 10 := vp_in_iff.mpr ⟨by omega, show ((5 : Int32) + kI).toInt < ((10 : Nat) : Int) by omega⟩
    have hp : CpK [42168, 42184] 5 (k + 1) m0 (put [42168, 42184] kI.toNatClampNeg ((5 : Int32) + kI).toNatClampNeg m1) := by
      rw [nat_c hk, nat_c e5]
      exact h.go (by omega) (by decide) (by decide)
    refine At.ls okX7_lays 100 ⟨_, _, rfl⟩ ?_
    (conv => whnf)
    refine And.intro (fun z => by rw [le_i] at z; omega) (fun _ => ?_)
    (conv => whnf)
    refine And.intro v2 ?_
    (conv => whnf)
    refine And.intro v1 ?_
    (conv => whnf)
    refine And.intro v2 ?_
    (conv => whnf)
    refine And.intro v1 ?_
    (conv => whnf)
    exact And.intro rfl (ih (k + 1) (kI + 1) _ e1 (by omega) hp)
set_option maxRecDepth 100000 in
set_option maxHeartbeats 4000000 in
theorem ly93 (K : ∀ m2, CpK [34008] 4 4 m0 m2 → At (E0 1) mX7_lays Q 120 [.ref 1175, .int 0] [] m2) : ∀ (n k : Nat) (kI : Int32) (m1 : MM), kI.toInt = k → k + n = 4 → CpK [34008] 4 k m0 m1 → At (E0 1) mX7_lays Q 93 [.ref 1175, .int kI] [] m1 := by
  have eo : (4 : Int32).toInt = 4 := rfl
  intro n
  induction n with
  | zero =>
    intro k kI m1 hk hn h
    obtain rfl : k = 4 := by omega
    refine At.ls okX7_lays 60 ⟨_, _, rfl⟩ ?_
    (conv => whnf)
    refine And.intro (fun _ => ?_) (fun z => absurd (le_i.mpr (by omega)) z)
    (conv => whnf)
    exact And.intro rfl (K m1 h)
  | succ n ih =>
    intro k kI m1 hk hn h
    have e1 : (kI + 1).toInt = ((k + 1 : Nat) : Int) := by rw [inc1 (by omega), hk]; omega
    have e5 : ((4 : Int32) + kI).toInt = ((4 + k : Nat) : Int) := by
      rw [tI_add (by rw [eo]; unfold i32lo; omega) (by rw [eo]; unfold i32hi; omega), eo, hk]; omega
    have v1 : vp_in kI 8 := vp_in_iff.mpr ⟨by omega, show kI.toInt < ((8 : Nat) : Int) by omega⟩
    have v2 : vp_in ((4 : Int32) + kI) 8 := vp_in_iff.mpr ⟨by omega, show ((4 : Int32) + kI).toInt < ((8 : Nat) : Int) by omega⟩
    have hp : CpK [34008] 4 (k + 1) m0 (put [34008] kI.toNatClampNeg ((4 : Int32) + kI).toNatClampNeg m1) := by
      rw [nat_c hk, nat_c e5]
      exact h.go (by omega) (by decide) (by decide)
    refine At.ls okX7_lays 100 ⟨_, _, rfl⟩ ?_
    (conv => whnf)
    refine And.intro (fun z => by rw [le_i] at z; omega) (fun _ => ?_)
    (conv => whnf)
    refine And.intro v2 ?_
    (conv => whnf)
    refine And.intro v1 ?_
    (conv => whnf)
    exact And.intro rfl (ih (k + 1) (kI + 1) _ e1 (by omega) hp)
set_option maxRecDepth 100000 in
set_option maxHeartbeats 4000000 in
theorem ly120 (K : ∀ m2, CpK [99560, 99576, 99592, 99608, 99624, 99640] 12 12 m0 m2 → At (E0 1) mX7_lays Q 224 [.ref 1175, .int 0] [] m2) : ∀ (n k : Nat) (kI : Int32) (m1 : MM), kI.toInt = k → k + n = 12 → CpK [99560, 99576, 99592, 99608, 99624, 99640] 12 k m0 m1 → At (E0 1) mX7_lays Q 120 [.ref 1175, .int kI] [] m1 := by
  have eo : (12 : Int32).toInt = 12 := rfl
  intro n
  induction n with
  | zero =>
    intro k kI m1 hk hn h
    obtain rfl : k = 12 := by omega
    refine At.ls okX7_lays 60 ⟨_, _, rfl⟩ ?_
    (conv => whnf)
    refine And.intro (fun _ => ?_) (fun z => absurd (le_i.mpr (by omega)) z)
    (conv => whnf)
    exact And.intro rfl (K m1 h)
  | succ n ih =>
    intro k kI m1 hk hn h
    have e1 : (kI + 1).toInt = ((k + 1 : Nat) : Int) := by rw [inc1 (by omega), hk]; omega
    have e5 : ((12 : Int32) + kI).toInt = ((12 + k : Nat) : Int) := by
      rw [tI_add (by rw [eo]; unfold i32lo; omega) (by rw [eo]; unfold i32hi; omega), eo, hk]; omega
    have v1 : vp_in kI 24 := vp_in_iff.mpr ⟨by omega, show kI.toInt < ((24 : Nat) : Int) by omega⟩
    have v2 : vp_in ((12 : Int32) + kI) 24 := vp_in_iff.mpr ⟨by omega, show ((12 : Int32) + kI).toInt < ((24 : Nat) : Int) by omega⟩
    have hp : CpK [99560, 99576, 99592, 99608, 99624, 99640] 12 (k + 1) m0 (put [99560, 99576, 99592, 99608, 99624, 99640] kI.toNatClampNeg ((12 : Int32) + kI).toNatClampNeg m1) := by
      rw [nat_c hk, nat_c e5]
      exact h.go (by omega) (by decide) (by decide)
    refine At.ls okX7_lays 100 ⟨_, _, rfl⟩ ?_
    (conv => whnf)
    refine And.intro (fun z => by rw [le_i] at z; omega) (fun _ => ?_)
    (conv => whnf)
    refine And.intro v2 ?_
    (conv => whnf)
    refine And.intro v1 ?_
    (conv => whnf)
    refine And.intro v2 ?_
    (conv => whnf)
    refine And.intro v1 ?_
    (conv => whnf)
    refine And.intro v2 ?_
    (conv => whnf)
    refine And.intro v1 ?_
    (conv => whnf)
    refine And.intro v2 ?_
    (conv => whnf)
    refine And.intro v1 ?_
    (conv => whnf)
    refine And.intro v2 ?_
    (conv => whnf)
    refine And.intro v1 ?_
    (conv => whnf)
    refine And.intro v2 ?_
    (conv => whnf)
    refine And.intro v1 ?_
    (conv => whnf)
    exact And.intro rfl (ih (k + 1) (kI + 1) _ e1 (by omega) hp)
set_option maxRecDepth 100000 in
set_option maxHeartbeats 4000000 in
theorem ly224 (K : ∀ m2, CpK [329048, 329064, 329080, 329096, 329112, 329128, 329144] 40 40 m0 m2 → Q none m2) : ∀ (n k : Nat) (kI : Int32) (m1 : MM), kI.toInt = k → k + n = 40 → CpK [329048, 329064, 329080, 329096, 329112, 329128, 329144] 40 k m0 m1 → At (E0 1) mX7_lays Q 224 [.ref 1175, .int kI] [] m1 := by
  have eo : (40 : Int32).toInt = 40 := rfl
  intro n
  induction n with
  | zero =>
    intro k kI m1 hk hn h
    obtain rfl : k = 40 := by omega
    refine At.ls okX7_lays 60 ⟨_, _, rfl⟩ ?_
    (conv => whnf)
    refine And.intro (fun _ => ?_) (fun z => absurd (le_i.mpr (by omega)) z)
    exact K m1 h
  | succ n ih =>
    intro k kI m1 hk hn h
    have e1 : (kI + 1).toInt = ((k + 1 : Nat) : Int) := by rw [inc1 (by omega), hk]; omega
    have e5 : ((40 : Int32) + kI).toInt = ((40 + k : Nat) : Int) := by
      rw [tI_add (by rw [eo]; unfold i32lo; omega) (by rw [eo]; unfold i32hi; omega), eo, hk]; omega
    have v1 : vp_in kI 80 := vp_in_iff.mpr ⟨by omega, show kI.toInt < ((80 : Nat) : Int) by omega⟩
    have v2 : vp_in ((40 : Int32) + kI) 80 := vp_in_iff.mpr ⟨by omega, show ((40 : Int32) + kI).toInt < ((80 : Nat) : Int) by omega⟩
    have hp : CpK [329048, 329064, 329080, 329096, 329112, 329128, 329144] 40 (k + 1) m0 (put [329048, 329064, 329080, 329096, 329112, 329128, 329144] kI.toNatClampNeg ((40 : Int32) + kI).toNatClampNeg m1) := by
      rw [nat_c hk, nat_c e5]
      exact h.go (by omega) (by decide) (by decide)
    refine At.ls okX7_lays 100 ⟨_, _, rfl⟩ ?_
    (conv => whnf)
    refine And.intro (fun z => by rw [le_i] at z; omega) (fun _ => ?_)
    (conv => whnf)
    refine And.intro v2 ?_
    (conv => whnf)
    refine And.intro v1 ?_
    (conv => whnf)
    refine And.intro v2 ?_
    (conv => whnf)
    refine And.intro v1 ?_
    (conv => whnf)
    refine And.intro v2 ?_
    (conv => whnf)
    refine And.intro v1 ?_
    (conv => whnf)
    refine And.intro v2 ?_
    (conv => whnf)
    refine And.intro v1 ?_
    (conv => whnf)
    refine And.intro v2 ?_
    (conv => whnf)
    refine And.intro v1 ?_
    (conv => whnf)
    refine And.intro v2 ?_
    (conv => whnf)
    refine And.intro v1 ?_
    (conv => whnf)
    refine And.intro v2 ?_
    (conv => whnf)
    refine And.intro v1 ?_
    (conv => whnf)
    exact And.intro rfl (ih (k + 1) (kI + 1) _ e1 (by omega) hp)
end Ly
/-- the model's first rows hold a book -/
def MoN (B : TB) (m : MM) : Prop := (∀ k, k < 4 → (gI m 1175 (k + 3)).toInt = B.1 k) ∧ ∀ r, r < 17 → r ≠ 9 → ∀ i, i < B.1 (own r) → (gI m (rowM r) i).toInt = B.2 r i
set_option maxRecDepth 100000 in
set_option maxHeartbeats 4000000 in
theorem s_lays {m : MM} {B : TB} (hM : Mok TYg m) (hB : MoI B m) : CV 1 mX7_lays [.ref 1175] m (fun m' => St wLy m m' ∧ MoN B m' ∧ gI m' 1175 7 = gI m' 1175 6 ∧ gI m' 1175 39 = 0 ∧ gI m' 1175 40 = 0) := by
  obtain ⟨ok1, ok2, ok3, ok4, ok5⟩ := hB.2.2
  have c0 : (gI m 1175 25).toInt = B.1 0 := hB.1 0 (by omega)
  have c1 : (gI m 1175 26).toInt = B.1 1 := hB.1 1 (by omega)
  have c2 : (gI m 1175 27).toInt = B.1 2 := hB.1 2 (by omega)
  have c3 : (gI m 1175 28).toInt = B.1 3 := hB.1 3 (by omega)
  have f : ∀ {m1 : MM} {k : Nat} {v : Int32}, St wLy m m1 → wk 1175 k ∈ wLy → (k = 3 ∨ k = 4 ∨ k = 5 ∨ k = 6 ∨ k = 7 ∨ k = 39 ∨ k = 40) → (tyF TYg.1 TYg.2 1175 k).1 ≤ v.toInt → v.toInt ≤ (tyF TYg.1 TYg.2 1175 k).2 → St wLy m (sI m1 1175 k v) := fun hS ha hk h1 h2 => hS.fld ha h1 h2 (fun _ z => by omega)
  have S1 : St wLy m (sI (sI (sI (sI (sI (sI (sI m 1175 3 (gI m 1175 25)) 1175 4 (gI m 1175 26)) 1175 5 (gI m 1175 27)) 1175 6 (gI m 1175 28)) 1175 7 (gI m 1175 28)) 1175 39 0) 1175 40 0) :=
    f (k := 40) (f (k := 39) (f (k := 7) (f (k := 6) (f (k := 5) (f (k := 4) (f (k := 3) (St.rf hM) (by decide) (by omega) (show (0 : Int) ≤ _ by omega) (show _ ≤ (5 : Int) by omega)) (by decide) (by omega) (show (0 : Int) ≤ _ by omega) (show _ ≤ (4 : Int) by omega)) (by decide) (by omega) (show (0 : Int) ≤ _ by omega) (show _ ≤ (12 : Int) by omega)) (by decide) (by omega) (show (0 : Int) ≤ _ by omega) (show _ ≤ (40 : Int) by omega)) (by decide) (by omega) (show (0 : Int) ≤ _ by omega) (show _ ≤ (40 : Int) by omega)) (by decide) (by omega) (by decide) (by decide)) (by decide) (by omega) (by decide) (by decide)
  refine At.gs okX7_lays 60 ?_
  (conv => whnf)
  refine And.intro rfl (ly52 (m0 := sI (sI (sI (sI (sI (sI (sI m 1175 3 (gI m 1175 25)) 1175 4 (gI m 1175 26)) 1175 5 (gI m 1175 27)) 1175 6 (gI m 1175 28)) 1175 7 (gI m 1175 28)) 1175 39 0) 1175 40 0) (fun m2 p2 => ly93 (m0 := m2) (fun m3 p3 => ly120 (m0 := m3) (fun m4 p4 => ly224 (m0 := m4) (fun m5 p5 => ?_) 40 0 0 m4 rfl rfl (CpK.rf p4.1.1)) 12 0 0 m3 rfl rfl (CpK.rf p3.1.1)) 4 0 0 m2 rfl rfl (CpK.rf p2.1.1)) 5 0 0 _ rfl rfl (CpK.rf S1.1))
  have T5 := (((S1.tr p2.1 (by decide)).tr p3.1 (by decide)).tr p4.1 (by decide)).tr p5.1 (by decide)
  have u : ∀ k, gI m5 1175 k = gI (sI (sI (sI (sI (sI (sI (sI m 1175 3 (gI m 1175 25)) 1175 4 (gI m 1175 26)) 1175 5 (gI m 1175 27)) 1175 6 (gI m 1175 28)) 1175 7 (gI m 1175 28)) 1175 39 0) 1175 40 0) 1175 k := fun k => by
    have nf : ∀ (L : List Nat), (∀ a ∈ L, a < 4294967296) → ¬ wk 1175 k ∈ L := fun L hL q => by
      have := hL _ q
      have e : wk 1175 k = 1175 + 4294967296 * (k + 1) := rfl
      omega
    rw [fr1 p5.1.2.2 (nf _ (by decide)), fr1 p4.1.2.2 (nf _ (by decide)), fr1 p3.1.2.2 (nf _ (by decide)), fr1 p2.1.2.2 (nf _ (by decide))]
  have r0 : ∀ a q, a ≠ 1175 → gI (sI (sI (sI (sI (sI (sI (sI m 1175 3 (gI m 1175 25)) 1175 4 (gI m 1175 26)) 1175 5 (gI m 1175 27)) 1175 6 (gI m 1175 28)) 1175 7 (gI m 1175 28)) 1175 39 0) 1175 40 0) a q = gI m a q := fun a q ha => by
    rw [gI_if, if_neg (fun z => ha z.1), gI_if, if_neg (fun z => ha z.1), gI_if, if_neg (fun z => ha z.1), gI_if, if_neg (fun z => ha z.1), gI_if, if_neg (fun z => ha z.1), gI_if, if_neg (fun z => ha z.1), gI_if, if_neg (fun z => ha z.1)]
  refine ⟨T5, ⟨fun k hk => ?_, fun r hr h9 i hi => ?_⟩, ?_, ?_, ?_⟩
  · rcases (by omega : k = 0 ∨ k = 1 ∨ k = 2 ∨ k = 3) with rfl | rfl | rfl | rfl
    · rw [u 3]; exact c0
    · rw [u 4]; exact c1
    · rw [u 5]; exact c2
    · rw [u 6]; exact c3
  · have key : gI m5 (rowM r) i = gI m (rowM r) (offM r + i) := by
      rcases (by omega : r = 0 ∨ r = 1 ∨ r = 2 ∨ r = 3 ∨ r = 4 ∨ r = 5 ∨ r = 6 ∨ r = 7 ∨ r = 8 ∨ r = 10 ∨ r = 11 ∨ r = 12 ∨ r = 13 ∨ r = 14 ∨ r = 15 ∨ r = 16) with rfl | rfl | rfl | rfl | rfl | rfl | rfl | rfl | rfl | rfl | rfl | rfl | rfl | rfl | rfl | rfl
      · have hi : i < B.1 0 := hi
        rw [row1 p5.1.2.2 (a := rowM 0) rfl (by decide), row1 p4.1.2.2 (a := rowM 0) rfl (by decide), row1 p3.1.2.2 (a := rowM 0) rfl (by decide)]
        exact ((p2.2 (rowM 0) (by decide) i).1 (by omega)).trans (r0 _ _ (by decide))
      · have hi : i < B.1 0 := hi
        rw [row1 p5.1.2.2 (a := rowM 1) rfl (by decide), row1 p4.1.2.2 (a := rowM 1) rfl (by decide), row1 p3.1.2.2 (a := rowM 1) rfl (by decide)]
        exact ((p2.2 (rowM 1) (by decide) i).1 (by omega)).trans (r0 _ _ (by decide))
      · have hi : i < B.1 1 := hi
        rw [row1 p5.1.2.2 (a := rowM 2) rfl (by decide), row1 p4.1.2.2 (a := rowM 2) rfl (by decide)]
        exact ((p3.2 (rowM 2) (by decide) i).1 (by omega)).trans ((row1 p2.1.2.2 (a := rowM 2) rfl (by decide)).trans (r0 _ _ (by decide)))
      · have hi : i < B.1 2 := hi
        rw [row1 p5.1.2.2 (a := rowM 3) rfl (by decide)]
        exact ((p4.2 (rowM 3) (by decide) i).1 (by omega)).trans ((row1 p3.1.2.2 (a := rowM 3) rfl (by decide)).trans ((row1 p2.1.2.2 (a := rowM 3) rfl (by decide)).trans (r0 _ _ (by decide))))
      · have hi : i < B.1 2 := hi
        rw [row1 p5.1.2.2 (a := rowM 4) rfl (by decide)]
        exact ((p4.2 (rowM 4) (by decide) i).1 (by omega)).trans ((row1 p3.1.2.2 (a := rowM 4) rfl (by decide)).trans ((row1 p2.1.2.2 (a := rowM 4) rfl (by decide)).trans (r0 _ _ (by decide))))
      · have hi : i < B.1 2 := hi
        rw [row1 p5.1.2.2 (a := rowM 5) rfl (by decide)]
        exact ((p4.2 (rowM 5) (by decide) i).1 (by omega)).trans ((row1 p3.1.2.2 (a := rowM 5) rfl (by decide)).trans ((row1 p2.1.2.2 (a := rowM 5) rfl (by decide)).trans (r0 _ _ (by decide))))
      · have hi : i < B.1 2 := hi
        rw [row1 p5.1.2.2 (a := rowM 6) rfl (by decide)]
        exact ((p4.2 (rowM 6) (by decide) i).1 (by omega)).trans ((row1 p3.1.2.2 (a := rowM 6) rfl (by decide)).trans ((row1 p2.1.2.2 (a := rowM 6) rfl (by decide)).trans (r0 _ _ (by decide))))
      · have hi : i < B.1 2 := hi
        rw [row1 p5.1.2.2 (a := rowM 7) rfl (by decide)]
        exact ((p4.2 (rowM 7) (by decide) i).1 (by omega)).trans ((row1 p3.1.2.2 (a := rowM 7) rfl (by decide)).trans ((row1 p2.1.2.2 (a := rowM 7) rfl (by decide)).trans (r0 _ _ (by decide))))
      · have hi : i < B.1 2 := hi
        rw [row1 p5.1.2.2 (a := rowM 8) rfl (by decide)]
        exact ((p4.2 (rowM 8) (by decide) i).1 (by omega)).trans ((row1 p3.1.2.2 (a := rowM 8) rfl (by decide)).trans ((row1 p2.1.2.2 (a := rowM 8) rfl (by decide)).trans (r0 _ _ (by decide))))
      · have hi : i < B.1 3 := hi
        exact ((p5.2 (rowM 10) (by decide) i).1 (by omega)).trans ((row1 p4.1.2.2 (a := rowM 10) rfl (by decide)).trans ((row1 p3.1.2.2 (a := rowM 10) rfl (by decide)).trans ((row1 p2.1.2.2 (a := rowM 10) rfl (by decide)).trans (r0 _ _ (by decide)))))
      · have hi : i < B.1 3 := hi
        exact ((p5.2 (rowM 11) (by decide) i).1 (by omega)).trans ((row1 p4.1.2.2 (a := rowM 11) rfl (by decide)).trans ((row1 p3.1.2.2 (a := rowM 11) rfl (by decide)).trans ((row1 p2.1.2.2 (a := rowM 11) rfl (by decide)).trans (r0 _ _ (by decide)))))
      · have hi : i < B.1 3 := hi
        exact ((p5.2 (rowM 12) (by decide) i).1 (by omega)).trans ((row1 p4.1.2.2 (a := rowM 12) rfl (by decide)).trans ((row1 p3.1.2.2 (a := rowM 12) rfl (by decide)).trans ((row1 p2.1.2.2 (a := rowM 12) rfl (by decide)).trans (r0 _ _ (by decide)))))
      · have hi : i < B.1 3 := hi
        exact ((p5.2 (rowM 13) (by decide) i).1 (by omega)).trans ((row1 p4.1.2.2 (a := rowM 13) rfl (by decide)).trans ((row1 p3.1.2.2 (a := rowM 13) rfl (by decide)).trans ((row1 p2.1.2.2 (a := rowM 13) rfl (by decide)).trans (r0 _ _ (by decide)))))
      · have hi : i < B.1 3 := hi
        exact ((p5.2 (rowM 14) (by decide) i).1 (by omega)).trans ((row1 p4.1.2.2 (a := rowM 14) rfl (by decide)).trans ((row1 p3.1.2.2 (a := rowM 14) rfl (by decide)).trans ((row1 p2.1.2.2 (a := rowM 14) rfl (by decide)).trans (r0 _ _ (by decide)))))
      · have hi : i < B.1 3 := hi
        exact ((p5.2 (rowM 15) (by decide) i).1 (by omega)).trans ((row1 p4.1.2.2 (a := rowM 15) rfl (by decide)).trans ((row1 p3.1.2.2 (a := rowM 15) rfl (by decide)).trans ((row1 p2.1.2.2 (a := rowM 15) rfl (by decide)).trans (r0 _ _ (by decide)))))
      · have hi : i < B.1 3 := hi
        exact ((p5.2 (rowM 16) (by decide) i).1 (by omega)).trans ((row1 p4.1.2.2 (a := rowM 16) rfl (by decide)).trans ((row1 p3.1.2.2 (a := rowM 16) rfl (by decide)).trans ((row1 p2.1.2.2 (a := rowM 16) rfl (by decide)).trans (r0 _ _ (by decide)))))
    rw [key]
    exact hB.2.1 r hr i hi
  · rw [u 7, u 6]; rfl
  · rw [u 39]; rfl
  · rw [u 40]; rfl
