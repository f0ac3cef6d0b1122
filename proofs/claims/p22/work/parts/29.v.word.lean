/-! word, by hand: the words' places in the text -/
def acWord : AC := ([(2, 1175, 0)], 1, [((0, 0, 8), [], []), ((0, -1, -1), [], [])], [], [])
def Kt (t : Nat) : Nat := 5 * t - t / 8
theorem chW_tab : ∀ t, t < 9 → (∀ q, q < 44 → Kt t ≤ q → q + 1 < Kt (t + 1) → (bytW.getD 0 []).getD q 0 ≠ 32) ∧ (bytW.getD 0 []).getD (Kt (t + 1) - 1) 0 = 32 := by decide +kernel
theorem chW_no {t : Nat} {x : Int32} (ht : t < 9) (h1 : (Kt t : Int) ≤ x.toInt) (h2 : x.toInt + 1 < (Kt (t + 1) : Int)) : chW x ≠ 32 := by
  have e : x.toNatClampNeg = x.toInt.toNat := rfl
  have hb : Kt (t + 1) ≤ 44 := by unfold Kt; omega
  unfold chW
  rw [e]
  exact (chW_tab t ht).1 _ (by omega) (by omega) (by omega)
theorem chW_yes {t : Nat} {x : Int32} (ht : t < 9) (h : x.toInt + 1 = (Kt (t + 1) : Int)) : chW x = 32 := by
  have e : x.toNatClampNeg = x.toInt.toNat := rfl
  unfold chW
  rw [e, show x.toInt.toNat = Kt (t + 1) - 1 by omega]
  exact (chW_tab t ht).2
theorem wEnd {m : MM} (hM : Mok TYg m) {r : Int32} (h : (0 ≤ r.toInt ∧ r.toInt ≤ 8) ∨ r = -1) : PC TYg acWord m [.ref 1175] (some (.int r)) m := by
  rcases h with ⟨h1, h2⟩ | rfl
  · exact ⟨hM, rfl, Fr_rfl _ _, _, List.mem_cons_self, ⟨by decide, ⟨_, rfl, h1, h2⟩⟩, (fun _ h => by cases h), (fun _ h => by cases h)⟩
  · exact ⟨hM, rfl, Fr_rfl _ _, _, List.mem_cons_of_mem _ List.mem_cons_self, ⟨by decide, ⟨_, rfl, by decide, by decide⟩⟩, (fun _ h => by cases h), (fun _ h => by cases h)⟩
set_option maxRecDepth 100000 in
set_option maxHeartbeats 4000000 in
theorem wC {m : MM} {t : Nat} {n i : Int32} (ht : t < 9) (hn : n.toInt = t) (K : ∀ (n' k' : Int32) (v : Value), n'.toInt = t + 1 → k'.toInt = (Kt (t + 1) : Nat) → At (E0 1) mX7_word (PC TYg acWord m [.ref 1175]) 4 [.ref 1175, .int n', .int k', v] [] m) :
    ∀ (f : Nat) (k : Int32), (Kt t : Int) ≤ k.toInt → k.toInt + 1 ≤ (Kt (t + 1) : Int) → (Kt (t + 1) - k.toInt).toNat = f → At (E0 1) mX7_word (PC TYg acWord m [.ref 1175]) 97 [.ref 1175, .int n, .int k, .int i] [] m := by
  have hb : Kt (t + 1) ≤ 44 := by unfold Kt; omega
  intro f
  induction f with
  | zero => intro k h1 h2 h3; omega
  | succ f ih =>
    intro k h1 h2 h3
    have e1 : (k + 1).toInt = k.toInt + 1 := inc1 (by omega)
    have e2 : (n + 1).toInt = n.toInt + 1 := inc1 (by omega)
    refine At.ls okX7_word 60 ⟨_, _, rfl⟩ ?_
    (conv => whnf)
    refine And.intro rfl (And.intro (vp_in_iff.mpr ⟨by omega, show k.toInt < ((44 : Nat) : Int) by omega⟩) ?_)
    (conv => whnf)
    refine And.intro (fun h => ?_) (fun h => ?_)
    · have h : chW k = 32 := h
      have hk : k.toInt + 1 = (Kt (t + 1) : Int) := by
        rcases Int.lt_or_le (k.toInt + 1) (Kt (t + 1) : Int) with q | q
        · exact absurd h (chW_no ht h1 q)
        · omega
      (conv => whnf)
      exact And.intro rfl (K _ _ _ (by omega) (by omega))
    · have h : ¬ chW k = 32 := h
      have hk : ¬ k.toInt + 1 = (Kt (t + 1) : Int) := fun q => h (chW_yes ht q)
      (conv => whnf)
      exact And.intro rfl (ih _ (by omega) (by omega) (by omega))
set_option maxRecDepth 100000 in
set_option maxHeartbeats 4000000 in
theorem wB {m : MM} (hM : Mok TYg m) {t : Nat} {n k : Int32} (ht : t < 9) (hn : n.toInt = t) (hk : k.toInt = (Kt t : Nat)) (hC : ∀ i : Int32, At (E0 1) mX7_word (PC TYg acWord m [.ref 1175]) 97 [.ref 1175, .int n, .int k, .int i] [] m) :
    ∀ (f : Nat) (i : Int32), 0 ≤ i.toInt → (Kt t : Int) + i.toInt + 1 ≤ (Kt (t + 1) : Int) → ((Kt (t + 1) : Int) - Kt t - i.toInt).toNat = f → At (E0 1) mX7_word (PC TYg acWord m [.ref 1175]) 15 [.ref 1175, .int n, .int k, .int i] [] m := by
  have hb : Kt (t + 1) ≤ 44 := by unfold Kt; omega
  have p1 : (0 : Int) ≤ (gI m 1175 31).toInt ∧ (gI m 1175 31).toInt ≤ 800 := hM.1 1175 31
  have p2 : (0 : Int) ≤ (gI m 1175 32).toInt ∧ (gI m 1175 32).toInt ≤ 800 := hM.1 1175 32
  intro f
  induction f with
  | zero => intro i h0 h1 h2; omega
  | succ f ih =>
    intro i h0 h1 h2
    have e1 : (i + 1).toInt = i.toInt + 1 := inc1 (by omega)
    have ek : (k + i).toInt = k.toInt + i.toInt := tI_add (by unfold i32lo; omega) (by unfold i32hi; omega)
    have ep : (gI m 1175 32 + i).toInt = (gI m 1175 32).toInt + i.toInt := tI_add (by unfold i32lo; omega) (by unfold i32hi; omega)
    have vk : vp_in (k + i) 44 := vp_in_iff.mpr ⟨by omega, show (k + i).toInt < ((44 : Nat) : Int) by omega⟩
    refine At.ls okX7_word 80 ⟨_, _, rfl⟩ ?_
    (conv => whnf)
    refine And.intro rfl (And.intro vk ?_)
    (conv => whnf)
    refine And.intro (fun h => ?_) (fun h => ?_)
    · skip
      (conv => whnf)
      refine And.intro rfl (And.intro vk ?_)
      (conv => whnf)
      refine And.intro (fun _ => ?_) (fun _ => ?_)
      · (conv => whnf)
        exact And.intro rfl (hC i)
      · (conv => whnf)
        refine And.intro (fun _ => ?_) (fun _ => ?_)
        · (conv => whnf)
          exact And.intro rfl (hC i)
        · exact wEnd hM (Or.inl ⟨by omega, by omega⟩)
    · have h : ¬ chW (k + i) = 32 := h
      have hl : ¬ (k + i).toInt + 1 = (Kt (t + 1) : Int) := fun q => h (chW_yes ht q)
      (conv => whnf)
      refine And.intro (fun hp => ?_) (fun hp => ?_)
      · skip
        (conv => whnf)
        refine And.intro rfl (And.intro vk ?_)
        (conv => whnf)
        refine And.intro (fun _ => ?_) (fun _ => ?_)
        · (conv => whnf)
          exact And.intro rfl (hC i)
        · (conv => whnf)
          refine And.intro (fun _ => ?_) (fun _ => ?_)
          · (conv => whnf)
            exact And.intro rfl (hC i)
          · exact wEnd hM (Or.inl ⟨by omega, by omega⟩)
      · have hp : ¬ gI m 1175 31 ≤ gI m 1175 32 + i := hp
        rw [le_i] at hp
        (conv => whnf)
        refine And.intro (vp_in_iff.mpr ⟨show 0 ≤ (gI m 1175 32 + i).toInt by omega, show (gI m 1175 32 + i).toInt < ((800 : Nat) : Int) by omega⟩) ?_
        (conv => whnf)
        refine And.intro rfl (And.intro vk ?_)
        (conv => whnf)
        refine And.intro (fun _ => ?_) (fun _ => ?_)
        · skip
          (conv => whnf)
          refine And.intro rfl (And.intro vk ?_)
          (conv => whnf)
          refine And.intro (fun _ => ?_) (fun _ => ?_)
          · (conv => whnf)
            exact And.intro rfl (hC i)
          · (conv => whnf)
            refine And.intro (fun _ => ?_) (fun _ => ?_)
            · (conv => whnf)
              exact And.intro rfl (hC i)
            · exact wEnd hM (Or.inl ⟨by omega, by omega⟩)
        · (conv => whnf)
          exact And.intro rfl (ih _ (by omega) (by omega) (by omega))
set_option maxRecDepth 100000 in
set_option maxHeartbeats 4000000 in
theorem wA {m : MM} (hM : Mok TYg m) : ∀ (f t : Nat), t + f = 9 → ∀ (n k : Int32) (v : Value), n.toInt = t → k.toInt = (Kt t : Nat) → At (E0 1) mX7_word (PC TYg acWord m [.ref 1175]) 4 [.ref 1175, .int n, .int k, v] [] m := by
  intro f
  induction f with
  | zero =>
    intro t ht n k v hn hk
    obtain rfl : t = 9 := by omega
    have hk : k.toInt = 44 := hk
    have e44 : (44 : Int32).toInt = 44 := rfl
    refine At.ls okX7_word 60 ⟨_, _, rfl⟩ ?_
    (conv => whnf)
    refine And.intro rfl ?_
    (conv => whnf)
    refine And.intro (fun h => ?_) (fun h => ?_)
    · exact wEnd hM (Or.inr rfl)
    · exact absurd (le_i.mpr (by omega)) h
  | succ f ih =>
    intro t ht n k v hn hk
    have h9 : t < 9 := by omega
    have hk1 : Kt t + 1 ≤ Kt (t + 1) := by unfold Kt; omega
    refine At.ls okX7_word 60 ⟨_, _, rfl⟩ ?_
    (conv => whnf)
    refine And.intro rfl ?_
    (conv => whnf)
    refine And.intro (fun h => ?_) (fun h => ?_)
    · exact wEnd hM (Or.inr rfl)
    · (conv => whnf)
      exact And.intro rfl (wB hM h9 hn hk (fun i => wC h9 hn (fun n' k' v' q1 q2 => ih (t + 1) (by omega) n' k' v' (by omega) q2) _ k (by omega) (by omega) rfl) _ 0 (by decide) (show (Kt t : Int) + 0 + 1 ≤ _ by omega) rfl)
set_option maxRecDepth 100000 in
theorem hpWord (c : Nat × Nat) : SafeC TYg c mX7_word acWord := by
  intro as m hF hM hc _
  match as, hF with
  | [x0], hF =>
    obtain ⟨e0, _⟩ := hF
    have e0 : x0 = .ref 1175 := e0
    subst e0
    refine At.gs okX7_word 40 ?_
    (conv => whnf)
    exact And.intro rfl (wA hM 9 0 rfl 0 0 .null rfl rfl)
