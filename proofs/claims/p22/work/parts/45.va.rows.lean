/-! rounds: rows grown sale by sale, pruned or not (pure) -/
/-- f 0, f 1 .. f (n - 1), one behind another -/
def rnF (f : Nat → List (List Nat)) : Nat → List (List Nat)
  | 0 => []
  | n + 1 => rnF f n ++ f n
theorem rnF_cg {f g : Nat → List (List Nat)} : ∀ n, (∀ s, s < n → f s = g s) → rnF f n = rnF g n
  | 0, _ => rfl
  | n + 1, h => by
    show rnF f n ++ f n = rnF g n ++ g n
    rw [rnF_cg n (fun s hs => h s (by omega)), h n (by omega)]
theorem rnF_nil {f : Nat → List (List Nat)} : ∀ n, (∀ s, s < n → f s = []) → rnF f n = []
  | 0, _ => rfl
  | n + 1, h => by
    show rnF f n ++ f n = []
    rw [rnF_nil n (fun s hs => h s (by omega)), h n (by omega)]
    rfl
theorem rnF_to {f : Nat → List (List Nat)} {a : Nat} : ∀ n, a ≤ n → (∀ s, a ≤ s → s < n → f s = []) → rnF f n = rnF f a
  | 0, h, _ => by rw [show a = 0 by omega]
  | n + 1, h, hz => by
    by_cases q : a = n + 1
    · rw [q]
    · show rnF f n ++ f n = _
      rw [rnF_to n (by omega) (fun s h1 h2 => hz s h1 (by omega)), hz n (by omega) (by omega), List.append_nil]
theorem rnF_pre {f : Nat → List (List Nat)} {a : Nat} : ∀ n, a ≤ n → ∃ r, rnF f n = rnF f a ++ r
  | 0, h => ⟨[], by rw [show a = 0 by omega, List.append_nil]⟩
  | n + 1, h => by
    by_cases q : a = n + 1
    · exact ⟨[], by rw [q, List.append_nil]⟩
    · obtain ⟨r, hr⟩ := rnF_pre n (show a ≤ n by omega)
      exact ⟨r ++ f n, by show rnF f n ++ f n = _; rw [hr, List.append_assoc]⟩
theorem rnF_mem {f : Nat → List (List Nat)} {x : List Nat} : ∀ n, x ∈ rnF f n → ∃ s, s < n ∧ x ∈ f s
  | 0, h => by cases h
  | n + 1, h => by
    have h : x ∈ rnF f n ++ f n := h
    rcases List.mem_append.mp h with q | q
    · obtain ⟨s, h1, h2⟩ := rnF_mem n q
      exact ⟨s, by omega, h2⟩
    · exact ⟨n, by omega, q⟩
/-- a, if P holds -/
noncomputable def rnP (P : Prop) (a : List (List Nat)) : List (List Nat) := @ite _ P (Classical.propDecidable P) a []
theorem rnP_y {P : Prop} {a : List (List Nat)} (h : P) : rnP P a = a := if_pos h
theorem rnP_n {P : Prop} {a : List (List Nat)} (h : ¬ P) : rnP P a = [] := if_neg h
theorem rnP_cg {P Q : Prop} {a b : List (List Nat)} (h : P ↔ Q) (hab : P → a = b) : rnP P a = rnP Q b := by
  by_cases q : P
  · rw [rnP_y q, rnP_y (h.mp q), hab q]
  · rw [rnP_n q, rnP_n (fun z => q (h.mpr z))]
theorem rnP_mem {P : Prop} {a : List (List Nat)} {x : List Nat} (h : x ∈ rnP P a) : P ∧ x ∈ a := by
  by_cases q : P
  · rw [rnP_y q] at h; exact ⟨q, h⟩
  · rw [rnP_n q] at h; cases h
theorem gD_l {l : List Nat} {i s : Nat} (h : i < l.length) : (l ++ [s]).getD i 0 = l.getD i 0 := by
  rw [List.getD_eq_getElem?_getD, List.getD_eq_getElem?_getD, List.getElem?_append_left h]
theorem gD_r {l : List Nat} {s : Nat} : (l ++ [s]).getD l.length 0 = s := by
  rw [List.getD_eq_getElem?_getD, List.getElem?_append_right (Nat.le_refl _), Nat.sub_self]
  rfl
theorem len_r {l : List Nat} {s : Nat} : (l ++ [s]).length = l.length + 1 := List.length_append
section Ou
variable (N : Nat) (fr g : Nat → Int32) (hm : Int32)
/-- all that grows out of a row, as the class does: no seller twice, asked one sale later -/
noncomputable def rnO (cd : Nat → Nat → Nat → Prop) : Nat → List Nat → Nat → List (List Nat)
  | 0, row, last => rnP (g last = hm ∧ 2 ≤ row.length) [row]
  | n + 1, row, last => rnP (g last = hm ∧ 2 ≤ row.length) [row] ++ rnP (¬ g last = hm ∧ ∀ i, i < row.length → fr (row.getD i 0) ≠ g last) (rnF (fun s => rnP (cd n last s) (rnO cd n (row ++ [s]) s)) N)
/-- all that grows out of a row, as the model does -/
noncomputable def rnM (ft : List Nat → Nat → Prop) : Nat → List Nat → Nat → List (List Nat)
  | 0, row, last => rnP (g last = hm ∧ 2 ≤ row.length) [row]
  | n + 1, row, last => rnP (g last = hm ∧ 2 ≤ row.length) [row] ++ rnP (¬ (g last = hm ∧ 2 ≤ row.length)) (rnF (fun s => rnP (ft row s) (rnM ft n (row ++ [s]) s)) N)
/-- which sales come home by t more at most -/
def rnN (lk : Nat → Nat → Prop) (ok : Nat → Prop) : Nat → Nat → Prop
  | 0, s => ok s ∧ g s = hm
  | t + 1, s => rnN lk ok t s ∨ ∃ j, j < N ∧ lk s j ∧ rnN lk ok t j
end Ou
theorem rnN_0 {N : Nat} {g : Nat → Int32} {hm : Int32} {lk : Nat → Nat → Prop} {ok : Nat → Prop} {s : Nat} (h1 : ok s) (h2 : g s = hm) : ∀ t, rnN N g hm lk ok t s
  | 0 => ⟨h1, h2⟩
  | t + 1 => Or.inl (rnN_0 h1 h2 t)
/-- every row found is two sales at least, each below N -/
theorem rnO_ok {N : Nat} {fr g : Nat → Int32} {hm : Int32} {cd : Nat → Nat → Nat → Prop} {x : List Nat} : ∀ n row last, (∀ i, i < row.length → row.getD i 0 < N) → x ∈ rnO N fr g hm cd n row last → 2 ≤ x.length ∧ x.length ≤ row.length + n ∧ ∀ i, i < x.length → x.getD i 0 < N
  | 0, row, last, hr, h => by
    obtain ⟨h1, h2⟩ := rnP_mem h
    rw [List.mem_singleton.mp h2]
    exact ⟨h1.2, by omega, hr⟩
  | n + 1, row, last, hr, h => by
    rcases List.mem_append.mp h with q | q
    · obtain ⟨h1, h2⟩ := rnP_mem q
      rw [List.mem_singleton.mp h2]
      exact ⟨h1.2, by omega, hr⟩
    · obtain ⟨s, h1, h2⟩ := rnF_mem N (rnP_mem q).2
      have h3 := (rnP_mem h2).2
      have y := rnO_ok n (row ++ [s]) s (fun i hi => by
        rw [len_r] at hi
        by_cases z : i < row.length
        · rw [gD_l z]; exact hr i z
        · rw [show i = row.length by omega, gD_r]; exact h1) h3
      rw [len_r] at y
      exact ⟨y.1, by omega, y.2.2⟩
section Rn
variable (V : VW) (g : Nat → Int32) (st wy : Int32)
/-- not stopped; by marks: it has one -/
def rnK (s : Nat) : Prop := bt st (V.2 10 s) = 0 ∧ (wy = 0 → V.2 16 s ≠ 0)
/-- b may go on behind a -/
def rnL (a b : Nat) : Prop := rnK V st wy a ∧ rnK V st wy b ∧ V.2 10 b = g a ∧ V.2 13 b = V.2 13 a ∧ (wy = 0 → V.2 16 b = V.2 16 a) ∧ (V.2 15 a).toInt ≤ (V.2 15 b).toInt
def rnS (late : Int) (_ last s : Nat) : Prop := rnL V g st wy last s ∧ (V.2 15 s).toInt ≤ late
def rnC (hm : Int32) (late : Int) (n last s : Nat) : Prop := rnL V g st wy last s ∧ rnN (V.1 3) g hm (rnL V g st wy) (rnK V st wy) n s ∧ (V.2 15 s).toInt ≤ late
def rnT (d : Int) (row : List Nat) (s : Nat) : Prop := fitP V g st wy (fun i => row.getD i 0) row.length s ∧ (V.2 15 s).toInt - (V.2 15 (row.getD 0 0)).toInt ≤ d
/-- a sale with which a row may begin, as the model has it -/
def rnB (s : Nat) : Prop := V.2 10 s ≠ g s ∧ (bt st (V.2 10 s) = 0 ∧ bt st (g s) = 0) ∧ (wy = 0 → V.2 16 s ≠ 0)
/-- all rounds, as the class seeks them -/
noncomputable def rnAC (k : Nat) (d : Int) : List (List Nat) := rnF (fun s => rnP (rnK V st wy s) (rnO (V.1 3) (V.2 10) g (V.2 10 s) (rnC V g st wy (V.2 10 s) ((V.2 15 s).toInt + d)) (k - 1) [s] s)) (V.1 3)
/-- all rounds, as the model seeks them -/
noncomputable def rnAM (k : Nat) (d : Int) : List (List Nat) := rnF (fun s => rnP (rnB V g st wy s) (rnM (V.1 3) g (V.2 10 s) (rnT V g st wy d) (k - 1) [s] s)) (V.1 3)
end Rn
section Re
variable {V : VW} {g : Nat → Int32} {st wy : Int32}
theorem rn_near {hm : Int32} {late : Int} : ∀ n row s, rnK V st wy s → rnO (V.1 3) (V.2 10) g hm (rnS V g st wy late) n row s ≠ [] → rnN (V.1 3) g hm (rnL V g st wy) (rnK V st wy) n s
  | 0, row, s, hk, h => by
    by_cases q : g s = hm ∧ 2 ≤ row.length
    · exact ⟨hk, q.1⟩
    · exact absurd (rnP_n q) h
  | n + 1, row, s, hk, h => by
    by_cases q : g s = hm ∧ 2 ≤ row.length
    · exact rnN_0 hk q.1 _
    · by_cases q2 : ∃ j, j < V.1 3 ∧ rnL V g st wy s j ∧ rnN (V.1 3) g hm (rnL V g st wy) (rnK V st wy) n j
      · exact Or.inr q2
      · refine absurd ?_ h
        show rnP _ _ ++ rnP _ _ = []
        rw [rnP_n q, List.nil_append]
        have e : rnF (fun j => rnP (rnS V g st wy late n s j) (rnO (V.1 3) (V.2 10) g hm (rnS V g st wy late) n (row ++ [j]) j)) (V.1 3) = [] := by
          refine rnF_nil _ (fun j hj => ?_)
          by_cases z : rnS V g st wy late n s j
          · rw [rnP_y z]
            refine Classical.byContradiction (fun y => q2 ⟨j, hj, z.1, rn_near n (row ++ [j]) j z.1.2.1 y⟩)
          · exact rnP_n z
        rw [e]
        by_cases z : ¬ g s = hm ∧ ∀ i, i < row.length → V.2 10 (row.getD i 0) ≠ g s
        · exact rnP_y z
        · exact rnP_n z
theorem rn_CS {hm : Int32} {late : Int} : ∀ n row last, rnO (V.1 3) (V.2 10) g hm (rnC V g st wy hm late) n row last = rnO (V.1 3) (V.2 10) g hm (rnS V g st wy late) n row last
  | 0, _, _ => rfl
  | n + 1, row, last => by
    show rnP _ _ ++ rnP _ _ = rnP _ _ ++ rnP _ _
    have e : rnF (fun s => rnP (rnC V g st wy hm late n last s) (rnO (V.1 3) (V.2 10) g hm (rnC V g st wy hm late) n (row ++ [s]) s)) (V.1 3) = rnF (fun s => rnP (rnS V g st wy late n last s) (rnO (V.1 3) (V.2 10) g hm (rnS V g st wy late) n (row ++ [s]) s)) (V.1 3) := by
      refine rnF_cg _ (fun s _ => ?_)
      by_cases z : rnS V g st wy late n last s
      · by_cases y : rnN (V.1 3) g hm (rnL V g st wy) (rnK V st wy) n s
        · rw [rnP_y (P := rnC V g st wy hm late n last s) ⟨z.1, y, z.2⟩, rnP_y z, rn_CS n]
        · rw [rnP_n (fun u : rnC V g st wy hm late n last s => y u.2.1), rnP_y z]
          exact (Classical.byContradiction (fun u => y (rn_near n _ s z.1.2.1 u))).symm
      · rw [rnP_n (fun u : rnC V g st wy hm late n last s => z ⟨u.1, u.2.2⟩), rnP_n z]
    rw [e]
/-- a row on the way: first and last sale, one kind, none stopped -/
def rnI (V : VW) (st wy : Int32) (row : List Nat) (first last : Nat) : Prop := 1 ≤ row.length ∧ row.getD 0 0 = first ∧ row.getD (row.length - 1) 0 = last ∧ ∀ i, i < row.length → rnK V st wy (row.getD i 0) ∧ V.2 13 (row.getD i 0) = V.2 13 first ∧ (wy = 0 → V.2 16 (row.getD i 0) = V.2 16 first)
theorem rnI.go {row : List Nat} {first last s : Nat} (h : rnI V st wy row first last) (hs : rnK V st wy s) (h1 : V.2 13 s = V.2 13 first) (h2 : wy = 0 → V.2 16 s = V.2 16 first) : rnI V st wy (row ++ [s]) first s := by
  obtain ⟨a, b, c, e⟩ := h
  refine ⟨by rw [len_r]; omega, by rw [gD_l (by omega)]; exact b, by rw [len_r, Nat.add_sub_cancel]; exact gD_r, fun i hi => ?_⟩
  rw [len_r] at hi
  by_cases z : i < row.length
  · rw [gD_l z]; exact e i z
  · rw [show i = row.length by omega, gD_r]; exact ⟨hs, h1, h2⟩
/-- nothing grows out of a sale that goes to a firm that is stopped, or to its own seller -/
theorem rn_dead {hm : Int32} {late : Int} {n : Nat} {row : List Nat} {s : Nat} (hh : bt st hm = 0) (h : (V.2 10 s = g s ∧ ¬ g s = hm) ∨ ¬ bt st (g s) = 0) : rnO (V.1 3) (V.2 10) g hm (rnS V g st wy late) n (row ++ [s]) s = [] := by
  have hn : ¬ g s = hm := by
    rcases h with q | q
    · exact q.2
    · intro z
      rw [z] at q
      exact q hh
  have h1 : ¬ (g s = hm ∧ 2 ≤ (row ++ [s]).length) := fun z => hn z.1
  cases n with
  | zero => exact rnP_n h1
  | succ n =>
    show rnP _ _ ++ rnP _ _ = []
    rw [rnP_n h1, List.nil_append]
    rcases h with q | q
    · refine rnP_n (fun z => z.2 row.length (by rw [len_r]; omega) ?_)
      rw [gD_r]
      exact q.1
    · have e : rnF (fun j => rnP (rnS V g st wy late n s j) (rnO (V.1 3) (V.2 10) g hm (rnS V g st wy late) n (row ++ [s] ++ [j]) j)) (V.1 3) = [] := by
        refine rnF_nil _ (fun j _ => rnP_n (fun z => q ?_))
        have y := z.1.2.1.1
        rw [z.1.2.2.1] at y
        exact y
      rw [e]
      by_cases z : ¬ g s = hm ∧ ∀ i, i < (row ++ [s]).length → V.2 10 ((row ++ [s]).getD i 0) ≠ g s
      · exact rnP_y z
      · exact rnP_n z
theorem rn_SM {d : Int} {first : Nat} : ∀ n row last, rnI V st wy row first last → ¬ V.2 10 last = g last → rnO (V.1 3) (V.2 10) g (V.2 10 first) (rnS V g st wy ((V.2 15 first).toInt + d)) n row last = rnM (V.1 3) g (V.2 10 first) (rnT V g st wy d) n row last
  | 0, _, _, _, _ => rfl
  | n + 1, row, last, hI, hne => by
    obtain ⟨i1, i2, i3, i4⟩ := hI
    have kl : rnK V st wy last ∧ V.2 13 last = V.2 13 first ∧ (wy = 0 → V.2 16 last = V.2 16 first) := by
      have := i4 (row.length - 1) (by omega)
      rw [i3] at this
      exact this
    have kf : rnK V st wy first := by
      have := (i4 0 (by omega)).1
      rw [i2] at this
      exact this
    show rnP _ _ ++ rnP _ _ = rnP _ _ ++ rnP _ _
    by_cases q : g last = V.2 10 first
    · rw [rnP_n (fun z : ¬ g last = V.2 10 first ∧ ∀ i, i < row.length → V.2 10 (row.getD i 0) ≠ g last => z.1 q)]
      by_cases z : 2 ≤ row.length
      · rw [rnP_n (fun y : ¬ (g last = V.2 10 first ∧ 2 ≤ row.length) => y ⟨q, z⟩)]
      · exfalso
        apply hne
        have e : last = first := by rw [← i2, ← i3, show row.length - 1 = 0 by omega]
        rw [q, e]
    · rw [rnP_y (P := ¬ (g last = V.2 10 first ∧ 2 ≤ row.length)) (fun y => q y.1)]
      by_cases nd : ∀ i, i < row.length → V.2 10 (row.getD i 0) ≠ g last
      · rw [rnP_y (P := ¬ g last = V.2 10 first ∧ ∀ i, i < row.length → V.2 10 (row.getD i 0) ≠ g last) ⟨q, nd⟩]
        congr 1
        refine rnF_cg _ (fun s _ => ?_)
        by_cases hf : rnT V g st wy d row s
        · obtain ⟨⟨f1, f2, f3, f4, f5, f6, f7⟩, f8⟩ := hf
          have f3 : V.2 10 s = g (row.getD (row.length - 1) 0) := f3
          have f4 : V.2 13 s = V.2 13 (row.getD 0 0) := f4
          have f5 : wy = 0 → V.2 16 s = V.2 16 (row.getD 0 0) := f5
          have f6 : (V.2 15 (row.getD (row.length - 1) 0)).toInt ≤ (V.2 15 s).toInt := f6
          rw [i3] at f3 f6
          rw [i2] at f4 f5 f8
          have ks : rnK V st wy s := ⟨f2.1, fun z => by rw [f5 z]; exact kf.2 z⟩
          have cs : rnS V g st wy ((V.2 15 first).toInt + d) n last s := ⟨⟨kl.1, ks, f3, by rw [f4, kl.2.1], fun z => by rw [f5 z, kl.2.2 z], f6⟩, by omega⟩
          have hf : rnT V g st wy d row s := ⟨⟨f1, f2, by show V.2 10 s = g (row.getD (row.length - 1) 0); rw [i3]; exact f3, by show V.2 13 s = V.2 13 (row.getD 0 0); rw [i2]; exact f4, fun z => by show V.2 16 s = V.2 16 (row.getD 0 0); rw [i2]; exact f5 z, by show (V.2 15 (row.getD (row.length - 1) 0)).toInt ≤ (V.2 15 s).toInt; rw [i3]; exact f6, f7⟩, by rw [i2]; exact f8⟩
          rw [rnP_y cs, rnP_y hf]
          exact rn_SM n (row ++ [s]) s (rnI.go ⟨i1, i2, i3, i4⟩ ks f4 f5) f1
        · rw [rnP_n hf]
          by_cases cs : rnS V g st wy ((V.2 15 first).toInt + d) n last s
          · rw [rnP_y cs]
            obtain ⟨⟨c1, c2, c3, c4, c5, c6⟩, c7⟩ := cs
            refine rn_dead kf.1 ?_
            by_cases y : V.2 10 s = g s
            · exact Or.inl ⟨y, fun z => q (by rw [← c3, y]; exact z)⟩
            · refine Or.inr (fun y2 => hf ⟨⟨y, ⟨c2.1, y2⟩, ?_, ?_, fun z => ?_, ?_, fun i hi => ?_⟩, ?_⟩)
              · show V.2 10 s = g (row.getD (row.length - 1) 0)
                rw [i3]; exact c3
              · show V.2 13 s = V.2 13 (row.getD 0 0)
                rw [i2, c4]; exact kl.2.1
              · show V.2 16 s = V.2 16 (row.getD 0 0)
                rw [i2, c5 z]; exact kl.2.2 z
              · show (V.2 15 (row.getD (row.length - 1) 0)).toInt ≤ (V.2 15 s).toInt
                rw [i3]; exact c6
              · rw [c3]; exact nd i hi
              · rw [i2]; omega
          · rw [rnP_n cs]
      · rw [rnP_n (fun z : ¬ g last = V.2 10 first ∧ ∀ i, i < row.length → V.2 10 (row.getD i 0) ≠ g last => nd z.2)]
        congr 1
        refine (rnF_nil _ (fun s _ => rnP_n (fun hf => nd (fun i hi => ?_)))).symm
        obtain ⟨⟨f1, f2, f3, f4, f5, f6, f7⟩, f8⟩ := hf
        have f3 : V.2 10 s = g (row.getD (row.length - 1) 0) := f3
        rw [i3] at f3
        rw [← f3]
        exact f7 i hi
/-- both lists are one -/
theorem rn_all {k : Nat} {d : Int} : rnAC V g st wy k d = rnAM V g st wy k d := by
  refine rnF_cg _ (fun s _ => ?_)
  show rnP _ _ = rnP _ _
  by_cases hb : rnB V g st wy s
  · have ks : rnK V st wy s := ⟨hb.2.1.1, hb.2.2⟩
    rw [rnP_y ks, rnP_y hb, rn_CS]
    refine rn_SM (k - 1) [s] s ⟨Nat.le_refl _, rfl, rfl, fun i hi => ?_⟩ hb.1
    have hi : i < 1 := hi
    rw [show i = 0 by omega]
    exact ⟨ks, rfl, fun _ => rfl⟩
  · rw [rnP_n hb]
    by_cases ks : rnK V st wy s
    · rw [rnP_y ks, rn_CS]
      by_cases y : V.2 10 s = g s
      · have h1 : ¬ (g s = V.2 10 s ∧ 2 ≤ [s].length) := fun z => absurd (show 2 ≤ 1 from z.2) (by decide)
        cases k - 1 with
        | zero => exact rnP_n h1
        | succ n =>
          show rnP _ _ ++ rnP _ _ = []
          rw [rnP_n h1, List.nil_append]
          exact rnP_n (fun z => z.1 y.symm)
      · exact rn_dead (row := []) ks.1 (Or.inr (fun z => hb ⟨y, ⟨ks.1, z⟩, ks.2⟩))
    · exact rnP_n ks
theorem rnAC_ok {k : Nat} {d : Int} (hk : 2 ≤ k) {x : List Nat} (h : x ∈ rnAC V g st wy k d) : 2 ≤ x.length ∧ x.length ≤ k ∧ ∀ i, i < x.length → x.getD i 0 < V.1 3 := by
  obtain ⟨s, h1, h2⟩ := rnF_mem _ h
  have y := rnO_ok _ _ _ (fun i hi => by
    have hi : i < 1 := hi
    rw [show i = 0 by omega]
    exact h1) (rnP_mem h2).2
  have e : [s].length = 1 := rfl
  rw [e] at y
  exact ⟨y.1, by omega, y.2.2⟩
end Re
/-! rows of sales as one number -/
def encN : List Nat → Nat
  | [] => 0
  | a :: r => a + 64 * encN r
theorem encN_app : ∀ (l : List Nat) (s : Nat), encN (l ++ [s]) = encN l + s * 64 ^ l.length
  | [], s => by show s + 64 * 0 = 0 + s * 64 ^ 0; omega
  | a :: l, s => by
    show a + 64 * encN (l ++ [s]) = a + 64 * encN l + s * 64 ^ (l.length + 1)
    rw [encN_app l s, Nat.pow_succ, Nat.mul_add, Nat.mul_comm (64 ^ l.length) 64, Nat.mul_left_comm 64 s]
    exact (Nat.add_assoc _ _ _).symm
theorem gD_c {a i : Nat} {l : List Nat} : (a :: l).getD (i + 1) 0 = l.getD i 0 := by
  rw [List.getD_eq_getElem?_getD, List.getD_eq_getElem?_getD, List.getElem?_cons_succ]
theorem encN_lt : ∀ (l : List Nat), (∀ i, i < l.length → l.getD i 0 < 64) → encN l < 64 ^ l.length
  | [], _ => Nat.one_pos
  | a :: l, h => by
    have h0 : a < 64 := h 0 (Nat.succ_pos _)
    have ih := encN_lt l (fun i hi => by
      have := h (i + 1) (Nat.succ_lt_succ hi)
      rw [gD_c] at this
      exact this)
    show a + 64 * encN l < 64 ^ (l.length + 1)
    rw [Nat.pow_succ]
    omega
theorem encN_dig : ∀ (l : List Nat) (i : Nat), (∀ i, i < l.length → l.getD i 0 < 64) → encN l / 64 ^ i % 64 = l.getD i 0
  | [], i, _ => by
    show 0 / 64 ^ i % 64 = _
    rw [Nat.zero_div]
    rfl
  | a :: l, 0, h => by
    have h0 : a < 64 := h 0 (Nat.succ_pos _)
    show (a + 64 * encN l) / 1 % 64 = a
    omega
  | a :: l, i + 1, h => by
    have ih := encN_dig l i (fun i hi => by
      have := h (i + 1) (Nat.succ_lt_succ hi)
      rw [gD_c] at this
      exact this)
    have h0 : a < 64 := h 0 (Nat.succ_pos _)
    rw [gD_c, ← ih]
    show (a + 64 * encN l) / 64 ^ (i + 1) % 64 = _
    rw [Nat.pow_succ, Nat.mul_comm (64 ^ i), ← Nat.div_div_eq_div_mul, show (a + 64 * encN l) / 64 = encN l by omega]
