/-! the law's loop, to its end; look's call is a premise here: hlk -/
section LawLoop2
variable {p : Program} {l : Launch} {e : Env} {R : Room} {s : State} {mid : MethodId} {args : Array Value} {below : List Frame} {meth : Method} {c : Code} {dC : Nat → ClassId} {dI : Nat → Nat → Nat} {dA : Nat → ClassId} {ad : Nat → Nat} {b : Nat} {A : Nat → Prop} {Qf : State → Prop} {L : Nat} {xs : Nat → Int32}
/-- the law's call of look, in any state between two calls -/
def LookOk (p : Program) (l : Launch) (e : Env) (R : Room) (s : State) (mid : MethodId) (args : Array Value) (below : List Frame) (meth : Method) (c : Code) (dC : Nat → ClassId) (dI : Nat → Nat → Nat) (dA : Nat → ClassId) (ad : Nat → Nat) (b : Nat) (A : Nat → Prop) (Qf : State → Prop) : Prop :=
  ∀ (C S : Nat) (m : MM) (a0 a1 i : Int32) (x5 x6 : Value), C + 1 ≤ 601024 → S + 6 ≤ 7293034 → LI m → (∀ (k : Int32) (m' : MM), LI m' → AtC mL_law p l e R s mid args below meth c dC dI dA ad b A (C + 1) (S + 6) Qf 333 [.retAddr 0, .ref 6, .ref 1175, .ref 5737, .int i, x5, x6] [.int k] m') → AtC mL_law p l e R s mid args below meth c dC dI dA ad b A C S Qf 330 [.retAddr 0, .ref 6, .ref 1175, .ref 5737, .int i, x5, x6] [.ref 5737, .int a1, .int a0, .ref 6] m
theorem law_loop (hl : L ≤ 4096) (hC : ∀ C S : Nat, C ≤ 601024 → S ≤ 7293034 → Cx (32, L, xs) mL_law p R s mid args c dC dI dA A C S b) (hR : ∀ C S : Nat, C ≤ 601024 → S ≤ 7293034 → Rt mL_law (fun r _ => r = some (.int 1)) p l e R s mid args below meth c dC dI dA ad A C S Qf) (hlk : LookOk p l e R s mid args below meth c dC dI dA ad b A Qf) :
    ∀ (n C S : Nat) (i : Int32) (m : MM) (x5 x6 : Value), C + n + 1 ≤ 601024 → S + 6 * n + 6 ≤ 7293034 → 0 ≤ i.toInt → i.toInt ≤ L → (L : Int) - i.toInt ≤ 8 * n → LI m → AtC mL_law p l e R s mid args below meth c dC dI dA ad b A C S Qf 23 [.retAddr 0, .ref 6, .ref 1175, .ref 5737, .int i, x5, x6] [] m := by
  intro n
  induction n with
  | zero =>
    intro C S i m x5 x6 h1 h2 i0 i1 hn hL
    exact law_step hL hl i0 i1 (hC C S (by omega) (by omega)) (hR C S (by omega) (by omega)) (hC _ _ (by omega) (by omega)) (hR _ _ (by omega) (by omega)) (fun h => by omega) (fun h => by omega) (fun a0 a1 ls e k => by
      subst e
      exact hlk C S m a0 a1 i x5 x6 (by omega) (by omega) hL k)
  | succ n ih =>
    intro C S i m x5 x6 h1 h2 i0 i1 hn hL
    refine law_step hL hl i0 i1 (hC C S (by omega) (by omega)) (hR C S (by omega) (by omega)) (hC _ _ (by omega) (by omega)) (hR _ _ (by omega) (by omega)) (fun h m' y5 y6 hL' => ?_) (fun h m' y5 y6 hL' => ?_) (fun a0 a1 ls e k => by
      subst e
      exact hlk C S m a0 a1 i x5 x6 (by omega) (by omega) hL k)
    · have e8 := addc (x := i) (c := 8) (n := 8) rfl (by omega) (by omega)
      exact ih C S (i + 8) m' y5 y6 (by omega) (by omega) (by omega) (by omega) (by omega) hL'
    · have e8 := addc (x := i) (c := 8) (n := 8) rfl (by omega) (by omega)
      exact ih (C + 1) (S + 6) (i + 8) m' y5 y6 (by omega) (by omega) (by omega) (by omega) (by omega) hL'
end LawLoop2
/-- the fresh memory -/
def f0 : Nat → Nat → Int32 := fun a k => if a = 19 then (if k = 3 then -1 else 0) else if a = 1175 then (if k = 38 then -1 else 0) else 0
def m0 : MM := (f0, fun _ _ => 0, (336, 720))
