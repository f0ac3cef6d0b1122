/-! the law's call of look, in a context -/
set_option maxRecDepth 100000 in
theorem m_thr {f : Nat → Nat → Int32} {g : Nat → Nat → Int64} {c : Nat × Nat} : CI 1 mX7_thrown [.ref 1175] (f, g, c) (fun r m' => r = f 1175 0) := by
  refine At.gs okX7_thrown 30 ?_
  conv => whnf
  rfl
section LawLk
variable {p : Program} {l : Launch} {e : Env} {R : Room} {s : State} {mid : MethodId} {args : Array Value} {below : List Frame} {meth : Method} {c : Code} {dC : Nat → ClassId} {dI : Nat → Nat → Nat} {dA : Nat → ClassId} {ad : Nat → Nat} {b : Nat} {A : Nat → Prop} {C0 S0 : Nat} {Qf : State → Prop} {f : Nat → Nat → Int32} {g : Nat → Nat → Int64} {sa : Nat} {xs : Nat → Int32}
set_option maxRecDepth 100000 in
set_option maxHeartbeats 4000000 in
theorem law_lk (hfl : l.stackTraces = false) (hZ : ZC f) (hM : ZM f) (h4 : xs 0 &&& 31 = 4) (hX : XcL A sa s s.heap) (hC : Cx (16, 8, xs) mL_law p R s mid args c dC dI dA A C0 S0 b) (hC2 : Cx (16, 8, xs) mL_law p R s mid args c dC dI dA A (C0 + 1) (S0 + 6) b)
    (hR : Rt mL_law (fun r _ => r = some (.int 1)) p l e R s mid args below meth c dC dI dA ad A C0 S0 Qf) (hR2 : Rt mL_law (fun r _ => r = some (.int 1)) p l e R s mid args below meth c dC dI dA ad A (C0 + 1) (S0 + 6) Qf) (hR3 : C0 + 1 ≤ R.cells) (hR4 : S0 + 6 ≤ R.slots) :
    AtC mL_law p l e R s mid args below meth c dC dI dA ad b A C0 S0 Qf 23 [.retAddr 0, .ref 6, .ref 1175, .ref 5737, .int 0, .null, .null] [] (f, g, (336, 720)) := by
  refine AtC.lp (K := fun pc ls st m => Stq pc (AtC mL_law p l e R s mid args below meth c dC dI dA ad b A C0 S0 Qf pc ls st m)) okL_law hC hR (fun _ _ _ _ h => h.2) 400 ⟨_, _, rfl⟩ ?_
  conv => whnf
  refine And.intro (fun q => absurd q (show ¬ Int32.ofNat 8 - 8 < 0 by decide)) (fun _ => ?_)
  conv => whnf
  refine And.intro lv0 ?_
  conv => whnf
  refine And.intro (fun h => absurd (h4.symm.trans h) (by decide)) (fun _ => ?_)
  refine And.intro (fun h => absurd (h4.symm.trans h) (by decide)) (fun _ => ?_)
  refine And.intro (fun h => absurd (h4.symm.trans h) (by decide)) (fun _ => ?_)
  refine And.intro (fun h => absurd (h4.symm.trans h) (by decide)) (fun _ => ?_)
  refine And.intro (fun _ => ?_) (fun n => absurd h4 n)
  conv => whnf
  refine And.intro lv1 ?_
  conv => whnf
  refine And.intro lv2 ?_
  conv => whnf
  refine And.intro rfl (law_look hfl hZ.2.2.2.2.1 hX hC (Nat.le_of_ble_eq_true rfl) hR3 hR4 _ _ ?_)
  refine AtC.go (K := fun pc ls st m => Stq pc (AtC mL_law p l e R s mid args below meth c dC dI dA ad b A (C0 + 1) (S0 + 6) Qf pc ls st m)) okL_law hC2 hR2 (fun _ _ _ _ h => h.2) 400 ?_
  conv => whnf
  refine And.intro lv1 ?_
  conv => whnf
  refine And.intro lv2 ?_
  conv => whnf
  refine ⟨6, (Nat.le_of_ble_eq_true rfl), _, m_look _ _ hM, ?_⟩
  rintro r1 _ ⟨f1, g1, c1, rfl, h1⟩
  conv => whnf
  refine ⟨1, (Nat.le_of_ble_eq_true rfl), _, m_thr, ?_⟩
  rintro _ _ rfl
  conv => whnf
  refine And.intro (fun _ => ?_) (fun n => absurd h1 n)
  conv => whnf
  refine And.intro (fun _ => ?_) (fun n => absurd n (by decide))
  conv => whnf
  exact And.intro rfl (law_exit _ _ _ p l e R s mid args below meth c dC dI dA ad b A _ _ Qf hC2 hR2)
end LawLk
