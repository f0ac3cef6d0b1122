/-! the law's body on fresh objects -/
theorem At.mono {E : EE} {μ : MI} {P P' : QQ} {pc : Nat} {ls st : List Value} {m : MM} (h : At E μ P pc ls st m) (hp : ∀ r m', P r m' → P' r m') : At E μ P' pc ls st m :=
  fun p l e R s mid args below meth c dC dI dA ad b A C0 S0 Qf hC hR => h p l e R s mid args below meth c dC dI dA ad b A C0 S0 Qf hC (fun r m' H locs la pc hP => hR r m' H locs la pc (hp r m' hP))
theorem CI.mono {d : Nat} {μ : MI} {as : List Value} {m : MM} {P P' : Int32 → MM → Prop} (h : CI d μ as m P) (hp : ∀ x m', P x m' → P' x m') : CI d μ as m P' := At.mono h (fun r m' q => by
  unfold qi at q ⊢
  split at q
  · exact hp _ _ q
  · exact q.elim)
theorem CJ.mono {d : Nat} {μ : MI} {as : List Value} {m : MM} {P P' : Int64 → MM → Prop} (h : CJ d μ as m P) (hp : ∀ x m', P x m' → P' x m') : CJ d μ as m P' := At.mono h (fun r m' q => by
  unfold qj at q ⊢
  split at q
  · exact hp _ _ q
  · exact q.elim)
def Rv (c : Prop) (v r : Int32) : Prop := (c → r = v) ∧ (¬ c → r = -1)
def RvJ (c : Prop) (v r : Int64) : Prop := (c → r = v) ∧ (¬ c → r = -1)
theorem Rv.eq {c : Prop} {v r r2 : Int32} (h : Rv c v r) (h2 : Rv c v r2) : r = r2 := by
  by_cases q : c
  · rw [h.1 q, h2.1 q]
  · rw [h.2 q, h2.2 q]
theorem RvJ.eq {c : Prop} {v r r2 : Int64} (h : RvJ c v r) (h2 : RvJ c v r2) : r = r2 := by
  by_cases q : c
  · rw [h.1 q, h2.1 q]
  · rw [h.2 q, h2.2 q]
theorem ZM_fr {f f' : Nat → Nat → Int32} (h : ZM f) (hF : FrM f f') : ZM f' := by
  unfold ZM at h ⊢
  simp only [hF 2, hF 3, hF 4, hF 5, hF 6, hF 7, hF 37, hF 38, hF 39, hF 40]
  exact h
theorem cmpJ (x : Int64) : lg_cmp x x = 0 := by unfold lg_cmp; rw [if_neg (by rw [gt_iff_lt, Int64.lt_iff_toInt_lt]; omega), if_pos rfl]
set_option maxRecDepth 100000 in
set_option maxHeartbeats 4000000 in
theorem f_roundsR {f : Nat → Nat → Int32} {g : Nat → Nat → Int64} (w : Int32) (k : Int32) (d : Int32) (h : ZC f) : CI 6 mX6_rounds [.ref 6, .int w, .int k, .int d] (f, g, (336, 720)) (fun r m' => Rv ((asked w k d)) 0 r ∧ ∃ f' g' c', m' = (f', g', c') ∧ FrM f f') := by
  by_cases hc : (asked w k d)
  · exact CI.mono (f_roundsY _ _ _ h hc) (fun x m q => ⟨⟨fun _ => q.1, fun n => absurd hc n⟩, q.2⟩)
  · exact CI.mono (f_roundsN _ _ _ h hc) (fun x m q => ⟨⟨fun y => absurd y hc, fun _ => q.1⟩, q.2⟩)
set_option maxRecDepth 100000 in
set_option maxHeartbeats 4000000 in
theorem m_roundsR {f : Nat → Nat → Int32} {g : Nat → Nat → Int64} {c : Nat × Nat} (w : Int32) (k : Int32) (d : Int32) (h : ZM f) : CI 6 mX7_rounds [.ref 1175, .int w, .int k, .int d] (f, g, c) (fun r m' => Rv ((asked w k d)) 0 r) := by
  by_cases hc : (asked w k d)
  · exact CI.mono (m_roundsY _ _ _ h hc) (fun x m q => ⟨fun _ => q, fun n => absurd hc n⟩)
  · exact CI.mono (m_roundsN _ _ _ h hc) (fun x m q => ⟨fun y => absurd y hc, fun _ => q⟩)
set_option maxRecDepth 100000 in
set_option maxHeartbeats 4000000 in
theorem f_takesR {f : Nat → Nat → Int32} {g : Nat → Nat → Int64} (w : Int32) (k : Int32) (d : Int32) (h : ZC f) : CJ 6 mX6_takes [.ref 6, .int w, .int k, .int d] (f, g, (336, 720)) (fun r m' => RvJ ((asked w k d)) 0 r ∧ ∃ f' g' c', m' = (f', g', c') ∧ FrM f f') := by
  by_cases hc : (asked w k d)
  · exact CJ.mono (f_takesY _ _ _ h hc) (fun x m q => ⟨⟨fun _ => q.1, fun n => absurd hc n⟩, q.2⟩)
  · exact CJ.mono (f_takesN _ _ _ h hc) (fun x m q => ⟨⟨fun y => absurd y hc, fun _ => q.1⟩, q.2⟩)
set_option maxRecDepth 100000 in
set_option maxHeartbeats 4000000 in
theorem m_takesR {f : Nat → Nat → Int32} {g : Nat → Nat → Int64} {c : Nat × Nat} (w : Int32) (k : Int32) (d : Int32) (h : ZM f) : CJ 6 mX7_takes [.ref 1175, .int w, .int k, .int d] (f, g, c) (fun r m' => RvJ ((asked w k d)) 0 r) := by
  by_cases hc : (asked w k d)
  · exact CJ.mono (m_takesY _ _ _ h hc) (fun x m q => ⟨fun _ => q, fun n => absurd hc n⟩)
  · exact CJ.mono (m_takesN _ _ _ h hc) (fun x m q => ⟨fun y => absurd y hc, fun _ => q⟩)
set_option maxRecDepth 100000 in
set_option maxHeartbeats 4000000 in
theorem f_knewR {f : Nat → Nat → Int32} {g : Nat → Nat → Int64} (sg : Int32) (w : Int32) (k : Int32) (d : Int32) (wh : Int32) (h : ZC f) : CI 6 mX6_knew [.ref 6, .int sg, .int w, .int k, .int d, .int wh] (f, g, (336, 720)) (fun r m' => Rv ((1 ≤ sg ∧ sg ≤ 15) ∧ (0 ≤ wh ∧ wh ≤ 1) ∧ (asked w k d)) 0 r ∧ ∃ f' g' c', m' = (f', g', c') ∧ FrM f f') := by
  by_cases hc : (1 ≤ sg ∧ sg ≤ 15) ∧ (0 ≤ wh ∧ wh ≤ 1) ∧ (asked w k d)
  · exact CI.mono (f_knewY _ _ _ _ _ h hc.1 hc.2.1 hc.2.2) (fun x m q => ⟨⟨fun _ => q.1, fun n => absurd hc n⟩, q.2⟩)
  · exact CI.mono (f_knewN _ _ _ _ _ h hc) (fun x m q => ⟨⟨fun y => absurd y hc, fun _ => q.1⟩, q.2⟩)
set_option maxRecDepth 100000 in
set_option maxHeartbeats 4000000 in
theorem m_knewR {f : Nat → Nat → Int32} {g : Nat → Nat → Int64} {c : Nat × Nat} (sg : Int32) (w : Int32) (k : Int32) (d : Int32) (wh : Int32) (h : ZM f) : CI 6 mX7_knew [.ref 1175, .int sg, .int w, .int k, .int d, .int wh] (f, g, c) (fun r m' => Rv ((1 ≤ sg ∧ sg ≤ 15) ∧ (0 ≤ wh ∧ wh ≤ 1) ∧ (asked w k d)) 0 r) := by
  by_cases hc : (1 ≤ sg ∧ sg ≤ 15) ∧ (0 ≤ wh ∧ wh ≤ 1) ∧ (asked w k d)
  · exact CI.mono (m_knewY _ _ _ _ _ h hc.1 hc.2.1 hc.2.2) (fun x m q => ⟨fun _ => q, fun n => absurd hc n⟩)
  · exact CI.mono (m_knewN _ _ _ _ _ h hc) (fun x m q => ⟨fun y => absurd y hc, fun _ => q⟩)
set_option maxRecDepth 100000 in
set_option maxHeartbeats 4000000 in
theorem f_fewestR {f : Nat → Nat → Int32} {g : Nat → Nat → Int64} (w : Int32) (k : Int32) (d : Int32) (t : Int64) (h : ZC f) : CI 6 mX6_fewest [.ref 6, .int w, .int k, .int d, .long t] (f, g, (336, 720)) (fun r m' => Rv ((0 ≤ lg_cmp t 0) ∧ (asked w k d)) 0 r ∧ ∃ f' g' c', m' = (f', g', c') ∧ FrM f f') := by
  by_cases hc : (0 ≤ lg_cmp t 0) ∧ (asked w k d)
  · exact CI.mono (f_fewestY _ _ _ _ h hc.1 hc.2) (fun x m q => ⟨⟨fun _ => q.1, fun n => absurd hc n⟩, q.2⟩)
  · exact CI.mono (f_fewestN _ _ _ _ h hc) (fun x m q => ⟨⟨fun y => absurd y hc, fun _ => q.1⟩, q.2⟩)
set_option maxRecDepth 100000 in
set_option maxHeartbeats 4000000 in
theorem m_fewestR {f : Nat → Nat → Int32} {g : Nat → Nat → Int64} {c : Nat × Nat} (w : Int32) (k : Int32) (d : Int32) (t : Int64) (h : ZM f) : CI 6 mX7_fewest [.ref 1175, .int w, .int k, .int d, .long t] (f, g, c) (fun r m' => Rv ((0 ≤ lg_cmp t 0) ∧ (asked w k d)) 0 r) := by
  by_cases hc : (0 ≤ lg_cmp t 0) ∧ (asked w k d)
  · exact CI.mono (m_fewestY _ _ _ _ h hc.1 hc.2) (fun x m q => ⟨fun _ => q, fun n => absurd hc n⟩)
  · exact CI.mono (m_fewestN _ _ _ _ h hc) (fun x m q => ⟨fun y => absurd y hc, fun _ => q⟩)
set_option maxRecDepth 100000 in
set_option maxHeartbeats 4000000 in
theorem f_starveR {f : Nat → Nat → Int32} {g : Nat → Nat → Int64} (w : Int32) (k : Int32) (d : Int32) (pu : Int32) (wh : Int32) (h : ZC f) : CJ 6 mX6_starve [.ref 6, .int w, .int k, .int d, .int pu, .int wh] (f, g, (336, 720)) (fun r m' => RvJ ((¬ pu < 0) ∧ (0 ≤ wh ∧ wh ≤ 2) ∧ (asked w k d)) 0 r ∧ ∃ f' g' c', m' = (f', g', c') ∧ FrM f f') := by
  by_cases hc : (¬ pu < 0) ∧ (0 ≤ wh ∧ wh ≤ 2) ∧ (asked w k d)
  · exact CJ.mono (f_starveY _ _ _ _ _ h hc.1 hc.2.1 hc.2.2) (fun x m q => ⟨⟨fun _ => q.1, fun n => absurd hc n⟩, q.2⟩)
  · exact CJ.mono (f_starveN _ _ _ _ _ h hc) (fun x m q => ⟨⟨fun y => absurd y hc, fun _ => q.1⟩, q.2⟩)
set_option maxRecDepth 100000 in
set_option maxHeartbeats 4000000 in
theorem m_starveR {f : Nat → Nat → Int32} {g : Nat → Nat → Int64} {c : Nat × Nat} (w : Int32) (k : Int32) (d : Int32) (pu : Int32) (wh : Int32) (h : ZM f) : CJ 6 mX7_starve [.ref 1175, .int w, .int k, .int d, .int pu, .int wh] (f, g, c) (fun r m' => RvJ ((¬ pu < 0) ∧ (0 ≤ wh ∧ wh ≤ 2) ∧ (asked w k d)) 0 r) := by
  by_cases hc : (¬ pu < 0) ∧ (0 ≤ wh ∧ wh ≤ 2) ∧ (asked w k d)
  · exact CJ.mono (m_starveY _ _ _ _ _ h hc.1 hc.2.1 hc.2.2) (fun x m q => ⟨fun _ => q, fun n => absurd hc n⟩)
  · exact CJ.mono (m_starveN _ _ _ _ _ h hc) (fun x m q => ⟨fun y => absurd y hc, fun _ => q⟩)
set_option maxRecDepth 100000 in
set_option maxHeartbeats 4000000 in
theorem f_luckR {f : Nat → Nat → Int32} {g : Nat → Nat → Int64} (w : Int32) (k : Int32) (d : Int32) (sd : Int32) (dr : Int32) (h : ZC f) : CI 6 mX6_luck [.ref 6, .int w, .int k, .int d, .int sd, .int dr] (f, g, (336, 720)) (fun r m' => Rv ((¬ sd < 0) ∧ (1 ≤ dr ∧ dr ≤ 10) ∧ (asked w k d)) dr r ∧ ∃ f' g' c', m' = (f', g', c') ∧ FrM f f') := by
  by_cases hc : (¬ sd < 0) ∧ (1 ≤ dr ∧ dr ≤ 10) ∧ (asked w k d)
  · exact CI.mono (f_luckY _ _ _ _ _ h hc.1 hc.2.1 hc.2.2) (fun x m q => ⟨⟨fun _ => q.1, fun n => absurd hc n⟩, q.2⟩)
  · exact CI.mono (f_luckN _ _ _ _ _ h hc) (fun x m q => ⟨⟨fun y => absurd y hc, fun _ => q.1⟩, q.2⟩)
set_option maxRecDepth 100000 in
set_option maxHeartbeats 4000000 in
theorem m_luckR {f : Nat → Nat → Int32} {g : Nat → Nat → Int64} {c : Nat × Nat} (w : Int32) (k : Int32) (d : Int32) (sd : Int32) (dr : Int32) (h : ZM f) : CI 6 mX7_luck [.ref 1175, .int w, .int k, .int d, .int sd, .int dr] (f, g, c) (fun r m' => Rv ((¬ sd < 0) ∧ (1 ≤ dr ∧ dr ≤ 10) ∧ (asked w k d)) dr r) := by
  by_cases hc : (¬ sd < 0) ∧ (1 ≤ dr ∧ dr ≤ 10) ∧ (asked w k d)
  · exact CI.mono (m_luckY _ _ _ _ _ h hc.1 hc.2.1 hc.2.2) (fun x m q => ⟨fun _ => q, fun n => absurd hc n⟩)
  · exact CI.mono (m_luckN _ _ _ _ _ h hc) (fun x m q => ⟨fun y => absurd y hc, fun _ => q⟩)
set_option maxRecDepth 100000 in
set_option maxHeartbeats 4000000 in
theorem m_lackingR {f : Nat → Nat → Int32} {g : Nat → Nat → Int64} {c : Nat × Nat} (mk : Int32) (h : ZM f) : CI 6 mX7_lacking [.ref 1175, .int mk] (f, g, c) (fun r m' => r = (if 1 ≤ mk ∧ mk ≤ 99 then 0 else -1)) := by
  by_cases hc : 1 ≤ mk ∧ mk ≤ 99
  · exact CI.mono (m_lackingY _ h hc) (fun x m q => by rw [q, if_pos hc])
  · exact CI.mono (m_lackingN _ h hc) (fun x m q => by rw [q, if_neg hc])
set_option maxRecDepth 100000 in
set_option maxHeartbeats 4000000 in
theorem law_exit {xs : Nat → Int32} (x5 x6 : Value) (m : MM) : At (16, 8, xs) mL_law (fun r _ => r = some (.int 1)) 23 [.retAddr 0, .ref 6, .ref 1175, .ref 5737, .int (0 + 8), x5, x6] [] m := by
  refine At.ls okL_law 400 ⟨_, _, rfl⟩ ?_
  conv => whnf
  refine And.intro (fun _ => ?_) (fun q => absurd (show Int32.ofNat 8 - 8 < 0 + 8 by decide) q)
  conv => whnf
  refine And.intro (Or.inr rfl) rfl
set_option maxRecDepth 100000 in
set_option maxHeartbeats 4000000 in
theorem law_none {xs : Nat → Int32} {L : Nat} (hL : L < 8) (m : MM) : At (16, L, xs) mL_law (fun r _ => r = some (.int 1)) 23 [.retAddr 0, .ref 6, .ref 1175, .ref 5737, .int 0, .null, .null] [] m := by
  have h0 : Int32.ofNat L - 8 < 0 := by
    rcases (show L = 0 ∨ L = 1 ∨ L = 2 ∨ L = 3 ∨ L = 4 ∨ L = 5 ∨ L = 6 ∨ L = 7 by omega) with rfl | rfl | rfl | rfl | rfl | rfl | rfl | rfl <;> decide
  refine At.ls okL_law 400 ⟨_, _, rfl⟩ ?_
  conv => whnf
  refine And.intro (fun _ => ?_) (fun q => absurd h0 q)
  conv => whnf
  refine And.intro (Or.inr rfl) rfl
theorem lv0 : vp_in (0) 8 := by unfold vp_in; decide
theorem lv1 : vp_in (0 + 1) 8 := by unfold vp_in; decide
theorem lv2 : vp_in (0 + 2) 8 := by unfold vp_in; decide
theorem lv3 : vp_in (0 + 3) 8 := by unfold vp_in; decide
theorem lv4 : vp_in (0 + 4) 8 := by unfold vp_in; decide
theorem lv5 : vp_in (0 + 5) 8 := by unfold vp_in; decide
theorem lv6 : vp_in (0 + 6) 8 := by unfold vp_in; decide
theorem lv7 : vp_in (0 + 7) 8 := by unfold vp_in; decide
set_option maxRecDepth 100000 in
set_option maxHeartbeats 4000000 in
theorem law_run {f : Nat → Nat → Int32} {g : Nat → Nat → Int64} {xs : Nat → Int32} (hZ : ZC f) (hM : ZM f) (h4 : ¬ xs 0 &&& 31 = 4) : At (16, 8, xs) mL_law (fun r _ => r = some (.int 1)) 23 [.retAddr 0, .ref 6, .ref 1175, .ref 5737, .int 0, .null, .null] [] (f, g, (336, 720)) := by
  refine At.ls okL_law 400 ⟨_, _, rfl⟩ ?_
  conv => whnf
  refine And.intro (fun q => absurd q (show ¬ Int32.ofNat 8 - 8 < 0 by decide)) (fun _ => ?_)
  conv => whnf
  refine And.intro lv0 ?_
  conv => whnf
  refine And.intro (fun h => ?_) (fun n0 => ?_)
  · repeat' ((conv => whnf); first | (refine And.intro lv0 ?_) | (refine And.intro lv1 ?_) | (refine And.intro lv2 ?_) | (refine And.intro lv3 ?_) | (refine And.intro lv4 ?_) | (refine And.intro lv5 ?_) | (refine And.intro lv6 ?_) | (refine And.intro lv7 ?_))
    (conv => whnf)
    (refine ⟨4, (Nat.le_of_ble_eq_true rfl), _, f_feed _ _ _ _ _ hZ, ?_⟩; rintro _ _ ⟨rfl, f1, g1, c1, rfl, hF⟩)
    repeat' ((conv => whnf); first | (refine And.intro lv0 ?_) | (refine And.intro lv1 ?_) | (refine And.intro lv2 ?_) | (refine And.intro lv3 ?_) | (refine And.intro lv4 ?_) | (refine And.intro lv5 ?_) | (refine And.intro lv6 ?_) | (refine And.intro lv7 ?_))
    (conv => whnf)
    (refine ⟨6, (Nat.le_of_ble_eq_true rfl), _, m_feed _ _ _ _ _ (ZM_fr hM hF), ?_⟩; rintro _ _ rfl)
    (conv => whnf)
    refine And.intro (fun _ => ?_) (fun q => absurd rfl q)
    (conv => whnf)
    refine And.intro rfl (law_exit _ _ _)
  refine And.intro (fun h => ?_) (fun n1 => ?_)
  · repeat' ((conv => whnf); first | (refine And.intro lv0 ?_) | (refine And.intro lv1 ?_) | (refine And.intro lv2 ?_) | (refine And.intro lv3 ?_) | (refine And.intro lv4 ?_) | (refine And.intro lv5 ?_) | (refine And.intro lv6 ?_) | (refine And.intro lv7 ?_))
    (conv => whnf)
    (refine ⟨8, (Nat.le_of_ble_eq_true rfl), _, f_book _ hZ, ?_⟩; rintro _ _ ⟨rfl, f1, g1, c1, rfl, hF⟩)
    repeat' ((conv => whnf); first | (refine And.intro lv0 ?_) | (refine And.intro lv1 ?_) | (refine And.intro lv2 ?_) | (refine And.intro lv3 ?_) | (refine And.intro lv4 ?_) | (refine And.intro lv5 ?_) | (refine And.intro lv6 ?_) | (refine And.intro lv7 ?_))
    (conv => whnf)
    (refine ⟨6, (Nat.le_of_ble_eq_true rfl), _, m_book _ (ZM_fr hM hF), ?_⟩; rintro _ _ rfl)
    (conv => whnf)
    refine And.intro (fun _ => ?_) (fun q => absurd rfl q)
    (conv => whnf)
    refine And.intro rfl (law_exit _ _ _)
  refine And.intro (fun h => ?_) (fun n2 => ?_)
  · repeat' ((conv => whnf); first | (refine And.intro lv0 ?_) | (refine And.intro lv1 ?_) | (refine And.intro lv2 ?_) | (refine And.intro lv3 ?_) | (refine And.intro lv4 ?_) | (refine And.intro lv5 ?_) | (refine And.intro lv6 ?_) | (refine And.intro lv7 ?_))
    (conv => whnf)
    (refine ⟨4, (Nat.le_of_ble_eq_true rfl), _, f_fault _ hZ, ?_⟩; rintro _ _ ⟨rfl, rfl⟩)
    repeat' ((conv => whnf); first | (refine And.intro lv0 ?_) | (refine And.intro lv1 ?_) | (refine And.intro lv2 ?_) | (refine And.intro lv3 ?_) | (refine And.intro lv4 ?_) | (refine And.intro lv5 ?_) | (refine And.intro lv6 ?_) | (refine And.intro lv7 ?_))
    (conv => whnf)
    (refine ⟨6, (Nat.le_of_ble_eq_true rfl), _, m_fault _ hM, ?_⟩; rintro _ _ rfl)
    (conv => whnf)
    refine And.intro (fun _ => ?_) (fun q => absurd rfl q)
    (conv => whnf)
    refine And.intro rfl (law_exit _ _ _)
  refine And.intro (fun h => ?_) (fun n3 => ?_)
  · repeat' ((conv => whnf); first | (refine And.intro lv0 ?_) | (refine And.intro lv1 ?_) | (refine And.intro lv2 ?_) | (refine And.intro lv3 ?_) | (refine And.intro lv4 ?_) | (refine And.intro lv5 ?_) | (refine And.intro lv6 ?_) | (refine And.intro lv7 ?_))
    (conv => whnf)
    (refine ⟨4, (Nat.le_of_ble_eq_true rfl), _, f_named _ _ hZ, ?_⟩; rintro _ _ ⟨rfl, rfl⟩)
    repeat' ((conv => whnf); first | (refine And.intro lv0 ?_) | (refine And.intro lv1 ?_) | (refine And.intro lv2 ?_) | (refine And.intro lv3 ?_) | (refine And.intro lv4 ?_) | (refine And.intro lv5 ?_) | (refine And.intro lv6 ?_) | (refine And.intro lv7 ?_))
    (conv => whnf)
    (refine ⟨6, (Nat.le_of_ble_eq_true rfl), _, m_named _ _ hM, ?_⟩; rintro _ _ rfl)
    (conv => whnf)
    refine And.intro (fun _ => ?_) (fun q => absurd rfl q)
    (conv => whnf)
    refine And.intro rfl (law_exit _ _ _)
  refine And.intro (fun h => ?_) (fun n4 => ?_)
  · exact absurd h h4
  refine And.intro (fun h => ?_) (fun n5 => ?_)
  · repeat' ((conv => whnf); first | (refine And.intro lv0 ?_) | (refine And.intro lv1 ?_) | (refine And.intro lv2 ?_) | (refine And.intro lv3 ?_) | (refine And.intro lv4 ?_) | (refine And.intro lv5 ?_) | (refine And.intro lv6 ?_) | (refine And.intro lv7 ?_))
    (conv => whnf)
    (refine ⟨5, (Nat.le_of_ble_eq_true rfl), _, f_firm _ _ hZ, ?_⟩; rintro _ _ ⟨rfl, rfl⟩)
    repeat' ((conv => whnf); first | (refine And.intro lv0 ?_) | (refine And.intro lv1 ?_) | (refine And.intro lv2 ?_) | (refine And.intro lv3 ?_) | (refine And.intro lv4 ?_) | (refine And.intro lv5 ?_) | (refine And.intro lv6 ?_) | (refine And.intro lv7 ?_))
    (conv => whnf)
    (refine ⟨6, (Nat.le_of_ble_eq_true rfl), _, m_firm _ _ hM, ?_⟩; rintro _ _ rfl)
    (conv => whnf)
    refine And.intro (fun _ => ?_) (fun q => absurd rfl q)
    (conv => whnf)
    refine And.intro rfl (law_exit _ _ _)
  refine And.intro (fun h => ?_) (fun n6 => ?_)
  · repeat' ((conv => whnf); first | (refine And.intro lv0 ?_) | (refine And.intro lv1 ?_) | (refine And.intro lv2 ?_) | (refine And.intro lv3 ?_) | (refine And.intro lv4 ?_) | (refine And.intro lv5 ?_) | (refine And.intro lv6 ?_) | (refine And.intro lv7 ?_))
    (conv => whnf)
    (refine ⟨5, (Nat.le_of_ble_eq_true rfl), _, f_sell _ _ _ _ _ _ _ hZ, ?_⟩; rintro _ _ ⟨rfl, rfl⟩)
    repeat' ((conv => whnf); first | (refine And.intro lv0 ?_) | (refine And.intro lv1 ?_) | (refine And.intro lv2 ?_) | (refine And.intro lv3 ?_) | (refine And.intro lv4 ?_) | (refine And.intro lv5 ?_) | (refine And.intro lv6 ?_) | (refine And.intro lv7 ?_))
    (conv => whnf)
    (refine ⟨6, (Nat.le_of_ble_eq_true rfl), _, m_sell _ _ _ _ _ _ _ hM, ?_⟩; rintro _ _ rfl)
    (conv => whnf)
    refine And.intro (fun _ => ?_) (fun q => absurd rfl q)
    (conv => whnf)
    refine And.intro rfl (law_exit _ _ _)
  refine And.intro (fun h => ?_) (fun n7 => ?_)
  · repeat' ((conv => whnf); first | (refine And.intro lv0 ?_) | (refine And.intro lv1 ?_) | (refine And.intro lv2 ?_) | (refine And.intro lv3 ?_) | (refine And.intro lv4 ?_) | (refine And.intro lv5 ?_) | (refine And.intro lv6 ?_) | (refine And.intro lv7 ?_))
    (conv => whnf)
    (refine ⟨5, (Nat.le_of_ble_eq_true rfl), _, f_undo  hZ, ?_⟩; rintro _ _ ⟨rfl, rfl⟩)
    repeat' ((conv => whnf); first | (refine And.intro lv0 ?_) | (refine And.intro lv1 ?_) | (refine And.intro lv2 ?_) | (refine And.intro lv3 ?_) | (refine And.intro lv4 ?_) | (refine And.intro lv5 ?_) | (refine And.intro lv6 ?_) | (refine And.intro lv7 ?_))
    (conv => whnf)
    (refine ⟨6, (Nat.le_of_ble_eq_true rfl), _, m_undo  hM, ?_⟩; rintro _ _ rfl)
    (conv => whnf)
    refine And.intro (fun _ => ?_) (fun q => absurd rfl q)
    (conv => whnf)
    refine And.intro rfl (law_exit _ _ _)
  refine And.intro (fun h => ?_) (fun n8 => ?_)
  · repeat' ((conv => whnf); first | (refine And.intro lv0 ?_) | (refine And.intro lv1 ?_) | (refine And.intro lv2 ?_) | (refine And.intro lv3 ?_) | (refine And.intro lv4 ?_) | (refine And.intro lv5 ?_) | (refine And.intro lv6 ?_) | (refine And.intro lv7 ?_))
    (conv => whnf)
    (refine ⟨5, (Nat.le_of_ble_eq_true rfl), _, f_pay _ _ hZ, ?_⟩; rintro _ _ ⟨rfl, rfl⟩)
    repeat' ((conv => whnf); first | (refine And.intro lv0 ?_) | (refine And.intro lv1 ?_) | (refine And.intro lv2 ?_) | (refine And.intro lv3 ?_) | (refine And.intro lv4 ?_) | (refine And.intro lv5 ?_) | (refine And.intro lv6 ?_) | (refine And.intro lv7 ?_))
    (conv => whnf)
    (refine ⟨6, (Nat.le_of_ble_eq_true rfl), _, m_pay _ _ hM, ?_⟩; rintro _ _ rfl)
    (conv => whnf)
    refine And.intro (fun _ => ?_) (fun q => absurd rfl q)
    (conv => whnf)
    refine And.intro rfl (law_exit _ _ _)
  refine And.intro (fun h => ?_) (fun n9 => ?_)
  · repeat' ((conv => whnf); first | (refine And.intro lv0 ?_) | (refine And.intro lv1 ?_) | (refine And.intro lv2 ?_) | (refine And.intro lv3 ?_) | (refine And.intro lv4 ?_) | (refine And.intro lv5 ?_) | (refine And.intro lv6 ?_) | (refine And.intro lv7 ?_))
    (conv => whnf)
    (refine ⟨6, (Nat.le_of_ble_eq_true rfl), _, f_roundsR _ _ _ hZ, ?_⟩; rintro r1 _ ⟨hv1, f1, g1, c1, rfl, hF⟩)
    repeat' ((conv => whnf); first | (refine And.intro lv0 ?_) | (refine And.intro lv1 ?_) | (refine And.intro lv2 ?_) | (refine And.intro lv3 ?_) | (refine And.intro lv4 ?_) | (refine And.intro lv5 ?_) | (refine And.intro lv6 ?_) | (refine And.intro lv7 ?_))
    (conv => whnf)
    (refine ⟨6, (Nat.le_of_ble_eq_true rfl), _, m_roundsR _ _ _ (ZM_fr hM hF), ?_⟩; rintro r2 _ hv2)
    (conv => whnf)
    refine And.intro (fun _ => ?_) (fun q => absurd (Rv.eq hv1 hv2) q)
    (conv => whnf)
    refine And.intro rfl (law_exit _ _ _)
  refine And.intro (fun h => ?_) (fun n10 => ?_)
  · repeat' ((conv => whnf); first | (refine And.intro lv0 ?_) | (refine And.intro lv1 ?_) | (refine And.intro lv2 ?_) | (refine And.intro lv3 ?_) | (refine And.intro lv4 ?_) | (refine And.intro lv5 ?_) | (refine And.intro lv6 ?_) | (refine And.intro lv7 ?_))
    (conv => whnf)
    (refine ⟨6, (Nat.le_of_ble_eq_true rfl), _, f_round _ _ _ _ _ hZ, ?_⟩; rintro _ _ ⟨rfl, f1, g1, c1, rfl, hF⟩)
    repeat' ((conv => whnf); first | (refine And.intro lv0 ?_) | (refine And.intro lv1 ?_) | (refine And.intro lv2 ?_) | (refine And.intro lv3 ?_) | (refine And.intro lv4 ?_) | (refine And.intro lv5 ?_) | (refine And.intro lv6 ?_) | (refine And.intro lv7 ?_))
    (conv => whnf)
    (refine ⟨6, (Nat.le_of_ble_eq_true rfl), _, m_round _ _ _ _ _ (ZM_fr hM hF), ?_⟩; rintro _ _ rfl)
    (conv => whnf)
    refine And.intro (fun _ => ?_) (fun q => absurd rfl q)
    (conv => whnf)
    refine And.intro rfl (law_exit _ _ _)
  refine And.intro (fun h => ?_) (fun n11 => ?_)
  · repeat' ((conv => whnf); first | (refine And.intro lv0 ?_) | (refine And.intro lv1 ?_) | (refine And.intro lv2 ?_) | (refine And.intro lv3 ?_) | (refine And.intro lv4 ?_) | (refine And.intro lv5 ?_) | (refine And.intro lv6 ?_) | (refine And.intro lv7 ?_))
    (conv => whnf)
    (refine ⟨5, (Nat.le_of_ble_eq_true rfl), _, f_judge _ _ _ hZ, ?_⟩; rintro _ _ ⟨rfl, rfl⟩)
    repeat' ((conv => whnf); first | (refine And.intro lv0 ?_) | (refine And.intro lv1 ?_) | (refine And.intro lv2 ?_) | (refine And.intro lv3 ?_) | (refine And.intro lv4 ?_) | (refine And.intro lv5 ?_) | (refine And.intro lv6 ?_) | (refine And.intro lv7 ?_))
    (conv => whnf)
    (refine ⟨6, (Nat.le_of_ble_eq_true rfl), _, m_judge _ _ _ hM, ?_⟩; rintro _ _ rfl)
    (conv => whnf)
    refine And.intro (fun _ => ?_) (fun q => absurd rfl q)
    (conv => whnf)
    refine And.intro rfl (law_exit _ _ _)
  refine And.intro (fun h => ?_) (fun n12 => ?_)
  · repeat' ((conv => whnf); first | (refine And.intro lv0 ?_) | (refine And.intro lv1 ?_) | (refine And.intro lv2 ?_) | (refine And.intro lv3 ?_) | (refine And.intro lv4 ?_) | (refine And.intro lv5 ?_) | (refine And.intro lv6 ?_) | (refine And.intro lv7 ?_))
    (conv => whnf)
    (refine ⟨6, (Nat.le_of_ble_eq_true rfl), _, f_takesR _ _ _ hZ, ?_⟩; rintro r1 _ ⟨hv1, f1, g1, c1, rfl, hF⟩)
    repeat' ((conv => whnf); first | (refine And.intro lv0 ?_) | (refine And.intro lv1 ?_) | (refine And.intro lv2 ?_) | (refine And.intro lv3 ?_) | (refine And.intro lv4 ?_) | (refine And.intro lv5 ?_) | (refine And.intro lv6 ?_) | (refine And.intro lv7 ?_))
    (conv => whnf)
    (refine ⟨6, (Nat.le_of_ble_eq_true rfl), _, m_takesR _ _ _ (ZM_fr hM hF), ?_⟩; rintro r2 _ hv2)
    (conv => whnf)
    refine And.intro (fun _ => ?_) (fun q => absurd (by rw [RvJ.eq hv1 hv2]; exact cmpJ _) q)
    (conv => whnf)
    refine And.intro rfl (law_exit _ _ _)
  refine And.intro (fun h => ?_) (fun n13 => ?_)
  · repeat' ((conv => whnf); first | (refine And.intro lv0 ?_) | (refine And.intro lv1 ?_) | (refine And.intro lv2 ?_) | (refine And.intro lv3 ?_) | (refine And.intro lv4 ?_) | (refine And.intro lv5 ?_) | (refine And.intro lv6 ?_) | (refine And.intro lv7 ?_))
    (conv => whnf)
    (refine ⟨5, (Nat.le_of_ble_eq_true rfl), _, f_flow _ _ hZ, ?_⟩; rintro _ _ ⟨rfl, rfl⟩)
    repeat' ((conv => whnf); first | (refine And.intro lv0 ?_) | (refine And.intro lv1 ?_) | (refine And.intro lv2 ?_) | (refine And.intro lv3 ?_) | (refine And.intro lv4 ?_) | (refine And.intro lv5 ?_) | (refine And.intro lv6 ?_) | (refine And.intro lv7 ?_))
    (conv => whnf)
    (refine ⟨6, (Nat.le_of_ble_eq_true rfl), _, m_flow _ _ hM, ?_⟩; rintro _ _ rfl)
    (conv => whnf)
    refine And.intro (fun _ => ?_) (fun q => absurd rfl q)
    (conv => whnf)
    refine And.intro rfl (law_exit _ _ _)
  refine And.intro (fun h => ?_) (fun n14 => ?_)
  · repeat' ((conv => whnf); first | (refine And.intro lv0 ?_) | (refine And.intro lv1 ?_) | (refine And.intro lv2 ?_) | (refine And.intro lv3 ?_) | (refine And.intro lv4 ?_) | (refine And.intro lv5 ?_) | (refine And.intro lv6 ?_) | (refine And.intro lv7 ?_))
    (conv => whnf)
    (refine ⟨6, (Nat.le_of_ble_eq_true rfl), _, f_luckR _ _ _ _ _ hZ, ?_⟩; rintro r1 _ ⟨hv1, f1, g1, c1, rfl, hF⟩)
    repeat' ((conv => whnf); first | (refine And.intro lv0 ?_) | (refine And.intro lv1 ?_) | (refine And.intro lv2 ?_) | (refine And.intro lv3 ?_) | (refine And.intro lv4 ?_) | (refine And.intro lv5 ?_) | (refine And.intro lv6 ?_) | (refine And.intro lv7 ?_))
    (conv => whnf)
    (refine ⟨6, (Nat.le_of_ble_eq_true rfl), _, m_luckR _ _ _ _ _ (ZM_fr hM hF), ?_⟩; rintro r2 _ hv2)
    (conv => whnf)
    refine And.intro (fun _ => ?_) (fun q => absurd (Rv.eq hv1 hv2) q)
    (conv => whnf)
    refine And.intro rfl (law_exit _ _ _)
  refine And.intro (fun h => ?_) (fun n15 => ?_)
  · repeat' ((conv => whnf); first | (refine And.intro lv0 ?_) | (refine And.intro lv1 ?_) | (refine And.intro lv2 ?_) | (refine And.intro lv3 ?_) | (refine And.intro lv4 ?_) | (refine And.intro lv5 ?_) | (refine And.intro lv6 ?_) | (refine And.intro lv7 ?_))
    (conv => whnf)
    (refine ⟨6, (Nat.le_of_ble_eq_true rfl), _, f_signs _ _ _ _ hZ, ?_⟩; rintro _ _ ⟨rfl, f1, g1, c1, rfl, hF⟩)
    repeat' ((conv => whnf); first | (refine And.intro lv0 ?_) | (refine And.intro lv1 ?_) | (refine And.intro lv2 ?_) | (refine And.intro lv3 ?_) | (refine And.intro lv4 ?_) | (refine And.intro lv5 ?_) | (refine And.intro lv6 ?_) | (refine And.intro lv7 ?_))
    (conv => whnf)
    (refine ⟨6, (Nat.le_of_ble_eq_true rfl), _, m_signs _ _ _ _ (ZM_fr hM hF), ?_⟩; rintro _ _ rfl)
    (conv => whnf)
    refine And.intro (fun _ => ?_) (fun q => absurd rfl q)
    (conv => whnf)
    refine And.intro rfl (law_exit _ _ _)
  refine And.intro (fun h => ?_) (fun n16 => ?_)
  · repeat' ((conv => whnf); first | (refine And.intro lv0 ?_) | (refine And.intro lv1 ?_) | (refine And.intro lv2 ?_) | (refine And.intro lv3 ?_) | (refine And.intro lv4 ?_) | (refine And.intro lv5 ?_) | (refine And.intro lv6 ?_) | (refine And.intro lv7 ?_))
    (conv => whnf)
    (refine ⟨6, (Nat.le_of_ble_eq_true rfl), _, f_knewR _ _ _ _ _ hZ, ?_⟩; rintro r1 _ ⟨hv1, f1, g1, c1, rfl, hF⟩)
    repeat' ((conv => whnf); first | (refine And.intro lv0 ?_) | (refine And.intro lv1 ?_) | (refine And.intro lv2 ?_) | (refine And.intro lv3 ?_) | (refine And.intro lv4 ?_) | (refine And.intro lv5 ?_) | (refine And.intro lv6 ?_) | (refine And.intro lv7 ?_))
    (conv => whnf)
    (refine ⟨6, (Nat.le_of_ble_eq_true rfl), _, m_knewR _ _ _ _ _ (ZM_fr hM hF), ?_⟩; rintro r2 _ hv2)
    (conv => whnf)
    refine And.intro (fun _ => ?_) (fun q => absurd (Rv.eq hv1 hv2) q)
    (conv => whnf)
    refine And.intro rfl (law_exit _ _ _)
  refine And.intro (fun h => ?_) (fun n17 => ?_)
  · repeat' ((conv => whnf); first | (refine And.intro lv0 ?_) | (refine And.intro lv1 ?_) | (refine And.intro lv2 ?_) | (refine And.intro lv3 ?_) | (refine And.intro lv4 ?_) | (refine And.intro lv5 ?_) | (refine And.intro lv6 ?_) | (refine And.intro lv7 ?_))
    (conv => whnf)
    (refine ⟨5, (Nat.le_of_ble_eq_true rfl), _, f_hands  hZ, ?_⟩; rintro _ _ ⟨rfl, rfl⟩)
    repeat' ((conv => whnf); first | (refine And.intro lv0 ?_) | (refine And.intro lv1 ?_) | (refine And.intro lv2 ?_) | (refine And.intro lv3 ?_) | (refine And.intro lv4 ?_) | (refine And.intro lv5 ?_) | (refine And.intro lv6 ?_) | (refine And.intro lv7 ?_))
    (conv => whnf)
    (refine ⟨6, (Nat.le_of_ble_eq_true rfl), _, m_hands  hM, ?_⟩; rintro _ _ rfl)
    (conv => whnf)
    refine And.intro (fun _ => ?_) (fun q => absurd rfl q)
    (conv => whnf)
    refine And.intro rfl (law_exit _ _ _)
  refine And.intro (fun h => ?_) (fun n18 => ?_)
  · repeat' ((conv => whnf); first | (refine And.intro lv0 ?_) | (refine And.intro lv1 ?_) | (refine And.intro lv2 ?_) | (refine And.intro lv3 ?_) | (refine And.intro lv4 ?_) | (refine And.intro lv5 ?_) | (refine And.intro lv6 ?_) | (refine And.intro lv7 ?_))
    (conv => whnf)
    (refine ⟨5, (Nat.le_of_ble_eq_true rfl), _, f_lacking _ hZ, ?_⟩; rintro _ _ ⟨rfl, rfl⟩)
    repeat' ((conv => whnf); first | (refine And.intro lv0 ?_) | (refine And.intro lv1 ?_) | (refine And.intro lv2 ?_) | (refine And.intro lv3 ?_) | (refine And.intro lv4 ?_) | (refine And.intro lv5 ?_) | (refine And.intro lv6 ?_) | (refine And.intro lv7 ?_))
    (conv => whnf)
    (refine ⟨6, (Nat.le_of_ble_eq_true rfl), _, m_lackingR _ hM, ?_⟩; rintro _ _ rfl)
    (conv => whnf)
    refine And.intro (fun _ => ?_) (fun q => absurd rfl q)
    (conv => whnf)
    refine And.intro rfl (law_exit _ _ _)
  refine And.intro (fun h => ?_) (fun n19 => ?_)
  · repeat' ((conv => whnf); first | (refine And.intro lv0 ?_) | (refine And.intro lv1 ?_) | (refine And.intro lv2 ?_) | (refine And.intro lv3 ?_) | (refine And.intro lv4 ?_) | (refine And.intro lv5 ?_) | (refine And.intro lv6 ?_) | (refine And.intro lv7 ?_))
    (conv => whnf)
    (refine ⟨5, (Nat.le_of_ble_eq_true rfl), _, f_stop _ hZ, ?_⟩; rintro _ _ ⟨rfl, f1, rfl, hF⟩)
    repeat' ((conv => whnf); first | (refine And.intro lv0 ?_) | (refine And.intro lv1 ?_) | (refine And.intro lv2 ?_) | (refine And.intro lv3 ?_) | (refine And.intro lv4 ?_) | (refine And.intro lv5 ?_) | (refine And.intro lv6 ?_) | (refine And.intro lv7 ?_))
    (conv => whnf)
    (refine ⟨6, (Nat.le_of_ble_eq_true rfl), _, m_stop _ (ZM_fr hM hF), ?_⟩; rintro _ _ rfl)
    (conv => whnf)
    refine And.intro (fun _ => ?_) (fun q => absurd rfl q)
    (conv => whnf)
    refine And.intro rfl (law_exit _ _ _)
  refine And.intro (fun h => ?_) (fun n20 => ?_)
  · repeat' ((conv => whnf); first | (refine And.intro lv0 ?_) | (refine And.intro lv1 ?_) | (refine And.intro lv2 ?_) | (refine And.intro lv3 ?_) | (refine And.intro lv4 ?_) | (refine And.intro lv5 ?_) | (refine And.intro lv6 ?_) | (refine And.intro lv7 ?_))
    (conv => whnf)
    (refine ⟨6, (Nat.le_of_ble_eq_true rfl), _, f_fewestR _ _ _ _ hZ, ?_⟩; rintro r1 _ ⟨hv1, f1, g1, c1, rfl, hF⟩)
    repeat' ((conv => whnf); first | (refine And.intro lv0 ?_) | (refine And.intro lv1 ?_) | (refine And.intro lv2 ?_) | (refine And.intro lv3 ?_) | (refine And.intro lv4 ?_) | (refine And.intro lv5 ?_) | (refine And.intro lv6 ?_) | (refine And.intro lv7 ?_))
    (conv => whnf)
    (refine ⟨6, (Nat.le_of_ble_eq_true rfl), _, m_fewestR _ _ _ _ (ZM_fr hM hF), ?_⟩; rintro r2 _ hv2)
    (conv => whnf)
    refine And.intro (fun _ => ?_) (fun q => absurd (Rv.eq hv1 hv2) q)
    (conv => whnf)
    refine And.intro rfl (law_exit _ _ _)
  refine And.intro (fun h => ?_) (fun n21 => ?_)
  · repeat' ((conv => whnf); first | (refine And.intro lv0 ?_) | (refine And.intro lv1 ?_) | (refine And.intro lv2 ?_) | (refine And.intro lv3 ?_) | (refine And.intro lv4 ?_) | (refine And.intro lv5 ?_) | (refine And.intro lv6 ?_) | (refine And.intro lv7 ?_))
    (conv => whnf)
    (refine ⟨5, (Nat.le_of_ble_eq_true rfl), _, f_rule _ hZ, ?_⟩; rintro _ _ ⟨rfl, f1, rfl, hF⟩)
    repeat' ((conv => whnf); first | (refine And.intro lv0 ?_) | (refine And.intro lv1 ?_) | (refine And.intro lv2 ?_) | (refine And.intro lv3 ?_) | (refine And.intro lv4 ?_) | (refine And.intro lv5 ?_) | (refine And.intro lv6 ?_) | (refine And.intro lv7 ?_))
    (conv => whnf)
    (refine ⟨6, (Nat.le_of_ble_eq_true rfl), _, m_rule _ (ZM_fr hM hF), ?_⟩; rintro _ _ rfl)
    (conv => whnf)
    refine And.intro (fun _ => ?_) (fun q => absurd rfl q)
    (conv => whnf)
    refine And.intro rfl (law_exit _ _ _)
  refine And.intro (fun h => ?_) (fun n22 => ?_)
  · repeat' ((conv => whnf); first | (refine And.intro lv0 ?_) | (refine And.intro lv1 ?_) | (refine And.intro lv2 ?_) | (refine And.intro lv3 ?_) | (refine And.intro lv4 ?_) | (refine And.intro lv5 ?_) | (refine And.intro lv6 ?_) | (refine And.intro lv7 ?_))
    (conv => whnf)
    (refine ⟨5, (Nat.le_of_ble_eq_true rfl), _, f_burden _ hZ, ?_⟩; rintro _ _ ⟨rfl, rfl⟩)
    repeat' ((conv => whnf); first | (refine And.intro lv0 ?_) | (refine And.intro lv1 ?_) | (refine And.intro lv2 ?_) | (refine And.intro lv3 ?_) | (refine And.intro lv4 ?_) | (refine And.intro lv5 ?_) | (refine And.intro lv6 ?_) | (refine And.intro lv7 ?_))
    (conv => whnf)
    (refine ⟨6, (Nat.le_of_ble_eq_true rfl), _, m_burden _ hM, ?_⟩; rintro _ _ rfl)
    (conv => whnf)
    refine And.intro (fun _ => ?_) (fun q => absurd rfl q)
    (conv => whnf)
    refine And.intro rfl (law_exit _ _ _)
  refine And.intro (fun h => ?_) (fun n23 => ?_)
  · repeat' ((conv => whnf); first | (refine And.intro lv0 ?_) | (refine And.intro lv1 ?_) | (refine And.intro lv2 ?_) | (refine And.intro lv3 ?_) | (refine And.intro lv4 ?_) | (refine And.intro lv5 ?_) | (refine And.intro lv6 ?_) | (refine And.intro lv7 ?_))
    (conv => whnf)
    (refine ⟨6, (Nat.le_of_ble_eq_true rfl), _, f_starveR _ _ _ _ _ hZ, ?_⟩; rintro r1 _ ⟨hv1, f1, g1, c1, rfl, hF⟩)
    repeat' ((conv => whnf); first | (refine And.intro lv0 ?_) | (refine And.intro lv1 ?_) | (refine And.intro lv2 ?_) | (refine And.intro lv3 ?_) | (refine And.intro lv4 ?_) | (refine And.intro lv5 ?_) | (refine And.intro lv6 ?_) | (refine And.intro lv7 ?_))
    (conv => whnf)
    (refine ⟨6, (Nat.le_of_ble_eq_true rfl), _, m_starveR _ _ _ _ _ (ZM_fr hM hF), ?_⟩; rintro r2 _ hv2)
    (conv => whnf)
    refine And.intro (fun _ => ?_) (fun q => absurd (by rw [RvJ.eq hv1 hv2]; exact cmpJ _) q)
    (conv => whnf)
    refine And.intro rfl (law_exit _ _ _)
  refine And.intro (fun h => ?_) (fun n24 => ?_)
  · repeat' ((conv => whnf); first | (refine And.intro lv0 ?_) | (refine And.intro lv1 ?_) | (refine And.intro lv2 ?_) | (refine And.intro lv3 ?_) | (refine And.intro lv4 ?_) | (refine And.intro lv5 ?_) | (refine And.intro lv6 ?_) | (refine And.intro lv7 ?_))
    (conv => whnf)
    (refine ⟨5, (Nat.le_of_ble_eq_true rfl), _, f_count _ hZ, ?_⟩; rintro _ _ ⟨rfl, rfl⟩)
    repeat' ((conv => whnf); first | (refine And.intro lv0 ?_) | (refine And.intro lv1 ?_) | (refine And.intro lv2 ?_) | (refine And.intro lv3 ?_) | (refine And.intro lv4 ?_) | (refine And.intro lv5 ?_) | (refine And.intro lv6 ?_) | (refine And.intro lv7 ?_))
    (conv => whnf)
    (refine ⟨6, (Nat.le_of_ble_eq_true rfl), _, m_count _ hM, ?_⟩; rintro _ _ rfl)
    (conv => whnf)
    refine And.intro (fun _ => ?_) (fun q => absurd rfl q)
    (conv => whnf)
    refine And.intro rfl (law_exit _ _ _)
  conv => whnf
  exact And.intro rfl (law_exit _ _ _)
