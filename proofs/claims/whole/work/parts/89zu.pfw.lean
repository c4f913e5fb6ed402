/-! A FAILED READER AT A WORD (pure) -/
section
variable {α β : Type} {k : Nat} {f p : Int32} {b b1 c : Nat} {I : iT} {F : fT} {L : lT} {R R2 : sc_3readAlternativeT}
theorem pfu_ot {o : Option (α × iT)} (h : PFo k f p b1 I o) (hT : TB k I) {g : α × iT → Option iT} (hg : ∀ x I', PF k f p b1 I' → TB k I' → PFu k f p c I' (g (x, I'))) : PFu k f p c I (o.bind g) := by
  obtain ⟨x, I1, e1, e2, e3⟩ := h
  obtain ⟨I2, a1, a2, a3⟩ := hg x I1 e2 (tb_fp hT e2 e3)
  exact ⟨I2, by rw [e1, sb]; exact a1, a2, e3.trans a3⟩
theorem pfu_ut {o : Option iT} (h : PFu k f p b1 I o) (hT : TB k I) {g : iT → Option iT} (hg : ∀ I', PF k f p b1 I' → TB k I' → PFu k f p c I' (g I')) : PFu k f p c I (o.bind g) := by
  obtain ⟨I1, e1, e2, e3⟩ := h
  obtain ⟨I2, a1, a2, a3⟩ := hg I1 e2 (tb_fp hT e2 e3)
  exact ⟨I2, by rw [e1, sb]; exact a1, a2, e3.trans a3⟩
/-- no DEF has the NAME 0 -/
def N0 (k : Nat) (L : lT) : Prop := tabL k L ∧ lfind (L (k + 33)) 0 = -1
theorem pf_node (hp : PF k f p b I) (hR : RS I k L) (hN : N0 k L) (op : Int32) : ∃ v I' L', mX0_addNode k I op = some (v, I') ∧ PF k f p b I' ∧ FP k I I' ∧ RS I' k L' ∧ N0 k L' := by
  have hk := hR.1
  obtain ⟨v1, I1, l1, a1, a2, a3⟩ := rs_addT hR (a := k + 49) (by unfold rowA; omega) (-1)
  obtain ⟨v2, I2, l2, b1, b2, b3⟩ := rs_addT a2 (a := k + 51) (by unfold rowA; omega) (-1)
  obtain ⟨v3, I3, l3, c1, c2, c3⟩ := rs_addT b2 (a := k + 53) (by unfold rowA; omega) (-1)
  obtain ⟨v4, I4, l4, d1, d2, d3⟩ := rs_addT c2 (a := k + 47) (by unfold rowA; omega) op
  have fr : ∀ q, ¬ (k + 47 ≤ q ∧ q ≤ k + 54) → I4 q = I q := fun q w => by rw [d3 q (by omega) (by omega), c3 q (by omega) (by omega), b3 q (by omega) (by omega), a3 q (by omega) (by omega)]
  have frL : ∀ a, ¬ (k + 47 ≤ a ∧ a ≤ k + 53) → (upL (upL (upL (upL L (k + 49) l1) (k + 51) l2) (k + 53) l3) (k + 47) l4) a = L a := fun a w => by rw [upL_n _ _ (by omega), upL_n _ _ (by omega), upL_n _ _ (by omega), upL_n _ _ (by omega)]
  refine ⟨v4, I4, _, ?_, ⟨fm_of hp.1 (fr 6 (by omega)) d2, hp.2.1.keep (fun c q1 q2 => fr c (by omega)), hp.2.2⟩, fun q w1 w2 w3 => fr q (by omega), d2, tab_eq (fun a q1 q2 => frL a (by omega)) hN.1, by rw [frL _ (by omega)]; exact hN.2⟩
  unfold mX0_addNode
  rw [a1, sb]
  show ((mX4_add (k + 51) I1 (-1)).bind _) = _
  rw [b1, sb]
  show ((mX4_add (k + 53) I2 (-1)).bind _) = _
  rw [c1, sb]
  show ((mX4_add (k + 47) I3 op).bind _) = _
  rw [d1, sb]
theorem pf_freshE (hp : PF k f p b I) : mX3_readFreshThing I = some (0, I) := by
  unfold mX3_readFreshThing
  rw [fm_take hp.1, sb]
  obtain ⟨v, hv⟩ := pf_find hp 0
  show ((mX5_find I 0).bind _) = _
  rw [hv, sb]
  show (if v = -1 then some (0, I) else (mX2_refuse I 2 (I 6 8)).bind fun q3 => some (0, q3)) = _
  rw [fm_refuse hp.1, sb, ite_self]
theorem pf_defE (hF : F 134 4 = k) (hp : PF k f p b I) (hR : RS I k L) (hN : N0 k L) : mX3_readDefAhead I F = some (-1, I) := by
  have hk := hR.1
  unfold mX3_readDefAhead
  rw [hF, fm_take hp.1, sb]
  show ((mX4_find (k + 33) I 0).bind _) = _
  rw [rs_find hR (by unfold rowA; omega) 0, hN.2, sb, if_pos rfl]
  show ((mX2_refuse I 2 (I 6 8)).bind _) = _
  rw [fm_refuse hp.1, sb]
theorem ex_if {c : Prop} [Decidable c] {a b : Option Int32} (ha : ∃ v, a = some v) (hb : ∃ v, b = some v) : ∃ v, (if c then a else b) = some v := by
  by_cases h : c
  · rw [if_pos h]; exact ha
  · rw [if_neg h]; exact hb
theorem tf_any (x y : Int32) : ∃ v, mX3_talkFor x y = some v := by
  unfold mX3_talkFor
  repeat' (first | apply ex_if | exact ⟨_, rfl⟩)
theorem pf_rchanA (hF : F 134 4 = k) (hp : PF k f p b I) (w : Int32) : PFo k f p b I (mX3_readChannel I F w) := by
  have hk := pf_k hp
  have h73 : ∀ x1 x2 x3 x4 s0 s1 s2, PFo k f p b I (mX3_readChannel_73 I F x1 x2 x3 x4 s0 s1 s2) := by
    intro x1 x2 x3 x4 s0 s1 s2
    unfold mX3_readChannel_73
    rw [fm_refuse hp.1, sb]
    exact pfo_r (tf_any _ _) (fun v => pfo_if (pfo_ret hp _) (pfo_ret hp _))
  have h48 : ∀ x1 x2 x3 x4, PFo k f p b I (mX3_readChannel_48 I F x1 x2 x3 x4) := by
    intro x1 x2 x3 x4
    unfold mX3_readChannel_48
    rw [hF]
    exact pfo_r (fm_at hp.1 (a := k + 1 + 1) (by unfold rowA; omega) _) (fun v => pfo_if (h73 _ _ _ _ _ _ _) (h73 _ _ _ _ _ _ _))
  unfold mX3_readChannel
  rw [fm_take hp.1, sb]
  refine pfo_r (pf_find hp _) (fun v => pfo_r (pf_talk hp _) (fun v2 => ?_))
  rw [fm_refuse hp.1, sb]
  exact pfo_if (h48 _ _ _ _) (h48 _ _ _ _)
theorem pf_talkW (hF : F 134 4 = k) (hp : PF k f p b I) (hb : b + 1 ≤ 10000) (hR : RS I k L) (hN : N0 k L) (x1 x2 : Int32) : PFu k f p (b + 1) I (mX3_readTalk I F x1 x2) := by
  have hk := hR.1
  rw [tk_eq, hF]
  obtain ⟨v, I1, L1, a1, a2, a3, a4, a5⟩ := pf_node hp hR hN x1
  have hT1 : TB k I1 := ⟨L1, a4, a5.1⟩
  have := pfu_ot (c := b + 1) (pf_rchanA hF a2 x1) hT1 (g := fun q4 => (mX5_talkAt q4.2 q4.1).bind fun q5 => (mX4_at (k + 1 + 5) q4.2 q5).bind fun q6 => (mX4_put (k + 49) q4.2 v q4.1).bind fun q7 => tkR q7 F x1 x2 v q4.1 q5 q6) (fun x I2 h2 hT2 => pfu_r (pf_talk h2 _) (fun v2 => pfu_r (fm_at h2.1 (a := k + 1 + 5) (by unfold rowA; omega) _) (fun v3 => pfu_ut (pf_putB h2 (by unfold rowB; omega) _ _) hT2 (fun I3 h3 hT3 => pf_tkR hF h3 hT3 hb _ _ _ _ _ _))))
  obtain ⟨I9, b1, b2, b3⟩ := this
  refine ⟨I9, ?_, b2, a3.trans b3⟩
  rw [a1, sb]
  show ((mX2_advance I1).bind _) = _
  rw [fm_adv a2.1, sb]
  exact b1
theorem pf_sayW (hF : F 134 4 = k) (hp : PF k f p b I) (hR : RS I k L) (hN : N0 k L) (x1 : Int32) : PFu k f p b I (mX3_readSay I F x1) := by
  have hk := hR.1
  obtain ⟨v, I1, L1, a1, a2, a3, a4, a5⟩ := pf_node hp hR hN 314
  obtain ⟨I9, b1, b2, b3⟩ := pf_putB a2 (a := k + 51) (by unfold rowB; omega) v (-1)
  refine ⟨I9, ?_, b2, a3.trans b3⟩
  unfold mX3_readSay
  rw [hF, a1, sb]
  show ((mX2_advance I1).bind _) = _
  rw [fm_adv a2.1, sb, pf_sumE a2, sb]
  show ((mX4_put (k + 51) I1 v (-1)).bind _) = _
  rw [b1, sb]
theorem pf_closeW (hF : F 134 4 = k) (hp : PF k f p b I) (hR : RS I k L) (hN : N0 k L) : PFu k f p b I (mX3_readClose I F) := by
  have hk := hR.1
  obtain ⟨v, I1, L1, a1, a2, a3, a4, a5⟩ := pf_node hp hR hN 315
  have := pfu_o (c := b) (pf_rchanA hF a2 315) (g := fun q3 => (mX4_put (k + 49) q3.2 v q3.1).bind fun q4 => some q4) (fun x I2 h2 => pfu_u (pf_putB h2 (by unfold rowB; omega) _ _) (fun I3 h3 => pfu_ret h3))
  obtain ⟨I9, b1, b2, b3⟩ := this
  refine ⟨I9, ?_, b2, a3.trans b3⟩
  unfold mX3_readClose
  rw [hF, a1, sb]
  show ((mX2_advance I1).bind _) = _
  rw [fm_adv a2.1, sb]
  exact b1
theorem pf_joined (hp : PF k f p b I) (x1 : Int32) : PFo k f p b I (mX3_readJoined I x1) := by
  unfold mX3_readJoined
  rw [fm_take hp.1, sb]
  exact pf_joinR hp _ _ _
theorem pf_sameW (hF : F 134 4 = k) (hp : PF k f p b I) (hR : RS I k L) (hN : N0 k L) : PFu k f p b I (mX3_readSame I F) := by
  have hk := hR.1
  obtain ⟨v, I1, L1, a1, a2, a3, a4, a5⟩ := pf_node hp hR hN 310
  have := pfu_o (c := b) (pf_joined a2 1) (g := fun q8 => (mX3_readJoined q8.2 0).bind fun q9 => smR q9.2 F v (I1 6 8) q8.1 q9.1) (fun x I2 h2 => pf_sm1 hF h2 _ _ _)
  obtain ⟨I9, b1, b2, b3⟩ := this
  refine ⟨I9, ?_, b2, a3.trans b3⟩
  unfold mX3_readSame
  rw [hF, a1, sb]
  show ((mX2_advance I1).bind _) = _
  rw [fm_adv a2.1, sb]
  exact b1
theorem pf_goW (hF : F 134 4 = k) (hp : PF k f p b I) (hR : RS I k L) (hN : N0 k L) (x1 : Int32) : PFu k f p b I (mX3_readGo I F x1) := by
  have hk := hR.1
  obtain ⟨v, I1, L1, a1, a2, a3, a4, a5⟩ := pf_node hp hR hN 311
  have := pfu_u (c := b) (pf_argsN hF a2 v x1) (g := fun q6 => goT k q6 F x1 v (I1 6 8) (-1)) (fun I2 h2 => pf_goT h2 _ _ _ _)
  obtain ⟨I9, b1, b2, b3⟩ := this
  refine ⟨I9, ?_, b2, a3.trans b3⟩
  unfold mX3_readGo
  rw [hF, a1, sb]
  show ((mX2_advance I1).bind _) = _
  rw [fm_adv a2.1, sb, pf_defE hF a2 a4 a5, sb]
  exact b1
theorem pf_newW (hF : F 134 4 = k) (hp : PF k f p b I) (hb : b + 1 ≤ 10000) (hR : RS I k L) (hN : N0 k L) (x1 : Int32) : PFu k f p (b + 1) I (mX3_readNew I F x1) := by
  have hk := hR.1
  obtain ⟨v, I1, L1, a1, a2, a3, a4, a5⟩ := pf_node hp hR hN 309
  have := pfu_u (c := b + 1) (pf_argsN hF a2 v x1) (g := fun q6 => nwT k q6 (-1) 0 v) (fun I2 h2 => pf_nwT h2 hb _ _ _)
  obtain ⟨I9, b1, b2, b3⟩ := this
  refine ⟨I9, ?_, b2, a3.trans b3⟩
  unfold mX3_readNew
  rw [hF, a1, sb]
  show ((mX2_advance I1).bind _) = _
  rw [fm_adv a2.1, sb, pf_freshE a2, sb]
  show ((mX2_want I1 61).bind _) = _
  rw [fm_want a2.1 (by decide), sb, pf_defE hF a2 a4 a5, sb]
  exact b1
theorem fm_open (h : FM k f p I) (x1 : Int32) : mX3_refuseOpen I x1 = some I := by
  unfold mX3_refuseOpen
  rw [fm_refuse h, sb, ite_self]
theorem pf_ifW (hF : F 134 4 = k) (h1 : R.2.1 = bX3_readBraced R2) (hcc : ∀ f p b I x, PF k f p b I → R2.2.2.2.2 I F x = some (-1, I)) (hp : PF k f p b I) (hR : RS I k L) (hN : N0 k L) (x1 : Int32) : PFo k f p b I (bX3_readIf R I F x1) := by
  obtain ⟨v, I1, L1, a1, a2, a3, a4, a5⟩ := pf_node hp hR hN 312
  obtain ⟨x, I9, b1, b2, b3⟩ := pf_ifA hcc a2 (x1 + 1) v
  refine ⟨x, I9, ?_, b2, a3.trans b3⟩
  rw [if_eq hF h1, a1, sb]
  show ((mX3_refuseOpen I1 x1).bind _) = _
  rw [fm_open a2.1, sb]
  exact b1
theorem pf_caseW (hF : F 134 4 = k) (hp : PF k f p b I) (hR : RS I k L) (hN : N0 k L) (x1 : Int32) : PFo k f p b I (bX3_readCase R I F x1) := by
  obtain ⟨v, I1, L1, a1, a2, a3, a4, a5⟩ := pf_node hp hR hN 308
  obtain ⟨x, I9, b1, b2, b3⟩ := pf_caA (Rc := R) hF a2 ⟨L1, a4, a5.1⟩ x1 v
  refine ⟨x, I9, ?_, b2, a3.trans b3⟩
  rw [case_eq hF, a1, sb]
  show ((mX3_refuseOpen I1 x1).bind _) = _
  rw [fm_open a2.1, sb]
  exact b1
/-- the class behind the count of a WORD -/
def stB (R : sc_3readAlternativeT) (K : iT → fT → Int32 → Int32 → Option (Int32 × iT)) (I : iT) (F : fT) (x1 x2 w : Int32) : Option (Int32 × iT) := if w = 308 then (R.2.2.1 I F x1).bind fun q4 => some (x2 + q4.1, q4.2) else if w = 309 then (mX3_readNew I F x1).bind fun q5 => mX3_readSteps_139 R K q5 F x1 x2 w else if w = 310 then (mX3_readSame I F).bind fun q6 => some (x2, q6) else if w = 311 then (mX3_readGo I F x1).bind fun q7 => some (x2, q7) else if w = 312 then (R.2.2.2.1 I F x1).bind fun q8 => some ((x2 - 1) + q8.1, q8.2) else if w = 313 then (mX3_readTalk I F w x1).bind fun q9 => mX3_readSteps_139 R K q9 F x1 x2 w else if w = 314 then (mX3_readSay I F x1).bind fun q10 => mX3_readSteps_139 R K q10 F x1 x2 w else if w = 315 then (mX3_readClose I F).bind fun q11 => some (x2, q11) else (mX3_readTalk I F w x1).bind fun q12 => mX3_readSteps_139 R K q12 F x1 x2 w
theorem pf_139 {K : iT → fT → Int32 → Int32 → Option (Int32 × iT)} (hK : ∀ f p b I x1 x2, PF k f p b I → K I F x1 x2 = some (-1, I)) (hp : PF k f p b I) (x1 x2 w : Int32) : PFo k f p b I (mX3_readSteps_139 R K I F x1 x2 w) := by
  unfold mX3_readSteps_139
  rw [fm_want hp.1 (by decide), sb, hK f p b I _ _ hp]
  exact pfo_ret hp _
theorem pf_stB {K : iT → fT → Int32 → Int32 → Option (Int32 × iT)} (hK : ∀ f p b I x1 x2, PF k f p b I → K I F x1 x2 = some (-1, I)) (hF : F 134 4 = k) {R3 : sc_3readAlternativeT} (hc : R.2.2.1 = bX3_readCase R3) (hi : R.2.2.2.1 = bX3_readIf R3) (h1 : R3.2.1 = bX3_readBraced R2) (hcc : ∀ f p b I x, PF k f p b I → R2.2.2.2.2 I F x = some (-1, I)) (hp : PF k f p b I) (hb : b + 1 ≤ 10000) (hR : RS I k L) (hN : N0 k L) (x1 x2 w : Int32) : PFo k f p (b + 1) I (stB R K I F x1 x2 w) := by
  unfold stB
  rw [hc, hi]
  refine pfo_if (pfo_mono (pfo_o (pf_caseW hF hp hR hN x1) (fun x I1 h1 => pfo_ret h1 _)) (Nat.le_succ b) hb) ?_
  refine pfo_if (pfo_u (pf_newW hF hp hb hR hN x1) (fun I1 h1 => pf_139 hK h1 _ _ _)) ?_
  refine pfo_if (pfo_mono (pfo_u (pf_sameW hF hp hR hN) (fun I1 h1 => pfo_ret h1 _)) (Nat.le_succ b) hb) ?_
  refine pfo_if (pfo_mono (pfo_u (pf_goW hF hp hR hN x1) (fun I1 h1 => pfo_ret h1 _)) (Nat.le_succ b) hb) ?_
  refine pfo_if (pfo_mono (pfo_o (pf_ifW hF h1 hcc hp hR hN x1) (fun x I1 h1 => pfo_ret h1 _)) (Nat.le_succ b) hb) ?_
  refine pfo_if (pfo_u (pf_talkW hF hp hb hR hN _ _) (fun I1 h1 => pf_139 hK h1 _ _ _)) ?_
  refine pfo_if (pfo_mono (pfo_u (pf_sayW hF hp hR hN x1) (fun I1 h1 => pf_139 hK h1 _ _ _)) (Nat.le_succ b) hb) ?_
  refine pfo_if (pfo_mono (pfo_u (pf_closeW hF hp hR hN) (fun I1 h1 => pfo_ret h1 _)) (Nat.le_succ b) hb) ?_
  exact pfo_u (pf_talkW hF hp hb hR hN _ _) (fun I1 h1 => pf_139 hK h1 _ _ _)
end
