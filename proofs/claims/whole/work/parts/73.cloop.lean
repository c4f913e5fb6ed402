/-! THE BRANCHES OF A CHOICE, in both (pure) -/
theorem psm_mid (a c : List Br) (e : Br) : psm (a ++ e :: c) = psm (a ++ c) + e.2.2.2.2 := by
  induction a with
  | nil => show e.2.2.2.2 + psm c = psm c + e.2.2.2.2; omega
  | cons x a ih => show x.2.2.2.2 + psm (a ++ e :: c) = x.2.2.2.2 + psm (a ++ c) + e.2.2.2.2; rw [ih]; omega
theorem nodup_mid {a c : List Br} {e : Br} (h : ((a ++ c).map (fun z => z.1)).Nodup) (hn : ∀ z ∈ a ++ c, z.1 ≠ e.1) : ((a ++ e :: c).map (fun z => z.1)).Nodup := by
  rw [List.map_append, List.nodup_append] at h
  obtain ⟨h1, h2, h3⟩ := h
  rw [List.map_append, List.map_cons, List.nodup_append]
  refine ⟨h1, List.nodup_cons.mpr ⟨fun q => ?_, h2⟩, fun x hx y hy => ?_⟩
  · obtain ⟨z, z1, z2⟩ := List.mem_map.mp q
    exact hn z (by simp [z1]) z2
  · rcases List.mem_cons.mp hy with q | q
    · obtain ⟨z, z1, z2⟩ := List.mem_map.mp hx
      rw [q, ← z2]
      exact hn z (by simp [z1])
    · exact h3 x hx y q
section
variable {k h M : Nat} {W : List Ent} {F : fT} {I B : iT} {J : jT} {L : lT} {pn pt : List Int32} {bs : List Nat} {t : Tok} {r : List Tok} {mc cc md op : Nat} {bl : List Br} {kd w K0 N0 m0 P0 : Nat}
theorem ci_cur {P P' : Nat} {I' B' : iT} {J' : jT} (H : CI k h M W F I B J L pn pt P mc cc md op bl w K0 N0 m0 P0) (a : cf I I') (b : rf B J B' J') (hP : P ≤ P') : CI k h M W F I' B' J' L pn pt P' mc cc md op bl w K0 N0 m0 P0 := by
  obtain ⟨HT, hd, ⟨c1, c2, c3, c4⟩, ⟨n1, n2, n3, n4, n5⟩, he, ⟨b1, b2, b3, b4, b5, b6⟩⟩ := H
  have nodeA : ∀ v, (B' 188 v = B 188 v ∧ B' 189 v = B 189 v ∧ B' 190 v = B 190 v ∧ B' 191 v = B 191 v ∧ J' 192 v = J 192 v) := fun v => ⟨b.1 _ _ (by omega), b.1 _ _ (by omega), b.1 _ _ (by omega), b.1 _ _ (by omega), b.2 _ _ (by omega)⟩
  obtain ⟨f1, f2, f3, f4, f5⟩ := nodeA (1400 * h + mc)
  refine ⟨ts_cur HT a b hP, hd, ⟨by rw [f2]; exact chain_to _ _ (fun e _ => nodeA e.1) c1, c2, c3, c4⟩, ⟨n1, n2, by rw [f1]; exact n3, by rw [f3]; exact n4, by rw [f5]; exact n5⟩, fun e hm => ?_, by omega, by omega, by omega, b4, b5, b6⟩
  obtain ⟨x1, x2, x3, x4⟩ := he e hm
  exact ⟨x1, x2, x3, tr_to HT.2.2.1 TE.rfl (fun v _ => nodeA v) (fun v hv => hv) _ _ _ _ _ (Nat.le_refl _) x4⟩
/-- behind a fault at a branch's NAME -/
theorem fm_rest {f p : Int32} {I : iT} (R : sc_9readChoiceT) (n : Nat) (hfm : ∀ f p I x, FM k f p I → FMo k f p I (R.2.2 I F x)) (hf : FM k f p I) (x1 x2 : Int32) {from0 : Nat} (hfr : from0 < 1000) (x4 d : Int32) : FMo k f p I ((mX2_want I 58).bind fun q8 => (R.2.2 q8 F x2).bind fun q9 => (mX4_put 145 q9.2 d q9.1).bind fun q10 => (mX9_sortLast q10 (nI from0)).bind fun q11 => (mX2_skip q11 44).bind fun q12 => if q12.1 = 0 then mX9_readChoice_93 R q12.2 F x1 x2 (nI from0) x4 else mX9_readChoice_20 R n q12.2 F x1 x2 (nI from0) (x4 + 1)) := by
  rw [fm_want hf (by decide), sb]
  exact fmo_o (hfm f p I x2 hf) (fun v I1 h1 => fm_turn R F n h1 x1 x2 hfr x4 d v)
/-- a branch begins: both refuse, or both have its NAME -/
theorem ch_head (R : sc_9readChoiceT) (R' : sc_12choiceT) (k22 : iT → jT → Int32 → Int32 → Int32 → Option (Int32 × iT × jT)) (hfm : ∀ f p I x, FM k f p I → FMo k f p I (R.2.2 I F x)) (hC : CR I B J bs t r) (H : CI k h M W F I B J L pn pt t.2.2 mc cc md op bl w K0 N0 m0 P0) (hop : op ≤ 11) (n : Nat) (xk x2 xw : Int32) :
    (∃ x I' B' J', mX9_readChoice_20 R (n + 1) I F xk x2 (nI pn.length) (nI bl.length) = some (x, I') ∧ mX12_choice_30 R' k22 B J xw (nI (1400 * h + mc)) (nI bl.length) = some (0, B', J') ∧ FAIL k h I B J I' B' J') ∨
    (bl.length < 6 ∧ ∃ w0 u r' I3 B1 J1, r = u :: r' ∧ isN w0 ∧ (∀ e ∈ bl, e.2.1 ≠ w0) ∧ CR I3 B1 J1 bs u r' ∧ t.2.2 + 1 ≤ u.2.2 ∧ RS I3 k (upL (upL L 145 (L 145 ++ [-1])) 143 (L 143 ++ [nI (cN w0)])) ∧ I3 142 4 = I 142 4 ∧ cT k I I3 ∧ rf B J B1 J1 ∧
      mX9_readChoice_20 R (n + 1) I F xk x2 (nI pn.length) (nI bl.length) = ((mX2_want I3 58).bind fun q8 => (R.2.2 q8 F x2).bind fun q9 => (mX4_put 145 q9.2 (nI (pn.length + bl.length)) q9.1).bind fun q10 => (mX9_sortLast q10 (nI pn.length)).bind fun q11 => (mX2_skip q11 44).bind fun q12 => if q12.1 = 0 then mX9_readChoice_93 R q12.2 F xk x2 (nI pn.length) (nI bl.length) else mX9_readChoice_20 R n q12.2 F xk x2 (nI pn.length) (nI bl.length + 1)) ∧
      mX12_choice_30 R' k22 B J xw (nI (1400 * h + mc)) (nI bl.length) = ((mX12_need B1 J1 58).bind fun q7 => if q7.1 = 0 then some (0, q7.2.1, q7.2.2) else (R'.2 q7.2.1 q7.2.2).bind fun q8 => if q8.1 = 0 then some (0, q8.2.1, q8.2.2) else (mX12_node q8.2.1 q8.2.2 8 (q8.2.1 186 36) (-1) (lN (rN w0))).bind fun q9 => if inb (nI (1400 * h + mc)) 2800 then mX12_choice_141 R' k22 LF q9.2.1 q9.2.2 xw (nI (1400 * h + mc)) (nI bl.length) (lN (rN w0)) q9.1 (-1) (q9.2.1 189 (nI (1400 * h + mc)).toNatClampNeg) else none)) := by
  obtain ⟨HT, ⟨d1, d2, d3, d4⟩, ⟨c1, c2, c3, c4⟩, ⟨n1, n2, n3, n4, n5⟩, he, ⟨b1, b2, b3, b4, b5, b6⟩⟩ := H
  obtain ⟨h1, h2, h3, h4, ⟨h5, h6, h7, h8, h9⟩, ⟨h10, h11, h12⟩, ⟨h13, h14, h15, h16⟩, h17, h18, h19⟩ := HT
  have hk := h1.1
  have hP := cr_end hC
  have hc28 : 1400 * h + mc < 2800 := by omega
  have e20 : mX9_readChoice_20 R (n + 1) I F xk x2 (nI pn.length) (nI bl.length) = (mX9_readBranchName I (nI pn.length)).bind fun q7 => (mX2_want q7.2 58).bind fun q8 => (R.2.2 q8 F x2).bind fun q9 => (mX4_put 145 q9.2 q7.1 q9.1).bind fun q10 => (mX9_sortLast q10 (nI pn.length)).bind fun q11 => (mX2_skip q11 44).bind fun q12 => if q12.1 = 0 then mX9_readChoice_93 R q12.2 F xk x2 (nI pn.length) (nI bl.length) else mX9_readChoice_20 R n q12.2 F xk x2 (nI pn.length) (nI bl.length + 1) := by
    rw [mX9_readChoice_20, if_neg (show ¬ (6 : Int32) < nI bl.length from nI_nlt (a := 6) c4 (by omega)), cr_failed hC, sb, if_pos rfl]
  have er : B 186 3 = 2 ↔ t.1 = 256 := cr_r hC 256 (by decide)
  have ec : I 6 6 = 256 ↔ t.1 = 256 := cr_c hC 256 (by omega)
  by_cases q : t.1 = 256
  · have hwN : isN t.2.1 := (cr_wf hC).2.1 q
    have hval : I 6 7 = nI (cN t.2.1) := hC.1.2.2.1.1 q
    have hJ6 : J 186 6 = lN (rN t.2.1) := hC.2.1.2.2.2.1 q
    obtain ⟨u, r', I1, B1, J1, k1, k2, k3, k4, k5, k6, k7⟩ := jadv hC (by omega)
    have htl : tl t.1 = 1 := by rw [q]; decide
    rw [htl] at k5
    have hR1 := cf_RS k6 h1
    have h91 : I1 6 9 = 0 := cr_9 k4
    have eT : mX2_takeName I = some (nI (cN t.2.1), I1) := by
      unfold mX2_takeName
      rw [if_pos (ec.mpr q), k2, sb, hval]
    have eRB : mX9_readBranchName I (nI pn.length) = mX9_readBranchName_19 LF I1 (nI pn.length) (nI t.2.2) (nI (cN t.2.1)) (nI pn.length) := by
      unfold mX9_readBranchName
      rw [eT, sb, cr_8 hC]
    have eBr : mX12_branch B J (nI (1400 * h + mc)) (J 186 6) = mX12_branch_8 LF B J (nI (1400 * h + mc)) (lN (rN t.2.1)) (B 189 (1400 * h + mc)) := by
      unfold mX12_branch
      rw [if_pos (in28 hc28), congrArg (B 189) (cl28 hc28), hJ6]
    have e30 : mX12_choice_30 R' k22 B J xw (nI (1400 * h + mc)) (nI bl.length) = (mX12_branch B J (nI (1400 * h + mc)) (J 186 6)).bind fun q5 => if q5 = -1 then if nI bl.length = 6 then (mX12_bad B 5 (B 186 4)).bind fun q10 => if q10.1 = 0 ∨ q10.1 = 1 then some (q10.1, q10.2, J) else none else (mX12_look0 B J).bind fun q6 => (mX12_need q6.1 q6.2 58).bind fun q7 => if q7.1 = 0 then some (0, q7.2.1, q7.2.2) else (R'.2 q7.2.1 q7.2.2).bind fun q8 => if q8.1 = 0 then some (0, q8.2.1, q8.2.2) else (mX12_node q8.2.1 q8.2.2 8 (q8.2.1 186 36) (-1) (J 186 6)).bind fun q9 => if inb (nI (1400 * h + mc)) 2800 then mX12_choice_141 R' k22 LF q9.2.1 q9.2.2 xw (nI (1400 * h + mc)) (nI bl.length) (J 186 6) q9.1 (-1) (q9.2.1 189 (nI (1400 * h + mc)).toNatClampNeg) else none else (mX12_bad B 2 (B 186 4)).bind fun q11 => if q11.1 = 0 ∨ q11.1 = 1 then some (q11.1, q11.2, J) else none := by
      unfold mX12_choice_30
      rw [if_pos (er.mpr q)]
    have hbN : ∀ e ∈ bl, isN e.2.1 := fun e hm => (he e hm).2.2.1
    have hcf := chain_find (nI (1400 * h + mc)) hwN bl (B 189 (1400 * h + mc)) LF c1 hbN (by unfold LF; omega)
    rw [← eBr] at hcf
    have fail : ∀ (f : Int32), f ≠ 0 → (∀ I2, mX2_refuse I1 f (nI t.2.2) = some I2 → ∀ f' p, FM k f' p I2 → FMo k f' p I2 (mX9_readBranchName_19 LF I1 (nI pn.length) (nI t.2.2) (nI (cN t.2.1)) (nI pn.length))) → (∀ B2, mX12_bad B f (B 186 4) = some (0, B2) → mX12_choice_30 R' k22 B J xw (nI (1400 * h + mc)) (nI bl.length) = some (0, B2, J)) → (∃ x I' B' J', mX9_readChoice_20 R (n + 1) I F xk x2 (nI pn.length) (nI bl.length) = some (x, I') ∧ mX12_choice_30 R' k22 B J xw (nI (1400 * h + mc)) (nI bl.length) = some (0, B', J') ∧ FAIL k h I B J I' B' J') := by
      intro f hf g1 g2
      obtain ⟨I2, B2, a1, a2, a3⟩ := jbad2 hC hR1 h91 (cf_FX k6) h hf (nI t.2.2)
      obtain ⟨x, I', e1, e2⟩ := fmo_FAIL a3 (o := mX9_readChoice_20 R (n + 1) I F xk x2 (nI pn.length) (nI bl.length)) (fun f' p hfm' => by
        rw [e20, eRB]
        exact fmo_o (g1 I2 a1 f' p hfm') (fun v I3 h3' => fm_rest R n hfm h3' xk x2 (by omega) (nI bl.length) v))
      exact ⟨x, I', B2, J, e1, g2 B2 (by rw [cr_4 hC]; exact a2), e2⟩
    rcases rb_loop hR1 d1 hbN h15 c4 (by omega) hwN (nI t.2.2) with ⟨⟨e, e1, e2⟩, g⟩ | ⟨hno, g6, g⟩ | ⟨hno, g6, I3, s1, s2, s3⟩
    · left
      refine fail 2 (by decide) g (fun B2 hb => ?_)
      rcases hcf with ⟨i, e', y1, y2, y3⟩ | ⟨y1, y2⟩
      · have hel : e'.1 < 2800 := by have := (he e' (List.mem_of_getElem? y1)).2.1; omega
        rw [e30, y3, sb, if_neg (nIm (by omega)), hb, sb, if_pos (Or.inl rfl)]
      · exact (y1 e e1 e2).elim
    · left
      refine fail 5 (by decide) g (fun B2 hb => ?_)
      rcases hcf with ⟨i, e', y1, y2, y3⟩ | ⟨y1, y2⟩
      · exact (hno e' (List.mem_of_getElem? y1) y2).elim
      · rw [e30, y2, sb, if_pos rfl, if_pos (show nI bl.length = 6 by rw [g6]; rfl), hb, sb, if_pos (Or.inl rfl)]
    · right
      have y2 : mX12_branch B J (nI (1400 * h + mc)) (J 186 6) = some (-1) := by
        rcases hcf with ⟨i, e', y1, y2, y3⟩ | ⟨y1, y2⟩
        · exact (hno e' (List.mem_of_getElem? y1) y2).elim
        · exact y2
      have hn6 : ¬ nI bl.length = 6 := fun z => by have := (nI_eq (a := bl.length) (b := 6) (by omega) (by omega)).mp z; omega
      refine ⟨g6, t.2.1, u, r', I3, B1, J1, k1, hwN, hno, CR_I k4 (s3 6 (by omega)) (s3 9 (by omega)) (s3 10 (by omega)) (s3 11 (by omega)), k5, s2, by rw [s3 142 (by omega), k6 _ _ (by omega)], fun b q1 q2 q3 q4 => by rw [s3 b q4, cf_b k6 q1], k7, ?_, ?_⟩
      · rw [e20, eRB, s1, sb]
      · rw [e30, y2, sb, if_pos rfl, if_neg hn6, k3, sb, hJ6]
  · left
    obtain ⟨I1, B1, a1, a2, a3, a4⟩ := jbad hC h1 h (f := 1) (by decide) (nI t.2.2)
    obtain ⟨x, I', e1, e2⟩ := fmo_FAIL a3 (o := mX9_readChoice_20 R (n + 1) I F xk x2 (nI pn.length) (nI bl.length)) (fun f p hf => by
      rw [e20]
      have eRB : mX9_readBranchName I (nI pn.length) = mX9_readBranchName_19 LF I1 (nI pn.length) (nI t.2.2) 0 (nI pn.length) := by
        unfold mX9_readBranchName mX2_takeName
        rw [if_neg (fun z => q (ec.mp z)), cr_8 hC, a1, sb, sb]
      rw [eRB]
      exact fmo_o (fm_rb19 hf _ _ (by omega) (by unfold LF; omega) _ _ _) (fun v I3 h3' => fm_rest R n hfm h3' xk x2 (by omega) (nI bl.length) v))
    refine ⟨x, I', B1, J, e1, ?_, e2⟩
    unfold mX12_choice_30
    rw [if_neg (fun z => q (er.mp z)), cr_4 hC, a2, sb, if_pos (Or.inl rfl)]
end
