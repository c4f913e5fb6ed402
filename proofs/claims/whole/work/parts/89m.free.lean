/-! A NAME THAT COMES, in both (pure) -/
section
variable {k h M n : Nat} {F : fT} {I B : iT} {J : jT} {L : lT} {bs : List Nat} {t : Tok} {r : List Tok} {P md nest lv b : Nat} {S : List Sl} {a6 a8 a0 : List Int32}
theorem jfree (hC : CR I B J bs t r) (H : XS k h M n F I B J L P md nest lv S a6 a8 a0) (hs : SCP b I) (hb : b ≤ 10000) :
    (∃ x I' B', mX3_readFreshThing I = some (x, I') ∧ mX12_isFree B J = some (0, B') ∧ PL k h b I B J I' B' J) ∨
    (∃ u r' I' B' J', t.1 = 256 ∧ isN t.2.1 ∧ (∀ (i : Nat) (s : Sl), S[i]? = some s → s.1 ≠ 0 → s.2.1 ≠ t.2.1) ∧ r = u :: r' ∧ mX3_readFreshThing I = some (nI (cN t.2.1), I') ∧ mX12_isFree B J = some (1, B) ∧ J 186 6 = lN (rN t.2.1) ∧ mX2_advance I = some I' ∧ mX12_look0 B J = some (B', J') ∧ CR I' B' J' bs u r' ∧ t.2.2 + 1 ≤ u.2.2 ∧ cf I I' ∧ rf B J B' J') := by
  have er : B 186 3 = 2 ↔ t.1 = 256 := cr_r hC 256 (by decide)
  have ec : I 6 6 = 256 ↔ t.1 = 256 := cr_c hC 256 (by omega)
  have hsr := H.2.2.2.2.2.1
  by_cases q : t.1 = 256
  · have hwN : isN t.2.1 := (cr_wf hC).2.1 q
    have hval : I 6 7 = nI (cN t.2.1) := hC.1.2.2.1.1 q
    have hJ6 : J 186 6 = lN (rN t.2.1) := hC.2.1.2.2.2.1 q
    have htl : tl t.1 = 1 := by rw [q]; decide
    obtain ⟨u, r', I1, B1, J1, k1, k2, k3, k4, k5, k6, k7⟩ := jadv hC (by omega)
    rw [htl] at k5
    have hR1 := cf_RS k6 H.1
    have hsr1 : SR k h M L I1 B J n lv S a6 a8 a0 := sr_to hsr H.2.2.1 TE.rfl (fun c q1 q2 => cf_b k6 (by omega)) rfl (fun _ => rfl) (fun _ => rfl) (fun _ => rfl) (fun _ _ _ => ⟨rfl, rfl, rfl, rfl, rfl⟩)
    have eC : mX3_readFreshThing I = (mX5_find I1 (nI (cN t.2.1))).bind fun q2 => if q2 = -1 then some (nI (cN t.2.1), I1) else (mX2_refuse I1 2 (nI t.2.2)).bind fun q3 => some (nI (cN t.2.1), q3) := by
      unfold mX3_readFreshThing mX2_takeName
      rw [if_pos (ec.mpr q), k2, sb, sb, hval, cr_8 hC]
    unfold mX12_isFree
    rw [if_pos (er.mpr q), hJ6, eC]
    rcases sr_find hsr1 hwN with ⟨i, s, f1, f2, f3, f4, f5⟩ | ⟨f1, f2, f3⟩
    · left
      have hil : i < S.length := (List.getElem?_eq_some_iff.mp f1).1
      have g4 := hsr.2.1.2.2.2.1
      have g6 := hsr.2.1.2.2.2.2.2.1
      have hsg := sg_lt g4 hil
      obtain ⟨I2, B2, a1, a2, a3⟩ := jbad2 hC hR1 (cr_9 k4) (cf_FX k6) h (f := 2) (by decide) (nI t.2.2)
      refine ⟨nI (cN t.2.1), I2, B2, ?_, ?_, fail_PL a3 hs hb⟩
      · rw [f4, sb, if_neg (nIm (by omega)), a1, sb]
      · rw [f5, sb, if_neg (nIm (by omega)), cr_4 hC, a2, sb, if_pos rfl]
    · right
      exact ⟨u, r', I1, B1, J1, q, hwN, f1, k1, by rw [f2, sb, if_pos rfl], by rw [f3, sb, if_pos rfl]; rfl, rfl, k2, k3, k4, k5, k6, k7⟩
  · left
    obtain ⟨I1, B1, a1, a2, a3, a4⟩ := jbad hC H.1 h (f := 1) (by decide) (nI t.2.2)
    obtain ⟨x, I', b1, b2⟩ := pfo_PL (fail_PL a3 hs hb) (o := mX3_readFreshThing I) (fun f p hf => by
      unfold mX3_readFreshThing mX2_takeName
      rw [if_neg (fun z => q (ec.mp z)), cr_8 hC, a1, sb, sb]
      refine pfo_r (pf_find hf _) (fun v => pfo_if (pfo_ret hf _) ?_)
      rw [fm_refuse hf.1, sb]
      exact pfo_ret hf _)
    refine ⟨x, I', B1, b1, ?_, b2⟩
    unfold mX12_isFree
    rw [if_neg (fun z => q (er.mp z)), cr_4 hC, a2, sb, if_pos (Or.inl rfl)]
end
