/-! THE NAME OF A CHANNEL beside the WORD's own (pure) -/
section
variable {k h M n : Nat} {F : fT} {I B : iT} {J : jT} {L : lT} {bs : List Nat} {t : Tok} {r : List Tok} {P md nest lv b : Nat} {S : List Sl} {a6 a8 a0 : List Int32}
theorem jname (hC : CR I B J bs t r) (H : XS k h M n F I B J L P md nest lv S a6 a8 a0) :
    (t.1 ≠ 256 ∧ ¬ B 186 3 = 2 ∧ ∃ I' B', mX2_takeName I = some (0, I') ∧ mX12_bad B 1 (nI t.2.2) = some (0, B') ∧ FAIL k h I B J I' B' J) ∨
    (t.1 = 256 ∧ B 186 3 = 2 ∧ ∃ u r' I1 B1 J1, r = u :: r' ∧ mX2_takeName I = some (nI (cN t.2.1), I1) ∧ mX2_advance I = some I1 ∧ CR I1 B1 J1 bs u r' ∧ mX12_look0 B J = some (B1, J1) ∧ t.2.2 + 1 ≤ u.2.2 ∧ cf I I1 ∧ rf B J B1 J1 ∧
      ((∃ v, mX5_find I1 (nI (cN t.2.1)) = some v ∧ mX5_talkAt I1 v = some (-1) ∧ (mX12_slot B J (J 186 6) = some (-1) ∨ ∃ sl, sl < 128 ∧ mX12_slot B J (J 186 6) = some (nI sl) ∧ B 208 sl = 0)) ∨
       (∃ (j : Nat) (s : Sl), S[j]? = some s ∧ s.1 = 2 ∧ mX5_find I1 (nI (cN t.2.1)) = some (nI j) ∧ mX5_talkAt I1 (nI j) = some (nI s.2.2.2.1) ∧ mX12_slot B J (J 186 6) = some (nI (sg n j)) ∧ j < 85 ∧ sg n j < 85 ∧ B 208 (sg n j) = (if j = 0 then 1 else 2) ∧ B 209 (sg n j) = nI s.2.2.1 ∧ s.2.2.2.2 ≤ 200 ∧ TR k L B J (fun v => 1400 * h ≤ v ∧ v < M) s.2.2.2.2 s.2.2.1 s.2.2.2.1 s.2.2.2.2))) := by
  have er : B 186 3 = 2 ↔ t.1 = 256 := cr_r hC 256 (by decide)
  have ec : I 6 6 = 256 ↔ t.1 = 256 := cr_c hC 256 (by omega)
  have hsr := H.2.2.2.2.2.1
  by_cases q : t.1 = 256
  · right
    have hwN : isN t.2.1 := (cr_wf hC).2.1 q
    have hval : I 6 7 = nI (cN t.2.1) := hC.1.2.2.1.1 q
    have hJ6 : J 186 6 = lN (rN t.2.1) := hC.2.1.2.2.2.1 q
    have htl : tl t.1 = 1 := by rw [q]; decide
    obtain ⟨u, r', I1, B1, J1, k1, k2, k3, k4, k5, k6, k7⟩ := jadv hC (by omega)
    rw [htl] at k5
    have hsr1 : SR k h M L I1 B J n lv S a6 a8 a0 := sr_to hsr H.2.2.1 TE.rfl (fun c q1 q2 => cf_b k6 (by omega)) rfl (fun _ => rfl) (fun _ => rfl) (fun _ => rfl) (fun _ _ _ => ⟨rfl, rfl, rfl, rfl, rfl⟩)
    refine ⟨q, er.mpr q, u, r', I1, B1, J1, k1, ?_, k2, k4, k3, k5, k6, k7, ?_⟩
    · unfold mX2_takeName
      rw [if_pos (ec.mpr q), k2, sb, hval]
    · rw [hJ6]
      rcases sr_find hsr1 hwN with ⟨i, s, f1, f2, f3, f4, f5⟩ | ⟨f1, f2, f3⟩
      · have hil : i < S.length := (List.getElem?_eq_some_iff.mp f1).1
        have hsg := sg_lt hsr.2.1.2.2.2.1 hil
        have hsl := hsr.2.1.2.2.2.2.2.1
        obtain ⟨d1, d2, d3, d4, d5⟩ := hsr.2.2.1 i s f1
        have ht := sr_talk hsr1 f1
        by_cases z : s.1 = 2
        · right
          obtain ⟨y1, y2, y3⟩ := d5 z
          refine ⟨i, s, f1, z, f4, by rw [ht, if_pos z], f5, by omega, by omega, ?_, y1, y2, y3⟩
          rw [(d4 f2).2, if_neg (by omega)]
        · left
          refine ⟨nI i, f4, by rw [ht, if_neg z], Or.inr ⟨sg n i, by omega, f5, ?_⟩⟩
          rw [(d4 f2).2, if_pos (by omega)]
      · left
        exact ⟨-1, f2, talk_m1 hsr1.1.2.1, Or.inl f3⟩
  · left
    obtain ⟨I1, B1, a1, a2, a3, a4⟩ := jbad hC H.1 h (f := 1) (by decide) (nI t.2.2)
    refine ⟨q, fun z => q (er.mp z), I1, B1, ?_, a2, a3⟩
    unfold mX2_takeName
    rw [if_neg (fun z => q (ec.mp z)), cr_8 hC, a1, sb]
theorem tr_lt {Q : Nat → Prop} {d u t0 p d1 u1 t1 p1 : Nat} (hT : tabL k L) (hK : (L (k + 2)).length ≤ 1000) (hN5 : (L (k + 10)).length ≤ 500) (h1 : TR k L B J Q d u t0 p) (h2 : TR k L B J Q d1 u1 t1 p1) (hp : p ≤ 200) (hp1 : p1 ≤ 200) (ne : p ≠ p1) : t0 ≠ t1 := by
  intro e
  subst e
  have a := tr_parts hT hK hN5 _ _ _ _ h1
  have c := tr_parts hT hK hN5 _ _ _ _ h2
  rw [a] at c
  exact ne ((nI_eq (by omega) (by omega)).mp c)
end
