/-! ONE PARAM IS READ, in both (pure) -/
section
variable {k h nD : Nat} {W : List Ent} {F : fT} {I B : iT} {J : jT} {L : lT} {bs : List Nat} {t : Tok} {r : List Tok} {P md b d : Nat} {S : List Sl} {a6 a8 a0 : List Int32}
theorem qs_B {B' : iT} (H : QS k h nD W F I B J L P md S a6 a8 a0 b) (hB : ∀ q i, q ≠ 203 → ¬ (q = 199 ∧ 4 * (12 * h + nD) + S.length ≤ i) → B' q i = B q i) : QS k h nD W F I B' J L P md S a6 a8 a0 b := by
  obtain ⟨⟨q1, q2, q3, q4, ⟨u1, u2, u3, u4, u5⟩, u6⟩, h2, h3, h4, h5, h6, h7, h8⟩ := H
  have hA : ∀ v, (B' 188 v = B 188 v ∧ B' 189 v = B 189 v ∧ B' 190 v = B 190 v ∧ B' 191 v = B 191 v ∧ J 192 v = J 192 v) := fun v => ⟨hB _ _ (by omega) (by omega), hB _ _ (by omega) (by omega), hB _ _ (by omega) (by omega), hB _ _ (by omega) (by omega), rfl⟩
  refine ⟨⟨q1, q2, q3, nt_to q4 q3 TE.rfl rfl rfl (fun v _ _ => hA v) (hB _ _ (by omega) (by omega)) (fun _ => rfl) (fun _ => hB _ _ (by omega) (by omega)), ⟨u1, by rw [hB _ _ (by omega) (by omega)]; exact u2, by rw [hB _ _ (by omega) (by omega)]; exact u3, by rw [hB _ _ (by omega) (by omega)]; exact u4, u5⟩, u6⟩, h2, qr_to h3 q3 TE.rfl (fun _ _ _ => rfl) (hB _ _ (by omega) (by omega)) (fun _ => hB _ _ (by omega) (by omega)) (fun _ => hB _ _ (by omega) (by omega)) (fun _ => rfl) (fun v _ _ => hA v) (Nat.le_refl _), h4, h5, h6, fun i s hs => ?_, h8⟩
  have hi : i < S.length := (List.getElem?_eq_some_iff.mp hs).1
  rw [hB _ _ (by omega) (by omega)]
  exact h7 i s hs
theorem hf_B {B' : iT} (hB : ∀ q i, ¬ (q = 203 ∧ i = d) → ¬ (q = 199 ∧ 4 * d ≤ i ∧ i < 4 * d + 4) → B' q i = B q i) : HF k h d md I B J L I B' J L := ⟨TE.rfl, fun _ _ _ _ => rfl, fun _ _ _ _ _ => rfl, fun q i _ _ p3 p4 _ => hB q i p3 p4, fun _ _ _ _ _ _ => rfl, fun _ _ => rfl⟩
theorem hf_type {I' B' : iT} {J' : jT} {L' : lT} (e : EXT k L L') (c : cT k I I') (r : rT h md B J B' J') : HF k h d md I B J L I' B' J' L' := ⟨e.1, fun a w _ _ => e.2 a w, fun x w1 w2 w3 _ => c x w1 (by omega) w3 (by omega), fun q i p1 p2 _ _ _ => r.1 q i (fun z => p1 ⟨z.1, by omega⟩) p2, fun q i p1 p2 _ _ => r.2 q i p1 p2, fun f _ => by rw [e.2 _ (by omega)]⟩
/-- a T is read between two PARAMS -/
theorem qs_type {I' B' : iT} {J' : jT} {L' : lT} {P' md' : Nat} (H : QS k h nD W F I B J L P md S a6 a8 a0 b) (hBT : BT k h (1400 * h + md') W F I' B' J' L' P' md') (e : EXT k L L') (c : cT k I I') (r : rT h md B J B' J') (hm : md ≤ md') : QS k h nD W F I' B' J' L' P' md' S a6 a8 a0 b := by
  obtain ⟨h1, h2, h3, h4, h5, h6, h7, h8⟩ := H
  have hk0 := h1.1.1
  have e45 : L' (k + 45) = L (k + 45) := e.2 _ (by omega)
  refine ⟨hBT, h2, qr_to h3 h1.2.2.1 e.1 (fun x q1 q2 => c x (by omega) (by omega) (by omega) (by omega)) (r.1 _ _ (by omega) (by omega)) (fun _ => r.1 _ _ (by omega) (by omega)) (fun _ => r.1 _ _ (by omega) (by omega)) (fun _ => r.2 _ _ (by omega) (by omega)) (fun v w1 w2 => ⟨r.1 _ _ (by omega) (by omega), r.1 _ _ (by omega) (by omega), r.1 _ _ (by omega) (by omega), r.1 _ _ (by omega) (by omega), r.2 _ _ (by omega) (by omega)⟩) (by omega), h4, by rw [e45]; exact h5, h6, fun i s hs => ?_, fun i w1 w2 => by rw [e45]; exact h8 i w1 w2⟩
  rw [e45, r.1 _ _ (by omega) (by omega)]
  exact h7 i s hs
theorem hf_fin {I' B' : iT} {J' : jT} {i0 : Nat} {v : Int32} {m : Nat} (hm : m < 4) (hi0 : 4 * (d - 12 * h) ≤ i0) (f1 : ∀ c, ¬ (135 ≤ c ∧ c ≤ 141) → ¬ (k + 45 ≤ c ∧ c ≤ k + 46) → I' c = I c) (f2 : ∀ q i, ¬ (q = 186 ∧ (i = 43 ∨ i = 51)) → q ≠ 208 → q ≠ 209 → B' q i = B q i) (f3 : ∀ q i, ¬ (q = 195 ∧ i = 4 * d + m) → q ≠ 206 → J' q i = J q i) : HF k h d md I B J L I' B' J' (upL L (k + 45) ((L (k + 45)).set i0 v)) := ⟨TE_eq (fun a w1 w2 => upL_n _ _ (by omega)), fun a _ _ w => upL_n _ _ w, fun c _ w2 _ w4 => f1 c (by omega) (by omega), fun q i p1 _ _ _ p5 => f2 q i (fun z => p1 ⟨z.1, by omega⟩) (by omega) (by omega), fun q i _ _ p3 p4 => f3 q i (fun z => p3 ⟨z.1, by omega, by omega⟩) (by omega), fun f w => by rw [upL_s, gI_sn (by omega)]⟩
theorem pm_one {K : iT → fT → Int32 → Int32 → Int32 → Option iT} {K' : iT → jT → Int32 → Int32 → Option (Int32 × iT × jT)} (hC : CR I B J bs t r) (H : QS k h nD W F I B J L t.2.2 md S a6 a8 a0 b) :
    (∃ I' B' J', mX3_readParams_99 K I F (nI (4 * nD)) (nI S.length) (nI S.length) = some I' ∧ mX12_defText_159 K' B J (nI (12 * h + nD)) (nI S.length) = some (0, B', J') ∧ PL k h (b + 1) I B J I' B' J') ∨
    (∃ (s : Sl) (I' B' : iT) (J' : jT) (L' : lT) (t' : Tok) (r' : List Tok) (md' : Nat) (a6' a8' a0' : List Int32), S.length < 4 ∧ mX3_readParams_99 K I F (nI (4 * nD)) (nI S.length) (nI S.length) = pmS K I' F (nI (4 * nD)) (nI (S.length + 1)) (nI S.length) ∧ mX12_defText_159 K' B J (nI (12 * h + nD)) (nI S.length) = K' B' J' (nI (12 * h + nD)) (nI (S.length + 1)) ∧ CR I' B' J' bs t' r' ∧ QS k h nD W F I' B' J' L' t'.2.2 md' (S ++ [s]) a6' a8' a0' b ∧ HF k h (12 * h + nD) md I B J L I' B' J' L' ∧ md ≤ md' ∧ t.2.2 < t'.2.2 ∧ I' 134 = I 134 ∧ (S.length = 0 → B' 203 (12 * h + nD) = nI t.2.2) ∧ (S.length ≠ 0 → B' 203 (12 * h + nD) = B 203 (12 * h + nD)) ∧ t.1 = 256 ∧ L' (k + 43) = L (k + 43)) := by
  have hk0 := H.1.1.1
  have hF := H.2.1
  have hbb := H.2.2.2.1.2
  have hT := H.1.2.2.1
  have hnD := H.2.2.2.2.2.1
  have hh := H.1.2.2.2.2.1.1
  have hS4 := H.2.2.1.2.1.2.2.1
  have e99 : mX3_readParams_99 K I F (nI (4 * nD)) (nI S.length) (nI S.length) = (mX3_readFreshThing I).bind fun q8 => pmT K q8.2 F (nI (4 * nD)) (nI S.length) (nI S.length) (I 6 8) q8.1 := rfl
  have e159 : mX12_defText_159 K' B J (nI (12 * h + nD)) (nI S.length) = (mX12_isFree B J).bind fun q6 => if q6.1 = 0 then some (0, q6.2, J) else if nI S.length = 4 then rBad q6.2 J 5 (q6.2 186 4) else if nI S.length = 0 then if inb (nI (12 * h + nD)) 24 then mX12_defText_197 K' (a_u2 q6.2 203 (nI (12 * h + nD)).toNatClampNeg (q6.2 186 4)) J (nI (12 * h + nD)) (nI S.length) else none else mX12_defText_197 K' q6.2 J (nI (12 * h + nD)) (nI S.length) := rfl
  rw [e99, e159, cr_8 hC]
  rcases jfreeQ hC H.1.1 hT H.2.2.1 (qs_scp H) (by omega) with ⟨x, I1, B1, f1, f2, f3, f4⟩ | ⟨u, r1, I1, q, hwN, hno, k1, g1, g2, hJ6, k2, k6⟩
  · left
    obtain ⟨I', a1, a2⟩ := pfu_PL f3 (c' := b + 1) (fun f p hf => pf_pmT (K := K) hF hf (by omega) (nI (4 * nD)) (nI S.length) (nI S.length) (nI t.2.2) x)
    exact ⟨I', B1, J, by rw [f1, sb]; exact a1, by rw [f2, sb, if_pos rfl], a2⟩
  · rw [g1, sb, g2, sb, if_neg i10]
    have htl : tl t.1 = 1 := by rw [q]; decide
    rcases Nat.lt_or_ge S.length 4 with hS | hS
    · -- it may come
      have n4 : ¬ nI S.length = 4 := fun z => by have := (nI_eq (b := 4) (by omega) (by omega)).mp z; omega
      have i24 : inb (nI (12 * h + nD)) 24 := vp_in_nI (by omega) (by omega)
      have c24 : (nI (12 * h + nD)).toNatClampNeg = 12 * h + nD := nI_clamp (by omega)
      obtain ⟨Bf, eBf, fBf, v0, v1⟩ : ∃ Bf, (if nI S.length = 0 then if inb (nI (12 * h + nD)) 24 then mX12_defText_197 K' (a_u2 B 203 (nI (12 * h + nD)).toNatClampNeg (B 186 4)) J (nI (12 * h + nD)) (nI S.length) else none else mX12_defText_197 K' B J (nI (12 * h + nD)) (nI S.length)) = mX12_defText_197 K' Bf J (nI (12 * h + nD)) (nI S.length) ∧ (∀ q i, ¬ (q = 203 ∧ i = 12 * h + nD) → Bf q i = B q i) ∧ (S.length = 0 → Bf 203 (12 * h + nD) = nI t.2.2) ∧ (S.length ≠ 0 → Bf 203 (12 * h + nD) = B 203 (12 * h + nD)) := by
        by_cases z : S.length = 0
        · refine ⟨a_u2 B 203 (12 * h + nD) (nI t.2.2), ?_, fun q i w => a_u2_n _ _ w, fun _ => a_u2_s _ _ _ _, fun w => absurd z w⟩
          rw [if_pos (show nI S.length = 0 by rw [z]; rfl), if_pos i24, c24, cr_4 hC]
        · refine ⟨B, ?_, fun _ _ _ => rfl, fun w => absurd w z, fun _ => rfl⟩
          rw [if_neg (show ¬ nI S.length = 0 from fun w => z ((nI_eq (b := 0) (by omega) (by omega)).mp w))]
      rw [if_neg n4]
      show (∃ I' B' J', _ ∧ (if nI S.length = 0 then if inb (nI (12 * h + nD)) 24 then mX12_defText_197 K' (a_u2 B 203 (nI (12 * h + nD)).toNatClampNeg (B 186 4)) J (nI (12 * h + nD)) (nI S.length) else none else mX12_defText_197 K' B J (nI (12 * h + nD)) (nI S.length)) = some (0, B', J') ∧ _) ∨ (∃ (s : Sl) (I' B' : iT) (J' : jT) (L' : lT) (t' : Tok) (r' : List Tok) (md' : Nat) (a6' a8' a0' : List Int32), _ ∧ _ ∧ (if nI S.length = 0 then if inb (nI (12 * h + nD)) 24 then mX12_defText_197 K' (a_u2 B 203 (nI (12 * h + nD)).toNatClampNeg (B 186 4)) J (nI (12 * h + nD)) (nI S.length) else none else mX12_defText_197 K' B J (nI (12 * h + nD)) (nI S.length)) = _ ∧ _)
      rw [eBf]
      have hCf : CR I Bf J bs t r := CR_B hC (fun j _ _ => fBf _ _ (by omega)) (funext fun j => fBf _ _ (by omega)) rfl
      have Hf : QS k h nD W F I Bf J L t.2.2 md S a6 a8 a0 b := qs_B H (fun q i w1 _ => fBf q i (by omega))
      obtain ⟨u1, r2, I1b, B1, J1, l1, l2, l3, l4, l5, l6, l7⟩ := jadv hCf (by omega)
      have eI : I1b = I1 := Option.some.inj (l2.symm.trans k2)
      subst eI
      rw [htl] at l5
      have H1 := qs_cur Hf l6 l7 (P' := u1.2.2) (by omega)
      have i96 : inb (nI (4 * (12 * h + nD) + S.length)) 96 := vp_in_nI (by omega) (by omega)
      have c96 : (nI (4 * (12 * h + nD) + S.length)).toNatClampNeg = 4 * (12 * h + nD) + S.length := nI_clamp (by omega)
      have fB2 : ∀ q i, ¬ (q = 199 ∧ i = 4 * (12 * h + nD) + S.length) → (a_u2 B1 199 (4 * (12 * h + nD) + S.length) (-1)) q i = B1 q i := fun q i w => a_u2_n _ _ w
      have gB2 : (a_u2 B1 199 (4 * (12 * h + nD) + S.length) (-1)) 199 (4 * (12 * h + nD) + S.length) = -1 := a_u2_s _ _ _ _
      have e197 : mX12_defText_197 K' Bf J (nI (12 * h + nD)) (nI S.length) = (mX12_isSign (a_u2 B1 199 (4 * (12 * h + nD) + S.length) (-1)) 58).bind fun q3 => if q3 = 0 then mX12_defText_253 K' (a_u2 B1 199 (4 * (12 * h + nD) + S.length) (-1)) J1 (nI (12 * h + nD)) (nI S.length) (J 186 6) else (mX12_look0 (a_u2 B1 199 (4 * (12 * h + nD) + S.length) (-1)) J1).bind fun q4 => (mX12_wholeType q4.1 q4.2).bind fun q5 => if q5.1 = 0 then some (0, q5.2.1, q5.2.2) else mX12_defText_253 K' (a_u2 q5.2.1 199 (4 * (12 * h + nD) + S.length) (q5.2.1 186 36)) q5.2.2 (nI (12 * h + nD)) (nI S.length) (J 186 6) := by
        unfold mX12_defText_197
        rw [l3, sb]
        simp only [i4m, c96, if_pos i96]
      rw [e197]
      generalize (a_u2 B1 199 (4 * (12 * h + nD) + S.length) (-1)) = B2 at fB2 gB2 ⊢
      have hC2 : CR I1b B2 J1 bs u1 r2 := CR_B l4 (fun j _ _ => fB2 _ _ (by omega)) (funext fun j => fB2 _ _ (by omega)) rfl
      have H2 : QS k h nD W F I1b B2 J1 L u1.2.2 md S a6 a8 a0 b := qs_B H1 (fun q i _ w2 => fB2 q i (by omega))
      have hf2 : HF k h (12 * h + nD) md I B J L I1b B2 J1 L := ((hf_B (fun q i w1 _ => fBf q i w1)).trans (hf_cur l6 l7) (Nat.le_refl _)).trans (hf_B (fun q i _ w2 => fB2 q i (by omega))) (Nat.le_refl _)
      have i134 : I1b 134 = I 134 := cf_b l6 (by omega)
      have v0' : S.length = 0 → B2 203 (12 * h + nD) = nI t.2.2 := fun w => by rw [fB2 _ _ (by omega), l7.1 _ _ (by omega)]; exact v0 w
      have v1' : S.length ≠ 0 → B2 203 (12 * h + nD) = B 203 (12 * h + nD) := fun w => by rw [fB2 _ _ (by omega), l7.1 _ _ (by omega)]; exact v1 w
      have s58 : mX12_isSign B2 58 = some (if u1.1 = 58 then 1 else 0) := cr_sign hC2 58 (by omega)
      have c58 : I1b 6 6 = 58 ↔ u1.1 = 58 := cr_c l4 58 (by omega)
      have ePT : pmT K I1b F (nI (4 * nD)) (nI S.length) (nI S.length) (nI t.2.2) (nI (cN t.2.1)) = mX3_readParams_129 K I1b F (nI (4 * nD)) (nI S.length) (nI S.length) (nI t.2.2) (nI (cN t.2.1)) := by
        unfold pmT
        rw [if_pos (show nI S.length < 4 from nI_lt (b := 4) hS (by omega))]
      rw [ePT, s58, sb, hJ6]
      by_cases q5 : u1.1 = 58
      · -- with a T
        obtain ⟨u3, r3, I3, B3, J3, s1, s2, s3, s4, s5, s6, s7⟩ := jadv hC2 (by omega)
        have htl3 : tl u1.1 = 1 := by rw [q5]; decide
        rw [htl3] at s5
        have H3 := qs_cur H2 s6 s7 (P' := u3.2.2) (by omega)
        have hf3 := hf2.trans (hf_cur s6 s7) (Nat.le_refl _)
        have e129 : mX3_readParams_129 K I1b F (nI (4 * nD)) (nI S.length) (nI S.length) (nI t.2.2) (nI (cN t.2.1)) = (mX9_readWhole I3 F).bind fun q7 => mX3_readParams_152 K q7.2 F (nI (4 * nD)) (nI S.length) (nI S.length) (nI t.2.2) (nI (cN t.2.1)) q7.1 := by
          unfold mX3_readParams_129 mX2_skip
          rw [if_pos (c58.mpr q5), s2, sb, sb, if_neg i10]
        rw [e129, if_pos q5, if_neg i10, s3, sb]
        obtain ⟨x, I4, v, B4, J4, a1, a2, ho⟩ := wh_ok s4 H3.1
        rw [a1, sb]
        show (∃ I' B' J', _ ∧ ((mX12_wholeType B3 J3).bind _) = some (0, B', J') ∧ _) ∨ (∃ (s : Sl) (I' B' : iT) (J' : jT) (L' : lT) (t' : Tok) (r' : List Tok) (md' : Nat) (a6' a8' a0' : List Int32), _ ∧ _ ∧ ((mX12_wholeType B3 J3).bind _) = _ ∧ _)
        rw [a2, sb]
        rcases ho with ⟨rfl, hf⟩ | ⟨rfl, uu, tt, p, L4, t4, r4, md4, o1, o2, o3, o4, o5, o6, o7, o8, o9, o10, o11, o12, o13, o14⟩
        · left
          have hpl := PL.pre (hf_FQ hf3) (hf_RX hf3 hnD) (fail_PL hf (qs_scp H3) (by omega))
          obtain ⟨I', d1, d2⟩ := pfu_PL hpl (c' := b + 1) (fun f p hf => pf_152p (K := K) hF hf (by omega) (nI (4 * nD)) (nI S.length) (nI S.length) (nI t.2.2) (nI (cN t.2.1)) x)
          exact ⟨I', B4, J4, d1, by rw [if_pos rfl], d2⟩
        · subst o1
          right
          have H4 := qs_type H3 o3 o4 o13 o14 o8
          have hf4 := hf3.trans (hf_type o4 o13 o14) (Nat.le_refl _)
          have fB5 : ∀ q i, ¬ (q = 199 ∧ i = 4 * (12 * h + nD) + S.length) → (a_u2 B4 199 (4 * (12 * h + nD) + S.length) (nI uu)) q i = B4 q i := fun q i w => a_u2_n _ _ w
          have gB5 : (a_u2 B4 199 (4 * (12 * h + nD) + S.length) (nI uu)) 199 (4 * (12 * h + nD) + S.length) = nI uu := a_u2_s _ _ _ _
          rw [if_neg i10]
          show ∃ (s : Sl) (I' B' : iT) (J' : jT) (L' : lT) (t' : Tok) (r' : List Tok) (md' : Nat) (a6' a8' a0' : List Int32), _ ∧ _ ∧ mX12_defText_253 K' (a_u2 B4 199 (4 * (12 * h + nD) + S.length) (B4 186 36)) J4 (nI (12 * h + nD)) (nI S.length) (lN (rN t.2.1)) = _ ∧ _
          rw [o7]
          generalize (a_u2 B4 199 (4 * (12 * h + nD) + S.length) (nI uu)) = B5 at fB5 gB5 ⊢
          have H5 : QS k h nD W F I4 B5 J4 L4 t4.2.2 md4 S a6 a8 a0 b := qs_B H4 (fun q i _ w2 => fB5 q i (by omega))
          have hf5 := hf4.trans (hf_B (md := md4) (L := L4) (fun q i _ w2 => fB5 q i (by omega))) o8
          have hTR5 : TR k L4 B5 J4 (fun v => 1400 * h ≤ v ∧ v < 1400 * h + md4) p uu tt p := tr_to o3.2.2.1 TE.rfl (fun v _ => ⟨fB5 _ _ (by omega), fB5 _ _ (by omega), fB5 _ _ (by omega), fB5 _ _ (by omega), rfl⟩) (fun v hv => hv) _ _ _ _ _ (Nat.le_refl _) o5
          obtain ⟨I6, B6, J6, b6, b8, b0, p1, p2, p3, p4, p5, p6⟩ := pm_fin (K := K) (K' := K') H5 hS (s := (2, t.2.1, uu, tt, p)) (Or.inr ⟨rfl, o6, hTR5⟩) hwN hno (by rw [gB5]; rfl) (nI t.2.2)
          have hC6 : CR I6 B6 J6 bs t4 r4 := CR_B (CR_I (CR_B o2 (fun j _ _ => fB5 _ _ (by omega)) (funext fun j => fB5 _ _ (by omega)) rfl) (p4 _ (by omega) (by omega)) (p4 _ (by omega) (by omega)) (p4 _ (by omega) (by omega)) (p4 _ (by omega) (by omega))) (fun j _ _ => p5 _ _ (by omega) (by omega) (by omega)) (funext fun j => p5 _ _ (by omega) (by omega) (by omega)) (p6 _ _ (by omega) (by omega))
          have g203 : B6 203 (12 * h + nD) = B2 203 (12 * h + nD) := by rw [p5 _ _ (by omega) (by omega) (by omega), fB5 _ _ (by omega), o14.1 _ _ (by omega) (by omega), s7.1 _ _ (by omega)]
          exact ⟨_, I6, B6, J6, _, t4, r4, md4, b6, b8, b0, hS, p1, p2, hC6, p3, hf5.trans (hf_fin (md := md4) hS (by omega) p4 p5 p6) o8, o8, by omega, by rw [p4 134 (by omega) (by omega), o13 134 (by omega) (by omega) (by omega) (by omega), cf_b s6 (by omega)]; exact i134, fun w => by rw [g203]; exact v0' w, fun w => by rw [g203]; exact v1' w, q, by rw [upL_n _ _ (by omega)]; exact o4.2 _ (by omega)⟩
      · right
        have e129 : mX3_readParams_129 K I1b F (nI (4 * nD)) (nI S.length) (nI S.length) (nI t.2.2) (nI (cN t.2.1)) = mX3_readParams_152 K I1b F (nI (4 * nD)) (nI S.length) (nI S.length) (nI t.2.2) (nI (cN t.2.1)) (-1) := by
          unfold mX3_readParams_129 mX2_skip
          rw [if_neg (fun z => q5 (c58.mp z)), sb, if_pos rfl]
        rw [e129, if_neg q5, if_pos rfl]
        obtain ⟨I6, B6, J6, b6, b8, b0, p1, p2, p3, p4, p5, p6⟩ := pm_fin (K := K) (K' := K') H2 hS (s := (1, t.2.1, 0, 0, 0)) (Or.inl rfl) hwN hno (by rw [gB2]; rfl) (nI t.2.2)
        have hC6 : CR I6 B6 J6 bs u1 r2 := CR_B (CR_I hC2 (p4 _ (by omega) (by omega)) (p4 _ (by omega) (by omega)) (p4 _ (by omega) (by omega)) (p4 _ (by omega) (by omega))) (fun j _ _ => p5 _ _ (by omega) (by omega) (by omega)) (funext fun j => p5 _ _ (by omega) (by omega) (by omega)) (p6 _ _ (by omega) (by omega))
        have g203 : B6 203 (12 * h + nD) = B2 203 (12 * h + nD) := p5 _ _ (by omega) (by omega) (by omega)
        exact ⟨_, I6, B6, J6, _, u1, r2, md, b6, b8, b0, hS, p1, p2, hC6, p3, hf2.trans (hf_fin hS (by omega) p4 p5 p6) (Nat.le_refl _), Nat.le_refl _, by omega, by rw [p4 134 (by omega) (by omega)]; exact i134, fun w => by rw [g203]; exact v0' w, fun w => by rw [g203]; exact v1' w, q, by rw [upL_n _ _ (by omega)]⟩
    · -- the fifth
      left
      have h4 : S.length = 4 := by omega
      obtain ⟨u1, r2, I1b, B1, J1, l1, l2, l3, l4, l5, l6, l7⟩ := jadv hC (by omega)
      have eI : I1b = I1 := Option.some.inj (l2.symm.trans k2)
      subst eI
      obtain ⟨I9, B9, b1, b2, b3⟩ := jbad2 hC (cf_RS l6 H.1.1) (cr_9 l4) (cf_FX l6) h (f := 5) (by decide) (nI t.2.2)
      obtain ⟨I', d1, d2⟩ := pfu_PL (fail_PL b3 (qs_scp H) (by omega)) (c' := b + 1) (fun f p hf => pf_129p (K := K) hF hf (by omega) (nI (4 * nD)) (nI S.length) (nI S.length) (nI t.2.2) (nI (cN t.2.1)))
      refine ⟨I', B9, J, ?_, ?_, d2⟩
      · unfold pmT
        rw [if_neg (show ¬ nI S.length < 4 from nI_nlt (b := 4) hS (by omega)), b1, sb]
        exact d1
      · rw [if_pos (show nI S.length = 4 by rw [h4]; rfl)]
        show rBad B J 5 (B 186 4) = _
        rw [cr_4 hC]
        exact rBad_ok b2
end
