/-! TWO CHANNELS BECOME ONE, in both (pure): their rows of MESSAGES -/
section
variable {R : lT} {I B : iT}
/-- what lies in row r2 comes behind what lies in row r1 -/
theorem ap_c {np nm r1 r2 : Nat} {l1 l2 : List Nat} (hN : RN I R) (hL : CHL np nm R) (hr1 : r1 < 2 * np) (hr2 : r2 < 2 * np) (hne : r1 ≠ r2) (hQ1 : QCc R r1 l1) (hQ2 : QCc R r2 l2) (hb1 : l1.length < 1000) (hb2 : l2.length < 1000) (hlt : ∀ m ∈ l1, m < nm) (hnd : l1.Nodup) (hdj : ∀ m ∈ l2, ¬ m ∈ l1) : ∃ I' R', mX1_append I (nI r1) (nI r2) = some I' ∧ RN I' R' ∧ QCc R' r1 (l1 ++ l2) ∧ (∀ r' l', r' ≠ r1 → QCc R r' l' → (∀ m ∈ l', ¬ m ∈ l1) → QCc R' r' l') ∧ (∀ a, a ≠ 152 → a ≠ 154 → a ≠ 156 → a ≠ 162 → R' a = R a) ∧ (∀ a, (R' a).length = (R a).length) ∧ ∀ q, ¬ (152 ≤ q ∧ q ≤ 163) → I' q = I q := by
  obtain ⟨h1, h2, h3, h4, h5, h6, h7, h8⟩ := hL
  have e156 : ∀ j, j < 2 ^ 31 → mX4_at 156 I (nI j) = some (gI (R 156) j) := fun j hj => rn_g hN (by unfold rnA; omega) hj
  have hlen : ∀ (x : lT) (a : Nat) (j : Nat) (v : Int32) (c : Nat), (upL x a ((x a).set j v) c).length = (x c).length := by
    intro x a j v c
    by_cases q : c = a
    · subst q; rw [upL_s, List.length_set]
    · rw [upL_n _ _ q]
  unfold mX1_append
  rw [e156 _ (by omega), sb, hQ2.1]
  by_cases hz : l2 = []
  · subst hz
    rw [if_neg (by decide)]
    refine ⟨I, R, rfl, hN, by rw [List.append_nil]; exact hQ1, fun r' l' _ hq _ => hq, fun _ _ _ _ _ => rfl, fun _ => rfl, fun _ _ => rfl⟩
  · have hpos : 0 < l2.length := by
      cases l2 with
      | nil => exact absurd rfl hz
      | cons x y => exact Nat.succ_pos _
    rw [if_pos (show (0 : Int32) < nI l2.length from nI_lt (a := 0) hpos (by omega)), e156 _ (by omega), sb, hQ1.1]
    -- tail and count
    have fin : ∀ (I4 : iT) (R4 : lT), RN I4 R4 → R4 154 = R 154 → R4 156 = R 156 → ∃ I', mX1_append_65 I4 (nI r1) (nI r2) = some I' ∧ RN I' (upL (upL R4 154 ((R 154).set r1 (gI (R 154) r2))) 156 ((R 156).set r1 (nI (l1.length + l2.length)))) ∧ ∀ q, ¬ (154 ≤ q ∧ q ≤ 157) → I' q = I4 q := by
      intro I4 R4 hN4 l4 l6
      obtain ⟨I5, d1, d2, d3⟩ := rn_put hN4 (a := 154) (by unfold rnA; omega) (j := r1) (by omega) (gI (R 154) r2)
      rw [l4] at d2
      obtain ⟨I6, f1, f2, f3⟩ := rn_bump d2 (a := 156) (by unfold rnA; omega) (j := r1) (by omega) (nI l2.length)
      rw [upL_n _ _ (by omega), l6, hQ1.1, nI_add] at f2
      refine ⟨I6, ?_, f2, fun q w => by rw [f3 q (by omega) (by omega), d3 q (by omega) (by omega)]⟩
      unfold mX1_append_65
      rw [rn_g hN4 (by unfold rnA; omega) (by omega), sb, l4, d1, sb, rn_g d2 (by unfold rnA; omega) (by omega), sb, upL_n _ _ (by omega), l6, hQ2.1, f1, sb]
    rcases snoc_cases l1 with rfl | ⟨a, z, rfl⟩
    · rw [if_pos (show nI ([] : List Nat).length = 0 from rfl), rn_g hN (by unfold rnA; omega) (by omega), sb]
      obtain ⟨I4, d1, d2, d3⟩ := rn_put hN (a := 152) (by unfold rnA; omega) (j := r1) (by omega) (gI (R 152) r2)
      obtain ⟨I5, f1, f2, f3⟩ := fin I4 _ d2 (upL_n _ _ (by omega)) (upL_n _ _ (by omega))
      refine ⟨I5, _, by rw [d1, sb]; exact f1, f2, ⟨?_, ?_, fun b y hb => ?_⟩, fun r' l' hr hq _ => ⟨?_, ?_, fun b y hb => ?_⟩, fun b w1 w2 w3 w4 => ?_, fun c => ?_, fun q w => by rw [f3 q (by omega), d3 q (by omega) (by omega)]⟩
      all_goals simp only [upL, Nat.reduceEqDiff, if_true, if_false, ite_true, ite_false]
      · rw [gI_se (by omega), List.nil_append, List.length_nil, Nat.zero_add]
      · rw [gI_se (by omega)]; exact hQ2.2.1
      · rw [gI_se (by omega)]; exact hQ2.2.2 b y hb
      · rw [gI_sn hr]; exact hq.1
      · rw [gI_sn hr]; exact hq.2.1
      · rw [gI_sn hr]; exact hq.2.2 b y hb
      · simp [w1, w2, w3]
      · by_cases c1 : c = 156
        · subst c1; simp
        · by_cases c2 : c = 154
          · subst c2; simp
          · by_cases c3 : c = 152
            · subst c3; simp
            · simp [c1, c2, c3]
    · have hzl : z < nm := hlt z (List.mem_append.mpr (Or.inr (List.mem_cons_self ..)))
      have hza := nd_last a z hnd
      have hzm : z ∈ a ++ [z] := List.mem_append.mpr (Or.inr (List.mem_cons_self ..))
      have hne : ¬ nI (a ++ [z]).length = 0 := by
        intro y
        have := (nI_eq (b := 0) (by omega) (by omega)).mp y
        rw [List.length_append, List.length_singleton] at this
        omega
      rw [if_neg hne, rn_g hN (by unfold rnA; omega) (by omega), sb, hQ1.2.2 a z rfl, rn_g hN (by unfold rnA; omega) (by omega), sb]
      obtain ⟨I4, d1, d2, d3⟩ := rn_put hN (a := 162) (by unfold rnA; omega) (j := z) (by omega) (gI (R 152) r2)
      obtain ⟨I5, f1, f2, f3⟩ := fin I4 _ d2 (upL_n _ _ (by omega)) (upL_n _ _ (by omega))
      have gz : gI ((R 162).set z (gI (R 152) r2)) z = gI (R 152) r2 := gI_se (by omega) _
      have gs : ∀ i, i ≠ z → gI ((R 162).set z (gI (R 152) r2)) i = gI (R 162) i := fun i hi => gI_sn hi _
      refine ⟨I5, _, by rw [d1, sb]; exact f1, f2, ⟨?_, ?_, fun b y hb => ?_⟩, fun r' l' hr hq hd => ⟨?_, ?_, fun b y hb => ?_⟩, fun b w1 w2 w3 w4 => ?_, fun c => ?_, fun q w => by rw [f3 q (by omega), d3 q (by omega) (by omega)]⟩
      all_goals simp only [upL, Nat.reduceEqDiff, if_true, if_false, ite_true, ite_false]
      · rw [gI_se (by omega), List.length_append (as := a ++ [z])]
      · refine cq_app a _ hQ1.2.1 (fun y hy => gs y (fun w => hza (w ▸ hy))) ?_
        rw [gz]
        exact cq_to _ _ hQ2.2.1 (fun y hy => gs y (fun w => hdj y hy (w ▸ hzm)))
      · rw [gI_se (by omega)]
        rcases snoc_cases l2 with w | ⟨b2, z2, rfl⟩
        · exact absurd w hz
        · have hb' : (a ++ [z] ++ b2) ++ [z2] = b ++ [y] := by rw [← hb, List.append_assoc (a ++ [z])]
          have := (snoc_inj hb').2
          subst this
          exact hQ2.2.2 b2 z2 rfl
      · rw [gI_sn hr]; exact hq.1
      · exact cq_to _ _ hq.2.1 (fun y hy => gs y (fun w => hd y hy (w ▸ hzm)))
      · rw [gI_sn hr]; exact hq.2.2 b y hb
      · simp [w1, w2, w3, w4]
      · by_cases c1 : c = 156
        · subst c1; simp
        · by_cases c2 : c = 154
          · subst c2; simp
          · by_cases c3 : c = 162
            · subst c3; simp
            · simp [c1, c2, c3]
theorem ap_r {nm r1 r2 t : Nat} {l1 l2 : List Nat} (ht : t < 160) (hr1 : r1 < 160) (hr2 : r2 < 160) (hQ1 : QCr B r1 l1) (hQ2 : QCr B r2 l2) (hlt : ∀ m ∈ l1, m < nm) (hnm : nm ≤ 700) (hnd : l1.Nodup) (hdj : ∀ m ∈ l2, ¬ m ∈ l1) : ∃ B', mX12_append B (nI t) (nI r1) (nI r2) = some B' ∧ QCr B' t (l1 ++ l2) ∧ (∀ r' l', r' ≠ t → QCr B r' l' → (∀ m ∈ l', ¬ m ∈ l1) → QCr B' r' l') ∧ ∀ q i, ¬ ((q = 221 ∨ q = 222) ∧ i = t) → q ≠ 225 → B' q i = B q i := by
  have i1 := in160 ht
  have c1 := cl160 ht
  have j1 := in160 hr1
  have j2 := in160 hr2
  have x1 : B 221 (nI r1).toNatClampNeg = B 221 r1 := congrArg (B 221) (cl160 hr1)
  have x2 : B 221 (nI r2).toNatClampNeg = B 221 r2 := congrArg (B 221) (cl160 hr2)
  have y1 : B 222 (nI r1).toNatClampNeg = B 222 r1 := congrArg (B 222) (cl160 hr1)
  have y2 : B 222 (nI r2).toNatClampNeg = B 222 r2 := congrArg (B 222) (cl160 hr2)
  have n1 := rq_ne hQ1.1
  have n2 := rq_ne hQ2.1
  have e91 : ∀ (B : iT) (x2 x3 f t' : Int32), mX12_append_91 B (nI t) x2 x3 f t' = some (a_u2 (a_u2 B 221 t f) 222 t t') := by
    intro B x2 x3 f t'
    unfold mX12_append_91
    rw [if_pos i1, if_pos i1, c1]
  have fB : ∀ (B : iT) (f t' : Int32) (q i : Nat), ¬ ((q = 221 ∨ q = 222) ∧ i = t) → (a_u2 (a_u2 B 221 t f) 222 t t') q i = B q i := fun B f t' q i w => by rw [a_u2_n _ _ (by omega), a_u2_n _ _ (by omega)]
  have g221 : ∀ (B : iT) (f t' : Int32), (a_u2 (a_u2 B 221 t f) 222 t t') 221 t = f := fun B f t' => by rw [a_u2_n _ _ (by omega), a_u2_s]
  have g222 : ∀ (B : iT) (f t' : Int32), (a_u2 (a_u2 B 221 t f) 222 t t') 222 t = t' := fun B f t' => a_u2_s _ _ _ _
  -- no link changes
  have easy : ∀ f t' l, rq (B 225) f l → (∀ a z, l = a ++ [z] → t' = nI z) → l = l1 ++ l2 → mX12_append B (nI t) (nI r1) (nI r2) = some (a_u2 (a_u2 B 221 t f) 222 t t') → ∃ B', mX12_append B (nI t) (nI r1) (nI r2) = some B' ∧ QCr B' t (l1 ++ l2) ∧ (∀ r' l', r' ≠ t → QCr B r' l' → (∀ m ∈ l', ¬ m ∈ l1) → QCr B' r' l') ∧ ∀ q i, ¬ ((q = 221 ∨ q = 222) ∧ i = t) → q ≠ 225 → B' q i = B q i := by
    intro f t' l hf ht' hl he
    subst hl
    refine ⟨_, he, ⟨?_, fun a z hz => ?_⟩, fun r' l' hr' hq _ => ⟨?_, fun a z hz => ?_⟩, fun q i w _ => fB _ _ _ q i w⟩
    · rw [g221]
      exact rq_to _ _ hf (fun y _ => fB _ _ _ _ _ (by omega))
    · rw [g222]
      exact ht' a z hz
    · rw [fB _ _ _ _ _ (by omega)]
      exact rq_to _ _ hq.1 (fun y _ => fB _ _ _ _ _ (by omega))
    · rw [fB _ _ _ _ _ (by omega)]
      exact hq.2 a z hz
  by_cases h1 : l1 = []
  · subst h1
    have w1 : B 221 r1 = -1 := n1.mpr rfl
    by_cases h2 : l2 = []
    · subst h2
      have w2 : B 221 r2 = -1 := n2.mpr rfl
      refine easy (B 221 r2) (B 222 r1) [] hQ2.1 (fun a z hz => absurd hz (by simp)) rfl ?_
      unfold mX12_append mX12_append_25 mX12_append_52
      simp only [if_pos j1, if_pos j2, x1, x2, y1, if_pos w1, if_pos w2, e91]
    · have w2 : ¬ B 221 r2 = -1 := fun z => h2 (n2.mp z)
      refine easy (B 221 r2) (B 222 r2) l2 hQ2.1 hQ2.2 (List.nil_append _).symm ?_
      unfold mX12_append mX12_append_25 mX12_append_52
      simp only [if_pos j1, if_pos j2, x1, x2, y2, if_pos w1, if_neg w2, e91]
  · have w1 : ¬ B 221 r1 = -1 := fun z => h1 (n1.mp z)
    by_cases h2 : l2 = []
    · subst h2
      have w2 : B 221 r2 = -1 := n2.mpr rfl
      refine easy (B 221 r1) (B 222 r1) l1 hQ1.1 hQ1.2 (List.append_nil _).symm ?_
      unfold mX12_append mX12_append_25 mX12_append_52
      simp only [if_pos j1, if_pos j2, x1, x2, y1, if_neg w1, if_pos w2, e91]
    · have w2 : ¬ B 221 r2 = -1 := fun z => h2 (n2.mp z)
      rcases snoc_cases l1 with rfl | ⟨a, z, rfl⟩
      · exact absurd rfl h1
      · have hzm : z ∈ a ++ [z] := List.mem_append.mpr (Or.inr (List.mem_cons_self ..))
        have hzl := hlt z hzm
        have hza := nd_last a z hnd
        have wz : B 222 r1 = nI z := hQ1.2 a z rfl
        have cz := cl700 (show z < 700 by omega)
        have e : mX12_append B (nI t) (nI r1) (nI r2) = some (a_u2 (a_u2 (a_u2 B 225 z (B 221 r2)) 221 t (B 221 r1)) 222 t (B 222 r2)) := by
          unfold mX12_append mX12_append_25 mX12_append_52
          simp only [if_pos j1, if_pos j2, x1, x2, y1, y2, wz, if_pos (in700 (show z < 700 by omega)), cz, if_neg w1, if_neg w2, e91]
        have fA : ∀ q i, ¬ (q = 225 ∧ i = z) → (a_u2 B 225 z (B 221 r2)) q i = B q i := fun q i w => a_u2_n _ _ w
        have gA : (a_u2 B 225 z (B 221 r2)) 225 z = B 221 r2 := a_u2_s _ _ _ _
        generalize (a_u2 B 225 z (B 221 r2)) = A at e fA gA
        refine ⟨_, e, ⟨?_, fun b y hb => ?_⟩, fun r' l' hr' hq hd => ⟨?_, fun b y hb => ?_⟩, fun q i w w3 => by rw [fB _ _ _ q i w]; exact fA q i (by omega)⟩
        · rw [g221]
          refine rq_app a _ hQ1.1 (fun y hy => ?_) ?_
          · rw [fB _ _ _ _ _ (by omega)]; exact fA _ _ (fun w => hza (w.2 ▸ hy))
          · rw [fB _ _ _ _ _ (by omega), gA]
            exact rq_to _ _ hQ2.1 (fun y hy => by rw [fB _ _ _ _ _ (by omega)]; exact fA _ _ (fun w => hdj y hy (w.2 ▸ hzm)))
        · rw [g222]
          rcases snoc_cases l2 with w | ⟨b2, z2, rfl⟩
          · exact absurd w h2
          · have hb' : (a ++ [z] ++ b2) ++ [z2] = b ++ [y] := by rw [← hb, List.append_assoc (a ++ [z])]
            have := (snoc_inj hb').2
            subst this
            exact hQ2.2 b2 z2 rfl
        · rw [fB _ _ _ _ _ (by omega), fA _ _ (by omega)]
          exact rq_to _ _ hq.1 (fun y hy => by rw [fB _ _ _ _ _ (by omega)]; exact fA _ _ (fun w => hd y hy (w.2 ▸ hzm)))
        · rw [fB _ _ _ _ _ (by omega), fA _ _ (by omega)]
          exact hq.2 b y hb
end
