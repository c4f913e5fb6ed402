/-! NEW PLACES; whether there are CHANNELS; the CHANNEL given (pure) -/
def hasC (S : List Sl) : Prop := ∃ (i : Nat) (s : Sl), 1 ≤ i ∧ S[i]? = some s ∧ s.1 = 2
section
variable {k h M : Nat} {L : lT} {I B : iT} {J : jT} {n lv : Nat} {S : List Sl} {a6 a8 a0 : List Int32}
theorem newSlot_ok {m : Nat} (hm : B 186 43 = nI m) (h128 : m < 128) (w : Int64) (x y : Int32) : mX12_newSlot B J w x y = some (nI m, a_u2 (a_u2 (a_u2 B 208 m x) 209 m y) 186 43 (nI (m + 1)), a_u2 J 206 m w) := by
  have e1 : (a_u2 B 208 m x) 186 43 = nI m := by rw [a_u2_n _ _ (by omega)]; exact hm
  have e2 : (a_u2 (a_u2 B 208 m x) 209 m y) 186 43 = nI m := by rw [a_u2_n _ _ (by omega)]; exact e1
  have hi := in128 h128
  have hc := cl128 h128
  unfold mX12_newSlot
  simp only [hm, hc, e1, e2, if_pos hi, nI_1, a_u2_s, nI_pred]
/-- a NUMBER or a CHANNEL joins -/
theorem sr_add (H : SR k h M L I B J n lv S a6 a8 a0) {s : Sl} (hN : isN s.2.1) (hno : ∀ (i : Nat) (s' : Sl), S[i]? = some s' → s'.1 ≠ 0 → s'.2.1 ≠ s.2.1) (hlen : S.length < 85) (hs : s.1 = 1 ∨ (s.1 = 2 ∧ s.2.2.2.2 ≤ 200 ∧ TR k L B J (fun v => 1400 * h ≤ v ∧ v < M) s.2.2.2.2 s.2.2.1 s.2.2.2.1 s.2.2.2.2)) (yr : Int32) (hyr : s.1 = 2 → yr = nI s.2.2.1) :
    ∃ I' B' J', mX5_add I (nI (cN s.2.1)) (if s.1 = 2 then nI s.2.2.2.1 else -1) = some (nI S.length, I') ∧ mX12_newSlot B J (lN (rN s.2.1)) (if s.1 = 1 then 0 else 2) yr = some (nI S.length, B', J') ∧ SR k h M L I' B' J' n lv (S ++ [s]) (a6.set (lv * 85 + S.length) (nI (cN s.2.1))) (a8.set (lv * 85 + S.length) (if s.1 = 2 then nI s.2.2.2.1 else -1)) (a0.set lv (nI (S.length + 1))) ∧ (∀ b, ¬ (136 ≤ b ∧ b ≤ 141) → I' b = I b) ∧ (∀ b j, ¬ (b = 186 ∧ j = 43) → ¬ (b = 208 ∨ b = 209) → B' b j = B b j) ∧ (∀ b j, b ≠ 206 → J' b j = J b j) := by
  obtain ⟨hW, ⟨g1, g2, g3, g4, g5, g6, g7⟩, hS, hD, s0, hs0, hs02⟩ := H
  obtain ⟨I', e1, e2, e3⟩ := sw_add hW g1 g2 g3 hlen (nI (cN s.2.1)) (if s.1 = 2 then nI s.2.2.2.1 else -1)
  have hsg : sg n S.length = S.length := by have := sg_spec n S.length; omega
  have fB : ∀ b j, ¬ (b = 186 ∧ j = 43) → ¬ ((b = 208 ∨ b = 209) ∧ j = S.length) → (a_u2 (a_u2 (a_u2 B 208 S.length (if s.1 = 1 then 0 else 2)) 209 S.length yr) 186 43 (nI (S.length + 1))) b j = B b j := fun b j q1 q2 => by rw [a_u2_n _ _ q1, a_u2_n _ _ (by omega), a_u2_n _ _ (by omega)]
  have trB : ∀ {u' t' p' : Nat}, TR k L B J (fun v => 1400 * h ≤ v ∧ v < M) p' u' t' p' → TR k L (a_u2 (a_u2 (a_u2 B 208 S.length (if s.1 = 1 then 0 else 2)) 209 S.length yr) 186 43 (nI (S.length + 1))) (a_u2 J 206 S.length (lN (rN s.2.1))) (fun v => 1400 * h ≤ v ∧ v < M) p' u' t' p' := fun z => tr_same (fun v => ⟨fB _ _ (by omega) (by omega), fB _ _ (by omega) (by omega), fB _ _ (by omega) (by omega), fB _ _ (by omega) (by omega), a_u2_n _ _ (by omega)⟩) z
  have hap : (S ++ [s]).length = S.length + 1 := by simp
  have look : ∀ (j : Nat) (s' : Sl), (S ++ [s])[j]? = some s' → (j = S.length ∧ s' = s) ∨ S[j]? = some s' := by
    intro j s' hj
    by_cases e : j < S.length
    · rw [List.getElem?_append_left e] at hj
      exact Or.inr hj
    · have hj2 : j < (S ++ [s]).length := (List.getElem?_eq_some_iff.mp hj).1
      have ej : j = S.length := by omega
      subst ej
      rw [List.getElem?_concat_length] at hj
      exact Or.inl ⟨rfl, (Option.some.inj hj).symm⟩
  refine ⟨I', _, _, e1, newSlot_ok g7 (by omega) _ _ _, ⟨e2, ⟨by rw [e3 135 (by omega)]; exact g1, g2, by rw [hap]; exact gI_se (by rw [hW.2.2.2.2.2]; omega) _, by omega, g5, by omega, by rw [a_u2_s, hap]⟩, fun j s' hj => ?_, fun j1 j2 s1 s2 hj1 hj2 n1 n2 nn => ?_, ⟨s0, by rw [List.getElem?_append_left (by omega)]; exact hs0, hs02⟩⟩, e3, fun b j q1 q2 => fB b j q1 (by omega), fun b j q => a_u2_n _ _ (by omega)⟩
  · rcases look j s' hj with ⟨z1, z2⟩ | z
    · subst z1
      subst z2
      have hs0' : s'.1 ≠ 0 := by omega
      refine ⟨by omega, ⟨?_, gI_se (by rw [hW.2.2.2.2.1]; omega) _⟩, ?_, fun _ => ⟨hN, ?_⟩, fun q => ⟨?_, ?_, ?_⟩⟩
      · rw [if_neg hs0']; exact gI_se (by rw [hW.2.2.2.1]; omega) _
      · rw [hsg, a_u2_s, if_neg hs0']
      · rw [hsg, a_u2_n _ _ (by omega), a_u2_n _ _ (by omega), a_u2_s]
        by_cases z : s'.1 = 1
        · rw [if_pos z, if_pos z]
        · rw [if_neg z, if_neg z, if_neg (by omega)]
      · rw [hsg, a_u2_n _ _ (by omega), a_u2_s]; exact hyr q
      · rcases hs with z | z
        · omega
        · exact z.2.1
      · rcases hs with z | z
        · omega
        · exact trB z.2.2
    · have hj' : j < S.length := (List.getElem?_eq_some_iff.mp z).1
      obtain ⟨c1, c2, c3, c4, c5⟩ := hS j s' z
      have hlt := sg_lt g4 hj'
      refine ⟨c1, ⟨by rw [gI_sn (by omega)]; exact c2.1, by rw [gI_sn (by omega)]; exact c2.2⟩, by rw [a_u2_n _ _ (by omega)]; exact c3, fun q => ⟨(c4 q).1, by rw [fB _ _ (by omega) (by omega)]; exact (c4 q).2⟩, fun q => ⟨by rw [fB _ _ (by omega) (by omega)]; exact (c5 q).1, (c5 q).2.1, trB (c5 q).2.2⟩⟩
  · rcases look j1 s1 hj1 with ⟨z1, z2⟩ | z
    · rcases look j2 s2 hj2 with ⟨y1, y2⟩ | y
      · omega
      · subst z2
        exact (hno j2 s2 y n2 nn.symm).elim
    · rcases look j2 s2 hj2 with ⟨y1, y2⟩ | y
      · subst y2
        exact (hno j1 s1 z n1 nn).elim
      · exact hD j1 j2 s1 s2 z y n1 n2 nn
/-- are there CHANNELS beside the one given -/
theorem sr_has (H : SR k h M L I B J n lv S a6 a8 a0) (hK : (L (k + 2)).length ≤ 1000) : ∃ v, mX5_hasChannels I = some v ∧ mX12_has B J = some v ∧ ((v = 1 ∧ hasC S) ∨ (v = 0 ∧ ¬ hasC S)) := by
  obtain ⟨hW, ⟨g1, g2, g3, g4, g5, g6, g7⟩, hS, hD, s0, hs0, hs02⟩ := H
  have hex : ∀ i, i < S.length → ∃ s, S[i]? = some s := fun i hi => ⟨S[i], List.getElem?_eq_getElem hi⟩
  have cl : ∀ d j m, j + d = S.length → d < m → 1 ≤ j → (∀ (i : Nat) (s : Sl), 1 ≤ i → i < j → S[i]? = some s → s.1 ≠ 2) → ∃ v, mX5_hasChannels_2 m I (nI j) = some v ∧ ((v = 1 ∧ hasC S) ∨ (v = 0 ∧ ¬ hasC S)) := by
    intro d
    induction d with
    | zero =>
      intro j m hj hm h1 hno
      obtain ⟨m, rfl⟩ : ∃ y, m = y + 1 := ⟨m - 1, by omega⟩
      refine ⟨0, ?_, Or.inr ⟨rfl, fun ⟨i, s, q1, q2, q3⟩ => ?_⟩⟩
      · rw [mX5_hasChannels_2, g1, row_g hW.2.2.1 (by omega), sb, g3, if_pos (nI_le (by omega) (by omega))]
      · have hi : i < S.length := (List.getElem?_eq_some_iff.mp q2).1
        exact hno i s q1 (by omega) q2 q3
    | succ d ih =>
      intro j m hj hm h1 hno
      obtain ⟨m, rfl⟩ : ∃ y, m = y + 1 := ⟨m - 1, by omega⟩
      obtain ⟨s, hs⟩ := hex j (by omega)
      obtain ⟨c1, c2, c3, c4, c5⟩ := hS j s hs
      rw [mX5_hasChannels_2, g1, row_g hW.2.2.1 (by omega), sb, g3, if_neg (nI_ge (by omega) (by omega)), i85, row_g hW.2.1 (by omega), sb, c2.2]
      by_cases q : s.1 = 2
      · have ht := (tr_u (c5 q).2.2).2.2
        rw [if_pos q, if_neg (nIm (by omega))]
        exact ⟨1, rfl, Or.inl ⟨rfl, j, s, h1, hs, q⟩⟩
      · rw [if_neg q, if_pos rfl, nI_1]
        refine ih (j + 1) m (by omega) (by omega) (by omega) (fun i s' q1 q2 q3 => ?_)
        by_cases e : i = j
        · subst e
          rw [hs] at q3
          cases q3
          exact q
        · exact hno i s' q1 (by omega) q3
  have rl : ∀ d j m, j + d = S.length → d < m → (∀ (i : Nat) (s : Sl), 1 ≤ i → S[i]? = some s → sg n i < j → s.1 ≠ 2) → ∃ v, mX12_has_2 m B J (nI j) = some v ∧ ((v = 1 ∧ hasC S) ∨ (v = 0 ∧ ¬ hasC S)) := by
    intro d
    induction d with
    | zero =>
      intro j m hj hm hno
      obtain ⟨m, rfl⟩ : ∃ y, m = y + 1 := ⟨m - 1, by omega⟩
      refine ⟨0, ?_, Or.inr ⟨rfl, fun ⟨i, s, q1, q2, q3⟩ => ?_⟩⟩
      · rw [mX12_has_2, g7, if_pos (nI_le (by omega) (by omega))]
      · have hi : i < S.length := (List.getElem?_eq_some_iff.mp q2).1
        have := sg_lt g4 hi
        exact hno i s q1 q2 (by omega) q3
    | succ d ih =>
      intro j m hj hm hno
      obtain ⟨m, rfl⟩ : ∃ y, m = y + 1 := ⟨m - 1, by omega⟩
      obtain ⟨i, hi, hij⟩ := sg_surj g4 (show j < S.length by omega)
      obtain ⟨s, hs⟩ := hex i hi
      obtain ⟨c1, c2, c3, c4, c5⟩ := hS i s hs
      rw [hij] at c3 c4
      have i128 := in128 (show j < 128 by omega)
      have cl128' := cl128 (show j < 128 by omega)
      have next : s.1 ≠ 2 ∨ i = 0 → ∃ v, mX12_has_2 m B J (nI j + 1) = some v ∧ ((v = 1 ∧ hasC S) ∨ (v = 0 ∧ ¬ hasC S)) := by
        intro hq
        rw [nI_1]
        refine ih (j + 1) m (by omega) (by omega) (fun i' s' q1 q2 q3 => ?_)
        by_cases e : sg n i' = j
        · have : i' = i := sg_inj (by rw [e, hij])
          subst this
          rw [hs] at q2
          cases q2
          rcases hq with hq | hq
          · exact hq
          · omega
        · exact hno i' s' q1 q2 (by omega)
      rw [mX12_has_2, g7, if_neg (nI_ge (by omega) (by omega)), if_pos i128, congrArg (J 206) cl128', c3]
      by_cases q0 : s.1 = 0
      · rw [if_pos q0, if_pos (by decide)]
        exact next (Or.inl (by omega))
      · obtain ⟨d1, d2⟩ := c4 q0
        rw [if_neg q0, if_neg (fun z => rN_ne0 d1 ((lg_eq0 _ _).mp z)), if_pos i128, congrArg (B 208) cl128', d2]
        by_cases q1 : s.1 = 1
        · rw [if_pos q1, if_neg (by decide)]
          exact next (Or.inl (by omega))
        · rw [if_neg q1]
          by_cases q2 : i = 0
          · rw [if_pos q2, if_neg (by decide)]
            exact next (Or.inr q2)
          · rw [if_neg q2, if_pos rfl]
            exact ⟨1, rfl, Or.inl ⟨rfl, i, s, by omega, hs, by omega⟩⟩
  obtain ⟨v, v1, v2⟩ := cl (S.length - 1) 1 LF (by omega) (by unfold LF; omega) (by omega) (fun i s q1 q2 => by omega)
  obtain ⟨v', w1, w2⟩ := rl S.length 0 LF (by omega) (by unfold LF; omega) (fun i s q1 q2 q3 => by omega)
  rw [nI_0] at w1
  refine ⟨v, v1, ?_, v2⟩
  have : v' = v := by
    rcases v2 with ⟨x1, x2⟩ | ⟨x1, x2⟩
    · rcases w2 with ⟨y1, y2⟩ | ⟨y1, y2⟩
      · rw [x1, y1]
      · exact (y2 x2).elim
    · rcases w2 with ⟨y1, y2⟩ | ⟨y1, y2⟩
      · exact (x2 y2).elim
      · rw [x1, y1]
  rw [← this]
  exact w1
/-- the reference looks for the CHANNEL given -/
theorem sr_given (H : SR k h M L I B J n lv S a6 a8 a0) : mX12_given B J = some (nI n) := by
  obtain ⟨hW, ⟨g1, g2, g3, g4, g5, g6, g7⟩, hS, hD, s0, hs0, hs02⟩ := H
  have hex : ∀ i, i < S.length → ∃ s, S[i]? = some s := fun i hi => ⟨S[i], List.getElem?_eq_getElem hi⟩
  have rl : ∀ d j m (g : Int32), j + d = S.length → d < m → (n < j → g = nI n) → mX12_given_4 m B J g (nI j) = some (nI n) := by
    intro d
    induction d with
    | zero =>
      intro j m g hj hm hg
      obtain ⟨m, rfl⟩ : ∃ y, m = y + 1 := ⟨m - 1, by omega⟩
      rw [mX12_given_4, g7, if_pos (nI_le (by omega) (by omega)), hg (by omega)]
    | succ d ih =>
      intro j m g hj hm hg
      obtain ⟨m, rfl⟩ : ∃ y, m = y + 1 := ⟨m - 1, by omega⟩
      obtain ⟨i, hi, hij⟩ := sg_surj g4 (show j < S.length by omega)
      obtain ⟨s, hs⟩ := hex i hi
      obtain ⟨c1, c2, c3, c4, c5⟩ := hS i s hs
      rw [hij] at c3 c4
      have i128 := in128 (show j < 128 by omega)
      have cl128' := cl128 (show j < 128 by omega)
      have hjn : j = n ↔ i = 0 := by have := sg_spec n i; omega
      rw [mX12_given_4, g7, if_neg (nI_ge (by omega) (by omega)), if_pos i128, congrArg (J 206) cl128', c3]
      have other : i ≠ 0 → mX12_given_37 (mX12_given_4 m) B J g (nI j) = some (nI n) := by
        intro q
        unfold mX12_given_37 mX12_given_38
        rw [nI_1]
        exact ih (j + 1) m g (by omega) (by omega) (fun z => hg (by omega))
      by_cases q0 : s.1 = 0
      · rw [if_pos q0, if_pos (by decide)]
        refine other (fun z => ?_)
        subst z
        rw [hs0] at hs
        cases hs
        omega
      · obtain ⟨d1, d2⟩ := c4 q0
        rw [if_neg q0, if_neg (fun z => rN_ne0 d1 ((lg_eq0 _ _).mp z)), if_pos i128, congrArg (B 208) cl128', d2]
        by_cases q2 : i = 0
        · have q1 : ¬ s.1 = 1 := by
            subst q2
            rw [hs0] at hs
            cases hs
            omega
          rw [if_neg q1, if_pos q2, if_pos rfl]
          unfold mX12_given_38
          rw [nI_1]
          exact ih (j + 1) m (nI j) (by omega) (by omega) (fun z => by rw [hjn.mpr q2])
        · have : ¬ (if s.1 = 1 then (0 : Int32) else if i = 0 then 1 else 2) = 1 := by
            by_cases q1 : s.1 = 1
            · rw [if_pos q1]; decide
            · rw [if_neg q1, if_neg q2]; decide
          rw [if_neg this]
          exact other q2
  have := rl S.length 0 LF 0 (by omega) (by unfold LF; omega) (fun z => by omega)
  rw [nI_0] at this
  exact this
end
