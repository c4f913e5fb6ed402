/-! LEVELS of what is there: enter and leave, save and back (pure) -/
theorem enter_ok {I : iT} {a6 a8 a0 : List Int32} {lv m : Nat} (hW : SW I a6 a8 a0) (hl : I 135 3 = nI lv) (hlv : lv < 8) (hm : gI a0 lv = nI m) (hm5 : m ≤ 85) : ∃ I' b6 b8, mX5_enter I = some I' ∧ SW I' b6 b8 (a0.set (lv + 1) (nI m)) ∧ I' 135 3 = nI (lv + 1) ∧ (∀ i, i < m → gI b6 ((lv + 1) * 85 + i) = gI a6 (lv * 85 + i) ∧ gI b8 ((lv + 1) * 85 + i) = gI a8 (lv * 85 + i)) ∧ (∀ j, j < (lv + 1) * 85 → gI b6 j = gI a6 j ∧ gI b8 j = gI a8 j) ∧ (∀ b, ¬ (135 ≤ b ∧ b ≤ 141) → I' b = I b) := by
  obtain ⟨h6, h8, h0, l6, l8, l0⟩ := hW
  have f1 : ∀ b, b ≠ 135 → (a_u2 I 135 3 (nI (lv + 1))) b = I b := fun b q => a_u2_r _ _ q
  have k0 : rowIs (a_u2 I 135 3 (nI (lv + 1))) 140 a0 := h0.keep (f1 _ (by omega)) (f1 _ (by omega))
  obtain ⟨I2, e2, r2⟩ := row_put k0 (nI (lv + 1)) (nI m)
  rw [lput_nI _ (by omega)] at r2
  have m6 : rowIs I2 136 a6 := h6.keep (by rw [r2.2 _ (by omega) (by omega), f1 _ (by omega)]) (by rw [r2.2 _ (by omega) (by omega), f1 _ (by omega)])
  have m8 : rowIs I2 138 a8 := h8.keep (by rw [r2.2 _ (by omega) (by omega), f1 _ (by omega)]) (by rw [r2.2 _ (by omega) (by omega), f1 _ (by omega)])
  have loop : ∀ d j fu (I3 : iT) (b6 b8 : List Int32), j + d = m → d < fu → rowIs I3 136 b6 → rowIs I3 138 b8 → b6.length = 765 → b8.length = 765 → (∀ i, i < j → gI b6 ((lv + 1) * 85 + i) = gI a6 (lv * 85 + i) ∧ gI b8 ((lv + 1) * 85 + i) = gI a8 (lv * 85 + i)) → (∀ i, i < (lv + 1) * 85 → gI b6 i = gI a6 i ∧ gI b8 i = gI a8 i) →
      ∃ I' c6 c8, mX5_enter_56 fu I3 (nI (lv * 85)) (nI m) (nI j) = some I' ∧ rowIs I' 136 c6 ∧ rowIs I' 138 c8 ∧ c6.length = 765 ∧ c8.length = 765 ∧ (∀ i, i < m → gI c6 ((lv + 1) * 85 + i) = gI a6 (lv * 85 + i) ∧ gI c8 ((lv + 1) * 85 + i) = gI a8 (lv * 85 + i)) ∧ (∀ i, i < (lv + 1) * 85 → gI c6 i = gI a6 i ∧ gI c8 i = gI a8 i) ∧ (∀ b, ¬ (136 ≤ b ∧ b ≤ 139) → I' b = I3 b) := by
    intro d
    induction d with
    | zero =>
      intro j fu I3 b6 b8 hj hfu q6 q8 p6 p8 hc ho
      obtain ⟨fu, rfl⟩ : ∃ y, fu = y + 1 := ⟨fu - 1, by omega⟩
      refine ⟨I3, b6, b8, ?_, q6, q8, p6, p8, fun i hi => hc i (by omega), ho, fun _ _ => rfl⟩
      rw [mX5_enter_56, if_pos (nI_le (by omega) (by omega))]
    | succ d ih =>
      intro j fu I3 b6 b8 hj hfu q6 q8 p6 p8 hc ho
      obtain ⟨fu, rfl⟩ : ∃ y, fu = y + 1 := ⟨fu - 1, by omega⟩
      have e85 : nI (lv * 85) + 85 + nI j = nI ((lv + 1) * 85 + j) := by
        have : nI (lv * 85) + (85 : Int32) = nI (lv * 85 + 85) := nI_add (lv * 85) 85
        rw [this, nI_add, show lv * 85 + 85 + j = (lv + 1) * 85 + j by omega]
      obtain ⟨I4, e4, r4⟩ := row_put q6 (nI ((lv + 1) * 85 + j)) (gI b6 (lv * 85 + j))
      rw [lput_nI _ (by omega)] at r4
      have q84 : rowIs I4 138 b8 := q8.keep (r4.2 _ (by omega) (by omega)) (r4.2 _ (by omega) (by omega))
      obtain ⟨I5, e5, r5⟩ := row_put q84 (nI ((lv + 1) * 85 + j)) (gI b8 (lv * 85 + j))
      rw [lput_nI _ (by omega)] at r5
      obtain ⟨I', c6, c8, x1, x2, x3, x4, x5, x6, x7, x8⟩ := ih (j + 1) fu I5 (b6.set ((lv + 1) * 85 + j) (gI b6 (lv * 85 + j))) (b8.set ((lv + 1) * 85 + j) (gI b8 (lv * 85 + j))) (by omega) (by omega) (r4.1.keep (r5.2 _ (by omega) (by omega)) (r5.2 _ (by omega) (by omega))) r5.1 (by rw [List.length_set]; exact p6) (by rw [List.length_set]; exact p8) (fun i hi => by
        by_cases e : i = j
        · subst e
          rw [gI_se (by omega), gI_se (by omega)]
          exact ho _ (by omega)
        · rw [gI_sn (by omega), gI_sn (by omega)]
          exact hc i (by omega)) (fun i hi => by rw [gI_sn (by omega), gI_sn (by omega)]; exact ho i hi)
      refine ⟨I', c6, c8, ?_, x2, x3, x4, x5, x6, x7, fun b q => by rw [x8 b q, r5.2 b (by omega) (by omega), r4.2 b (by omega) (by omega)]⟩
      rw [mX5_enter_56, if_neg (nI_ge (by omega) (by omega)), nI_add, row_g q6 (by omega), sb, e85, e4, sb, row_g q84 (by omega), sb, e5, sb, nI_1]
      exact x1
  obtain ⟨I', c6, c8, x1, x2, x3, x4, x5, x6, x7, x8⟩ := loop m 0 LF I2 a6 a8 (by omega) (by unfold LF; omega) m6 m8 l6 l8 (fun i hi => by omega) (fun i hi => ⟨rfl, rfl⟩)
  refine ⟨I', c6, c8, ?_, ⟨x2, x3, r2.1.keep (x8 _ (by omega)) (x8 _ (by omega)), x4, x5, by rw [List.length_set]; exact l0⟩, ?_, x6, x7, fun b q => by rw [x8 b (by omega), r2.2 b (by omega) (by omega), f1 b (by omega)]⟩
  · have e1 : (a_u2 I 135 3 (nI (lv + 1))) 135 3 = nI (lv + 1) := a_u2_s _ _ _ _
    have e85 : nI lv * (85 : Int32) = nI (lv * 85) := pk_mul lv 85
    unfold mX5_enter
    rw [hl, if_pos (show nI lv < 8 from nI_lt (b := 8) hlv (by omega)), nI_1, e1, nI_pred, row_g k0 (by omega), sb, hm, e2, sb, e85, ← nI_0]
    exact x1
  · rw [x8 135 (by omega), r2.2 135 (by omega) (by omega), a_u2_s]
theorem i128 (deep s : Nat) : (128 : Int32) * nI deep + nI s = nI (128 * deep + s) := by
  have : (128 : Int32) * nI deep = nI (128 * deep) := pk_mul 128 deep
  rw [this, nI_add]
theorem save_ok (B : iT) (J : jT) {deep : Nat} (hd : deep ≤ 8) : ∃ B' J', mX12_save B J (nI deep) = some (B', J') ∧ (∀ s, s < 128 → B' 210 (128 * deep + s) = B 208 s ∧ B' 211 (128 * deep + s) = B 209 s ∧ J' 207 (128 * deep + s) = J 206 s) ∧ (∀ b i, ¬ ((b = 210 ∨ b = 211) ∧ 128 * deep ≤ i ∧ i < 128 * deep + 128) → B' b i = B b i) ∧ (∀ b i, ¬ (b = 207 ∧ 128 * deep ≤ i ∧ i < 128 * deep + 128) → J' b i = J b i) := by
  have loop : ∀ d j fu (B1 : iT) (J1 : jT), j + d = 128 → d < fu → (∀ s, s < j → B1 210 (128 * deep + s) = B 208 s ∧ B1 211 (128 * deep + s) = B 209 s ∧ J1 207 (128 * deep + s) = J 206 s) → (∀ b i, ¬ ((b = 210 ∨ b = 211) ∧ 128 * deep ≤ i ∧ i < 128 * deep + 128) → B1 b i = B b i) → (∀ b i, ¬ (b = 207 ∧ 128 * deep ≤ i ∧ i < 128 * deep + 128) → J1 b i = J b i) →
      ∃ B' J', mX12_save_2 fu B1 J1 (nI deep) (nI j) = some (B', J') ∧ (∀ s, s < 128 → B' 210 (128 * deep + s) = B 208 s ∧ B' 211 (128 * deep + s) = B 209 s ∧ J' 207 (128 * deep + s) = J 206 s) ∧ (∀ b i, ¬ ((b = 210 ∨ b = 211) ∧ 128 * deep ≤ i ∧ i < 128 * deep + 128) → B' b i = B b i) ∧ (∀ b i, ¬ (b = 207 ∧ 128 * deep ≤ i ∧ i < 128 * deep + 128) → J' b i = J b i) := by
    intro d
    induction d with
    | zero =>
      intro j fu B1 J1 hj hfu h1 h2 h3
      obtain ⟨fu, rfl⟩ : ∃ y, fu = y + 1 := ⟨fu - 1, by omega⟩
      refine ⟨B1, J1, ?_, fun s hs => h1 s (by omega), h2, h3⟩
      rw [mX12_save_2, if_pos (show (128 : Int32) ≤ nI j from nI_le (a := 128) (by omega) (by omega))]
    | succ d ih =>
      intro j fu B1 J1 hj hfu h1 h2 h3
      obtain ⟨fu, rfl⟩ : ∃ y, fu = y + 1 := ⟨fu - 1, by omega⟩
      have i1 := in128 (show j < 128 by omega)
      have c1 := cl128 (show j < 128 by omega)
      have i2 : inb (nI (128 * deep + j)) 1152 := vp_in_nI (by omega) (by omega)
      have c2 : (nI (128 * deep + j)).toNatClampNeg = 128 * deep + j := nI_clamp (by omega)
      have e1 : mX12_save_2 (fu + 1) B1 J1 (nI deep) (nI j) = mX12_save_2 fu (a_u2 (a_u2 B1 210 (128 * deep + j) (B1 208 j)) 211 (128 * deep + j) ((a_u2 B1 210 (128 * deep + j) (B1 208 j)) 209 j)) (a_u2 J1 207 (128 * deep + j) (J1 206 j)) (nI deep) (nI (j + 1)) := by
        rw [mX12_save_2, if_neg (show ¬ (128 : Int32) ≤ nI j from nI_ge (b := 128) (by omega) (by omega)), i128, if_pos i1, if_pos i2, if_pos i1, if_pos i2, if_pos i1, if_pos i2, c1, c2, nI_1]
      rw [e1]
      refine ih (j + 1) fu _ _ (by omega) (by omega) (fun s hs => ?_) (fun b i q => ?_) (fun b i q => ?_)
      · by_cases e : s = j
        · subst e
          refine ⟨?_, ?_, ?_⟩
          · rw [a_u2_n _ _ (by omega), a_u2_s]; exact h2 _ _ (by omega)
          · rw [a_u2_s, a_u2_n _ _ (by omega)]; exact h2 _ _ (by omega)
          · rw [a_u2_s]; exact h3 _ _ (by omega)
        · obtain ⟨x1, x2, x3⟩ := h1 s (by omega)
          refine ⟨?_, ?_, ?_⟩
          · rw [a_u2_n _ _ (by omega), a_u2_n _ _ (by omega)]; exact x1
          · rw [a_u2_n _ _ (by omega), a_u2_n _ _ (by omega)]; exact x2
          · rw [a_u2_n _ _ (by omega)]; exact x3
      · rw [a_u2_n _ _ (by omega), a_u2_n _ _ (by omega)]; exact h2 b i q
      · rw [a_u2_n _ _ (by omega)]; exact h3 b i q
  have := loop 128 0 LF B J (by omega) (by unfold LF; omega) (fun s hs => by omega) (fun _ _ _ => rfl) (fun _ _ _ => rfl)
  rw [nI_0] at this
  exact this
theorem back_ok (B : iT) (J : jT) {deep : Nat} (hd : deep ≤ 8) : ∃ B' J', mX12_back B J (nI deep) = some (B', J') ∧ (∀ s, s < 128 → B' 208 s = B 210 (128 * deep + s) ∧ B' 209 s = B 211 (128 * deep + s) ∧ J' 206 s = J 207 (128 * deep + s)) ∧ (∀ b i, ¬ ((b = 208 ∨ b = 209) ∧ i < 128) → B' b i = B b i) ∧ (∀ b i, ¬ (b = 206 ∧ i < 128) → J' b i = J b i) := by
  have loop : ∀ d j fu (B1 : iT) (J1 : jT), j + d = 128 → d < fu → (∀ s, s < j → B1 208 s = B 210 (128 * deep + s) ∧ B1 209 s = B 211 (128 * deep + s) ∧ J1 206 s = J 207 (128 * deep + s)) → (∀ b i, ¬ ((b = 208 ∨ b = 209) ∧ i < 128) → B1 b i = B b i) → (∀ b i, ¬ (b = 206 ∧ i < 128) → J1 b i = J b i) →
      ∃ B' J', mX12_back_2 fu B1 J1 (nI deep) (nI j) = some (B', J') ∧ (∀ s, s < 128 → B' 208 s = B 210 (128 * deep + s) ∧ B' 209 s = B 211 (128 * deep + s) ∧ J' 206 s = J 207 (128 * deep + s)) ∧ (∀ b i, ¬ ((b = 208 ∨ b = 209) ∧ i < 128) → B' b i = B b i) ∧ (∀ b i, ¬ (b = 206 ∧ i < 128) → J' b i = J b i) := by
    intro d
    induction d with
    | zero =>
      intro j fu B1 J1 hj hfu h1 h2 h3
      obtain ⟨fu, rfl⟩ : ∃ y, fu = y + 1 := ⟨fu - 1, by omega⟩
      refine ⟨B1, J1, ?_, fun s hs => h1 s (by omega), h2, h3⟩
      rw [mX12_back_2, if_pos (show (128 : Int32) ≤ nI j from nI_le (a := 128) (by omega) (by omega))]
    | succ d ih =>
      intro j fu B1 J1 hj hfu h1 h2 h3
      obtain ⟨fu, rfl⟩ : ∃ y, fu = y + 1 := ⟨fu - 1, by omega⟩
      have i1 := in128 (show j < 128 by omega)
      have c1 := cl128 (show j < 128 by omega)
      have i2 : inb (nI (128 * deep + j)) 1152 := vp_in_nI (by omega) (by omega)
      have c2 : (nI (128 * deep + j)).toNatClampNeg = 128 * deep + j := nI_clamp (by omega)
      have e1 : mX12_back_2 (fu + 1) B1 J1 (nI deep) (nI j) = mX12_back_2 fu (a_u2 (a_u2 B1 208 j (B1 210 (128 * deep + j))) 209 j ((a_u2 B1 208 j (B1 210 (128 * deep + j))) 211 (128 * deep + j))) (a_u2 J1 206 j (J1 207 (128 * deep + j))) (nI deep) (nI (j + 1)) := by
        rw [mX12_back_2, if_neg (show ¬ (128 : Int32) ≤ nI j from nI_ge (b := 128) (by omega) (by omega)), i128, if_pos i2, if_pos i1, if_pos i2, if_pos i1, if_pos i2, if_pos i1, c1, c2, nI_1]
      rw [e1]
      refine ih (j + 1) fu _ _ (by omega) (by omega) (fun s hs => ?_) (fun b i q => ?_) (fun b i q => ?_)
      · by_cases e : s = j
        · subst e
          refine ⟨?_, ?_, ?_⟩
          · rw [a_u2_n _ _ (by omega), a_u2_s]; exact h2 _ _ (by omega)
          · rw [a_u2_s, a_u2_n _ _ (by omega)]; exact h2 _ _ (by omega)
          · rw [a_u2_s]; exact h3 _ _ (by omega)
        · obtain ⟨x1, x2, x3⟩ := h1 s (by omega)
          refine ⟨?_, ?_, ?_⟩
          · rw [a_u2_n _ _ (by omega), a_u2_n _ _ (by omega)]; exact x1
          · rw [a_u2_n _ _ (by omega), a_u2_n _ _ (by omega)]; exact x2
          · rw [a_u2_n _ _ (by omega)]; exact x3
      · rw [a_u2_n _ _ (by omega), a_u2_n _ _ (by omega)]; exact h2 b i q
      · rw [a_u2_n _ _ (by omega)]; exact h3 b i q
  have := loop 128 0 LF B J (by omega) (by unfold LF; omega) (fun s hs => by omega) (fun _ _ _ => rfl) (fun _ _ _ => rfl)
  rw [nI_0] at this
  exact this
/-- the class's part of what is there -/
def CP (I : iT) (lv : Nat) (S : List Sl) (a6 a8 a0 : List Int32) : Prop := SW I a6 a8 a0 ∧ I 135 3 = nI lv ∧ gI a0 lv = nI S.length ∧ ∀ (i : Nat) (s : Sl), S[i]? = some s → SLC a6 a8 lv i s
/-- what does not change while an alternative is read -/
def SOK (k h M : Nat) (L : lT) (B : iT) (J : jT) (n lv : Nat) (S : List Sl) : Prop := lv ≤ 8 ∧ n < S.length ∧ n ≤ 4 ∧ S.length ≤ 85 ∧ (∀ (i : Nat) (s : Sl), S[i]? = some s → s.1 ≤ 2 ∧ (s.1 ≠ 0 → isN s.2.1) ∧ (s.1 = 2 → s.2.2.2.2 ≤ 200 ∧ TR k L B J (fun v => 1400 * h ≤ v ∧ v < M) s.2.2.2.2 s.2.2.1 s.2.2.2.1 s.2.2.2.2)) ∧ dist S ∧ ∃ s0, S[0]? = some s0 ∧ s0.1 = 2
/-- the reference's part, saved -/
def SV (B : iT) (J : jT) (n deep : Nat) (S : List Sl) : Prop := ∀ (i : Nat) (s : Sl), S[i]? = some s → J 207 (128 * deep + sg n i) = (if s.1 = 0 then 0 else lN (rN s.2.1)) ∧ (s.1 ≠ 0 → B 210 (128 * deep + sg n i) = (if s.1 = 1 then 0 else if i = 0 then 1 else 2)) ∧ (s.1 = 2 → B 211 (128 * deep + sg n i) = nI s.2.2.1)
section
variable {k h M : Nat} {L : lT} {I B : iT} {J : jT} {n lv : Nat} {S : List Sl} {a6 a8 a0 : List Int32}
theorem sr_cp (H : SR k h M L I B J n lv S a6 a8 a0) : CP I lv S a6 a8 a0 ∧ SOK k h M L B J n lv S := by
  obtain ⟨hW, ⟨g1, g2, g3, g4, g5, g6, g7⟩, hS, hD, h0⟩ := H
  exact ⟨⟨hW, g1, g3, fun i s hs => (hS i s hs).2.1⟩, g2, g4, g5, g6, fun i s hs => ⟨(hS i s hs).1, fun q => ((hS i s hs).2.2.2.1 q).1, fun q => ((hS i s hs).2.2.2.2 q).2⟩, hD, h0⟩
theorem sok_to {L' : lT} {B' : iT} {J' : jT} (H : SOK k h M L B J n lv S) (hT : tabL k L) (hE : TE k L L') (hA : ∀ v, 1400 * h ≤ v → v < M → (B' 188 v = B 188 v ∧ B' 189 v = B 189 v ∧ B' 190 v = B 190 v ∧ B' 191 v = B 191 v ∧ J' 192 v = J 192 v)) : SOK k h M L' B' J' n lv S := by
  obtain ⟨h1, h2, h3, h4, h5, h6, h7⟩ := H
  exact ⟨h1, h2, h3, h4, fun i s hs => ⟨(h5 i s hs).1, (h5 i s hs).2.1, fun q => ⟨((h5 i s hs).2.2 q).1, tr_to hT hE (fun v hv => hA v hv.1 hv.2) (fun v hv => hv) _ _ _ _ _ (Nat.le_refl _) ((h5 i s hs).2.2 q).2⟩⟩, h6, h7⟩
/-- the reference saves -/
theorem sr_save (H : SR k h M L I B J n lv S a6 a8 a0) (hT : tabL k L) {deep : Nat} (hd : deep ≤ 8) : ∃ B' J', mX12_save B J (nI deep) = some (B', J') ∧ SR k h M L I B' J' n lv S a6 a8 a0 ∧ SV B' J' n deep S ∧ (∀ b i, ¬ ((b = 210 ∨ b = 211) ∧ 128 * deep ≤ i ∧ i < 128 * deep + 128) → B' b i = B b i) ∧ (∀ b i, ¬ (b = 207 ∧ 128 * deep ≤ i ∧ i < 128 * deep + 128) → J' b i = J b i) := by
  obtain ⟨B', J', e1, e2, e3, e4⟩ := save_ok B J hd
  refine ⟨B', J', e1, sr_to H hT TE.rfl (fun _ _ _ => rfl) (e3 _ _ (by omega)) (fun i => e3 _ _ (by omega)) (fun i => e3 _ _ (by omega)) (fun i => e4 _ _ (by omega)) (fun v _ _ => ⟨e3 _ _ (by omega), e3 _ _ (by omega), e3 _ _ (by omega), e3 _ _ (by omega), e4 _ _ (by omega)⟩), fun i s hs => ?_, e3, e4⟩
  obtain ⟨hW, ⟨g1, g2, g3, g4, g5, g6, g7⟩, hS, hD, h0⟩ := H
  have hi : i < S.length := (List.getElem?_eq_some_iff.mp hs).1
  have hsg := sg_lt g4 hi
  obtain ⟨x1, x2, x3⟩ := e2 (sg n i) (by omega)
  obtain ⟨c1, c2, c3, c4, c5⟩ := hS i s hs
  exact ⟨by rw [x3]; exact c3, fun q => by rw [x1]; exact (c4 q).2, fun q => by rw [x2]; exact (c5 q).1⟩
/-- the class enters a level -/
theorem sr_enter (H : SR k h M L I B J n lv S a6 a8 a0) (hT : tabL k L) (hlv : lv < 8) : ∃ I' b6 b8, mX5_enter I = some I' ∧ SR k h M L I' B J n (lv + 1) S b6 b8 (a0.set (lv + 1) (nI S.length)) ∧ (∀ j, j < (lv + 1) * 85 → gI b6 j = gI a6 j ∧ gI b8 j = gI a8 j) ∧ (∀ b, ¬ (135 ≤ b ∧ b ≤ 141) → I' b = I b) := by
  obtain ⟨hW, ⟨g1, g2, g3, g4, g5, g6, g7⟩, hS, hD, h0⟩ := H
  obtain ⟨I', b6, b8, e1, e2, e3, e4, e5, e6⟩ := enter_ok hW g1 hlv g3 g6
  refine ⟨I', b6, b8, e1, ⟨e2, ⟨e3, by omega, gI_se (by rw [hW.2.2.2.2.2]; omega) _, g4, g5, g6, g7⟩, fun i s hs => ?_, hD, h0⟩, e5, e6⟩
  have hi : i < S.length := (List.getElem?_eq_some_iff.mp hs).1
  obtain ⟨c1, c2, c3⟩ := hS i s hs
  obtain ⟨x1, x2⟩ := e4 i hi
  exact ⟨c1, ⟨by rw [x1]; exact c2.1, by rw [x2]; exact c2.2⟩, c3⟩
/-- the reference goes back to what was saved -/
theorem sr_back {deep : Nat} (hcp : CP I lv S a6 a8 a0) (hok : SOK k h M L B J n lv S) (hv : SV B J n deep S) (hT : tabL k L) (hd : deep ≤ 8) (h43 : B 186 43 = nI S.length) : ∃ B' J', mX12_back B J (nI deep) = some (B', J') ∧ SR k h M L I B' J' n lv S a6 a8 a0 ∧ (∀ b i, ¬ ((b = 208 ∨ b = 209) ∧ i < 128) → B' b i = B b i) ∧ (∀ b i, ¬ (b = 206 ∧ i < 128) → J' b i = J b i) := by
  obtain ⟨hW, g1, g3, hC⟩ := hcp
  obtain ⟨h1, h2, h3, h4, h5, h6, h7⟩ := hok
  obtain ⟨B', J', e1, e2, e3, e4⟩ := back_ok B J hd
  refine ⟨B', J', e1, ⟨hW, ⟨g1, h1, g3, h2, h3, h4, by rw [e3 _ _ (by omega)]; exact h43⟩, fun i s hs => ?_, h6, h7⟩, e3, e4⟩
  have hi : i < S.length := (List.getElem?_eq_some_iff.mp hs).1
  have hsg := sg_lt h2 hi
  obtain ⟨x1, x2, x3⟩ := e2 (sg n i) (by omega)
  obtain ⟨v1, v2, v3⟩ := hv i s hs
  obtain ⟨c1, c2, c3⟩ := h5 i s hs
  exact ⟨c1, hC i s hs, by rw [x3]; exact v1, fun q => ⟨c2 q, by rw [x1]; exact v2 q⟩, fun q => ⟨by rw [x2]; exact v3 q, (c3 q).1, tr_to hT TE.rfl (fun v _ => ⟨e3 _ _ (by omega), e3 _ _ (by omega), e3 _ _ (by omega), e3 _ _ (by omega), e4 _ _ (by omega)⟩) (fun v hv => hv) _ _ _ _ _ (Nat.le_refl _) (c3 q).2⟩⟩
end
