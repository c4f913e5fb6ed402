/-! THE HOUSE between two calls (pure) -/
theorem isw_c {I I' : iT} {F F' : fT} {k : Nat} (hF : F 148 12 = k) (hF' : F' 148 12 = k) (hI : ∀ q, (k + 47 ≤ q ∧ q ≤ k + 50) ∨ (150 ≤ q ∧ q ≤ 185) → I' q = I q) (x : Int32) : mX6_isWaiting I' F' x = mX6_isWaiting I F x := by
  have at_ : ∀ a, (k + 47 ≤ a ∧ a ≤ k + 49) ∨ (150 ≤ a ∧ a ≤ 184) → ∀ y, mX4_at a I' y = mX4_at a I y := fun a ha y => at_keep (hI a (by omega)) (hI (a + 1) (by omega)) y
  have fo : ∀ (n : Nat) (x1 y j : Int32), mX1_follow_4 n I' x1 y j = mX1_follow_4 n I x1 y j := by
    intro n
    induction n with
    | zero => intro _ _ _; rfl
    | succ n ih =>
      intro x1 y j
      rw [mX1_follow_4, mX1_follow_4, at_ 150 (by omega)]
      simp only [ih]
  have sl : ∀ x y, mX6_slotOf I' x y = mX6_slotOf I x y := fun x y => by
    unfold mX6_slotOf
    rw [at_ 176 (by omega)]
  have f1 : ∀ y, mX1_follow I' y = mX1_follow I y := fun y => by unfold mX1_follow; rw [fo]
  have ct : ∀ x y, mX1_count I' x y = mX1_count I x y := fun x y => by
    unfold mX1_count
    rw [at_ 156 (by omega)]
  have to : ∀ x y, mX6_talkedOver I' F' x y = mX6_talkedOver I F x y := fun x y => by
    unfold mX6_talkedOver
    rw [hF, hF', at_ (k + 49) (by omega)]
    simp only [sl, f1]
  have si : ∀ y, mX6_sideTaken I' F' y = mX6_sideTaken I F y := fun y => by
    unfold mX6_sideTaken
    rw [hF, hF', at_ (k + 49) (by omega)]
  have i5 : ∀ a b c s, mX6_isWaiting_54 I' F' a b c s = mX6_isWaiting_54 I F a b c s := fun a b c s => by
    unfold mX6_isWaiting_54
    rw [at_ 168 (by omega)]
    simp only [to, si, ct]
  have i4 : ∀ a b c, mX6_isWaiting_49 I' F' a b c = mX6_isWaiting_49 I F a b c := fun a b c => by
    unfold mX6_isWaiting_49
    rw [i5]
  have e47 : ∀ y, mX4_at (F' 148 12 + 47) I' y = mX4_at (F 148 12 + 47) I y := fun y => by rw [hF, hF', at_ (k + 47) (by omega)]
  unfold mX6_isWaiting
  rw [at_ 166 (by omega)]
  simp only [e47, i4, i5]
section
variable {k h md : Nat} {D : List Df} {L : lT} {B0 B' : iT} {J0 J' : jT} {F F' : fT} {I I' B : iT} {J : jT}
theorem runr_move (H : RUNR k h md D L B0 J0 F I B J) (hI : ∀ q, (k + 2 ≤ q ∧ q ≤ k + 13) ∨ (k + 19 ≤ q ∧ q ≤ k + 60) ∨ (148 ≤ q ∧ q ≤ 185) → I' q = I q) (hF : F' 148 12 = k) (hB : ∀ q i, RBc h q i → B' q i = B q i) (hJ : ∀ q i, RJc h q i → J' q i = J q i) : RUNR k h md D L B' J' F' I' B' J' := by
  obtain ⟨sp, np, nm, dn, sd, R, HR, hc⟩ := H
  have HR' := run_move HR hI hF hB hJ
  refine ⟨sp, np, nm, dn, sd, R, HR', ?_⟩
  rcases hc with ⟨e1, e2⟩ | ⟨e1, e2⟩
  · refine Or.inl ⟨e1, ?_⟩
    rw [e2]
    refine congrArg (List.map nI) (rdF_eq np 0 (fun y _ hy => ?_))
    unfold rdB
    by_cases o : gI (R 168) y = 0
    · obtain ⟨w, w1, w2, _⟩ := run_wait HR (show y < np by omega) o
      obtain ⟨v, v1, v2, _⟩ := run_wait HR' (show y < np by omega) o
      rw [isw_c (I := I) HR.2.2.1 hF (fun q w => hI q (by omega)), w1] at v1
      rw [w2, v2, Option.some.inj v1]
    · rw [decide_eq_false o, Bool.false_and, Bool.false_and]
  · exact Or.inr ⟨e1, e2⟩
end
/-- the house, between two calls -/
def HS (b : Nat) (I B : iT) (J : jT) (F : fT) : Prop := TPR I B ∧ faultR I B ∧ (∃ o, outR I B o) ∧ rowIs I 7 wcs ∧ SCP b I ∧ ((∃ L, RS I 12 L) ∧ ∃ L, RS I 73 L) ∧ ((F 1 5 = 12 ∧ F 1 6 = 73) ∨ (F 1 5 = 73 ∧ F 1 6 = 12)) ∧ ((unl I B ∧ (∃ R, RN I R ∧ (R 176).length = 6800) ∧ B 186 76 = nI 0 ∧ B 186 31 = nI 0) ∨ (I 1 7 = 1 ∧ ∃ h md D L B0 J0, RUNR (F 1 5) h md D L B0 J0 F I B J))
section
variable {b : Nat} {I B I' B' : iT} {J J' : jT} {F : fT}
theorem unl_keep (h : unl I B) (hI : ∀ q, q = 1 ∨ (150 ≤ q ∧ q ≤ 185) → I' q = I q) (h33 : B' 186 33 = B 186 33) : unl I' B' := by
  obtain ⟨a1, a2, a3, a4, a5, a6, a7⟩ := h
  have kp : ∀ {a : Nat}, 150 ≤ a → a ≤ 184 → rowIs I a [] → rowIs I' a [] := fun w1 w2 w => w.keep (hI _ (by omega)) (hI _ (by omega))
  exact ⟨by rw [hI 1 (by omega)]; exact a1, by rw [h33]; exact a2, kp (by omega) (by omega) a3, kp (by omega) (by omega) a4, kp (by omega) (by omega) a5, kp (by omega) (by omega) a6, kp (by omega) (by omega) a7⟩
/-- calls that leave the run alone -/
theorem hs_move (H : HS b I B J F) (hI : ∀ q, ¬ (2 ≤ q ∧ q ≤ 5) → ¬ (F 1 5 + 14 ≤ q ∧ q ≤ F 1 5 + 17) → I' q = I q) (hB : ∀ q i, q ≠ 187 → q ≠ 231 → ¬ (q = 186 ∧ (i = 1 ∨ i = 80)) → B' q i = B q i) (hT : TPR I' B') (hO : ∃ o, outR I' B' o) (hS : (∃ l, rowIs I' (F 1 5 + 14) l) ∧ ∃ l, rowIs I' (F 1 5 + 16) l) : HS b I' B' J F := by
  obtain ⟨h1, h2, h3, h4, h5, ⟨⟨L12, h6⟩, L73, h7⟩, h8, h9⟩ := H
  have hk : F 1 5 = 12 ∨ F 1 5 = 73 := h8.elim (fun w => Or.inl w.1) (fun w => Or.inr w.1)
  obtain ⟨⟨l14, s14⟩, l16, s16⟩ := hS
  have rs : ∀ kk L, RS I kk L → ∃ L', RS I' kk L' := fun kk L hR => by
    have hkk := hR.1
    refine ⟨upL (upL L (F 1 5 + 16) l16) (F 1 5 + 14) l14, hkk, fun a ha => ?_⟩
    by_cases q1 : a = F 1 5 + 14
    · rw [q1, upL_s]; exact s14
    · by_cases q2 : a = F 1 5 + 16
      · rw [upL_n _ _ q1, q2, upL_s]; exact s16
      · rw [upL_n _ _ q1, upL_n _ _ q2]
        unfold rowA at ha
        exact (hR.2 a ha).keep (hI _ (by omega) (by omega)) (hI _ (by omega) (by omega))
  refine ⟨hT, ⟨by rw [hI 6 (by omega) (by omega), hB 186 9 (by omega) (by omega) (by omega)]; exact h2.1, by rw [hI 6 (by omega) (by omega), hB 186 10 (by omega) (by omega) (by omega)]; exact h2.2⟩, hO, h4.keep (hI _ (by omega) (by omega)) (hI _ (by omega) (by omega)), h5.keep (fun c w1 w2 => hI _ (by omega) (by omega)), ⟨rs 12 L12 h6, rs 73 L73 h7⟩, h8, ?_⟩
  rcases h9 with ⟨u1, ⟨R, u2, u3⟩, u4, u5⟩ | ⟨u1, h, md, D, L, B0, J0, u2⟩
  · exact Or.inl ⟨unl_keep u1 (fun q w => hI q (by omega) (by omega)) (hB _ _ (by omega) (by omega) (by omega)), ⟨R, rn_keep u2 (fun a w1 w2 => hI a (by omega) (by omega)), u3⟩, by rw [hB _ _ (by omega) (by omega) (by omega)]; exact u4, by rw [hB _ _ (by omega) (by omega) (by omega)]; exact u5⟩
  · have hF : F 148 12 = F 1 5 := by
      obtain ⟨sp, np, nm, dn, sd, R, HR, _⟩ := u2
      exact HR.2.2.1
    exact Or.inr ⟨by rw [hI 1 (by omega) (by omega)]; exact u1, h, md, D, L, B', J, runr_move u2 (fun q w => hI q (by omega) (by omega)) hF (fun q i w => hB q i (by unfold RBc at w; omega) (by unfold RBc at w; omega) (by unfold RBc at w; omega)) (fun _ _ _ => rfl)⟩
/-- calls that go on with the run -/
theorem hs_run (H : HS b I B J F) (h17 : I 1 7 = 1) (hF : F 148 12 = F 1 5) (hI : ∀ q, q ≠ F 1 5 + 27 → q ≠ F 1 5 + 28 → q < 148 → I' q = I q) (hB : ∀ q i, ¬ (q = 186 ∧ ((60 ≤ i ∧ i ≤ 65) ∨ i = 76 ∨ i = 78)) → ¬ (212 ≤ q ∧ q ≤ 230) → B' q i = B q i) (hR : ∃ h md D L B0 J0, RUNR (F 1 5) h md D L B0 J0 F I' B' J') : HS b I' B' J' F := by
  obtain ⟨⟨bs, h1, h1'⟩, h2, ⟨o, h3⟩, h4, h5, ⟨⟨L12, h6⟩, L73, h7⟩, h8, _⟩ := H
  have hk : F 1 5 = 12 ∨ F 1 5 = 73 := h8.elim (fun w => Or.inl w.1) (fun w => Or.inr w.1)
  obtain ⟨h, md, D, L, B0, J0, hRR⟩ := hR
  have hRR0 := hRR
  obtain ⟨sp, np, nm, dn, sd, R, HR, _⟩ := hRR
  obtain ⟨_, _, V, v1, _⟩ := HR.2.2.2.1
  have rs : ∀ kk L, RS I kk L → ∃ L', RS I' kk L' := fun kk L hR => by
    have hkk := hR.1
    refine ⟨upL L (F 1 5 + 27) V, hkk, fun a ha => ?_⟩
    by_cases q1 : a = F 1 5 + 27
    · rw [q1, upL_s]; exact v1
    · rw [upL_n _ _ q1]
      unfold rowA at ha
      exact (hR.2 a ha).keep (hI _ (by omega) (by omega) (by omega)) (hI _ (by omega) (by omega) (by omega))
  refine ⟨⟨bs, ⟨h1.1.keep (hI _ (by omega) (by omega) (by omega)) (hI _ (by omega) (by omega) (by omega)), h1.2.1, by rw [hB _ _ (by omega) (by omega)]; exact h1.2.2.1, fun i hi => by rw [hB _ _ (by omega) (by omega)]; exact h1.2.2.2 i hi⟩, h1'⟩, ⟨by rw [hI 6 (by omega) (by omega) (by omega), hB 186 9 (by omega) (by omega)]; exact h2.1, by rw [hI 6 (by omega) (by omega) (by omega), hB 186 10 (by omega) (by omega)]; exact h2.2⟩, ⟨o, h3.1.keep (hI _ (by omega) (by omega) (by omega)) (hI _ (by omega) (by omega) (by omega)), h3.2.1, by rw [hB _ _ (by omega) (by omega)]; exact h3.2.2.1, fun i hi => by rw [hB _ _ (by omega) (by omega)]; exact h3.2.2.2 i hi⟩, h4.keep (hI _ (by omega) (by omega) (by omega)) (hI _ (by omega) (by omega) (by omega)), h5.keep (fun c w1 w2 => hI _ (by omega) (by omega) (by omega)), ⟨rs 12 L12 h6, rs 73 L73 h7⟩, h8, Or.inr ⟨by rw [hI 1 (by omega) (by omega) (by omega)]; exact h17, h, md, D, L, B0, J0, hRR0⟩⟩
end
