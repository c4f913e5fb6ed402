/-! A PLACE JOINS inside a statement (pure) -/
section
variable {k h M n : Nat} {D : List Df} {F : fT} {I B : iT} {J : jT} {L : lT} {P md nest wd b z : Nat} {S : List Sl} {a6 a8 a0 : List Int32}
theorem ps_add (H : PS k h M n D F I B J L P md nest S a6 a8 a0 wd b z) {s : Sl} (hN : isN s.2.1) (hno : ∀ (i : Nat) (s' : Sl), S[i]? = some s' → s'.1 ≠ 0 → s'.2.1 ≠ s.2.1) (hlen : S.length + 1 ≤ 5 + wd) (hs : s.1 = 1 ∨ (s.1 = 2 ∧ s.2.2.2.2 ≤ 200 ∧ TR k L B J (fun v => 1400 * h ≤ v ∧ v < M) s.2.2.2.2 s.2.2.1 s.2.2.2.1 s.2.2.2.2)) (yr : Int32) (hyr : s.1 = 2 → yr = nI s.2.2.1) :
    ∃ I' B' J', mX5_add I (nI (cN s.2.1)) (if s.1 = 2 then nI s.2.2.2.1 else -1) = some (nI S.length, I') ∧ mX12_newSlot B J (lN (rN s.2.1)) (if s.1 = 1 then 0 else 2) yr = some (nI S.length, B', J') ∧ PS k h M n D F I' B' J' L P md nest (S ++ [s]) (a6.set (nest * 85 + S.length) (nI (cN s.2.1))) (a8.set (nest * 85 + S.length) (if s.1 = 2 then nI s.2.2.2.1 else -1)) (a0.set nest (nI (S.length + 1))) wd b z ∧ (∀ q, ¬ (136 ≤ q ∧ q ≤ 141) → I' q = I q) ∧ (∀ q j, ¬ (q = 186 ∧ j = 43) → ¬ (q = 208 ∨ q = 209) → B' q j = B q j) ∧ (∀ q j, q ≠ 206 → J' q j = J q j) := by
  have hw := H.2.2.2.2.1.2.2.1
  have hb := H.2.2.2.2.2.2
  have hsr := H.1.2.2.2.2.2.1
  obtain ⟨I', B', J', e1, e2, e3, e4, e5, e6⟩ := sr_add hsr hN hno (by omega) hs yr hyr
  refine ⟨I', B', J', e1, e2, ps_sr H e3 e4 e5 e6 (by simp; omega) (fun i hi => ?_), e4, e5, e6⟩
  by_cases q : i = nest
  · subst q
    exact ⟨S.length + 1, by omega, gI_se (by rw [hsr.1.2.2.2.2.2]; omega) _⟩
  · rw [gI_sn q]
    exact hb.1 i hi
end
