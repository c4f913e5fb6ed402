/-! THE HEAD OF A DEF, in both (pure) -/
section
variable {k h : Nat} {W : List Ent} {D : List Df} {F : fT} {I B : iT} {J : jT} {L : lT} {bs : List Nat} {t : Tok} {r : List Tok} {P md b : Nat} {S : List Sl} {a6 a8 a0 : List Int32}
/-- both want def -/
theorem jdefw (hC : CR I B J bs t r) (hr : RS I k L) (hf : Nat) :
    (t.1 = 301 ∧ ∃ u r' I' B' J', r = u :: r' ∧ mX2_want I 301 = some I' ∧ mX12_needWord B J 101 = some (1, B', J') ∧ CR I' B' J' bs u r' ∧ t.2.2 + 3 ≤ u.2.2 ∧ cf I I' ∧ rf B J B' J') ∨
    (t.1 ≠ 301 ∧ ∃ I' B', mX2_want I 301 = some I' ∧ mX12_needWord B J 101 = some (0, B', J) ∧ FAIL k hf I B J I' B' J) := by
  have e1 : I 6 6 = 301 ↔ t.1 = 301 := cr_c hC 301 (by omega)
  have e2 : B 186 3 = 101 ↔ t.1 = 301 := cr_r hC 301 (by decide)
  have htl : tl 301 = 3 := by decide
  by_cases q : t.1 = 301
  · left
    refine ⟨q, ?_⟩
    obtain ⟨u, r', I', B', J', k1, k2, k3, k4, k5, k6, k7⟩ := jadv hC (by omega)
    rw [q, htl] at k5
    refine ⟨u, r', I', B', J', k1, ?_, ?_, k4, k5, k6, k7⟩
    · unfold mX2_want; rw [if_pos (e1.mpr q), k2, sb]
    · unfold mX12_needWord; rw [if_pos (e2.mpr q), k3, sb]
  · right
    refine ⟨q, ?_⟩
    obtain ⟨I', B', a1, a2, a3, _⟩ := jbad hC hr hf (f := 1) (by decide) (nI t.2.2)
    refine ⟨I', B', ?_, ?_, a3⟩
    · unfold mX2_want; rw [if_neg (fun x => q (e1.mp x)), cr_8 hC, a1, sb]
    · unfold mX12_needWord; rw [if_neg (fun x => q (e2.mp x)), cr_4 hC, a2, sb, if_pos (Or.inl rfl)]
/-- four places for the PARAMS -/
theorem pr18_ok (hF : F 134 4 = k) (hR : RS I k L) (hl : (L (k + 45)).length + 4 ≤ 48) (x1 : Int32) : ∃ I', mX3_readParams_18 LF I F x1 0 = prR I' F x1 ∧ RS I' k (upL L (k + 45) (L (k + 45) ++ [-1, -1, -1, -1])) ∧ fr1 (k + 45) I I' := by
  have hk0 := hR.1
  obtain ⟨z1, z2, z3, z4, z5, z6, z7, z8, z9⟩ := lenW hk0
  obtain ⟨I1, a1, a2, a3⟩ := rs_add hR (a := k + 45) (by unfold rowA; omega) (by rw [z9]; omega) (-1)
  obtain ⟨I2, b1, b2, b3⟩ := rs_add a2 (a := k + 45) (by unfold rowA; omega) (by rw [upL_s, List.length_append, z9]; show (L (k + 45)).length + 1 < 48; omega) (-1)
  obtain ⟨I3, c1, c2, c3⟩ := rs_add b2 (a := k + 45) (by unfold rowA; omega) (by rw [upL_s, upL_s, List.length_append, List.length_append, z9]; show (L (k + 45)).length + 1 + 1 < 48; omega) (-1)
  obtain ⟨I4, d1, d2, d3⟩ := rs_add c2 (a := k + 45) (by unfold rowA; omega) (by rw [upL_s, upL_s, upL_s, List.length_append, List.length_append, List.length_append, z9]; show (L (k + 45)).length + 1 + 1 + 1 < 48; omega) (-1)
  refine ⟨I4, ?_, ?_, fun q w1 w2 => by rw [d3 q w1 w2, c3 q w1 w2, b3 q w1 w2, a3 q w1 w2]⟩
  · have e : LF = 99995 + 5 := rfl
    rw [e, mX3_readParams_18, if_neg (by decide), hF, a1, sb]
    show mX3_readParams_18 (99995 + 4) I1 F x1 1 = _
    rw [mX3_readParams_18, if_neg (by decide), hF, b1, sb]
    show mX3_readParams_18 (99995 + 3) I2 F x1 2 = _
    rw [mX3_readParams_18, if_neg (by decide), hF, c1, sb]
    show mX3_readParams_18 (99995 + 2) I3 F x1 3 = _
    rw [mX3_readParams_18, if_neg (by decide), hF, d1, sb]
    show mX3_readParams_18 (99995 + 1) I4 F x1 4 = _
    rw [mX3_readParams_18, if_pos (by decide)]
    rfl
  · have e : (upL (upL (upL (upL L (k + 45) (L (k + 45) ++ [-1])) (k + 45) (upL L (k + 45) (L (k + 45) ++ [-1]) (k + 45) ++ [-1])) (k + 45) (upL (upL L (k + 45) (L (k + 45) ++ [-1])) (k + 45) (upL L (k + 45) (L (k + 45) ++ [-1]) (k + 45) ++ [-1]) (k + 45) ++ [-1])) (k + 45) (upL (upL (upL L (k + 45) (L (k + 45) ++ [-1])) (k + 45) (upL L (k + 45) (L (k + 45) ++ [-1]) (k + 45) ++ [-1])) (k + 45) (upL (upL L (k + 45) (L (k + 45) ++ [-1])) (k + 45) (upL L (k + 45) (L (k + 45) ++ [-1]) (k + 45) ++ [-1]) (k + 45) ++ [-1]) (k + 45) ++ [-1])) = upL L (k + 45) (L (k + 45) ++ [-1, -1, -1, -1]) := by
      funext a
      by_cases q : a = k + 45
      · subst q
        simp only [upL_s, List.append_assoc]
        rfl
      · rw [upL_n _ _ q, upL_n _ _ q, upL_n _ _ q, upL_n _ _ q, upL_n _ _ q]
    rw [← e]
    exact d2
end
