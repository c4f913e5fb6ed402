/-! print: every T is told alike (pure) -/
section
variable {k : Nat} {L : lT} {B0 : iT} {J : jT}
theorem e74 {R : sc_12sayTypeT} {B : iT} {u kd w : Nat} (hu : u < 2800) (g : B 188 u = nI w) (h : (kd = 33 ∧ w = 2) ∨ (kd = 63 ∧ w = 3) ∨ (kd = 62 ∧ w = 4) ∨ (kd = 60 ∧ w = 5) ∨ (kd = 43 ∧ w = 6) ∨ (kd = 38 ∧ w = 7)) : bX12_sayType R B J (nI u) = mX12_sayType_74 R B J (nI u) (nI w) (nI kd) := by
  have g188 : B 188 (nI u).toNatClampNeg = nI w := by rw [congrArg (B 188) (cl28 hu)]; exact g
  unfold bX12_sayType
  rw [if_pos (in28 hu), g188]
  rcases h with ⟨rfl, rfl⟩ | ⟨rfl, rfl⟩ | ⟨rfl, rfl⟩ | ⟨rfl, rfl⟩ | ⟨rfl, rfl⟩ | ⟨rfl, rfl⟩ <;> rfl
theorem pr_all {Q : Nat → Prop} (hK1 : (L (k + 2)).length ≤ 1000) (hN5 : (L (k + 10)).length ≤ 500) : ∀ (d u t p : Nat), TR k L B0 J Q d u t p → p ≤ 200 → ∃ s : List Int32, s.length + 12 ≤ 20 * p ∧ RSy B0 J u p s ∧ CWt k L t 0 (2 * p - 1) p s := by
  intro d
  induction d with
  | zero => intro u t p h; exact h.elim
  | succ d ih =>
    intro u t p h hp200
    have hp1 := tr_p h
    obtain ⟨hu, hq, ht, hj, hh⟩ := h
    have ht3 : t < 2 ^ 31 := by omega
    rcases hh with ⟨b1, b2, b3, b4, b5, b6, b7⟩ | ⟨kd, w, u1, t1, p1, c1, c2, c3, c4, c5, c6, c7, c8, c9⟩ | ⟨kd, w, u1, t1, p1, u2, t2, p2, c1, c2, c3, c4, c5, c6, c7, c8, c9, c10⟩ | ⟨kd, w, f, bl, c1, c2, c3, c4, c5, c6, c7, c8, c9, c10, c11, c12, c13⟩
    · subst b7
      refine ⟨[101, 110, 100], by show 3 + 12 ≤ 20 * 1; omega, fun fu B o hp hag ho hl => ?_, cw_end ht3 (by omega) (wa_end ht3 b1)⟩
      obtain ⟨fu, rfl⟩ : ∃ y, fu = y + 1 := ⟨fu - 1, by omega⟩
      have hl' : o.length + 3 < 7990 := hl
      have g188 : B 188 (nI u).toNatClampNeg = 1 := by rw [congrArg (B 188) (cl28 hu), hag 188 (by omega) (by omega)]; exact b2
      show SY B o _ (bX12_sayType (sc_12sayType fu) B J (nI u))
      unfold bX12_sayType
      rw [if_pos (in28 hu), g188, if_pos rfl]
      have := sy_b (f := fun q18 => some q18) (sn_end ho (by omega)) (fun B' h _ => sy_n h)
      rw [List.append_nil] at this
      exact this
    · have q1 := (tr_u c9).2.2
      have hp1' := tr_p c9
      obtain ⟨s1, s2, s3, s4⟩ := ih u1 t1 p1 c9 (by omega)
      have hkd : kd = 33 ∨ kd = 63 ∨ kd = 62 ∨ kd = 60 := by omega
      have hwa := wa_t0 ht3 hkd c2
      rw [c6, if_pos rfl, c7] at hwa
      have hcw := cw_child (dp := p) ht3 (show 0 < 2 ^ 30 by omega) (show t1 < 2 ^ 31 by omega) hwa s4 (cw_end ht3 (by omega) (wa_t1 ht3 hkd c2 c6)) hp1' (by omega) (by omega)
      refine ⟨[nI kd, 32] ++ (s1 ++ []), ?_, fun fu B o hp hag ho hl => ?_, ?_⟩
      · rw [List.length_append, List.append_nil]
        show 2 + s1.length + 12 ≤ 20 * p
        omega
      · obtain ⟨fu, rfl⟩ : ∃ y, fu = y + 1 := ⟨fu - 1, by omega⟩
        rw [List.length_append, List.append_nil] at hl
        have hl' : o.length + (2 + s1.length) < 7990 := hl
        show SY B o ([nI kd] ++ ([32] ++ (s1 ++ []))) (bX12_sayType (sc_12sayType fu) B J (nI u))
        rw [e74 hu (by rw [hag 188 (by omega) (by omega)]; exact c3) (show (kd = 33 ∧ w = 2) ∨ _ by omega)]
        unfold mX12_sayType_74
        refine sy_b (say_ok ho (by omega) _) (fun B1 o1 f1 => sy_b (say_ok o1 (by rw [List.length_append, List.length_singleton]; omega) _) (fun B2 o2 f2 => ?_))
        have a2 := ag_S (ag_S hag f1) f2
        have g189 : B2 189 (nI u).toNatClampNeg = nI u1 := by rw [congrArg (B2 189) (cl28 hu), a2 189 (by omega) (by omega)]; exact c4
        have n6 : ¬ nI w = 6 := by rcases c1 with ⟨_, rfl⟩ | ⟨_, rfl⟩ <;> decide
        have n7 : ¬ nI w = 7 := by rcases c1 with ⟨_, rfl⟩ | ⟨_, rfl⟩ <;> decide
        have n4 : ¬ nI w = 4 := by rcases c1 with ⟨_, rfl⟩ | ⟨_, rfl⟩ <;> decide
        have n5 : ¬ nI w = 5 := by rcases c1 with ⟨_, rfl⟩ | ⟨_, rfl⟩ <;> decide
        rw [if_neg n6, if_neg n7, if_pos (in28 hu), g189]
        refine sy_b (s3 fu B2 _ (by omega) a2 o2 (by rw [List.length_append, List.length_append, List.length_singleton, List.length_singleton]; omega)) (fun B3 o3 f3 => ?_)
        rw [if_neg n4, if_neg n5]
        exact sy_n o3
      · rw [show 2 * p - 1 = 1 + (2 * p1 - 1) + 1 by omega]
        exact hcw
    · have q1 := (tr_u c9).2.2
      have q2 := (tr_u c10).2.2
      have hp1' := tr_p c9
      have hp2' := tr_p c10
      obtain ⟨s1, s2, s3, s4⟩ := ih u1 t1 p1 c9 (by omega)
      obtain ⟨z1, z2, z3, z4⟩ := ih u2 t2 p2 c10 (by omega)
      have hkd : kd = 33 ∨ kd = 63 ∨ kd = 62 ∨ kd = 60 := by omega
      have hwa := wa_t0 ht3 hkd c2
      rw [c6, if_neg (nIm (show t1 < 2 ^ 31 by omega))] at hwa
      have hcw2 := cw_child (dp := p) ht3 (show 1 < 2 ^ 30 by omega) (show t2 < 2 ^ 31 by omega) (wa_t1b ht3 (show t1 < 2 ^ 31 by omega) hkd c2 c6 c7) z4 (cw_end ht3 (by omega) (wa_t2 ht3 hkd c2)) hp2' (by omega) (by omega)
      have hcw := cw_child (dp := p) ht3 (show 0 < 2 ^ 30 by omega) (show t1 < 2 ^ 31 by omega) hwa s4 hcw2 hp1' (by omega) (by omega)
      refine ⟨[nI kd, 32] ++ (s1 ++ ([32, 46, 32] ++ (z1 ++ []))), ?_, fun fu B o hp hag ho hl => ?_, ?_⟩
      · rw [List.length_append, List.length_append, List.length_append, List.append_nil]
        show 2 + (s1.length + (3 + z1.length)) + 12 ≤ 20 * p
        omega
      · obtain ⟨fu, rfl⟩ : ∃ y, fu = y + 1 := ⟨fu - 1, by omega⟩
        rw [List.length_append, List.length_append, List.length_append, List.append_nil] at hl
        have hl' : o.length + (2 + (s1.length + (3 + z1.length))) < 7990 := hl
        show SY B o ([nI kd] ++ ([32] ++ (s1 ++ ([32] ++ ([46] ++ ([32] ++ (z1 ++ []))))))) (bX12_sayType (sc_12sayType fu) B J (nI u))
        rw [e74 hu (by rw [hag 188 (by omega) (by omega)]; exact c3) (show (kd = 33 ∧ w = 2) ∨ _ by omega)]
        unfold mX12_sayType_74
        refine sy_b (say_ok ho (by omega) _) (fun B1 o1 f1 => sy_b (say_ok o1 (by rw [List.length_append, List.length_singleton]; omega) _) (fun B2 o2 f2 => ?_))
        have a2 := ag_S (ag_S hag f1) f2
        have g189 : B2 189 (nI u).toNatClampNeg = nI u1 := by rw [congrArg (B2 189) (cl28 hu), a2 189 (by omega) (by omega)]; exact c4
        have n6 : ¬ nI w = 6 := by rcases c1 with ⟨_, rfl⟩ | ⟨_, rfl⟩ <;> decide
        have n7 : ¬ nI w = 7 := by rcases c1 with ⟨_, rfl⟩ | ⟨_, rfl⟩ <;> decide
        have n45 : nI w = 4 ∨ nI w = 5 := by rcases c1 with ⟨_, rfl⟩ | ⟨_, rfl⟩ <;> decide
        rw [if_neg n6, if_neg n7, if_pos (in28 hu), g189]
        have hl2 : (o ++ [nI kd] ++ [32]).length = o.length + 2 := by rw [List.length_append, List.length_append]; rfl
        refine sy_b (s3 fu B2 _ (by omega) a2 o2 (by rw [hl2]; omega)) (fun B3 o3 f3 => ?_)
        have a3 := ag_S a2 f3
        have hl3 : (o ++ [nI kd] ++ [32] ++ s1).length = o.length + 2 + s1.length := by rw [List.length_append, hl2]
        have e232 : (if nI w = 4 then mX12_sayType_232 (sc_12sayType fu) B3 J (nI u) (nI w) else if nI w = 5 then mX12_sayType_232 (sc_12sayType fu) B3 J (nI u) (nI w) else some B3) = mX12_sayType_232 (sc_12sayType fu) B3 J (nI u) (nI w) := by
          rcases n45 with q | q
          · rw [if_pos q]
          · rw [if_pos q, ite_self]
        rw [e232]
        unfold mX12_sayType_232
        refine sy_b (say_ok o3 (by rw [hl3]; omega) _) (fun B4 o4 f4 => sy_b (say_ok o4 (by rw [List.length_append, hl3, List.length_singleton]; omega) _) (fun B5 o5 f5 => sy_b (say_ok o5 (by rw [List.length_append, List.length_append, hl3, List.length_singleton, List.length_singleton]; omega) _) (fun B6 o6 f6 => ?_)))
        have a6 := ag_S (ag_S (ag_S a3 f4) f5) f6
        have g190 : B6 190 (nI u).toNatClampNeg = nI u2 := by rw [congrArg (B6 190) (cl28 hu), a6 190 (by omega) (by omega)]; exact c5
        have hl6 : (o ++ [nI kd] ++ [32] ++ s1 ++ [32] ++ [46] ++ [32]).length = o.length + 2 + s1.length + 3 := by
          rw [List.length_append, List.length_append, List.length_append, hl3]
          rfl
        rw [if_pos (in28 hu), g190]
        exact sy_b (z3 fu B6 _ (by omega) a6 o6 (by rw [hl6]; omega)) (fun B7 o7 _ => sy_n o7)
      · rw [show 2 * p - 1 = 1 + (2 * p1 - 1) + (1 + (2 * p2 - 1) + 1) by omega]
        exact hcw
    · have hkd : kd = 43 ∨ kd = 38 := by omega
      have hall : ∀ (i : Nat) (e : Br), bl[i]? = some e → isN e.2.1 ∧ gI (L (k + 10)) (f + i) = nI (cN e.2.1) ∧ gI (L (k + 12)) (f + i) = nI e.2.2.2.1 ∧ e.2.2.2.1 < 2 ^ 31 ∧ 1 ≤ e.2.2.2.2 ∧ ∃ s, s.length + 12 ≤ 20 * e.2.2.2.2 ∧ RSy B0 J e.2.2.1 e.2.2.2.2 s ∧ CWt k L e.2.2.2.1 0 (2 * e.2.2.2.2 - 1) e.2.2.2.2 s := by
        intro i e he
        obtain ⟨d1, d2, d3, d4, d5⟩ := c13 i e he
        have hle := psm_le bl e (List.mem_of_getElem? he)
        have := (tr_u d5).2.2
        exact ⟨d2, d3, d4, by omega, tr_p d5, ih _ _ _ d5 (by omega)⟩
      cases hb : bl with
      | nil => rw [hb] at c7; exact absurd c7 (by rw [List.length_nil]; omega)
      | cons e l =>
        rw [hb] at c7 c8 c9 c10 c12 hall c6
        rw [List.length_cons] at c8 c9 c6
        obtain ⟨b1, b2, b3, b4, b5, s, b6, b7, b8⟩ := hall 0 e rfl
        have b2 : gI (L (k + 10)) (f + 0) = nI (cN e.2.1) := b2
        have b3 : gI (L (k + 12)) (f + 0) = nI e.2.2.2.1 := b3
        have hBR : BRH k L B0 J f 1 l := fun i e' he' => by
          have := hall (i + 1) e' (by rw [List.getElem?_cons_succ]; exact he')
          rw [show f + (i + 1) = f + (1 + i) by omega] at this
          exact this
        obtain ⟨X, x1, x2, x3⟩ := br_ex ht3 hkd c2 c5 c6 (by omega) l 1 (by omega) (Nat.le_refl 1) hBR
        have hw6 := b1.2.2
        have hps : psm (e :: l) = e.2.2.2.2 + psm l := rfl
        have hwa := wa_c ht3 hkd c2 c5 c6 (by omega) (show 0 < l.length + 1 by omega) b1 b2
        rw [b3, if_pos rfl] at hwa
        have hcw := cw_child (dp := p) ht3 (show 0 < 2 ^ 30 by omega) b4 hwa b8 x2 b5 (by omega) (by omega)
        have hl3 : ([32, 58, 32] : List Int32).length = 3 := rfl
        have hl4 : ([nI kd, 32, 123, 32] : List Int32).length = 4 := rfl
        refine ⟨([nI kd, 32, 123, 32] ++ (chs e.2.1 ++ [32, 58, 32])) ++ (s ++ X), ?_, fun fu B o hp hag ho hl => ?_, ?_⟩
        · rw [List.length_append, List.length_append, List.length_append, List.length_append, chs_len]
          omega
        · obtain ⟨fu, rfl⟩ : ∃ y, fu = y + 1 := ⟨fu - 1, by omega⟩
          rw [List.length_append, List.length_append, List.length_append, List.length_append, chs_len] at hl
          have hq : ([nI kd, 32, 123, 32] ++ (chs e.2.1 ++ [32, 58, 32])) ++ (s ++ X) = [nI kd] ++ ([32] ++ ([123] ++ ([32] ++ (chs e.2.1 ++ ([32] ++ ([58] ++ ([32] ++ (s ++ X)))))))) := by
            simp only [List.append_assoc, List.cons_append, List.nil_append]
          rw [hq]
          show SY B o _ (bX12_sayType (sc_12sayType fu) B J (nI u))
          rw [e74 hu (by rw [hag 188 (by omega) (by omega)]; exact c3) (show (kd = 33 ∧ w = 2) ∨ _ by omega)]
          unfold mX12_sayType_74
          refine sy_b (say_ok ho (by omega) _) (fun B1 o1 f1 => sy_b (say_ok o1 (by rw [List.length_append, List.length_singleton]; omega) _) (fun B2 o2 f2 => ?_))
          have a2 := ag_S (ag_S hag f1) f2
          have hl2 : (o ++ [nI kd] ++ [32]).length = o.length + 2 := by rw [List.length_append, List.length_append]; rfl
          have e95 : (if nI w = 6 then mX12_sayType_95 (sc_12sayType fu) B2 J (nI u) (nI w) else if nI w = 7 then mX12_sayType_95 (sc_12sayType fu) B2 J (nI u) (nI w) else if inb (nI u) 2800 then (sc_12sayType fu B2 J (B2 189 (nI u).toNatClampNeg)).bind fun q17 => if nI w = 4 then mX12_sayType_232 (sc_12sayType fu) q17 J (nI u) (nI w) else if nI w = 5 then mX12_sayType_232 (sc_12sayType fu) q17 J (nI u) (nI w) else some q17 else none) = mX12_sayType_95 (sc_12sayType fu) B2 J (nI u) (nI w) := by
            rcases c1 with ⟨_, rfl⟩ | ⟨_, rfl⟩ <;> rfl
          rw [e95]
          unfold mX12_sayType_95
          refine sy_b (say_ok o2 (by rw [hl2]; omega) _) (fun B3 o3 f3 => sy_b (say_ok o3 (by rw [List.length_append, hl2, List.length_singleton]; omega) _) (fun B4 o4 f4 => ?_))
          have a4 := ag_S (ag_S a2 f3) f4
          obtain ⟨k1, k2, k3, k4, k5, k6, k7⟩ := c10
          have g189 : B4 189 (nI u).toNatClampNeg = nI e.1 := by rw [congrArg (B4 189) (cl28 hu), a4 189 (by omega) (by omega)]; exact k1
          have hl5 : (o ++ [nI kd] ++ [32] ++ [123] ++ [32]).length = o.length + 4 := by
            rw [List.length_append, List.length_append, hl2]
            rfl
          rw [if_pos (in28 hu), g189, show LF = 99999 + 1 from rfl]
          exact one_br (B0 := B0) (p := e.2.2.2.2) k2 b1 k6 k4 b7 (by omega) a4 o4 (by rw [hl5]; omega) (fun B' o' h1 h2 h3 => x3 fu 99999 B' o' e.1 _ _ k2 k7 (by omega) (by omega) h1 h2 h3)
        · rw [show 2 * p - 1 = 1 + (2 * e.2.2.2.2 - 1) + (2 * psm l + 1) by omega]
          exact hcw
end
section
variable {sp : Int32} {k h md : Nat} {D : List Df} {L : lT} {B0 : iT} {J0 : jT} {F : fT} {I B : iT} {J : jT} {np nm dn sd : Nat} {R : lT} {z : Nat → Prop}
theorem print_ok (H : RUN sp k h md D L B0 J0 F I B J np nm dn sd R z) (h5 : F 1 5 = k) (h17 : I 1 7 = 1) {o : List Int32} (hO : outR I B o) (hS : (∃ l, rowIs I (k + 14) l) ∧ ∃ l, rowIs I (k + 16) l) (x1 x2 : Int32) : ∃ r I' B' o', mX11_print I F x1 x2 = some (r, I') ∧ mX12_print B J x1 x2 = some (r, B') ∧ outR I' B' o' ∧ frP k I I' ∧ fS B B' ∧ (∃ l, rowIs I' (k + 14) l) ∧ ∃ l, rowIs I' (k + 16) l := by
  have hBK := H.1
  obtain ⟨hK, hN, hPC⟩ := run_RK H
  have hk := hK.1
  have hK1 : (L (k + 2)).length ≤ 1000 := hBK.2.2.2.2.2.2.2.2.1.2.2.1
  have hN5 : (L (k + 10)).length ≤ 500 := hBK.2.2.2.2.2.2.2.2.1.2.2.2.1
  unfold mX11_print mX12_print
  rcases talk_ok H h5 h17 x1 x2 with ⟨a1, a2⟩ | ⟨t, u, p, a1, a2, a3, a4⟩
  · rw [a1, a2, sb, sb, if_pos rfl, if_pos rfl]
    exact ⟨-1, I, B, o, rfl, rfl, hO, fun _ _ _ _ => rfl, fun _ _ _ _ => rfl, hS.1, hS.2⟩
  · have hu := tr_u a4
    have hp := tr_p a4
    rw [a1, a2, sb, sb, if_neg (nIm (show t < 2 ^ 31 by omega)), if_neg (nIm (show u < 2 ^ 31 by omega)), h5]
    obtain ⟨s, s1, s2, s3⟩ := pr_all hK1 hN5 p u t p a4 a3
    -- the reference
    have ho0 : oR (a_u2 B 186 80 0) [] := ⟨a_u2_s _ _ _ _, fun i hi => by cases hi⟩
    obtain ⟨B1, b1, b2, b3⟩ := s2 SF (a_u2 B 186 80 0) [] (by show p ≤ 450; omega) (fun q w1 w2 => a_u2_r _ _ (by omega)) ho0 (by rw [List.length_nil]; omega)
    rw [List.nil_append] at b2
    -- the class
    obtain ⟨l13, l15⟩ := lenSt hk
    obtain ⟨I1, c1, c2⟩ := row_clear (I := I) (a := 4)
    obtain ⟨I2, d1, d2⟩ := row_clear (I := I1) (a := k + 1 + 13)
    obtain ⟨I3, e1, e2⟩ := row_clear (I := I2) (a := k + 1 + 15)
    obtain ⟨I4, f1, f2⟩ := row_add (d2.1.keep (e2.2 _ (by omega) (by omega)) (e2.2 _ (by omega) (by omega))) (by rw [l13, List.length_nil]; omega) (nI t)
    obtain ⟨I5, g1, g2⟩ := row_add (e2.1.keep (f2.2 _ (by omega) (by omega)) (f2.2 _ (by omega) (by omega))) (by rw [l15, List.length_nil]; omega) 0
    have f5 : frP k I I5 := fun q w1 w2 w3 => by rw [g2.2 q (by omega) (by omega), f2.2 q (by omega) (by omega), e2.2 q (by omega) (by omega), d2.2 q (by omega) (by omega), c2.2 q w1 (by omega)]
    have h4 : rowIs I5 4 [] := c2.1.keep (by rw [g2.2 _ (by omega) (by omega), f2.2 _ (by omega) (by omega), e2.2 _ (by omega) (by omega), d2.2 _ (by omega) (by omega)]) (by rw [g2.2 _ (by omega) (by omega), f2.2 _ (by omega) (by omega), e2.2 _ (by omega) (by omega), d2.2 _ (by omega) (by omega)])
    obtain ⟨I6, k1, k2, k3, k4, k5⟩ := s3 I5 [] [] [] (LF - (2 * p - 1)) 0 (nI t) (rk_frP hK f5) (f2.1.keep (g2.2 _ (by omega) (by omega)) (g2.2 _ (by omega) (by omega))) g2.1 rfl (by rw [List.length_nil]; omega) h4 (by rw [List.length_nil]; omega) (by omega)
    have eLF : LF - (2 * p - 1) + (2 * p - 1) = LF := by unfold LF; omega
    have eL2 : LF - (2 * p - 1) = LF - (2 * p - 1) - 1 + 1 := by unfold LF; omega
    have hend : mX10_write_34 (k + 1) 4 (LF - (2 * p - 1)) I6 (nI t) (nI (0 + (2 * p - 1))) = some I6 := by
      rw [eL2, mX10_write_34, if_neg (show ¬ (400 : Int32) ≤ nI (0 + (2 * p - 1)) from nI_ge (b := 400) (by omega) (by omega)), row_size k2, sb, if_pos (by decide)]
    rw [eLF, hend] at k1
    have hw : mX10_write (k + 1) 4 I1 (nI t) = some I6 := by
      unfold mX10_write
      rw [d1, sb, e1, sb, f1, sb, g1, sb, ← nI_0]
      exact k1
    rw [List.nil_append] at k4
    refine ⟨nI s.length, I6, B1, s, ?_, ?_, ⟨k4, by omega, b2.1, b2.2⟩, fun q w1 w2 w3 => by rw [k5 q w1 w2 w3, f5 q w1 w2 w3], fun q i w1 w2 => by rw [b3 q i w1 w2, a_u2_n _ _ w2], ⟨[], k2⟩, ⟨[], k3⟩⟩
    · rw [c1, sb, hw, sb, row_size k4, sb]
    · have b1' : mX12_sayType SF (a_u2 B 186 80 0) J (nI u) = some B1 := b1
      rw [b1', sb, b2.1]
end
