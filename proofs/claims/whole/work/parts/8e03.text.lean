/-! print: every T, in both (pure) -/
section
variable {k : Nat} {L : lT}
theorem wa_rd {I : iT} (hK : RK I k L) {t : Nat} (ht : t < 2 ^ 31) : mX4_at (k + 1 + 1) I (nI t) = some (gI (L (k + 2)) t) ∧ mX4_at (k + 1 + 3) I (nI t) = some (gI (L (k + 4)) t) ∧ mX4_at (k + 1 + 5) I (nI t) = some (gI (L (k + 6)) t) :=
  ⟨rk_g hK (a := k + 2) (by unfold rkA; omega) ht, rk_g hK (a := k + 4) (by unfold rkA; omega) ht, rk_g hK (a := k + 6) (by unfold rkA; omega) ht⟩
theorem add2_ok {I : iT} {o : List Int32} (ho : rowIs I 4 o) (hl : o.length < 4000) (c : Int32) : ∃ I1, mX4_add 4 I c = some (nI o.length, I1) ∧ rowIs I1 4 (o ++ [c]) ∧ fr45 I I1 := by
  obtain ⟨I1, a1, a2⟩ := row_add ho (by rw [len5]; omega) c
  exact ⟨I1, a1, a2.1, fun q w1 w2 => a2.2 q w1 (by omega)⟩
theorem wa_end {t : Nat} (ht : t < 2 ^ 31) (hk : gI (L (k + 2)) t = 302) : WA k L t 0 (-1) [101, 110, 100] := by
  intro I o hK ho hl
  obtain ⟨g1, g2, g3⟩ := wa_rd hK ht
  obtain ⟨I1, a1, a2, a3⟩ := at_ok ho str6 hl
  refine ⟨I1, ?_, a2, a3⟩
  have n1 : ¬ ((302 : Int32) = 43 ∨ (302 : Int32) = 38) := by decide
  unfold mX10_writeAhead
  rw [g1, sb, hk, isCh_any, sb, if_neg n1, if_pos rfl, if_pos rfl, a1, sb]
theorem wa_t0 {t kd : Nat} (ht : t < 2 ^ 31) (hkd : kd = 33 ∨ kd = 63 ∨ kd = 62 ∨ kd = 60) (hk : gI (L (k + 2)) t = nI kd) : WA k L t 0 (if gI (L (k + 4)) t = -1 then gI (L (k + 6)) t else gI (L (k + 4)) t) [nI kd, 32] := by
  intro I o hK ho hl
  have hl' : o.length + 2 ≤ 4000 := hl
  obtain ⟨g1, g2, g3⟩ := wa_rd hK ht
  obtain ⟨I1, a1, a2, a3⟩ := add2_ok ho (by omega) (nI kd)
  obtain ⟨I2, b1, b2, b3⟩ := add2_ok a2 (by rw [List.length_append, List.length_singleton]; omega) 32
  have f2 : fr45 I I2 := fun q w1 w2 => (b3 q w1 w2).trans (a3 q w1 w2)
  obtain ⟨h1, h2, h3⟩ := wa_rd (rk_45 hK f2) ht
  refine ⟨I2, ?_, by rw [List.append_assoc] at b2; exact b2, f2⟩
  have n1 : ¬ (nI kd = 43 ∨ nI kd = 38) := by rcases hkd with rfl | rfl | rfl | rfl <;> decide
  have n2 : ¬ nI kd = 302 := by rcases hkd with rfl | rfl | rfl | rfl <;> decide
  unfold mX10_writeAhead
  rw [g1, sb, hk, isCh_any, sb, if_neg n1, if_pos rfl, if_neg n2]
  show (if (0 : Int32) = 0 then _ else _) = _
  rw [if_pos rfl, a1, sb, b1, sb, h2, h3, sb]
  by_cases c : gI (L (k + 4)) t = -1
  · rw [if_pos c, if_pos c, sb]
  · rw [if_neg c, if_neg c, sb]
theorem wa_t1 {t kd : Nat} (ht : t < 2 ^ 31) (hkd : kd = 33 ∨ kd = 63 ∨ kd = 62 ∨ kd = 60) (hk : gI (L (k + 2)) t = nI kd) (hf : gI (L (k + 4)) t = -1) : WA k L t 1 (-1) [] := by
  intro I o hK ho hl
  obtain ⟨g1, g2, g3⟩ := wa_rd hK ht
  refine ⟨I, ?_, by rw [List.append_nil]; exact ho, fun _ _ _ => rfl⟩
  have n1 : ¬ (nI kd = 43 ∨ nI kd = 38) := by rcases hkd with rfl | rfl | rfl | rfl <;> decide
  have n2 : ¬ nI kd = 302 := by rcases hkd with rfl | rfl | rfl | rfl <;> decide
  unfold mX10_writeAhead
  rw [g1, sb, hk, isCh_any, sb, if_neg n1, if_pos rfl, if_neg n2]
  show (if (1 : Int32) = 0 then _ else if (1 : Int32) = 1 then _ else _) = _
  rw [if_neg (by decide), if_pos rfl, g2, sb, hf, if_pos rfl]
theorem wa_t1b {t kd t1 t2 : Nat} (ht : t < 2 ^ 31) (ht1 : t1 < 2 ^ 31) (hkd : kd = 33 ∨ kd = 63 ∨ kd = 62 ∨ kd = 60) (hk : gI (L (k + 2)) t = nI kd) (hf : gI (L (k + 4)) t = nI t1) (hs : gI (L (k + 6)) t = nI t2) : WA k L t 1 (nI t2) [32, 46, 32] := by
  intro I o hK ho hl
  obtain ⟨g1, g2, g3⟩ := wa_rd hK ht
  obtain ⟨I1, a1, a2, a3⟩ := at_ok ho str7 hl
  obtain ⟨h1, h2, h3⟩ := wa_rd (rk_45 hK a3) ht
  refine ⟨I1, ?_, a2, a3⟩
  have n1 : ¬ (nI kd = 43 ∨ nI kd = 38) := by rcases hkd with rfl | rfl | rfl | rfl <;> decide
  have n2 : ¬ nI kd = 302 := by rcases hkd with rfl | rfl | rfl | rfl <;> decide
  unfold mX10_writeAhead
  rw [g1, sb, hk, isCh_any, sb, if_neg n1, if_pos rfl, if_neg n2]
  show (if (1 : Int32) = 0 then _ else if (1 : Int32) = 1 then _ else _) = _
  rw [if_neg (by decide), if_pos rfl, g2, sb, hf, if_neg (nIm ht1), a1, sb, h3, sb, hs]
theorem wa_t2 {t kd : Nat} (ht : t < 2 ^ 31) (hkd : kd = 33 ∨ kd = 63 ∨ kd = 62 ∨ kd = 60) (hk : gI (L (k + 2)) t = nI kd) : WA k L t 2 (-1) [] := by
  intro I o hK ho hl
  obtain ⟨g1, g2, g3⟩ := wa_rd hK ht
  refine ⟨I, ?_, by rw [List.append_nil]; exact ho, fun _ _ _ => rfl⟩
  have n1 : ¬ (nI kd = 43 ∨ nI kd = 38) := by rcases hkd with rfl | rfl | rfl | rfl <;> decide
  have n2 : ¬ nI kd = 302 := by rcases hkd with rfl | rfl | rfl | rfl <;> decide
  unfold mX10_writeAhead
  rw [g1, sb, hk, isCh_any, sb, if_neg n1, if_pos rfl, if_neg n2]
  show (if (2 : Int32) = 0 then _ else if (2 : Int32) = 1 then _ else _) = _
  rw [if_neg (by decide), if_neg (by decide)]
/-- a CHOICE's visits -/
theorem wa_c {t kd f m j : Nat} {w : List Nat} (ht : t < 2 ^ 31) (hkd : kd = 43 ∨ kd = 38) (hk : gI (L (k + 2)) t = nI kd) (hf : gI (L (k + 4)) t = nI f) (hm : gI (L (k + 6)) t = nI m) (hfm : f + m < 2 ^ 30) (hj : j < m) (hw : isN w) (hn : gI (L (k + 10)) (f + j) = nI (cN w)) : WA k L t j (gI (L (k + 12)) (f + j)) ((if j = 0 then [nI kd, 32, 123, 32] else [32, 44, 32]) ++ (chs w ++ [32, 58, 32])) := by
  intro I o hK ho hl
  have h6 := hw.2.2
  obtain ⟨g1, g2, g3⟩ := wa_rd hK ht
  have c1 : nI kd = 43 ∨ nI kd = 38 := by rcases hkd with rfl | rfl <;> decide
  have hbr := kbrs hK ht hk hkd hm
  rw [List.length_append, List.length_append, chs_len] at hl
  have hl3 : ([32, 58, 32] : List Int32).length = 3 := rfl
  have e49 : ∀ {I1 : iT} {o1 : List Int32}, fr45 I I1 → rowIs I1 4 o1 → o1.length + w.length + 3 ≤ 4000 → ∃ I2, mX10_writeBranch_49 (k + 1) 4 I1 (nI t) (nI j) = some (gI (L (k + 12)) (f + j), I2) ∧ rowIs I2 4 (o1 ++ (chs w ++ [32, 58, 32])) ∧ fr45 I I2 := by
    intro I1 o1 hf1 ho1 hl1
    have hK1 := rk_45 hK hf1
    obtain ⟨I2, a1, a2, a3⟩ := wn_ok (j := j) hw ht hf (by omega) w.length 0 LF I1 o1 (by omega) (by unfold LF; omega) hK1 ho1 hl1
    refine ⟨I2, ?_, a2, fun q w1 w2 => (a3 q w1 w2).trans (hf1 q w1 w2)⟩
    unfold mX10_writeBranch_49
    rw [nI_0] at a1
    rw [kbn hK1 ht hf j (by omega), hn, sb]
    exact a1
  have hwb : ∃ I2, mX10_writeBranch (k + 1) 4 I (nI t) (nI j) = some (gI (L (k + 12)) (f + j), I2) ∧ rowIs I2 4 (o ++ ((if j = 0 then [nI kd, 32, 123, 32] else [32, 44, 32]) ++ (chs w ++ [32, 58, 32]))) ∧ fr45 I I2 := by
    unfold mX10_writeBranch
    rw [hbr, sb, if_pos (nI_lt hj (by omega))]
    by_cases j0 : j = 0
    · subst j0
      rw [if_pos rfl] at hl ⊢
      have hl4 : ([nI kd, 32, 123, 32] : List Int32).length = 4 := rfl
      obtain ⟨I1, a1, a2, a3⟩ := add2_ok ho (by omega) (nI kd)
      obtain ⟨I2, b1, b2, b3⟩ := at_ok a2 str3 (by rw [List.length_append, List.length_singleton]; show o.length + 1 + 3 ≤ 4000; omega)
      obtain ⟨I3, d1, d2, d3⟩ := e49 (fun q w1 w2 => (b3 q w1 w2).trans (a3 q w1 w2)) b2 (by rw [List.length_append, List.length_append, List.length_singleton]; show o.length + 1 + 3 + w.length + 3 ≤ 4000; omega)
      refine ⟨I3, ?_, ?_, d3⟩
      · show (if (0 : Int32) = 0 then _ else _) = _
        rw [if_pos rfl, g1, sb, hk, a1, sb, b1, sb]
        exact d1
      · rw [List.append_assoc, List.append_assoc] at d2
        exact d2
    · rw [if_neg j0] at hl ⊢
      have hl4 : ([32, 44, 32] : List Int32).length = 3 := rfl
      have n0 : ¬ nI j = 0 := nI_ne0 (by omega) (by omega)
      obtain ⟨I2, b1, b2, b3⟩ := at_ok ho str4 (by show o.length + 3 ≤ 4000; omega)
      obtain ⟨I3, d1, d2, d3⟩ := e49 b3 b2 (by rw [List.length_append]; show o.length + 3 + w.length + 3 ≤ 4000; omega)
      refine ⟨I3, ?_, ?_, d3⟩
      · rw [if_neg n0, b1, sb]
        exact d1
      · rw [List.append_assoc] at d2
        exact d2
  obtain ⟨I2, a1, a2, a3⟩ := hwb
  refine ⟨I2, ?_, a2, a3⟩
  unfold mX10_writeAhead
  rw [g1, sb, hk, isCh_any, sb, if_pos c1, if_neg i10, a1, sb]
theorem wa_cm {t kd m : Nat} (ht : t < 2 ^ 31) (hkd : kd = 43 ∨ kd = 38) (hk : gI (L (k + 2)) t = nI kd) (hm : gI (L (k + 6)) t = nI m) (hm3 : m < 2 ^ 31) : WA k L t m (-1) [32, 125] := by
  intro I o hK ho hl
  obtain ⟨g1, g2, g3⟩ := wa_rd hK ht
  have c1 : nI kd = 43 ∨ nI kd = 38 := by rcases hkd with rfl | rfl <;> decide
  obtain ⟨I1, a1, a2, a3⟩ := at_ok ho str2 hl
  refine ⟨I1, ?_, a2, a3⟩
  unfold mX10_writeAhead mX10_writeBranch
  rw [g1, sb, hk, isCh_any, sb, if_pos c1, if_neg i10, kbrs hK ht hk hkd hm, sb, if_neg (nI_nlt (Nat.le_refl _) hm3), a1, sb, sb]
end
section
variable {B0 : iT} {J : jT}
/-- the reference says s of node u -/
def RSy (B0 : iT) (J : jT) (u p : Nat) (s : List Int32) : Prop := ∀ (fu : Nat) (B : iT) (o : List Int32), p ≤ fu → (∀ q, 188 ≤ q → q ≤ 191 → B q = B0 q) → oR B o → o.length + s.length < 7990 → SY B o s (sc_12sayType fu B J (nI u))
def aftT (R : sc_12sayTypeT) (f : Nat) (B : iT) (J : jT) (x1 x2 : Int32) (v : Nat) : Option iT := (mX12_say B 32).bind fun q8 => if inb (nI v) 2800 then if (q8 191 (nI v).toNatClampNeg) = -1 then mX12_sayType_181 R (mX12_sayType_114 R f) q8 J x1 x2 (nI v) 125 else mX12_sayType_181 R (mX12_sayType_114 R f) q8 J x1 x2 (nI v) 44 else none
theorem ag_S {B B' : iT} (h : ∀ q, 188 ≤ q → q ≤ 191 → B q = B0 q) (f : fS B B') : ∀ q, 188 ≤ q → q ≤ 191 → B' q = B0 q := fun q w1 w2 => (fS_q f (by omega) (by omega)).trans (h q w1 w2)
theorem one_br {fu lf v e p : Nat} {w : List Nat} {B : iT} {o s X : List Int32} {x1 x2 : Int32} (hv : v < 2800) (hw : isN w) (h192 : J 192 v = lN (rN w)) (h189 : B0 189 v = nI e) (hs : RSy B0 J e p s) (hp : p ≤ fu) (hag : ∀ q, 188 ≤ q → q ≤ 191 → B q = B0 q) (ho : oR B o) (hl : o.length + (w.length + 3 + s.length + X.length) < 7990) (hX : ∀ (B' : iT) (o' : List Int32), (∀ q, 188 ≤ q → q ≤ 191 → B' q = B0 q) → oR B' o' → o'.length + X.length < 7990 → SY B' o' X (aftT (sc_12sayType fu) lf B' J x1 x2 v)) : SY B o (chs w ++ ([32] ++ ([58] ++ ([32] ++ (s ++ X))))) (mX12_sayType_114 (sc_12sayType fu) (lf + 1) B J x1 x2 (nI v)) := by
  have h6 := hw.2.2
  have g192 : J 192 (nI v).toNatClampNeg = lN (rN w) := by rw [congrArg (J 192) (cl28 hv)]; exact h192
  rw [mX12_sayType_114, if_neg (nIm (by omega)), if_pos (in28 hv), g192]
  refine sy_b (sn_ok hw ho (by omega)) (fun B1 o1 f1 => sy_b (say_ok o1 (by rw [List.length_append, chs_len]; omega) _) (fun B2 o2 f2 => sy_b (say_ok o2 (by rw [List.length_append, List.length_append, chs_len, List.length_singleton]; omega) _) (fun B3 o3 f3 => sy_b (say_ok o3 (by rw [List.length_append, List.length_append, List.length_append, chs_len, List.length_singleton, List.length_singleton]; omega) _) (fun B4 o4 f4 => ?_))))
  have a4 := ag_S (ag_S (ag_S (ag_S hag f1) f2) f3) f4
  have g189 : B4 189 (nI v).toNatClampNeg = nI e := by rw [congrArg (B4 189) (cl28 hv), a4 189 (by omega) (by omega)]; exact h189
  rw [if_pos (in28 hv), g189]
  have hlen : (o ++ chs w ++ [32] ++ [58] ++ [32]).length = o.length + w.length + 3 := by
    rw [List.length_append, List.length_append, List.length_append, List.length_append, chs_len]
    rfl
  exact sy_b (hs fu B4 _ hp a4 o4 (by rw [hlen]; omega)) (fun B5 o5 f5 => hX B5 _ (ag_S a4 f5) o5 (by rw [List.length_append, hlen]; omega))
end
section
variable {k : Nat} {L : lT} {B0 : iT} {J : jT}
theorem cw_mono {t j c d d' : Nat} {s : List Int32} (h : CWt k L t j c d s) (hd : d ≤ d') : CWt k L t j c d' s := fun I P U o n i x1 h1 h2 h3 h4 h5 h6 h7 h8 => h I P U o n i x1 h1 h2 h3 h4 (by omega) h6 h7 h8
/-- what holds of each branch -/
def BRH (k : Nat) (L : lT) (B0 : iT) (J : jT) (f j : Nat) (l : List Br) : Prop := ∀ (i : Nat) (e : Br), l[i]? = some e → isN e.2.1 ∧ gI (L (k + 10)) (f + (j + i)) = nI (cN e.2.1) ∧ gI (L (k + 12)) (f + (j + i)) = nI e.2.2.2.1 ∧ e.2.2.2.1 < 2 ^ 31 ∧ 1 ≤ e.2.2.2.2 ∧ ∃ s, s.length + 12 ≤ 20 * e.2.2.2.2 ∧ RSy B0 J e.2.2.1 e.2.2.2.2 s ∧ CWt k L e.2.2.2.1 0 (2 * e.2.2.2.2 - 1) e.2.2.2.2 s
theorem brh_tl {f j : Nat} {e : Br} {l : List Br} (h : BRH k L B0 J f j (e :: l)) : BRH k L B0 J f (j + 1) l := fun i e' he => by
  have := h (i + 1) e' (by rw [List.getElem?_cons_succ]; exact he)
  rw [show j + (i + 1) = j + 1 + i by omega] at this
  exact this
theorem br_ex {t kd f m : Nat} (ht : t < 2 ^ 31) (hkd : kd = 43 ∨ kd = 38) (hk : gI (L (k + 2)) t = nI kd) (hf : gI (L (k + 4)) t = nI f) (hm : gI (L (k + 6)) t = nI m) (hfm : f + m < 2 ^ 30) : ∀ (l : List Br) (j : Nat), j + l.length = m → 1 ≤ j → BRH k L B0 J f j l → ∃ X : List Int32, X.length ≤ 2 + 20 * psm l ∧ CWt k L t j (2 * psm l + 1) (1 + psm l) X ∧ ∀ (fu lf : Nat) (B : iT) (o : List Int32) (v : Nat) (x1 x2 : Int32), v < 2800 → chain B0 J (B0 191 v) l → psm l ≤ fu → l.length < lf → (∀ q, 188 ≤ q → q ≤ 191 → B q = B0 q) → oR B o → o.length + X.length < 7990 → SY B o X (aftT (sc_12sayType fu) lf B J x1 x2 v) := by
  intro l
  induction l with
  | nil =>
    intro j hj h1 _
    rw [List.length_nil, Nat.add_zero] at hj
    subst hj
    refine ⟨[32, 125], Nat.le_refl 2, cw_end ht (by omega) (wa_cm ht hkd hk hm (by omega)), fun fu lf B o v x1 x2 hv hc _ hlf hag ho hl => ?_⟩
    have hl' : o.length + 2 < 7990 := hl
    have h191 : B0 191 v = -1 := hc
    obtain ⟨lf, rfl⟩ : ∃ y, lf = y + 1 := ⟨lf - 1, by rw [List.length_nil] at hlf; omega⟩
    unfold aftT
    refine sy_b (s := [32]) (s' := [125]) (say_ok ho (by omega) _) (fun B1 o1 f1 => ?_)
    have a1 := ag_S hag f1
    have g1 : B1 191 (nI v).toNatClampNeg = -1 := by rw [congrArg (B1 191) (cl28 hv), a1 191 (by omega) (by omega)]; exact h191
    rw [if_pos (in28 hv), if_pos g1]
    unfold mX12_sayType_181
    refine sy_b (s := [125]) (s' := []) (say_ok o1 (by rw [List.length_append, List.length_singleton]; omega) _) (fun B2 o2 f2 => ?_)
    have a2 := ag_S a1 f2
    have g2 : B2 191 (nI v).toNatClampNeg = -1 := by rw [congrArg (B2 191) (cl28 hv), a2 191 (by omega) (by omega)]; exact h191
    rw [if_pos (in28 hv), if_pos g2]
    unfold mX12_sayType_200
    rw [if_pos (in28 hv), g2, mX12_sayType_114, if_pos rfl]
    exact sy_n o2
  | cons e l ih =>
    intro j hj h1 hB
    rw [List.length_cons] at hj
    obtain ⟨b1, b2, b3, b4, b5, s, b6, b7, b8⟩ := hB 0 e rfl
    have b2 : gI (L (k + 10)) (f + j) = nI (cN e.2.1) := b2
    have b3 : gI (L (k + 12)) (f + j) = nI e.2.2.2.1 := b3
    obtain ⟨X, x1, x2, x3⟩ := ih (j + 1) (by omega) (by omega) (brh_tl hB)
    have hw6 := b1.2.2
    have hps : psm (e :: l) = e.2.2.2.2 + psm l := rfl
    have hwa := wa_c ht hkd hk hf hm hfm (show j < m by omega) b1 b2
    rw [b3, if_neg (show ¬ j = 0 by omega)] at hwa
    have hcw := cw_child (dp := 1 + psm (e :: l)) ht (show j < 2 ^ 30 by omega) b4 hwa b8 x2 b5 (by omega) (by omega)
    have hl3 : ([32, 58, 32] : List Int32).length = 3 := rfl
    have hl4 : ([32, 44, 32] : List Int32).length = 3 := rfl
    refine ⟨([32, 44, 32] ++ (chs e.2.1 ++ [32, 58, 32])) ++ (s ++ X), ?_, ?_, fun fu lf B o v y1 y2 hv hc hfu hlf hag ho hl => ?_⟩
    · rw [List.length_append, List.length_append, List.length_append, List.length_append, chs_len]
      omega
    · rw [show 2 * psm (e :: l) + 1 = 1 + (2 * e.2.2.2.2 - 1) + (2 * psm l + 1) by omega]
      exact hcw
    · rw [List.length_append, List.length_append, List.length_append, List.length_append, chs_len] at hl
      rw [List.length_cons] at hlf
      obtain ⟨c1, c2, c3, c4, c5, c6, c7⟩ := hc
      obtain ⟨lf, rfl⟩ : ∃ y, lf = y + 1 := ⟨lf - 1, by omega⟩
      have hq : ([32, 44, 32] ++ (chs e.2.1 ++ [32, 58, 32])) ++ (s ++ X) = [32] ++ ([44] ++ ([32] ++ (chs e.2.1 ++ ([32] ++ ([58] ++ ([32] ++ (s ++ X))))))) := by
        simp only [List.append_assoc, List.cons_append, List.nil_append]
      rw [hq]
      unfold aftT
      refine sy_b (say_ok ho (by omega) _) (fun B1 o1 f1 => ?_)
      have a1 := ag_S hag f1
      have g1 : B1 191 (nI v).toNatClampNeg = nI e.1 := by rw [congrArg (B1 191) (cl28 hv), a1 191 (by omega) (by omega)]; exact c1
      have n1 : ¬ B1 191 (nI v).toNatClampNeg = -1 := by rw [g1]; exact nIm (by omega)
      rw [if_pos (in28 hv), if_neg n1]
      unfold mX12_sayType_181
      refine sy_b (say_ok o1 (by rw [List.length_append, List.length_singleton]; omega) _) (fun B2 o2 f2 => ?_)
      have a2 := ag_S a1 f2
      have g2 : B2 191 (nI v).toNatClampNeg = nI e.1 := by rw [congrArg (B2 191) (cl28 hv), a2 191 (by omega) (by omega)]; exact c1
      have n2 : ¬ B2 191 (nI v).toNatClampNeg = -1 := by rw [g2]; exact nIm (by omega)
      rw [if_pos (in28 hv), if_neg n2]
      refine sy_b (say_ok o2 (by rw [List.length_append, List.length_append, List.length_singleton, List.length_singleton]; omega) _) (fun B3 o3 f3 => ?_)
      have a3 := ag_S a2 f3
      have g3 : B3 191 (nI v).toNatClampNeg = nI e.1 := by rw [congrArg (B3 191) (cl28 hv), a3 191 (by omega) (by omega)]; exact c1
      unfold mX12_sayType_200
      rw [if_pos (in28 hv), g3]
      exact one_br (B0 := B0) (p := e.2.2.2.2) c2 b1 c6 c4 b7 (by omega) a3 o3 (by rw [List.length_append, List.length_append, List.length_append, List.length_singleton, List.length_singleton]; omega) (fun B' o' h1 h2 h3 => x3 fu lf B' o' e.1 y1 y2 c2 c7 (by omega) (by omega) h1 h2 h3)
end
