/-! print: the reference says a text (pure) -/
def oR (B : iT) (o : List Int32) : Prop := B 186 80 = nI o.length ∧ ∀ i, i < o.length → B 231 i = o.getD i (-1)
def fS (B B' : iT) : Prop := ∀ q i, q ≠ 231 → ¬ (q = 186 ∧ i = 80) → B' q i = B q i
theorem fS_trans {B B1 B2 : iT} (a : fS B B1) (b : fS B1 B2) : fS B B2 := fun q i w1 w2 => (b q i w1 w2).trans (a q i w1 w2)
theorem fS_q {B B1 : iT} (a : fS B B1) {q : Nat} (w1 : q ≠ 231) (w2 : q ≠ 186) : B1 q = B q := funext fun i => a q i w1 (fun z => w2 z.1)
def SY (B : iT) (o s : List Int32) (r : Option iT) : Prop := ∃ B', r = some B' ∧ oR B' (o ++ s) ∧ fS B B'
theorem sy_n {B : iT} {o : List Int32} (h : oR B o) : SY B o [] (some B) := ⟨B, rfl, by rw [List.append_nil]; exact h, fun _ _ _ _ => rfl⟩
theorem sy_b {B : iT} {o s s' : List Int32} {r : Option iT} {f : iT → Option iT} (h : SY B o s r) (hf : ∀ B', oR B' (o ++ s) → fS B B' → SY B' (o ++ s) s' (f B')) : SY B o (s ++ s') (r.bind f) := by
  obtain ⟨B1, e1, h1, f1⟩ := h
  obtain ⟨B2, e2, h2, f2⟩ := hf B1 h1 f1
  exact ⟨B2, by rw [e1, sb]; exact e2, by rw [← List.append_assoc]; exact h2, fS_trans f1 f2⟩
theorem say_ok {B : iT} {o : List Int32} (h : oR B o) (hl : o.length < 8000) (c : Int32) : SY B o [c] (mX12_say B c) := by
  unfold mX12_say
  have hi : inb (nI o.length) 8000 := vp_in_nI hl (by omega)
  have hc : (nI o.length).toNatClampNeg = o.length := nI_clamp (by omega)
  rw [h.1, if_pos hi, hc, a_u2_n B c (show ¬ (186 = 231 ∧ 80 = o.length) by omega), h.1, nI_1]
  refine ⟨_, rfl, ⟨by rw [a_u2_s, List.length_append, List.length_singleton], fun i hi => ?_⟩, fun q i w1 w2 => by rw [a_u2_n _ _ w2, a_u2_n _ _ (fun z => w1 z.1)]⟩
  rw [List.length_append, List.length_singleton] at hi
  rw [a_u2_n _ _ (by omega), List.getD_eq_getElem?_getD]
  by_cases q : i = o.length
  · subst q
    rw [a_u2_s, List.getElem?_concat_length]
    rfl
  · rw [a_u2_n _ _ (by omega), h.2 i (by omega), List.getD_eq_getElem?_getD, List.getElem?_append_left (by omega)]
def chs (w : List Nat) : List Int32 := w.map (fun d => nI (96 + d))
theorem chs_len (w : List Nat) : (chs w).length = w.length := by unfold chs; simp
theorem and255 (n : Nat) : lN n &&& 255 = lN (n % 256) := by
  apply Int64.toBitVec_inj.1
  show BitVec.ofNat 64 n &&& BitVec.ofNat 64 255 = BitVec.ofNat 64 (n % 256)
  apply BitVec.eq_of_toNat_eq
  rw [BitVec.toNat_and, BitVec.toNat_ofNat, BitVec.toNat_ofNat, BitVec.toNat_ofNat]
  have : 255 % 2 ^ 64 = 2 ^ 8 - 1 := by decide
  rw [this, Nat.and_two_pow_sub_one_eq_mod]
  omega
theorem sn8 : ∀ j, j < 6 → (nI (8 * (j + 1)) + (-8) : Int32) = nI (8 * j) := by decide +kernel
theorem sn_by {w : List Nat} (hw : isN w) {j : Nat} (hj : j < 6) : (lN (rN w) >>> ((nI (8 * j)).toInt64 &&& 63)) &&& 255 = lN (if j < w.length then 96 + w.getD (w.length - 1 - j) 0 else 0) := by
  have h6 := hw.2.2
  have hlt := rN_lt hw.1 h6
  have e2 : ((lN (8 * j)).toBitVec.smod 64).toNat = 8 * j := by
    rw [wb_tb, wb_sm _ (by omega), BitVec.toNat_ofNat]
    exact Nat.mod_eq_of_lt (by omega)
  rw [wb_c _ (by omega), pf_shr e2 (by omega), and255]
  by_cases c : j < w.length
  · have hd := val_dig (b := 256) (by omega) w.length (up96 w) (w.length - 1 - j) (nam_up hw.1) (by omega)
    have e3 : rN w / 2 ^ (8 * j) % 256 = 96 + w.getD (w.length - 1 - j) 0 := by
      rw [Nat.pow_mul, show (2 : Nat) ^ 8 = 256 from rfl]
      rw [show w.length - 1 - (w.length - 1 - j) = j by omega] at hd
      refine hd.trans ?_
      unfold up96
      rw [List.getD_eq_getElem?_getD, List.getD_eq_getElem?_getD, List.getElem?_map, List.getElem?_eq_getElem (show w.length - 1 - j < w.length by omega)]
      rfl
    rw [e3, if_pos c]
  · have h1 : rN w < 256 ^ w.length := val_lt (b := 256) (by omega) w.length (up96 w) (nam_up hw.1)
    have h2 : 256 ^ w.length ≤ 256 ^ j := Nat.pow_le_pow_right (by omega) (by omega)
    have e3 : rN w / 2 ^ (8 * j) = 0 := by
      rw [Nat.pow_mul, show (2 : Nat) ^ 8 = 256 from rfl]
      exact Nat.div_eq_of_lt (by omega)
    rw [e3, if_neg c]
theorem sn_loop {w : List Nat} (hw : isN w) : ∀ (j : Nat), j ≤ 6 → ∀ (f : Nat) (B : iT) (o : List Int32), oR B o → o.length + j < 8000 → SY B o (chs (w.drop (w.length - j))) (mX12_sayName_3 (f + j + 1) B (lN (rN w)) (nI (8 * j) + (-8))) := by
  intro j
  induction j with
  | zero =>
    intro _ f B o h _
    have e : chs (w.drop (w.length - 0)) = [] := by
      rw [Nat.sub_zero, List.drop_length]
      rfl
    rw [e, mX12_sayName_3, if_pos (by decide)]
    exact sy_n h
  | succ j ih =>
    intro hj f B o h hl
    have h6 := hw.2.2
    show SY B o _ (mX12_sayName_3 (f + j + 1 + 1) B (lN (rN w)) (nI (8 * (j + 1)) + (-8)))
    rw [sn8 j (by omega), mX12_sayName_3, if_neg (nI_not0 (by omega)), sn_by hw (show j < 6 by omega)]
    unfold mX12_sayName_31
    by_cases c : j < w.length
    · have hd := nam_at hw.1 (show w.length - 1 - j < w.length by omega)
      have n0 : ¬ lg_cmp (lN (if j < w.length then 96 + w.getD (w.length - 1 - j) 0 else 0)) 0 = 0 := by
        rw [if_pos c, lg_eq0, lN_eq0 (by omega)]
        omega
      have e : chs (w.drop (w.length - (j + 1))) = [nI (96 + w.getD (w.length - 1 - j) 0)] ++ chs (w.drop (w.length - j)) := by
        have hlt : w.length - (j + 1) < w.length := by omega
        rw [List.drop_eq_getElem_cons hlt, show w.length - (j + 1) + 1 = w.length - j by omega]
        have e2 : w[w.length - (j + 1)] = w.getD (w.length - 1 - j) 0 := by
          rw [List.getD_eq_getElem?_getD, List.getElem?_eq_getElem (show w.length - 1 - j < w.length by omega)]
          show _ = w[w.length - 1 - j]
          have : w.length - (j + 1) = w.length - 1 - j := by omega
          simp only [this]
        rw [e2]
        rfl
      rw [if_neg n0, if_pos c, lN_i, e]
      exact sy_b (say_ok h (by omega) _) (fun B' h1 _ => ih (by omega) f B' _ h1 (by rw [List.length_append, List.length_singleton]; omega))
    · have e0 : lg_cmp (lN (if j < w.length then 96 + w.getD (w.length - 1 - j) 0 else 0)) 0 = 0 := by
        rw [if_neg c]
        exact (lg_eq0 _ _).mpr rfl
      rw [if_pos e0, show w.length - (j + 1) = w.length - j by omega]
      exact ih (by omega) f B o h (by omega)
theorem sn_ok {w : List Nat} (hw : isN w) {B : iT} {o : List Int32} (h : oR B o) (hl : o.length + 6 < 8000) : SY B o (chs w) (mX12_sayName B (lN (rN w))) := by
  have h6 := hw.2.2
  have := sn_loop hw 6 (Nat.le_refl 6) (LF - 7) B o h hl
  rw [show LF - 7 + 6 + 1 = LF by unfold LF; omega, show w.length - 6 = 0 by omega, List.drop_zero] at this
  exact this
theorem isN_end : isN [5, 14, 4] := by
  refine ⟨fun d hd => ?_, by decide, by decide⟩
  simp only [List.mem_cons, List.not_mem_nil, or_false] at hd
  omega
theorem sn_end {B : iT} {o : List Int32} (h : oR B o) (hl : o.length + 6 < 8000) : SY B o [101, 110, 100] (mX12_sayName B 6647396) := by
  have := sn_ok isN_end h hl
  rw [show lN (rN [5, 14, 4]) = (6647396 : Int64) by decide +kernel] at this
  exact this
