/-! LETTERS of a NAME, in both (pure) -/
theorem val_dig {b : Nat} (hb : 0 < b) : ∀ (n : Nat) (l : List Nat) (k : Nat), dig b l → k < n → val b n l / b ^ (n - 1 - k) % b = l.getD k 0 := by
  intro n
  induction n with
  | zero => intro l k _ h; omega
  | succ n ih =>
    intro l k hl hk
    cases l with
    | nil =>
      rw [val_nil, Nat.zero_div, Nat.zero_mod]
      rfl
    | cons d l =>
      obtain ⟨h1, h2⟩ := dig_cons hl
      have hv := val_lt hb n l h2
      show (d * b ^ n + val b n l) / b ^ (n + 1 - 1 - k) % b = _
      cases k with
      | zero =>
        rw [show n + 1 - 1 - 0 = n by omega, Nat.mul_comm d, Nat.mul_add_div (Nat.pow_pos hb), Nat.div_eq_of_lt hv, Nat.add_zero, Nat.mod_eq_of_lt h1.2]
        rfl
      | succ k =>
        have e1 : b ^ n = b ^ (n - 1 - k) * (b ^ k * b) := by
          rw [← Nat.pow_succ, ← Nat.pow_add, show n - 1 - k + (k + 1) = n by omega]
        have e2 : d * b ^ n = b ^ (n - 1 - k) * (b * (d * b ^ k)) := by
          rw [e1, Nat.mul_left_comm, Nat.mul_comm (b ^ k) b, Nat.mul_left_comm d b]
        rw [show n + 1 - 1 - (k + 1) = n - 1 - k by omega, e2, Nat.mul_add_div (Nat.pow_pos hb), Nat.mul_add_mod]
        exact ih l k h2 (by omega)
theorem nam_at {w : List Nat} (h : nam w) {k : Nat} (hk : k < w.length) : 1 ≤ w.getD k 0 ∧ w.getD k 0 ≤ 26 := by
  have e : w.getD k 0 = w[k] := by
    rw [List.getD_eq_getElem?_getD, List.getElem?_eq_getElem hk]
    rfl
  rw [e]
  exact h _ (List.getElem_mem hk)
theorem let_s1 : ∀ n, n < 6 → (5 * (5 - nI n) : Int32) = nI (5 * (5 - n)) := by decide +kernel
theorem let_s2 : ∀ n, n < 6 → (((nI (5 * (5 - n))).toUInt32 &&& Int32.toUInt32 31).toBitVec % 32).toNat = 5 * (5 - n) := by decide +kernel
theorem let_ok {w : List Nat} (hw : isN w) {k : Nat} (hk : k < 6) : mX11_letterOf (nI (cN w)) (nI k) = some (if k < w.length then nI (96 + w.getD k 0) else -1) := by
  have hd := val_dig (b := 32) (by omega) 6 w k (nam_dig hw.1) hk
  have hlt := cN_lt hw.1
  have e : cN w / 2 ^ (5 * (5 - k)) % 2 ^ 5 = w.getD k 0 := by
    rw [show 5 * (5 - k) = 5 * (6 - 1 - k) by omega, Nat.pow_mul, show (2 : Nat) ^ 5 = 32 from rfl]
    exact hd
  unfold mX11_letterOf mX11_shiftOf
  rw [if_neg (nI_not0 (by omega)), if_pos (show nI k < 6 from nI_lt (b := 6) hk (by omega)), sb, let_s1 k hk, pk_ushrN (by omega) _ _ (let_s2 k hk), pk_andN (Nat.lt_of_le_of_lt (Nat.div_le_self _ _) (by omega)) 5 (by decide), e]
  by_cases c : k < w.length
  · have h1 := nam_at hw.1 c
    rw [if_pos c, if_neg (nI_ne0 (by omega) (by omega))]
    show some (nI 96 + nI (w.getD k 0)) = _
    rw [nI_add]
  · have e0 : w.getD k 0 = 0 := by
      rw [List.getD_eq_getElem?_getD, List.getElem?_eq_none (by omega)]
      rfl
    rw [if_neg c, e0, nI_0, if_pos rfl]
theorem let_out (x : Int32) {k : Nat} (hk : 6 ≤ k) (h : k < 2 ^ 31) : mX11_letterOf x (nI k) = some (-1) := by
  unfold mX11_letterOf
  rw [if_neg (nI_not0 h), if_neg (show ¬ nI k < 6 from nI_nlt (b := 6) hk h)]
theorem let_neg (x y : Int32) (h : y < 0) : mX11_letterOf x y = some (-1) := by
  unfold mX11_letterOf
  rw [if_pos h]
theorem lin_loop {w : List Nat} (hw : isN w) : ∀ (d k n : Nat), k + d = 6 → mX11_lettersIn_4 (n + d + 1) (nI (cN w)) (nI (min k w.length)) (nI k) = some (nI w.length) := by
  intro d
  induction d with
  | zero =>
    intro k n hk
    have := hw.2.2
    rw [mX11_lettersIn_4, if_pos (show (6 : Int32) ≤ nI k from nI_le (a := 6) (by omega) (by omega)), show min k w.length = w.length by omega]
  | succ d ih =>
    intro k n hk
    have h6 := hw.2.2
    show mX11_lettersIn_4 (n + d + 1 + 1) (nI (cN w)) (nI (min k w.length)) (nI k) = _
    rw [mX11_lettersIn_4, if_neg (show ¬ (6 : Int32) ≤ nI k from nI_ge (b := 6) (by omega) (by omega)), let_ok hw (show k < 6 by omega), sb]
    unfold mX11_lettersIn_22
    rw [nI_1, nI_1]
    by_cases c : k < w.length
    · have h1 := nam_at hw.1 c
      rw [if_pos c, if_neg (nIm (by omega)), show min k w.length + 1 = min (k + 1) w.length by omega]
      exact ih (k + 1) n (by omega)
    · rw [if_neg c, if_pos rfl, show min k w.length = min (k + 1) w.length by omega]
      exact ih (k + 1) n (by omega)
theorem lin_ok {w : List Nat} (hw : isN w) : mX11_lettersIn (nI (cN w)) = some (nI w.length) := by
  have := lin_loop hw 6 0 (LF - 7) rfl
  rw [show LF - 7 + 6 + 1 = LF by unfold LF; omega, Nat.zero_min] at this
  exact this
/-- the reference's letters -/
theorem rN_nil : rN [] = 0 := rfl
theorem rN_snoc (l : List Nat) (d : Nat) : rN (l ++ [d]) = 256 * rN l + (96 + d) := by
  have := val_horner 256 (up96 l) (96 + d)
  rw [up96_len] at this
  unfold rN
  rw [up96_snoc, List.length_append, List.length_singleton]
  exact this
theorem snoc_of {l : List Nat} (h : l ≠ []) : ∃ l' d, l = l' ++ [d] := ⟨l.dropLast, l.getLast h, (List.dropLast_concat_getLast h).symm⟩
theorem sh8 : (((Int32.toInt64 8) &&& 63).toBitVec.smod 64).toNat = 8 := by decide +kernel
theorem rN_shr {l : List Nat} {d : Nat} (h : nam (l ++ [d])) (h6 : (l ++ [d]).length ≤ 6) : lN (rN (l ++ [d])) >>> ((Int32.toInt64 8) &&& 63) = lN (rN l) := by
  have hlt := rN_lt h h6
  have hd : d ≤ 26 := (h d (by simp)).2
  rw [pf_shr sh8 (by omega), rN_snoc, Nat.mul_add_div (by omega), Nat.div_eq_of_lt (show 96 + d < 2 ^ 8 by omega), Nat.add_zero]
theorem lN_eq0 {n : Nat} (h : n < 2 ^ 62) : lN n = 0 ↔ n = 0 := pk_lEQ (a := n) (b := 0) (by omega) (by omega)
/-- letter k of the reference's NAME -/
theorem rlet {w : List Nat} (hw : isN w) {k : Nat} (hk : k < w.length) : (((lN (rN w)) >>> ((8 * ((nI w.length - 1) - (nI (100 + k) - 100))).toInt64 &&& 63)) &&& 255).toInt32 = nI (96 + w.getD k 0) := by
  have h6 := hw.2.2
  have hlt := rN_lt hw.1 h6
  have e1 : (8 * ((nI w.length - 1) - (nI (100 + k) - 100)) : Int32) = nI (8 * (w.length - 1 - k)) := by
    have a1 : nI w.length - 1 = nI (w.length - 1) := nI_sub1 (by omega)
    have a2 : nI (100 + k) - (100 : Int32) = nI k := by
      have := pk_sub (a := 100 + k) (b := 100) (by omega)
      rw [show 100 + k - 100 = k by omega] at this
      exact this
    rw [a1, a2, pk_sub (by omega)]
    exact pk_mul 8 _
  have e2 : ((lN (8 * (w.length - 1 - k))).toBitVec.smod 64).toNat = 8 * (w.length - 1 - k) := by
    rw [wb_tb, wb_sm _ (by omega), BitVec.toNat_ofNat]
    exact Nat.mod_eq_of_lt (by omega)
  have hd := val_dig (b := 256) (by omega) w.length (up96 w) k (nam_up hw.1) hk
  have e3 : rN w / 2 ^ (8 * (w.length - 1 - k)) % 256 = 96 + w.getD k 0 := by
    rw [Nat.pow_mul, show (2 : Nat) ^ 8 = 256 from rfl]
    refine hd.trans ?_
    unfold up96
    rw [List.getD_eq_getElem?_getD, List.getD_eq_getElem?_getD, List.getElem?_map, List.getElem?_eq_getElem hk]
    rfl
  rw [e1, wb_c _ (by omega), pf_shr e2 (by omega)]
  have e4 : ∀ n, lN n &&& 255 = lN (n % 256) := fun n => by
    apply Int64.toBitVec_inj.1
    show BitVec.ofNat 64 n &&& BitVec.ofNat 64 255 = BitVec.ofNat 64 (n % 256)
    apply BitVec.eq_of_toNat_eq
    rw [BitVec.toNat_and, BitVec.toNat_ofNat, BitVec.toNat_ofNat, BitVec.toNat_ofNat]
    have : 255 % 2 ^ 64 = 2 ^ 8 - 1 := by decide
    rw [this, Nat.and_two_pow_sub_one_eq_mod]
    omega
  rw [e4, e3, lN_i]
