/-! FEED (pure). bt, b_.., s_..: the family of kit/laws/BITS.to-paste -/
def bt (x : Int32) (i : Nat) : Bool := x.toBitVec.getLsbD i
theorem b_ext {x y : Int32} (h : ∀ i, i < 32 → bt x i = bt y i) : x = y := Int32.toBitVec_inj.mp (BitVec.eq_of_getLsbD_eq (fun i hi => h i hi))
theorem b_and (x y : Int32) (i : Nat) : bt (x &&& y) i = (bt x i && bt y i) := by unfold bt; rw [Int32.toBitVec_and, BitVec.getLsbD_and]
theorem b_big {x : Int32} {i : Nat} (h : 32 ≤ i) : bt x i = false := BitVec.getLsbD_of_ge _ _ h
theorem b_255 (i : Nat) : bt 255 i = decide (i < 8) := by
  rcases Nat.lt_or_ge i 32 with h | h
  · exact (by decide +kernel : ∀ i, i < 32 → bt 255 i = decide (i < 8)) i h
  · rw [b_big h, decide_eq_false (by omega)]
theorem s_l : ∀ n, n < 32 → ((nI n &&& 31).toBitVec.smod 32).toNat = n := by decide +kernel
theorem s_u : ∀ n, n < 32 → (((nI n).toUInt32 &&& Int32.toUInt32 31).toBitVec % 32).toNat = n := by decide +kernel
theorem b_ushr (n : Nat) (hn : n < 32) (x : Int32) (i : Nat) : bt ((x.toUInt32 >>> ((nI n).toUInt32 &&& Int32.toUInt32 31)).toInt32) i = bt x (n + i) := by
  show (x.toUInt32 >>> ((nI n).toUInt32 &&& Int32.toUInt32 31)).toBitVec.getLsbD i = x.toUInt32.toBitVec.getLsbD (n + i)
  rw [UInt32.toBitVec_shiftRight]
  show (x.toUInt32.toBitVec >>> (((nI n).toUInt32 &&& Int32.toUInt32 31).toBitVec % 32).toNat).getLsbD i = _
  rw [s_u n hn, BitVec.getLsbD_ushiftRight]
theorem b_sshr (n : Nat) (hn : n < 32) (x : Int32) {i : Nat} (hi : i < 32) : bt (x >>> (nI n &&& 31)) i = if n + i < 32 then bt x (n + i) else bt x 31 := by
  unfold bt
  rw [Int32.toBitVec_shiftRight]
  show (x.toBitVec.sshiftRight ((nI n &&& 31).toBitVec.smod 32).toNat).getLsbD i = _
  rw [s_l n hn, BitVec.getLsbD_sshiftRight, BitVec.msb_eq_getLsbD_last]
  simp [hi]
theorem byte_eq (x : Int32) {s : Nat} (hs : s ≤ 24) : ((x.toUInt32 >>> ((nI s).toUInt32 &&& Int32.toUInt32 31)).toInt32) &&& 255 = (x >>> (nI s &&& 31)) &&& 255 := by
  refine b_ext (fun i hi => ?_)
  rw [b_and, b_and, b_255, b_ushr s (by omega), b_sshr s (by omega) x hi]
  by_cases h : i < 8
  · rw [if_pos (by omega)]
  · simp [h]
/-- byte k of a number, the highest first -/
def byt (x : Int32) (k : Nat) : Int32 := (x >>> (nI (24 - 8 * k) &&& 31)) &&& 255
theorem row_bytes {I : iT} {a : Nat} {l : List Int32} (h : rowIs I a l) (hr : l.length + 4 ≤ LEN (a + 1)) (x : Int32) : ∃ I', mX4_addBytes a I x = some I' ∧ rowUp I a (l ++ [byt x 0, byt x 1, byt x 2, byt x 3]) I' := by
  obtain ⟨I1, e1, u1, f1⟩ := row_add h (by omega) (byt x 0)
  obtain ⟨I2, e2, u2, f2⟩ := row_add u1 (by simp; omega) (byt x 1)
  obtain ⟨I3, e3, u3, f3⟩ := row_add u2 (by simp; omega) (byt x 2)
  obtain ⟨I4, e4, u4, f4⟩ := row_add u3 (by simp; omega) (byt x 3)
  refine ⟨I4, ?_, ?_, fun b h1 h2 => by rw [f4 b h1 h2, f3 b h1 h2, f2 b h1 h2, f1 b h1 h2]⟩
  · have b0 : ((x.toUInt32 >>> ((24 : Int32).toUInt32 &&& Int32.toUInt32 31)).toInt32) &&& 255 = byt x 0 := byte_eq x (s := 24) (by omega)
    have b1 : ((x.toUInt32 >>> ((16 : Int32).toUInt32 &&& Int32.toUInt32 31)).toInt32) &&& 255 = byt x 1 := byte_eq x (s := 16) (by omega)
    have b2 : ((x.toUInt32 >>> ((8 : Int32).toUInt32 &&& Int32.toUInt32 31)).toInt32) &&& 255 = byt x 2 := byte_eq x (s := 8) (by omega)
    have b3 : ((x.toUInt32 >>> ((0 : Int32).toUInt32 &&& Int32.toUInt32 31)).toInt32) &&& 255 = byt x 3 := byte_eq x (s := 0) (by omega)
    unfold mX4_addBytes
    obtain ⟨n, hn⟩ : ∃ n, LF = n + 5 := ⟨99995, rfl⟩
    rw [hn, mX4_addBytes_3, if_neg (by decide), b0, e1]
    show mX4_addBytes_3 a (n + 4) I1 x (24 + (-8)) = _
    rw [show (24 + (-8) : Int32) = 16 from by decide, mX4_addBytes_3, if_neg (by decide), b1, e2]
    show mX4_addBytes_3 a (n + 3) I2 x (16 + (-8)) = _
    rw [show (16 + (-8) : Int32) = 8 from by decide, mX4_addBytes_3, if_neg (by decide), b2, e3]
    show mX4_addBytes_3 a (n + 2) I3 x (8 + (-8)) = _
    rw [show (8 + (-8) : Int32) = 0 from by decide, mX4_addBytes_3, if_neg (by decide), b3, e4]
    show mX4_addBytes_3 a (n + 1) I4 x (0 + (-8)) = _
    rw [show (0 + (-8) : Int32) = -8 from by decide, mX4_addBytes_3, if_pos (by decide)]
  · simpa using u4
def fsel (x1 x2 x3 x4 x5 : Int32) (k : Nat) : Int32 := if 4 ≤ k then if 8 ≤ k then if 12 ≤ k then if 16 ≤ k then x5 else x4 else x3 else x2 else x1
theorem fsh : ∀ k, k < 20 → (24 - (8 * (nI k - nI k / 4 * 4)) : Int32) = nI (24 - 8 * (k % 4)) := by decide +kernel
theorem feed_step {B : iT} {x1 x2 x3 x4 x5 : Int32} {k n m : Nat} (hk : k < 20) (h1 : B 186 1 = nI m) (hm : m < 1000) : mX12_feed_18 (n + 1) B x1 x2 x3 x4 x5 (nI k) = mX12_feed_18 n (a_u2 (a_u2 B 187 m (byt (fsel x1 x2 x3 x4 x5 k) (k % 4))) 186 1 (nI (m + 1))) x1 x2 x3 x4 x5 (nI (k + 1)) := by
  have hs : ∀ s0 : Int32, mX12_feed_71 (mX12_feed_18 n) B x1 x2 x3 x4 x5 (nI k) s0 = mX12_feed_18 n (a_u2 (a_u2 B 187 m (byt s0 (k % 4))) 186 1 (nI (m + 1))) x1 x2 x3 x4 x5 (nI (k + 1)) := by
    intro s0
    unfold mX12_feed_71
    rw [if_pos (by decide), h1, if_pos (show inb (nI m) 1000 from vp_in_nI hm (by omega)), nI_clamp (by omega), fsh k hk, a_u2_n _ _ (by omega), h1, nI_1, nI_1]
    rfl
  rw [mX12_feed_18, if_neg (show ¬ (20 : Int32) ≤ nI k from nI_ge (b := 20) hk (by omega))]
  unfold fsel
  by_cases c4 : 4 ≤ k
  · rw [if_pos (show (4 : Int32) ≤ nI k from nI_le (a := 4) c4 (by omega)), if_pos c4]
    by_cases c8 : 8 ≤ k
    · rw [if_pos (show (8 : Int32) ≤ nI k from nI_le (a := 8) c8 (by omega)), if_pos c8]
      by_cases c12 : 12 ≤ k
      · rw [if_pos (show (12 : Int32) ≤ nI k from nI_le (a := 12) c12 (by omega)), if_pos c12]
        by_cases c16 : 16 ≤ k
        · rw [if_pos (show (16 : Int32) ≤ nI k from nI_le (a := 16) c16 (by omega)), if_pos c16]; exact hs _
        · rw [if_neg (show ¬ (16 : Int32) ≤ nI k from nI_ge (b := 16) (by omega) (by omega)), if_neg c16]; exact hs _
      · rw [if_neg (show ¬ (12 : Int32) ≤ nI k from nI_ge (b := 12) (by omega) (by omega)), if_neg c12]; exact hs _
    · rw [if_neg (show ¬ (8 : Int32) ≤ nI k from nI_ge (b := 8) (by omega) (by omega)), if_neg c8]; exact hs _
  · rw [if_neg (show ¬ (4 : Int32) ≤ nI k from nI_ge (b := 4) (by omega) (by omega)), if_neg c4]; exact hs _
theorem feed_loop {x1 x2 x3 x4 x5 : Int32} : ∀ (j k n m : Nat) (B : iT), k + j = 20 → j < n → B 186 1 = nI m → m + j ≤ 1000 → ∃ B', mX12_feed_18 n B x1 x2 x3 x4 x5 (nI k) = some (nI (m + j), B') ∧ B' 186 1 = nI (m + j) ∧ (∀ i, i < j → B' 187 (m + i) = byt (fsel x1 x2 x3 x4 x5 (k + i)) ((k + i) % 4)) ∧ ∀ b i, ¬ (b = 186 ∧ i = 1) → ¬ (b = 187 ∧ m ≤ i) → B' b i = B b i := by
  intro j
  induction j with
  | zero =>
    intro k n m B hk hn h1 hm
    obtain ⟨n, rfl⟩ : ∃ z, n = z + 1 := ⟨n - 1, by omega⟩
    refine ⟨B, ?_, h1, fun i hi => by omega, fun _ _ _ _ => rfl⟩
    rw [mX12_feed_18, if_pos (show (20 : Int32) ≤ nI k from nI_le (a := 20) (by omega) (by omega)), h1]
    rfl
  | succ j ih =>
    intro k n m B hk hn h1 hm
    obtain ⟨n, rfl⟩ : ∃ z, n = z + 1 := ⟨n - 1, by omega⟩
    rw [feed_step (by omega) h1 (by omega)]
    obtain ⟨B', e1, e2, e3, e4⟩ := ih (k + 1) n (m + 1) (a_u2 (a_u2 B 187 m (byt (fsel x1 x2 x3 x4 x5 k) (k % 4))) 186 1 (nI (m + 1))) (by omega) (by omega) (a_u2_s _ _ _ _) (by omega)
    refine ⟨B', by rw [e1]; congr 3; omega, by rw [e2]; congr 1; omega, fun i hi => ?_, fun b i q1 q2 => ?_⟩
    · rcases Nat.eq_zero_or_pos i with z | z
      · subst z
        rw [e4 187 (m + 0) (by omega) (by omega), a_u2_n _ _ (by omega)]
        exact a_u2_s _ _ _ _
      · obtain ⟨i', rfl⟩ : ∃ z, i = z + 1 := ⟨i - 1, by omega⟩
        have := e3 i' (by omega)
        rw [show m + 1 + i' = m + (i' + 1) by omega, show k + 1 + i' = k + (i' + 1) by omega] at this
        exact this
    · rw [e4 b i q1 (by omega), a_u2_n _ _ q1, a_u2_n _ _ (by omega)]
def feedL (x1 x2 x3 x4 x5 : Int32) : List Int32 := [byt x1 0, byt x1 1, byt x1 2, byt x1 3, byt x2 0, byt x2 1, byt x2 2, byt x2 3, byt x3 0, byt x3 1, byt x3 2, byt x3 3, byt x4 0, byt x4 1, byt x4 2, byt x4 3, byt x5 0, byt x5 1, byt x5 2, byt x5 3]
theorem feedL_at (x1 x2 x3 x4 x5 : Int32) : ∀ i, i < 20 → (feedL x1 x2 x3 x4 x5).getD i (-1) = byt (fsel x1 x2 x3 x4 x5 i) (i % 4) := by
  intro i hi
  rcases (show i = 0 ∨ i = 1 ∨ i = 2 ∨ i = 3 ∨ i = 4 ∨ i = 5 ∨ i = 6 ∨ i = 7 ∨ i = 8 ∨ i = 9 ∨ i = 10 ∨ i = 11 ∨ i = 12 ∨ i = 13 ∨ i = 14 ∨ i = 15 ∨ i = 16 ∨ i = 17 ∨ i = 18 ∨ i = 19 by omega) with rfl | rfl | rfl | rfl | rfl | rfl | rfl | rfl | rfl | rfl | rfl | rfl | rfl | rfl | rfl | rfl | rfl | rfl | rfl | rfl <;> rfl
theorem feed_eq {I B : iT} {t : List Int32} (h : tapeR I B t) (x1 x2 x3 x4 x5 : Int32) : ∃ r I' B' t', mX11_feed I x1 x2 x3 x4 x5 = some (r, I') ∧ mX12_feed B x1 x2 x3 x4 x5 = some (r, B') ∧ tapeR I' B' t' ∧ (∀ b, b ≠ 2 → b ≠ 3 → I' b = I b) ∧ (∀ b i, ¬ (b = 186 ∧ i = 1) → b ≠ 187 → B' b i = B b i) := by
  obtain ⟨h1, h2, h3, h4⟩ := h
  have e20 : nI t.length + 20 = nI (t.length + 20) := nI_add t.length 20
  unfold mX11_feed mX12_feed
  rw [row_size h1, h3]
  show ∃ r I' B' t', (if nI t.length + 20 ≤ 1000 then _ else _) = _ ∧ _
  rw [e20]
  by_cases hc : t.length + 20 ≤ 1000
  · have hL : LEN (2 + 1) = 1000 := ln_3
    have hL3 : LEN 3 = 1000 := ln_3
    obtain ⟨I1, a1, u1, f1⟩ := row_bytes h1 (by omega) x1
    obtain ⟨I2, a2, u2, f2⟩ := row_bytes u1 (by simp; omega) x2
    obtain ⟨I3, a3, u3, f3⟩ := row_bytes u2 (by simp; omega) x3
    obtain ⟨I4, a4, u4, f4⟩ := row_bytes u3 (by simp; omega) x4
    obtain ⟨I5, a5, u5, f5⟩ := row_bytes u4 (by simp; omega) x5
    have u6 : rowIs I5 2 (t ++ feedL x1 x2 x3 x4 x5) := by simpa [feedL] using u5
    obtain ⟨B', b1, b2, b3, b4⟩ := feed_loop (x1 := x1) (x2 := x2) (x3 := x3) (x4 := x4) (x5 := x5) 20 0 LF t.length B rfl (by unfold LF; omega) h3 hc
    have hlen : (t ++ feedL x1 x2 x3 x4 x5).length = t.length + 20 := by rw [List.length_append]; rfl
    refine ⟨nI (t.length + 20), I5, B', t ++ feedL x1 x2 x3 x4 x5, ?_, ?_, ⟨u6, by omega, by rw [hlen]; exact b2, fun i hi => ?_⟩, fun b q1 q2 => by rw [f5 b q1 q2, f4 b q1 q2, f3 b q1 q2, f2 b q1 q2, f1 b q1 q2], fun b i q1 q2 => b4 b i q1 (fun z => q2 z.1)⟩
    · rw [if_pos (show nI (t.length + 20) ≤ (1000 : Int32) from nI_le (b := 1000) hc (by omega)), a1]
      show (mX4_addBytes 2 I1 x2).bind _ = _
      rw [a2]
      show (mX4_addBytes 2 I2 x3).bind _ = _
      rw [a3]
      show (mX4_addBytes 2 I3 x4).bind _ = _
      rw [a4]
      show (mX4_addBytes 2 I4 x5).bind _ = _
      rw [a5]
      show (mX4_size 2 I5).bind (fun q7 => some (q7, I5)) = _
      rw [row_size u6, hlen]
      rfl
    · rw [if_pos (show nI (t.length + 20) ≤ (1000 : Int32) from nI_le (b := 1000) hc (by omega))]
      rw [nI_0] at b1
      exact b1
    · rw [hlen] at hi
      by_cases hi2 : i < t.length
      · rw [b4 187 i (by omega) (by omega), h4 i hi2, List.getD_eq_getElem?_getD, List.getD_eq_getElem?_getD, List.getElem?_append_left hi2]
      · obtain ⟨j, rfl⟩ : ∃ j, i = t.length + j := ⟨i - t.length, by omega⟩
        rw [b3 j (by omega), Nat.zero_add, ← feedL_at x1 x2 x3 x4 x5 j (by omega), List.getD_eq_getElem?_getD, List.getD_eq_getElem?_getD, List.getElem?_append_right (by omega), show t.length + j - t.length = j by omega]
  · refine ⟨-1, I, B, t, ?_, ?_, ⟨h1, h2, h3, h4⟩, fun _ _ _ => rfl, fun _ _ _ _ => rfl⟩
    · rw [if_neg (show ¬ nI (t.length + 20) ≤ (1000 : Int32) from nI_ge (a := 1000) (by omega) (by omega))]
    · rw [if_neg (show ¬ nI (t.length + 20) ≤ (1000 : Int32) from nI_ge (a := 1000) (by omega) (by omega))]
