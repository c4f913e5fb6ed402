/-! indexOf, and StrOK -/
theorem sb_pos : ∀ k, k < 8 → 0 < (STRB.getD k []).length := by decide +kernel
theorem sb_big : ∀ k, k < 8 → ∀ b ∈ STRB.getD k [], ¬ (b < 0 ∨ 255 < b) := by decide +kernel
theorem sx_out {c : Int32} (hc : c < 0 ∨ 255 < c) : ∀ (t : List Int32) (j : Nat), (∀ b ∈ t, ¬ (b < 0 ∨ 255 < b)) → strIxF c t j = -1 := by
  intro t
  induction t with
  | nil => intro j _; rfl
  | cons b t ih =>
    intro j hb
    rw [strIxF, if_neg (fun q => hb b List.mem_cons_self (by rw [q]; exact hc))]
    exact ih (j + 1) (fun x hx => hb x (List.mem_cons_of_mem _ hx))
section
variable {l : Launch} {K : a_KT} {g : a_GT} {h : aH} {k : Nat}
theorem s_ixChar (hT : KT K) (hk : k < 8) {c : Int32} (hc : ¬ (c < 0 ∨ 255 < c)) : C l K g 0 0 0 yJ1_indexOfChar_4cfef cJ1_indexOfChar_4cfef 6 (some .int) [.ref (1000100 + k), .int c, .int 0, .int (nI (STRB.getD k []).length)] h (fun r h2 => r = some (.int (strIxF c (STRB.getD k []) 0)) ∧ h2 = h) := by
  obtain ⟨n, hn, rfl⟩ := nI_of (fun q => hc (Or.inl q))
  have h256 : n < 256 := by
    rcases Nat.lt_or_ge n 256 with q | q
    · exact q
    · exact absurd (nI_lt (a := 255) (b := n) (by omega) hn) (fun z => hc (Or.inr z))
  refine c_of [.ref (1000100 + k), .int (nI n), .int 0, .int (nI (STRB.getD k []).length), .null, .null] (by decide) (Nat.le_of_ble_eq_true rfl) rfl ?_
  refine e_iload_n (i := 1) rfl dJ1_indexOfChar_4cfef_0 ?_
  refine e_i2b dJ1_indexOfChar_4cfef_1 ?_
  refine q_istore (i := 4) (by decide) rfl dJ1_indexOfChar_4cfef_2 ?_
  refine e_iload_n (i := 2) rfl dJ1_indexOfChar_4cfef_4 ?_
  refine q_istore (i := 5) (by decide) rfl dJ1_indexOfChar_4cfef_5 ?_
  refine e_weak [.ref (1000100 + k), .int (nI n), .int 0, .int (nI (STRB.getD k []).length), .int (nI n).toInt8.toInt32, .int (nI 0)] ⟨rfl, ⟨rfl, ⟨rfl, ⟨rfl, ⟨rfl, ⟨by rw [nI_0], trivial⟩⟩⟩⟩⟩⟩ ?_
  refine s_ixLoop hT hk (c := nI n) (c8 := (nI n).toInt8.toInt32) (fun j hj => ?_) _ 0 rfl (Nat.zero_le _)
  obtain ⟨b1, b2⟩ := sb_all k hk j hj
  rw [sc_eq b2 h256, b1]
theorem s_ix1 (hko : a_kok K) (hT : KT K) (hk : k < 8) {c : Int32} : C l K g 1 0 0 yJ1_indexOf_4cfef cJ1_indexOf_4cfef 4 (some .int) [.ref (1000100 + k), .int c, .int 0, .int (nI (STRB.getD k []).length)] h (fun r h2 => r = some (.int (strIxF c (STRB.getD k []) 0)) ∧ h2 = h) := by
  have hl := (slen_eq k hk).2
  have hp := sb_pos k hk
  have e1 : (if (0 : Int32) < 0 then (0 : Int32) else 0) = 0 := by decide
  have e2 : (if nI (STRB.getD k []).length < nI (STRB.getD k []).length then nI (STRB.getD k []).length else nI (STRB.getD k []).length) = nI (STRB.getD k []).length := ite_self _
  refine c_of [.ref (1000100 + k), .int c, .int 0, .int (nI (STRB.getD k []).length)] (by decide) (Nat.le_of_ble_eq_true rfl) rfl ?_
  refine e_iload_n (i := 1) rfl dJ1_indexOf_4cfef_0 ?_
  refine e_cS1 hko dJ1_indexOf_4cfef_1 ml_RJ1_88 (d2 := 0) (by decide) (Nat.le_of_ble_eq_true rfl) s_can ?_
  rintro _ _ ⟨rfl, rfl⟩
  by_cases hc : c < 0 ∨ 255 < c
  · rw [if_pos hc]
    refine e_if_ne 9 dJ1_indexOf_4cfef_4 (by decide) (fun q => absurd rfl q) (fun _ => ?_)
    refine e_iconst (v := (-1)) (by decide) dJ1_indexOf_4cfef_7 ?_
    refine e_iret dJ1_indexOf_4cfef_8 rfl ?_
    rw [sx_out hc _ _ (sb_big k hk)]
    exact ⟨rfl, rfl⟩
  · rw [if_neg hc]
    refine e_if_ne 9 dJ1_indexOf_4cfef_4 (by decide) (fun _ => ?_) (fun q => absurd q (by decide))
    refine e_iload_n (i := 2) rfl dJ1_indexOf_4cfef_9 ?_
    refine e_iconst (v := 0) (by decide) dJ1_indexOf_4cfef_10 ?_
    refine e_mmax dJ1_indexOf_4cfef_11 ml_RJ1_92 (by decide) (Nat.le_of_ble_eq_true rfl) ?_
    rw [e1]
    refine q_istore_n (i := 2) (by decide) rfl dJ1_indexOf_4cfef_14 ?_
    refine e_iload_n (i := 3) rfl dJ1_indexOf_4cfef_15 ?_
    refine e_aload_n (i := 0) rfl dJ1_indexOf_4cfef_16 ?_
    refine e_sal hT hk dJ1_indexOf_4cfef_17 ?_
    refine e_mmin dJ1_indexOf_4cfef_18 ml_RJ1_38 (by decide) (Nat.le_of_ble_eq_true rfl) ?_
    rw [e2]
    refine q_istore_n (i := 3) (by decide) rfl dJ1_indexOf_4cfef_21 ?_
    refine e_iload_n (i := 2) rfl dJ1_indexOf_4cfef_22 ?_
    refine e_iload_n (i := 3) rfl dJ1_indexOf_4cfef_23 ?_
    refine e_icmp_lt 29 dJ1_indexOf_4cfef_24 (by decide) (fun _ => ?_) (fun q => absurd (show (0 : Int32) < nI (STRB.getD k []).length by rw [← nI_0]; exact nI_lt hp (by omega)) q)
    refine e_aload_n (i := 0) rfl dJ1_indexOf_4cfef_29 ?_
    refine e_iload_n (i := 1) rfl dJ1_indexOf_4cfef_30 ?_
    refine e_iload_n (i := 2) rfl dJ1_indexOf_4cfef_31 ?_
    refine e_iload_n (i := 3) rfl dJ1_indexOf_4cfef_32 ?_
    refine e_callS (as := [.ref (1000100 + k), .int c, .int 0, .int (nI (STRB.getD k []).length)]) hko dJ1_indexOf_4cfef_33 ml_RJ1_95 rfl (d2 := 0) (by decide) (Nat.le_of_ble_eq_true rfl) (s_ixChar hT hk hc) ?_
    rintro _ _ ⟨rfl, rfl⟩
    exact e_iret dJ1_indexOf_4cfef_36 rfl ⟨rfl, rfl⟩
theorem s_ix2 (hko : a_kok K) (hT : KT K) (hk : k < 8) {c : Int32} : C l K g 2 0 0 yJ0_indexOf_7cf53 cJ0_indexOf_7cf53 3 (some .int) [.ref (1000000 + k), .int c, .int 0] h (fun r h2 => r = some (.int (strIxF c (STRB.getD k []) 0)) ∧ h2 = h) := by
  refine c_of [.ref (1000000 + k), .int c, .int 0] (by decide) (Nat.le_of_ble_eq_true rfl) rfl ?_
  refine e_aload_n (i := 0) rfl dJ0_indexOf_7cf53_0 ?_
  refine e_callSt (as := []) hko hT hk dJ0_indexOf_7cf53_1 ml_RJ0_492 rfl rfl (d2 := 0) (by decide) (Nat.le_of_ble_eq_true rfl) (s_isLatin1 hT hk) ?_
  rintro _ _ ⟨rfl, rfl⟩
  refine e_if_eq 23 dJ0_indexOf_7cf53_4 (by decide) (fun c => absurd c (by decide)) (fun _ => ?_)
  refine e_aload_n (i := 0) rfl dJ0_indexOf_7cf53_7 ?_
  refine e_sgV hT hk dJ0_indexOf_7cf53_8 sf_9 ?_
  refine e_iload_n (i := 1) rfl dJ0_indexOf_7cf53_11 ?_
  refine e_iload_n (i := 2) rfl dJ0_indexOf_7cf53_12 ?_
  refine e_aload_n (i := 0) rfl dJ0_indexOf_7cf53_13 ?_
  refine e_callSt (as := []) hko hT hk dJ0_indexOf_7cf53_14 ml_RJ0_505 rfl rfl (by decide) (Nat.le_of_ble_eq_true rfl) (s_length hko hT hk) ?_
  rintro _ _ ⟨rfl, rfl⟩
  refine e_callS (as := [.ref (1000100 + k), .int c, .int 0, .int (nI (STRB.getD k []).length)]) hko dJ0_indexOf_7cf53_17 ml_RJ0_637 rfl (by decide) (Nat.le_of_ble_eq_true rfl) (s_ix1 hko hT hk) ?_
  rintro _ _ ⟨rfl, rfl⟩
  refine e_goto 36 dJ0_indexOf_7cf53_20 (by decide) ?_
  exact e_iret dJ0_indexOf_7cf53_36 rfl ⟨rfl, rfl⟩
theorem s_ix (hko : a_kok K) (hT : KT K) (hk : k < 8) {c : Int32} : C l K g 3 0 0 yJ0_indexOf_0f7a4 cJ0_indexOf_0f7a4 2 (some .int) [.ref (1000000 + k), .int c] h (fun r h2 => r = some (.int (strIxF c (STRB.getD k []) 0)) ∧ h2 = h) := by
  refine c_of [.ref (1000000 + k), .int c] (by decide) (Nat.le_of_ble_eq_true rfl) rfl ?_
  refine e_aload_n (i := 0) rfl dJ0_indexOf_0f7a4_0 ?_
  refine e_iload_n (i := 1) rfl dJ0_indexOf_0f7a4_1 ?_
  refine e_iconst (v := 0) (by decide) dJ0_indexOf_0f7a4_2 ?_
  refine e_callSt (as := [.int c, .int 0]) hko hT hk dJ0_indexOf_0f7a4_3 ml_RJ0_633 rfl rfl (by decide) (Nat.le_of_ble_eq_true rfl) (s_ix2 hko hT hk) ?_
  rintro _ _ ⟨rfl, rfl⟩
  exact e_iret dJ0_indexOf_0f7a4_6 rfl ⟨rfl, rfl⟩
end
theorem isStr_k {s : Nat} (h : isStr s) : ∃ k, k < 8 ∧ s = 1000000 + k := ⟨s - 1000000, by unfold isStr at h; omega, by unfold isStr at h; omega⟩
theorem strB_k (k : Nat) : strB (1000000 + k) = STRB.getD k [] := by unfold strB; rw [show 1000000 + k - 1000000 = k by omega]
/-- the Strings' rules -/
theorem str_ok {l : Launch} {K : a_KT} {g : a_GT} (hko : a_kok K) (hT : KT K) : StrOK l K g := by
  refine ⟨?_, ?_, ?_, ?_⟩
  · intro s d nc ns y cc nL ret pc idx ls st h Q hd hm hd13 hs hst hE
    obtain ⟨k, hk, rfl⟩ := isStr_k hs
    refine e_callSt (as := []) hko hT hk hd hm rfl rfl (d2 := 1) (by omega) hst (s_length hko hT hk) ?_
    rintro _ _ ⟨rfl, rfl⟩
    unfold strLen at hE
    rw [strB_k] at hE
    exact hE
  · intro s d nc ns y cc nL ret pc idx ls st h i Q hd hm hd13 hs hst hi hE
    obtain ⟨k, hk, rfl⟩ := isStr_k hs
    unfold strLen at hi
    unfold strAt at hE
    rw [strB_k] at hi hE
    have hl := (slen_eq k hk).2
    rw [nI_clamp (by omega)] at hi
    refine e_callSt (as := [.int i]) hko hT hk hd hm rfl rfl (d2 := 3) (by omega) hst (s_charAt hko hT hk hi) ?_
    rintro _ _ ⟨rfl, rfl⟩
    exact hE
  · intro s d nc ns y cc nL ret pc idx ls st h c Q hd hm hd13 hs hst hE
    obtain ⟨k, hk, rfl⟩ := isStr_k hs
    unfold strIx at hE
    rw [strB_k] at hE
    refine e_callSt (as := [.int c]) hko hT hk hd hm rfl rfl (d2 := 3) (by omega) hst (s_ix hko hT hk) ?_
    rintro _ _ ⟨rfl, rfl⟩
    exact hE
  · intro k d nc ns y cc nL ret pc idx ls st h Q hd hk hs hE
    exact e_sldc hT hs hd hE
