/-! DECOMPILED: printed by wip/whole/gen_dec.py -/
theorem dX12_bad_0 : decode cX12_bad 0 = .ok (.aload_n 0, 1) := by decide +kernel
theorem dX12_bad_1 : decode cX12_bad 1 = .ok (.getfield 223, 3) := by decide +kernel
theorem dX12_bad_4 : decode cX12_bad 4 = .ok (.ifCond .ne 13, 3) := by decide +kernel
theorem dX12_bad_7 : decode cX12_bad 7 = .ok (.aload_n 0, 1) := by decide +kernel
theorem dX12_bad_8 : decode cX12_bad 8 = .ok (.iload_n 1, 1) := by decide +kernel
theorem dX12_bad_9 : decode cX12_bad 9 = .ok (.putfield 223, 3) := by decide +kernel
theorem dX12_bad_12 : decode cX12_bad 12 = .ok (.aload_n 0, 1) := by decide +kernel
theorem dX12_bad_13 : decode cX12_bad 13 = .ok (.iload_n 2, 1) := by decide +kernel
theorem dX12_bad_14 : decode cX12_bad 14 = .ok (.putfield 226, 3) := by decide +kernel
theorem dX12_bad_17 : decode cX12_bad 17 = .ok (.iconst 0, 1) := by decide +kernel
theorem dX12_bad_18 : decode cX12_bad 18 = .ok (.ireturn, 1) := by decide +kernel
def mX12_bad (I : iT) (x1 : Int32) (x2 : Int32) : Option (Int32 × iT) := if (I 186 7) = 0 then some (0, a_u2 (a_u2 I 186 7 x1) 186 8 x2) else some (0, I)
set_option maxRecDepth 100000 in
set_option maxHeartbeats 4000000 in
theorem tX12_bad {l : Launch} {K : a_KT} {g : a_GT} {IA : iT} (hko : a_kok K) (I : iT) (J : jT) (F : fT) (hF : FOK F) (x1 : Int32) (x2 : Int32) (q : Int32 × iT) (hm : mX12_bad I x1 x2 = some q) : C l K g 0 0 0 yX12_bad cX12_bad 3 (some .boolean) [.ref 186, .int x1, .int x2] (hg IA I J F) (fun r2 h2 => r2 = some (.int q.1) ∧ h2 = hg IA q.2 J F) := by
  unfold mX12_bad at hm
  refine c_of [.ref 186, .int x1, .int x2] (by decide) (Nat.le_of_ble_eq_true rfl) rfl ?_
  refine e_aload_n (i := 0) rfl dX12_bad_0 ?_
  refine l_getI 12 7 dX12_bad_1 fl_RX12_223 rfl iz_186 (by decide) ?_
  refine e_if_ne 17 dX12_bad_4 (by decide) (fun c_4 => ?_) (fun c_4 => ?_)
  · have hm := it_n c_4 hm
    refine e_iconst (v := 0) (by decide) dX12_bad_17 ?_
    refine e_zret dX12_bad_18 rfl rfl ?_
    have hm := some_in hm
    subst hm
    exact ⟨rfl, rfl⟩
  · have hm := it_p c_4 hm
    refine e_aload_n (i := 0) rfl dX12_bad_7 ?_
    refine e_iload_n (i := 1) rfl dX12_bad_8 ?_
    refine l_putI 12 7 dX12_bad_9 fl_RX12_223 rfl rfl iz_186 (by decide) ?_
    refine e_aload_n (i := 0) rfl dX12_bad_12 ?_
    refine e_iload_n (i := 2) rfl dX12_bad_13 ?_
    refine l_putI 12 8 dX12_bad_14 fl_RX12_226 rfl rfl iz_186 (by decide) ?_
    refine e_iconst (v := 0) (by decide) dX12_bad_17 ?_
    refine e_zret dX12_bad_18 rfl rfl ?_
    have hm := some_in hm
    subst hm
    exact ⟨rfl, rfl⟩
theorem dX12_isIn_0 : decode cX12_isIn 0 = .ok (.iload_n 0, 1) := by decide +kernel
theorem dX12_isIn_1 : decode cX12_isIn 1 = .ok (.iload_n 1, 1) := by decide +kernel
theorem dX12_isIn_2 : decode cX12_isIn 2 = .ok (.if_icmp .lt 12, 3) := by decide +kernel
theorem dX12_isIn_5 : decode cX12_isIn 5 = .ok (.iload_n 0, 1) := by decide +kernel
theorem dX12_isIn_6 : decode cX12_isIn 6 = .ok (.iload_n 2, 1) := by decide +kernel
theorem dX12_isIn_7 : decode cX12_isIn 7 = .ok (.if_icmp .gt 7, 3) := by decide +kernel
theorem dX12_isIn_10 : decode cX12_isIn 10 = .ok (.iconst 1, 1) := by decide +kernel
theorem dX12_isIn_11 : decode cX12_isIn 11 = .ok (.goto 4, 3) := by decide +kernel
theorem dX12_isIn_14 : decode cX12_isIn 14 = .ok (.iconst 0, 1) := by decide +kernel
theorem dX12_isIn_15 : decode cX12_isIn 15 = .ok (.ireturn, 1) := by decide +kernel
def mX12_isIn (x0 : Int32) (x1 : Int32) (x2 : Int32) : Option (Int32) := if x0 < x1 then some 0 else if x2 < x0 then some 0 else some 1
set_option maxRecDepth 100000 in
set_option maxHeartbeats 4000000 in
theorem tX12_isIn {l : Launch} {K : a_KT} {g : a_GT} {IA : iT} (hko : a_kok K) (I : iT) (J : jT) (F : fT) (hF : FOK F) (x0 : Int32) (x1 : Int32) (x2 : Int32) (q : Int32) (hm : mX12_isIn x0 x1 x2 = some q) : C l K g 0 0 0 yX12_isIn cX12_isIn 3 (some .boolean) [.int x0, .int x1, .int x2] (hg IA I J F) (fun r2 h2 => r2 = some (.int q) ∧ h2 = hg IA I J F) := by
  unfold mX12_isIn at hm
  refine c_of [.int x0, .int x1, .int x2] (by decide) (Nat.le_of_ble_eq_true rfl) rfl ?_
  refine e_iload_n (i := 0) rfl dX12_isIn_0 ?_
  refine e_iload_n (i := 1) rfl dX12_isIn_1 ?_
  refine e_icmp_lt 14 dX12_isIn_2 (by decide) (fun c_2 => ?_) (fun c_2 => ?_)
  · have hm := it_p c_2 hm
    refine e_iconst (v := 0) (by decide) dX12_isIn_14 ?_
    refine e_zret dX12_isIn_15 rfl rfl ?_
    have hm := some_in hm
    subst hm
    exact ⟨rfl, rfl⟩
  · have hm := it_n c_2 hm
    refine e_iload_n (i := 0) rfl dX12_isIn_5 ?_
    refine e_iload_n (i := 2) rfl dX12_isIn_6 ?_
    refine e_icmp_gt 14 dX12_isIn_7 (by decide) (fun c_7 => ?_) (fun c_7 => ?_)
    · have hm := it_p c_7 hm
      refine e_iconst (v := 0) (by decide) dX12_isIn_14 ?_
      refine e_zret dX12_isIn_15 rfl rfl ?_
      have hm := some_in hm
      subst hm
      exact ⟨rfl, rfl⟩
    · have hm := it_n c_7 hm
      refine e_iconst (v := 1) (by decide) dX12_isIn_10 ?_
      refine e_goto 15 dX12_isIn_11 (by decide) ?_
      refine e_zret dX12_isIn_15 rfl rfl ?_
      have hm := some_in hm
      subst hm
      exact ⟨rfl, rfl⟩
theorem dX12_isSmall_0 : decode cX12_isSmall 0 = .ok (.iload_n 0, 1) := by decide +kernel
theorem dX12_isSmall_1 : decode cX12_isSmall 1 = .ok (.bipush 97, 2) := by decide +kernel
theorem dX12_isSmall_3 : decode cX12_isSmall 3 = .ok (.bipush 122, 2) := by decide +kernel
theorem dX12_isSmall_5 : decode cX12_isSmall 5 = .ok (.invokestatic 154, 3) := by decide +kernel
theorem dX12_isSmall_8 : decode cX12_isSmall 8 = .ok (.ireturn, 1) := by decide +kernel
def mX12_isSmall (x0 : Int32) : Option (Int32) := (mX12_isIn x0 97 122).bind fun q1 => if q1 = 0 ∨ q1 = 1 then some q1 else none
set_option maxRecDepth 100000 in
set_option maxHeartbeats 4000000 in
theorem tX12_isSmall {l : Launch} {K : a_KT} {g : a_GT} {IA : iT} (hko : a_kok K) (I : iT) (J : jT) (F : fT) (hF : FOK F) (x0 : Int32) (q : Int32) (hm : mX12_isSmall x0 = some q) : C l K g 1 0 0 yX12_isSmall cX12_isSmall 1 (some .boolean) [.int x0] (hg IA I J F) (fun r2 h2 => r2 = some (.int q) ∧ h2 = hg IA I J F) := by
  unfold mX12_isSmall at hm
  refine c_of [.int x0] (by decide) (Nat.le_of_ble_eq_true rfl) rfl ?_
  refine e_iload_n (i := 0) rfl dX12_isSmall_0 ?_
  refine e_bipush (v := 97) (by decide) dX12_isSmall_1 ?_
  refine e_bipush (v := 122) (by decide) dX12_isSmall_3 ?_
  obtain ⟨q1, eq1, hm⟩ := ob_some hm
  refine e_cS3 hko dX12_isSmall_5 ml_RX12_154 (by omega) (Nat.le_of_ble_eq_true rfl) (tX12_isIn hko I J F hF x0 97 122 _ eq1) ?_
  rintro _ _ ⟨rfl, rfl⟩
  obtain ⟨c_8, hm⟩ := gd_s hm
  refine e_zret dX12_isSmall_8 rfl (zz_nar c_8) ?_
  have hm := some_in hm
  subst hm
  exact ⟨rfl, rfl⟩
theorem dX12_isLetter_0 : decode cX12_isLetter 0 = .ok (.iload_n 0, 1) := by decide +kernel
theorem dX12_isLetter_1 : decode cX12_isLetter 1 = .ok (.invokestatic 158, 3) := by decide +kernel
theorem dX12_isLetter_4 : decode cX12_isLetter 4 = .ok (.ifCond .ne 14, 3) := by decide +kernel
theorem dX12_isLetter_7 : decode cX12_isLetter 7 = .ok (.iload_n 0, 1) := by decide +kernel
theorem dX12_isLetter_8 : decode cX12_isLetter 8 = .ok (.bipush 65, 2) := by decide +kernel
theorem dX12_isLetter_10 : decode cX12_isLetter 10 = .ok (.bipush 90, 2) := by decide +kernel
theorem dX12_isLetter_12 : decode cX12_isLetter 12 = .ok (.invokestatic 154, 3) := by decide +kernel
theorem dX12_isLetter_15 : decode cX12_isLetter 15 = .ok (.ifCond .eq 7, 3) := by decide +kernel
theorem dX12_isLetter_18 : decode cX12_isLetter 18 = .ok (.iconst 1, 1) := by decide +kernel
theorem dX12_isLetter_19 : decode cX12_isLetter 19 = .ok (.goto 4, 3) := by decide +kernel
theorem dX12_isLetter_22 : decode cX12_isLetter 22 = .ok (.iconst 0, 1) := by decide +kernel
theorem dX12_isLetter_23 : decode cX12_isLetter 23 = .ok (.ireturn, 1) := by decide +kernel
def mX12_isLetter_18 (x0 : Int32) : Option (Int32) := some 1
def mX12_isLetter (x0 : Int32) : Option (Int32) := (mX12_isSmall x0).bind fun q1 => if q1 = 0 then (mX12_isIn x0 65 90).bind fun q2 => if q2 = 0 then some 0 else mX12_isLetter_18 x0 else mX12_isLetter_18 x0
set_option maxRecDepth 100000 in
set_option maxHeartbeats 4000000 in
theorem tX12_isLetter_18 {l : Launch} {K : a_KT} {g : a_GT} {IA : iT} (hko : a_kok K) {I : iT} {J : jT} {F : fT} (x0 : Int32) (hF : FOK F) (q : Int32) (hm : mX12_isLetter_18 x0 = some q) : E l K g 2 0 0 yX12_isLetter cX12_isLetter 1 (some .boolean) 18 [.int x0] [] (hg IA I J F) (fun r2 h2 => r2 = some (.int q) ∧ h2 = hg IA I J F) := by
  unfold mX12_isLetter_18 at hm
  refine e_iconst (v := 1) (by decide) dX12_isLetter_18 ?_
  refine e_goto 23 dX12_isLetter_19 (by decide) ?_
  refine e_zret dX12_isLetter_23 rfl rfl ?_
  have hm := some_in hm
  subst hm
  exact ⟨rfl, rfl⟩
set_option maxRecDepth 100000 in
set_option maxHeartbeats 4000000 in
theorem tX12_isLetter {l : Launch} {K : a_KT} {g : a_GT} {IA : iT} (hko : a_kok K) (I : iT) (J : jT) (F : fT) (hF : FOK F) (x0 : Int32) (q : Int32) (hm : mX12_isLetter x0 = some q) : C l K g 2 0 0 yX12_isLetter cX12_isLetter 1 (some .boolean) [.int x0] (hg IA I J F) (fun r2 h2 => r2 = some (.int q) ∧ h2 = hg IA I J F) := by
  unfold mX12_isLetter at hm
  refine c_of [.int x0] (by decide) (Nat.le_of_ble_eq_true rfl) rfl ?_
  refine e_iload_n (i := 0) rfl dX12_isLetter_0 ?_
  obtain ⟨q1, eq1, hm⟩ := ob_some hm
  refine e_cS1 hko dX12_isLetter_1 ml_RX12_158 (by omega) (Nat.le_of_ble_eq_true rfl) (tX12_isSmall hko I J F hF x0 _ eq1) ?_
  rintro _ _ ⟨rfl, rfl⟩
  refine e_if_ne 18 dX12_isLetter_4 (by decide) (fun c_4 => ?_) (fun c_4 => ?_)
  · have hm := it_n c_4 hm
    refine e_weak [.int x0] ⟨rfl, trivial⟩ ?_
    exact tX12_isLetter_18 hko x0 hF _ hm
  · have hm := it_p c_4 hm
    refine e_iload_n (i := 0) rfl dX12_isLetter_7 ?_
    refine e_bipush (v := 65) (by decide) dX12_isLetter_8 ?_
    refine e_bipush (v := 90) (by decide) dX12_isLetter_10 ?_
    obtain ⟨q2, eq2, hm⟩ := ob_some hm
    refine e_cS3 hko dX12_isLetter_12 ml_RX12_154 (by omega) (Nat.le_of_ble_eq_true rfl) (tX12_isIn hko I J F hF x0 65 90 _ eq2) ?_
    rintro _ _ ⟨rfl, rfl⟩
    refine e_if_eq 22 dX12_isLetter_15 (by decide) (fun c_15 => ?_) (fun c_15 => ?_)
    · have hm := it_p c_15 hm
      refine e_iconst (v := 0) (by decide) dX12_isLetter_22 ?_
      refine e_zret dX12_isLetter_23 rfl rfl ?_
      have hm := some_in hm
      subst hm
      exact ⟨rfl, rfl⟩
    · have hm := it_n c_15 hm
      refine e_weak [.int x0] ⟨rfl, trivial⟩ ?_
      exact tX12_isLetter_18 hko x0 hF _ hm
theorem dX12_see_0 : decode cX12_see 0 = .ok (.iload_n 1, 1) := by decide +kernel
theorem dX12_see_1 : decode cX12_see 1 = .ok (.aload_n 0, 1) := by decide +kernel
theorem dX12_see_2 : decode cX12_see 2 = .ok (.getfield 151, 3) := by decide +kernel
theorem dX12_see_5 : decode cX12_see 5 = .ok (.if_icmp .ge 12, 3) := by decide +kernel
theorem dX12_see_8 : decode cX12_see 8 = .ok (.aload_n 0, 1) := by decide +kernel
theorem dX12_see_9 : decode cX12_see 9 = .ok (.getfield 7, 3) := by decide +kernel
theorem dX12_see_12 : decode cX12_see 12 = .ok (.iload_n 1, 1) := by decide +kernel
theorem dX12_see_13 : decode cX12_see 13 = .ok (.iaload, 1) := by decide +kernel
theorem dX12_see_14 : decode cX12_see 14 = .ok (.goto 4, 3) := by decide +kernel
theorem dX12_see_17 : decode cX12_see 17 = .ok (.iconst (-1), 1) := by decide +kernel
theorem dX12_see_18 : decode cX12_see 18 = .ok (.ireturn, 1) := by decide +kernel
def mX12_see (I : iT) (x1 : Int32) : Option (Int32) := if (I 186 1) ≤ x1 then some ((-1)) else if inb x1 1000 then some (I 187 x1.toNatClampNeg) else none
set_option maxRecDepth 100000 in
set_option maxHeartbeats 4000000 in
theorem tX12_see {l : Launch} {K : a_KT} {g : a_GT} {IA : iT} (hko : a_kok K) (I : iT) (J : jT) (F : fT) (hF : FOK F) (x1 : Int32) (q : Int32) (hm : mX12_see I x1 = some q) : C l K g 0 0 0 yX12_see cX12_see 2 (some .int) [.ref 186, .int x1] (hg IA I J F) (fun r2 h2 => r2 = some (.int q) ∧ h2 = hg IA I J F) := by
  unfold mX12_see at hm
  refine c_of [.ref 186, .int x1] (by decide) (Nat.le_of_ble_eq_true rfl) rfl ?_
  refine e_iload_n (i := 1) rfl dX12_see_0 ?_
  refine e_aload_n (i := 0) rfl dX12_see_1 ?_
  refine l_getI 12 1 dX12_see_2 fl_RX12_151 rfl iz_186 (by decide) ?_
  refine e_icmp_ge 17 dX12_see_5 (by decide) (fun c_5 => ?_) (fun c_5 => ?_)
  · have hm := it_p c_5 hm
    refine e_iconst (v := (-1)) (by decide) dX12_see_17 ?_
    refine e_iret dX12_see_18 rfl ?_
    have hm := some_in hm
    subst hm
    exact ⟨rfl, rfl⟩
  · have hm := it_n c_5 hm
    refine e_aload_n (i := 0) rfl dX12_see_8 ?_
    refine q_getF 12 0 187 dX12_see_9 fl_RX12_7 rfl iz_186 (fr_186_0 hF) ?_
    refine e_iload_n (i := 1) rfl dX12_see_12 ?_
    obtain ⟨c_13, hm⟩ := gd_s hm
    refine l_iald dX12_see_13 iz_187 (inb_in ln_187 c_13) (by decide) ?_
    refine e_goto 18 dX12_see_14 (by decide) ?_
    refine e_iret dX12_see_18 rfl ?_
    have hm := some_in hm
    subst hm
    exact ⟨rfl, rfl⟩
theorem dX12_word_0 : decode cX12_word 0 = .ok (.aload_n 0, 1) := by decide +kernel
theorem dX12_word_1 : decode cX12_word 1 = .ok (.getfield 162, 3) := by decide +kernel
theorem dX12_word_4 : decode cX12_word 4 = .ok (.ldc2_w 166, 3) := by decide +kernel
theorem dX12_word_7 : decode cX12_word 7 = .ok (.lcmp, 1) := by decide +kernel
theorem dX12_word_8 : decode cX12_word 8 = .ok (.ifCond .ne 6, 3) := by decide +kernel
theorem dX12_word_11 : decode cX12_word 11 = .ok (.bipush 100, 2) := by decide +kernel
theorem dX12_word_13 : decode cX12_word 13 = .ok (.ireturn, 1) := by decide +kernel
theorem dX12_word_14 : decode cX12_word 14 = .ok (.aload_n 0, 1) := by decide +kernel
theorem dX12_word_15 : decode cX12_word 15 = .ok (.getfield 162, 3) := by decide +kernel
theorem dX12_word_18 : decode cX12_word 18 = .ok (.ldc2_w 168, 3) := by decide +kernel
theorem dX12_word_21 : decode cX12_word 21 = .ok (.lcmp, 1) := by decide +kernel
theorem dX12_word_22 : decode cX12_word 22 = .ok (.ifCond .ne 6, 3) := by decide +kernel
theorem dX12_word_25 : decode cX12_word 25 = .ok (.bipush 101, 2) := by decide +kernel
theorem dX12_word_27 : decode cX12_word 27 = .ok (.ireturn, 1) := by decide +kernel
theorem dX12_word_28 : decode cX12_word 28 = .ok (.aload_n 0, 1) := by decide +kernel
theorem dX12_word_29 : decode cX12_word 29 = .ok (.getfield 162, 3) := by decide +kernel
theorem dX12_word_32 : decode cX12_word 32 = .ok (.ldc2_w 170, 3) := by decide +kernel
theorem dX12_word_35 : decode cX12_word 35 = .ok (.lcmp, 1) := by decide +kernel
theorem dX12_word_36 : decode cX12_word 36 = .ok (.ifCond .ne 6, 3) := by decide +kernel
theorem dX12_word_39 : decode cX12_word 39 = .ok (.bipush 102, 2) := by decide +kernel
theorem dX12_word_41 : decode cX12_word 41 = .ok (.ireturn, 1) := by decide +kernel
theorem dX12_word_42 : decode cX12_word 42 = .ok (.aload_n 0, 1) := by decide +kernel
theorem dX12_word_43 : decode cX12_word 43 = .ok (.getfield 162, 3) := by decide +kernel
theorem dX12_word_46 : decode cX12_word 46 = .ok (.ldc2_w 172, 3) := by decide +kernel
theorem dX12_word_49 : decode cX12_word 49 = .ok (.lcmp, 1) := by decide +kernel
theorem dX12_word_50 : decode cX12_word 50 = .ok (.ifCond .ne 6, 3) := by decide +kernel
theorem dX12_word_53 : decode cX12_word 53 = .ok (.bipush 103, 2) := by decide +kernel
theorem dX12_word_55 : decode cX12_word 55 = .ok (.ireturn, 1) := by decide +kernel
theorem dX12_word_56 : decode cX12_word 56 = .ok (.aload_n 0, 1) := by decide +kernel
theorem dX12_word_57 : decode cX12_word 57 = .ok (.getfield 162, 3) := by decide +kernel
theorem dX12_word_60 : decode cX12_word 60 = .ok (.ldc2_w 174, 3) := by decide +kernel
theorem dX12_word_63 : decode cX12_word 63 = .ok (.lcmp, 1) := by decide +kernel
theorem dX12_word_64 : decode cX12_word 64 = .ok (.ifCond .ne 6, 3) := by decide +kernel
theorem dX12_word_67 : decode cX12_word 67 = .ok (.bipush 104, 2) := by decide +kernel
theorem dX12_word_69 : decode cX12_word 69 = .ok (.ireturn, 1) := by decide +kernel
theorem dX12_word_70 : decode cX12_word 70 = .ok (.aload_n 0, 1) := by decide +kernel
theorem dX12_word_71 : decode cX12_word 71 = .ok (.getfield 162, 3) := by decide +kernel
theorem dX12_word_74 : decode cX12_word 74 = .ok (.ldc2_w 176, 3) := by decide +kernel
theorem dX12_word_77 : decode cX12_word 77 = .ok (.lcmp, 1) := by decide +kernel
theorem dX12_word_78 : decode cX12_word 78 = .ok (.ifCond .ne 6, 3) := by decide +kernel
theorem dX12_word_81 : decode cX12_word 81 = .ok (.bipush 105, 2) := by decide +kernel
theorem dX12_word_83 : decode cX12_word 83 = .ok (.ireturn, 1) := by decide +kernel
theorem dX12_word_84 : decode cX12_word 84 = .ok (.aload_n 0, 1) := by decide +kernel
theorem dX12_word_85 : decode cX12_word 85 = .ok (.getfield 162, 3) := by decide +kernel
theorem dX12_word_88 : decode cX12_word 88 = .ok (.ldc2_w 178, 3) := by decide +kernel
theorem dX12_word_91 : decode cX12_word 91 = .ok (.lcmp, 1) := by decide +kernel
theorem dX12_word_92 : decode cX12_word 92 = .ok (.ifCond .ne 6, 3) := by decide +kernel
theorem dX12_word_95 : decode cX12_word 95 = .ok (.bipush 106, 2) := by decide +kernel
theorem dX12_word_97 : decode cX12_word 97 = .ok (.ireturn, 1) := by decide +kernel
theorem dX12_word_98 : decode cX12_word 98 = .ok (.aload_n 0, 1) := by decide +kernel
theorem dX12_word_99 : decode cX12_word 99 = .ok (.getfield 162, 3) := by decide +kernel
theorem dX12_word_102 : decode cX12_word 102 = .ok (.ldc2_w 180, 3) := by decide +kernel
theorem dX12_word_105 : decode cX12_word 105 = .ok (.lcmp, 1) := by decide +kernel
theorem dX12_word_106 : decode cX12_word 106 = .ok (.ifCond .ne 6, 3) := by decide +kernel
theorem dX12_word_109 : decode cX12_word 109 = .ok (.bipush 107, 2) := by decide +kernel
theorem dX12_word_111 : decode cX12_word 111 = .ok (.ireturn, 1) := by decide +kernel
theorem dX12_word_112 : decode cX12_word 112 = .ok (.aload_n 0, 1) := by decide +kernel
theorem dX12_word_113 : decode cX12_word 113 = .ok (.getfield 162, 3) := by decide +kernel
theorem dX12_word_116 : decode cX12_word 116 = .ok (.ldc2_w 182, 3) := by decide +kernel
theorem dX12_word_119 : decode cX12_word 119 = .ok (.lcmp, 1) := by decide +kernel
theorem dX12_word_120 : decode cX12_word 120 = .ok (.ifCond .ne 6, 3) := by decide +kernel
theorem dX12_word_123 : decode cX12_word 123 = .ok (.bipush 108, 2) := by decide +kernel
theorem dX12_word_125 : decode cX12_word 125 = .ok (.ireturn, 1) := by decide +kernel
theorem dX12_word_126 : decode cX12_word 126 = .ok (.aload_n 0, 1) := by decide +kernel
theorem dX12_word_127 : decode cX12_word 127 = .ok (.getfield 162, 3) := by decide +kernel
theorem dX12_word_130 : decode cX12_word 130 = .ok (.ldc2_w 184, 3) := by decide +kernel
theorem dX12_word_133 : decode cX12_word 133 = .ok (.lcmp, 1) := by decide +kernel
theorem dX12_word_134 : decode cX12_word 134 = .ok (.ifCond .ne 6, 3) := by decide +kernel
theorem dX12_word_137 : decode cX12_word 137 = .ok (.bipush 109, 2) := by decide +kernel
theorem dX12_word_139 : decode cX12_word 139 = .ok (.ireturn, 1) := by decide +kernel
theorem dX12_word_140 : decode cX12_word 140 = .ok (.aload_n 0, 1) := by decide +kernel
theorem dX12_word_141 : decode cX12_word 141 = .ok (.getfield 162, 3) := by decide +kernel
theorem dX12_word_144 : decode cX12_word 144 = .ok (.ldc2_w 186, 3) := by decide +kernel
theorem dX12_word_147 : decode cX12_word 147 = .ok (.lcmp, 1) := by decide +kernel
theorem dX12_word_148 : decode cX12_word 148 = .ok (.ifCond .ne 6, 3) := by decide +kernel
theorem dX12_word_151 : decode cX12_word 151 = .ok (.bipush 110, 2) := by decide +kernel
theorem dX12_word_153 : decode cX12_word 153 = .ok (.ireturn, 1) := by decide +kernel
theorem dX12_word_154 : decode cX12_word 154 = .ok (.aload_n 0, 1) := by decide +kernel
theorem dX12_word_155 : decode cX12_word 155 = .ok (.getfield 162, 3) := by decide +kernel
theorem dX12_word_158 : decode cX12_word 158 = .ok (.ldc2_w 188, 3) := by decide +kernel
theorem dX12_word_161 : decode cX12_word 161 = .ok (.lcmp, 1) := by decide +kernel
theorem dX12_word_162 : decode cX12_word 162 = .ok (.ifCond .ne 6, 3) := by decide +kernel
theorem dX12_word_165 : decode cX12_word 165 = .ok (.bipush 111, 2) := by decide +kernel
theorem dX12_word_167 : decode cX12_word 167 = .ok (.ireturn, 1) := by decide +kernel
theorem dX12_word_168 : decode cX12_word 168 = .ok (.aload_n 0, 1) := by decide +kernel
theorem dX12_word_169 : decode cX12_word 169 = .ok (.getfield 162, 3) := by decide +kernel
theorem dX12_word_172 : decode cX12_word 172 = .ok (.ldc2_w 190, 3) := by decide +kernel
theorem dX12_word_175 : decode cX12_word 175 = .ok (.lcmp, 1) := by decide +kernel
theorem dX12_word_176 : decode cX12_word 176 = .ok (.ifCond .ne 6, 3) := by decide +kernel
theorem dX12_word_179 : decode cX12_word 179 = .ok (.bipush 112, 2) := by decide +kernel
theorem dX12_word_181 : decode cX12_word 181 = .ok (.ireturn, 1) := by decide +kernel
theorem dX12_word_182 : decode cX12_word 182 = .ok (.aload_n 0, 1) := by decide +kernel
theorem dX12_word_183 : decode cX12_word 183 = .ok (.getfield 162, 3) := by decide +kernel
theorem dX12_word_186 : decode cX12_word 186 = .ok (.ldc2_w 192, 3) := by decide +kernel
theorem dX12_word_189 : decode cX12_word 189 = .ok (.lcmp, 1) := by decide +kernel
theorem dX12_word_190 : decode cX12_word 190 = .ok (.ifCond .ne 6, 3) := by decide +kernel
theorem dX12_word_193 : decode cX12_word 193 = .ok (.bipush 113, 2) := by decide +kernel
theorem dX12_word_195 : decode cX12_word 195 = .ok (.ireturn, 1) := by decide +kernel
theorem dX12_word_196 : decode cX12_word 196 = .ok (.aload_n 0, 1) := by decide +kernel
theorem dX12_word_197 : decode cX12_word 197 = .ok (.getfield 162, 3) := by decide +kernel
theorem dX12_word_200 : decode cX12_word 200 = .ok (.ldc2_w 194, 3) := by decide +kernel
theorem dX12_word_203 : decode cX12_word 203 = .ok (.lcmp, 1) := by decide +kernel
theorem dX12_word_204 : decode cX12_word 204 = .ok (.ifCond .ne 6, 3) := by decide +kernel
theorem dX12_word_207 : decode cX12_word 207 = .ok (.bipush 114, 2) := by decide +kernel
theorem dX12_word_209 : decode cX12_word 209 = .ok (.ireturn, 1) := by decide +kernel
theorem dX12_word_210 : decode cX12_word 210 = .ok (.aload_n 0, 1) := by decide +kernel
theorem dX12_word_211 : decode cX12_word 211 = .ok (.getfield 162, 3) := by decide +kernel
theorem dX12_word_214 : decode cX12_word 214 = .ok (.ldc2_w 196, 3) := by decide +kernel
theorem dX12_word_217 : decode cX12_word 217 = .ok (.lcmp, 1) := by decide +kernel
theorem dX12_word_218 : decode cX12_word 218 = .ok (.ifCond .ne 6, 3) := by decide +kernel
theorem dX12_word_221 : decode cX12_word 221 = .ok (.bipush 115, 2) := by decide +kernel
theorem dX12_word_223 : decode cX12_word 223 = .ok (.ireturn, 1) := by decide +kernel
theorem dX12_word_224 : decode cX12_word 224 = .ok (.aload_n 0, 1) := by decide +kernel
theorem dX12_word_225 : decode cX12_word 225 = .ok (.getfield 162, 3) := by decide +kernel
theorem dX12_word_228 : decode cX12_word 228 = .ok (.ldc2_w 198, 3) := by decide +kernel
theorem dX12_word_231 : decode cX12_word 231 = .ok (.lcmp, 1) := by decide +kernel
theorem dX12_word_232 : decode cX12_word 232 = .ok (.ifCond .ne 8, 3) := by decide +kernel
theorem dX12_word_235 : decode cX12_word 235 = .ok (.bipush 116, 2) := by decide +kernel
theorem dX12_word_237 : decode cX12_word 237 = .ok (.goto 4, 3) := by decide +kernel
theorem dX12_word_240 : decode cX12_word 240 = .ok (.iconst 2, 1) := by decide +kernel
theorem dX12_word_241 : decode cX12_word 241 = .ok (.ireturn, 1) := by decide +kernel
def mX12_word (J : jT) : Option (Int32) := if (lg_cmp (J 186 6) 1954115685) = 0 then some 100 else if (lg_cmp (J 186 6) 6579558) = 0 then some 101 else if (lg_cmp (J 186 6) 6647396) = 0 then some 102 else if (lg_cmp (J 186 6) 7370100) = 0 then some 103 else if (lg_cmp (J 186 6) 6776180) = 0 then some 104 else if (lg_cmp (J 186 6) 1936027236) = 0 then some 105 else if (lg_cmp (J 186 6) 1952541541) = 0 then some 106 else if (lg_cmp (J 186 6) 1885954923) = 0 then some 107 else if (lg_cmp (J 186 6) 1667330917) = 0 then some 108 else if (lg_cmp (J 186 6) 7234935) = 0 then some 109 else if (lg_cmp (J 186 6) 1935764837) = 0 then some 110 else if (lg_cmp (J 186 6) 26479) = 0 then some 111 else if (lg_cmp (J 186 6) 26982) = 0 then some 112 else if (lg_cmp (J 186 6) 1701606245) = 0 then some 113 else if (lg_cmp (J 186 6) 7561593) = 0 then some 114 else if (lg_cmp (J 186 6) 427021005669) = 0 then some 115 else if (lg_cmp (J 186 6) 2002872692) = 0 then some 116 else some 2
set_option maxRecDepth 100000 in
set_option maxHeartbeats 4000000 in
theorem tX12_word {l : Launch} {K : a_KT} {g : a_GT} {IA : iT} (hko : a_kok K) (I : iT) (J : jT) (F : fT) (hF : FOK F) (q : Int32) (hm : mX12_word J = some q) : C l K g 0 0 0 yX12_word cX12_word 1 (some .int) [.ref 186] (hg IA I J F) (fun r2 h2 => r2 = some (.int q) ∧ h2 = hg IA I J F) := by
  unfold mX12_word at hm
  refine c_of [.ref 186] (by decide) (Nat.le_of_ble_eq_true rfl) rfl ?_
  refine e_aload_n (i := 0) rfl dX12_word_0 ?_
  refine q_getJ 12 6 dX12_word_1 fl_RX12_162 rfl iz_186 ?_
  refine e_ldc2 kc_RX12_166 dX12_word_4 ?_
  refine e_lcmp dX12_word_7 ?_
  refine e_if_ne 14 dX12_word_8 (by decide) (fun c_8 => ?_) (fun c_8 => ?_)
  · have hm := it_n c_8 hm
    refine e_aload_n (i := 0) rfl dX12_word_14 ?_
    refine q_getJ 12 6 dX12_word_15 fl_RX12_162 rfl iz_186 ?_
    refine e_ldc2 kc_RX12_168 dX12_word_18 ?_
    refine e_lcmp dX12_word_21 ?_
    refine e_if_ne 28 dX12_word_22 (by decide) (fun c_22 => ?_) (fun c_22 => ?_)
    · have hm := it_n c_22 hm
      refine e_aload_n (i := 0) rfl dX12_word_28 ?_
      refine q_getJ 12 6 dX12_word_29 fl_RX12_162 rfl iz_186 ?_
      refine e_ldc2 kc_RX12_170 dX12_word_32 ?_
      refine e_lcmp dX12_word_35 ?_
      refine e_if_ne 42 dX12_word_36 (by decide) (fun c_36 => ?_) (fun c_36 => ?_)
      · have hm := it_n c_36 hm
        refine e_aload_n (i := 0) rfl dX12_word_42 ?_
        refine q_getJ 12 6 dX12_word_43 fl_RX12_162 rfl iz_186 ?_
        refine e_ldc2 kc_RX12_172 dX12_word_46 ?_
        refine e_lcmp dX12_word_49 ?_
        refine e_if_ne 56 dX12_word_50 (by decide) (fun c_50 => ?_) (fun c_50 => ?_)
        · have hm := it_n c_50 hm
          refine e_aload_n (i := 0) rfl dX12_word_56 ?_
          refine q_getJ 12 6 dX12_word_57 fl_RX12_162 rfl iz_186 ?_
          refine e_ldc2 kc_RX12_174 dX12_word_60 ?_
          refine e_lcmp dX12_word_63 ?_
          refine e_if_ne 70 dX12_word_64 (by decide) (fun c_64 => ?_) (fun c_64 => ?_)
          · have hm := it_n c_64 hm
            refine e_aload_n (i := 0) rfl dX12_word_70 ?_
            refine q_getJ 12 6 dX12_word_71 fl_RX12_162 rfl iz_186 ?_
            refine e_ldc2 kc_RX12_176 dX12_word_74 ?_
            refine e_lcmp dX12_word_77 ?_
            refine e_if_ne 84 dX12_word_78 (by decide) (fun c_78 => ?_) (fun c_78 => ?_)
            · have hm := it_n c_78 hm
              refine e_aload_n (i := 0) rfl dX12_word_84 ?_
              refine q_getJ 12 6 dX12_word_85 fl_RX12_162 rfl iz_186 ?_
              refine e_ldc2 kc_RX12_178 dX12_word_88 ?_
              refine e_lcmp dX12_word_91 ?_
              refine e_if_ne 98 dX12_word_92 (by decide) (fun c_92 => ?_) (fun c_92 => ?_)
              · have hm := it_n c_92 hm
                refine e_aload_n (i := 0) rfl dX12_word_98 ?_
                refine q_getJ 12 6 dX12_word_99 fl_RX12_162 rfl iz_186 ?_
                refine e_ldc2 kc_RX12_180 dX12_word_102 ?_
                refine e_lcmp dX12_word_105 ?_
                refine e_if_ne 112 dX12_word_106 (by decide) (fun c_106 => ?_) (fun c_106 => ?_)
                · have hm := it_n c_106 hm
                  refine e_aload_n (i := 0) rfl dX12_word_112 ?_
                  refine q_getJ 12 6 dX12_word_113 fl_RX12_162 rfl iz_186 ?_
                  refine e_ldc2 kc_RX12_182 dX12_word_116 ?_
                  refine e_lcmp dX12_word_119 ?_
                  refine e_if_ne 126 dX12_word_120 (by decide) (fun c_120 => ?_) (fun c_120 => ?_)
                  · have hm := it_n c_120 hm
                    refine e_aload_n (i := 0) rfl dX12_word_126 ?_
                    refine q_getJ 12 6 dX12_word_127 fl_RX12_162 rfl iz_186 ?_
                    refine e_ldc2 kc_RX12_184 dX12_word_130 ?_
                    refine e_lcmp dX12_word_133 ?_
                    refine e_if_ne 140 dX12_word_134 (by decide) (fun c_134 => ?_) (fun c_134 => ?_)
                    · have hm := it_n c_134 hm
                      refine e_aload_n (i := 0) rfl dX12_word_140 ?_
                      refine q_getJ 12 6 dX12_word_141 fl_RX12_162 rfl iz_186 ?_
                      refine e_ldc2 kc_RX12_186 dX12_word_144 ?_
                      refine e_lcmp dX12_word_147 ?_
                      refine e_if_ne 154 dX12_word_148 (by decide) (fun c_148 => ?_) (fun c_148 => ?_)
                      · have hm := it_n c_148 hm
                        refine e_aload_n (i := 0) rfl dX12_word_154 ?_
                        refine q_getJ 12 6 dX12_word_155 fl_RX12_162 rfl iz_186 ?_
                        refine e_ldc2 kc_RX12_188 dX12_word_158 ?_
                        refine e_lcmp dX12_word_161 ?_
                        refine e_if_ne 168 dX12_word_162 (by decide) (fun c_162 => ?_) (fun c_162 => ?_)
                        · have hm := it_n c_162 hm
                          refine e_aload_n (i := 0) rfl dX12_word_168 ?_
                          refine q_getJ 12 6 dX12_word_169 fl_RX12_162 rfl iz_186 ?_
                          refine e_ldc2 kc_RX12_190 dX12_word_172 ?_
                          refine e_lcmp dX12_word_175 ?_
                          refine e_if_ne 182 dX12_word_176 (by decide) (fun c_176 => ?_) (fun c_176 => ?_)
                          · have hm := it_n c_176 hm
                            refine e_aload_n (i := 0) rfl dX12_word_182 ?_
                            refine q_getJ 12 6 dX12_word_183 fl_RX12_162 rfl iz_186 ?_
                            refine e_ldc2 kc_RX12_192 dX12_word_186 ?_
                            refine e_lcmp dX12_word_189 ?_
                            refine e_if_ne 196 dX12_word_190 (by decide) (fun c_190 => ?_) (fun c_190 => ?_)
                            · have hm := it_n c_190 hm
                              refine e_aload_n (i := 0) rfl dX12_word_196 ?_
                              refine q_getJ 12 6 dX12_word_197 fl_RX12_162 rfl iz_186 ?_
                              refine e_ldc2 kc_RX12_194 dX12_word_200 ?_
                              refine e_lcmp dX12_word_203 ?_
                              refine e_if_ne 210 dX12_word_204 (by decide) (fun c_204 => ?_) (fun c_204 => ?_)
                              · have hm := it_n c_204 hm
                                refine e_aload_n (i := 0) rfl dX12_word_210 ?_
                                refine q_getJ 12 6 dX12_word_211 fl_RX12_162 rfl iz_186 ?_
                                refine e_ldc2 kc_RX12_196 dX12_word_214 ?_
                                refine e_lcmp dX12_word_217 ?_
                                refine e_if_ne 224 dX12_word_218 (by decide) (fun c_218 => ?_) (fun c_218 => ?_)
                                · have hm := it_n c_218 hm
                                  refine e_aload_n (i := 0) rfl dX12_word_224 ?_
                                  refine q_getJ 12 6 dX12_word_225 fl_RX12_162 rfl iz_186 ?_
                                  refine e_ldc2 kc_RX12_198 dX12_word_228 ?_
                                  refine e_lcmp dX12_word_231 ?_
                                  refine e_if_ne 240 dX12_word_232 (by decide) (fun c_232 => ?_) (fun c_232 => ?_)
                                  · have hm := it_n c_232 hm
                                    refine e_iconst (v := 2) (by decide) dX12_word_240 ?_
                                    refine e_iret dX12_word_241 rfl ?_
                                    have hm := some_in hm
                                    subst hm
                                    exact ⟨rfl, rfl⟩
                                  · have hm := it_p c_232 hm
                                    refine e_bipush (v := 116) (by decide) dX12_word_235 ?_
                                    refine e_goto 241 dX12_word_237 (by decide) ?_
                                    refine e_iret dX12_word_241 rfl ?_
                                    have hm := some_in hm
                                    subst hm
                                    exact ⟨rfl, rfl⟩
                                · have hm := it_p c_218 hm
                                  refine e_bipush (v := 115) (by decide) dX12_word_221 ?_
                                  refine e_iret dX12_word_223 rfl ?_
                                  have hm := some_in hm
                                  subst hm
                                  exact ⟨rfl, rfl⟩
                              · have hm := it_p c_204 hm
                                refine e_bipush (v := 114) (by decide) dX12_word_207 ?_
                                refine e_iret dX12_word_209 rfl ?_
                                have hm := some_in hm
                                subst hm
                                exact ⟨rfl, rfl⟩
                            · have hm := it_p c_190 hm
                              refine e_bipush (v := 113) (by decide) dX12_word_193 ?_
                              refine e_iret dX12_word_195 rfl ?_
                              have hm := some_in hm
                              subst hm
                              exact ⟨rfl, rfl⟩
                          · have hm := it_p c_176 hm
                            refine e_bipush (v := 112) (by decide) dX12_word_179 ?_
                            refine e_iret dX12_word_181 rfl ?_
                            have hm := some_in hm
                            subst hm
                            exact ⟨rfl, rfl⟩
                        · have hm := it_p c_162 hm
                          refine e_bipush (v := 111) (by decide) dX12_word_165 ?_
                          refine e_iret dX12_word_167 rfl ?_
                          have hm := some_in hm
                          subst hm
                          exact ⟨rfl, rfl⟩
                      · have hm := it_p c_148 hm
                        refine e_bipush (v := 110) (by decide) dX12_word_151 ?_
                        refine e_iret dX12_word_153 rfl ?_
                        have hm := some_in hm
                        subst hm
                        exact ⟨rfl, rfl⟩
                    · have hm := it_p c_134 hm
                      refine e_bipush (v := 109) (by decide) dX12_word_137 ?_
                      refine e_iret dX12_word_139 rfl ?_
                      have hm := some_in hm
                      subst hm
                      exact ⟨rfl, rfl⟩
                  · have hm := it_p c_120 hm
                    refine e_bipush (v := 108) (by decide) dX12_word_123 ?_
                    refine e_iret dX12_word_125 rfl ?_
                    have hm := some_in hm
                    subst hm
                    exact ⟨rfl, rfl⟩
                · have hm := it_p c_106 hm
                  refine e_bipush (v := 107) (by decide) dX12_word_109 ?_
                  refine e_iret dX12_word_111 rfl ?_
                  have hm := some_in hm
                  subst hm
                  exact ⟨rfl, rfl⟩
              · have hm := it_p c_92 hm
                refine e_bipush (v := 106) (by decide) dX12_word_95 ?_
                refine e_iret dX12_word_97 rfl ?_
                have hm := some_in hm
                subst hm
                exact ⟨rfl, rfl⟩
            · have hm := it_p c_78 hm
              refine e_bipush (v := 105) (by decide) dX12_word_81 ?_
              refine e_iret dX12_word_83 rfl ?_
              have hm := some_in hm
              subst hm
              exact ⟨rfl, rfl⟩
          · have hm := it_p c_64 hm
            refine e_bipush (v := 104) (by decide) dX12_word_67 ?_
            refine e_iret dX12_word_69 rfl ?_
            have hm := some_in hm
            subst hm
            exact ⟨rfl, rfl⟩
        · have hm := it_p c_50 hm
          refine e_bipush (v := 103) (by decide) dX12_word_53 ?_
          refine e_iret dX12_word_55 rfl ?_
          have hm := some_in hm
          subst hm
          exact ⟨rfl, rfl⟩
      · have hm := it_p c_36 hm
        refine e_bipush (v := 102) (by decide) dX12_word_39 ?_
        refine e_iret dX12_word_41 rfl ?_
        have hm := some_in hm
        subst hm
        exact ⟨rfl, rfl⟩
    · have hm := it_p c_22 hm
      refine e_bipush (v := 101) (by decide) dX12_word_25 ?_
      refine e_iret dX12_word_27 rfl ?_
      have hm := some_in hm
      subst hm
      exact ⟨rfl, rfl⟩
  · have hm := it_p c_8 hm
    refine e_bipush (v := 100) (by decide) dX12_word_11 ?_
    refine e_iret dX12_word_13 rfl ?_
    have hm := some_in hm
    subst hm
    exact ⟨rfl, rfl⟩
theorem dX12_look0_0 : decode cX12_look0 0 = .ok (.aload_n 0, 1) := by decide +kernel
theorem dX12_look0_1 : decode cX12_look0 1 = .ok (.aload_n 0, 1) := by decide +kernel
theorem dX12_look0_2 : decode cX12_look0 2 = .ok (.getfield 200, 3) := by decide +kernel
theorem dX12_look0_5 : decode cX12_look0 5 = .ok (.invokevirtual 203, 3) := by decide +kernel
theorem dX12_look0_8 : decode cX12_look0 8 = .ok (.bipush 32, 2) := by decide +kernel
theorem dX12_look0_10 : decode cX12_look0 10 = .ok (.if_icmp .eq 16, 3) := by decide +kernel
theorem dX12_look0_13 : decode cX12_look0 13 = .ok (.aload_n 0, 1) := by decide +kernel
theorem dX12_look0_14 : decode cX12_look0 14 = .ok (.aload_n 0, 1) := by decide +kernel
theorem dX12_look0_15 : decode cX12_look0 15 = .ok (.getfield 200, 3) := by decide +kernel
theorem dX12_look0_18 : decode cX12_look0 18 = .ok (.invokevirtual 203, 3) := by decide +kernel
theorem dX12_look0_21 : decode cX12_look0 21 = .ok (.bipush 10, 2) := by decide +kernel
theorem dX12_look0_23 : decode cX12_look0 23 = .ok (.if_icmp .ne 16, 3) := by decide +kernel
theorem dX12_look0_26 : decode cX12_look0 26 = .ok (.aload_n 0, 1) := by decide +kernel
theorem dX12_look0_27 : decode cX12_look0 27 = .ok (.dup, 1) := by decide +kernel
theorem dX12_look0_28 : decode cX12_look0 28 = .ok (.getfield 200, 3) := by decide +kernel
theorem dX12_look0_31 : decode cX12_look0 31 = .ok (.iconst 1, 1) := by decide +kernel
theorem dX12_look0_32 : decode cX12_look0 32 = .ok (.iadd, 1) := by decide +kernel
theorem dX12_look0_33 : decode cX12_look0 33 = .ok (.putfield 200, 3) := by decide +kernel
theorem dX12_look0_36 : decode cX12_look0 36 = .ok (.goto (-36), 3) := by decide +kernel
theorem dX12_look0_39 : decode cX12_look0 39 = .ok (.aload_n 0, 1) := by decide +kernel
theorem dX12_look0_40 : decode cX12_look0 40 = .ok (.aload_n 0, 1) := by decide +kernel
theorem dX12_look0_41 : decode cX12_look0 41 = .ok (.getfield 200, 3) := by decide +kernel
theorem dX12_look0_44 : decode cX12_look0 44 = .ok (.putfield 207, 3) := by decide +kernel
theorem dX12_look0_47 : decode cX12_look0 47 = .ok (.aload_n 0, 1) := by decide +kernel
theorem dX12_look0_48 : decode cX12_look0 48 = .ok (.aload_n 0, 1) := by decide +kernel
theorem dX12_look0_49 : decode cX12_look0 49 = .ok (.getfield 200, 3) := by decide +kernel
theorem dX12_look0_52 : decode cX12_look0 52 = .ok (.invokevirtual 203, 3) := by decide +kernel
theorem dX12_look0_55 : decode cX12_look0 55 = .ok (.istore_n 1, 1) := by decide +kernel
theorem dX12_look0_56 : decode cX12_look0 56 = .ok (.aload_n 0, 1) := by decide +kernel
theorem dX12_look0_57 : decode cX12_look0 57 = .ok (.iconst 1, 1) := by decide +kernel
theorem dX12_look0_58 : decode cX12_look0 58 = .ok (.putfield 210, 3) := by decide +kernel
theorem dX12_look0_61 : decode cX12_look0 61 = .ok (.iload_n 1, 1) := by decide +kernel
theorem dX12_look0_62 : decode cX12_look0 62 = .ok (.iconst (-1), 1) := by decide +kernel
theorem dX12_look0_63 : decode cX12_look0 63 = .ok (.if_icmp .ne 11, 3) := by decide +kernel
theorem dX12_look0_66 : decode cX12_look0 66 = .ok (.aload_n 0, 1) := by decide +kernel
theorem dX12_look0_67 : decode cX12_look0 67 = .ok (.iconst 0, 1) := by decide +kernel
theorem dX12_look0_68 : decode cX12_look0 68 = .ok (.putfield 210, 3) := by decide +kernel
theorem dX12_look0_71 : decode cX12_look0 71 = .ok (.goto 369, 3) := by decide +kernel
theorem dX12_look0_74 : decode cX12_look0 74 = .ok (.iload_n 1, 1) := by decide +kernel
theorem dX12_look0_75 : decode cX12_look0 75 = .ok (.invokestatic 158, 3) := by decide +kernel
theorem dX12_look0_78 : decode cX12_look0 78 = .ok (.ifCond .eq 84, 3) := by decide +kernel
theorem dX12_look0_81 : decode cX12_look0 81 = .ok (.iconst 0, 1) := by decide +kernel
theorem dX12_look0_82 : decode cX12_look0 82 = .ok (.istore_n 2, 1) := by decide +kernel
theorem dX12_look0_83 : decode cX12_look0 83 = .ok (.aload_n 0, 1) := by decide +kernel
theorem dX12_look0_84 : decode cX12_look0 84 = .ok (.lconst 0, 1) := by decide +kernel
theorem dX12_look0_85 : decode cX12_look0 85 = .ok (.putfield 162, 3) := by decide +kernel
theorem dX12_look0_88 : decode cX12_look0 88 = .ok (.aload_n 0, 1) := by decide +kernel
theorem dX12_look0_89 : decode cX12_look0 89 = .ok (.aload_n 0, 1) := by decide +kernel
theorem dX12_look0_90 : decode cX12_look0 90 = .ok (.getfield 200, 3) := by decide +kernel
theorem dX12_look0_93 : decode cX12_look0 93 = .ok (.invokevirtual 203, 3) := by decide +kernel
theorem dX12_look0_96 : decode cX12_look0 96 = .ok (.invokestatic 158, 3) := by decide +kernel
theorem dX12_look0_99 : decode cX12_look0 99 = .ok (.ifCond .eq 46, 3) := by decide +kernel
theorem dX12_look0_102 : decode cX12_look0 102 = .ok (.iload_n 2, 1) := by decide +kernel
theorem dX12_look0_103 : decode cX12_look0 103 = .ok (.bipush 6, 2) := by decide +kernel
theorem dX12_look0_105 : decode cX12_look0 105 = .ok (.if_icmp .ge 24, 3) := by decide +kernel
theorem dX12_look0_108 : decode cX12_look0 108 = .ok (.aload_n 0, 1) := by decide +kernel
theorem dX12_look0_109 : decode cX12_look0 109 = .ok (.aload_n 0, 1) := by decide +kernel
theorem dX12_look0_110 : decode cX12_look0 110 = .ok (.getfield 162, 3) := by decide +kernel
theorem dX12_look0_113 : decode cX12_look0 113 = .ok (.bipush 8, 2) := by decide +kernel
theorem dX12_look0_115 : decode cX12_look0 115 = .ok (.lshl, 1) := by decide +kernel
theorem dX12_look0_116 : decode cX12_look0 116 = .ok (.aload_n 0, 1) := by decide +kernel
theorem dX12_look0_117 : decode cX12_look0 117 = .ok (.aload_n 0, 1) := by decide +kernel
theorem dX12_look0_118 : decode cX12_look0 118 = .ok (.getfield 200, 3) := by decide +kernel
theorem dX12_look0_121 : decode cX12_look0 121 = .ok (.invokevirtual 203, 3) := by decide +kernel
theorem dX12_look0_124 : decode cX12_look0 124 = .ok (.i2l, 1) := by decide +kernel
theorem dX12_look0_125 : decode cX12_look0 125 = .ok (.lor, 1) := by decide +kernel
theorem dX12_look0_126 : decode cX12_look0 126 = .ok (.putfield 162, 3) := by decide +kernel
theorem dX12_look0_129 : decode cX12_look0 129 = .ok (.iinc 2 1, 3) := by decide +kernel
theorem dX12_look0_132 : decode cX12_look0 132 = .ok (.aload_n 0, 1) := by decide +kernel
theorem dX12_look0_133 : decode cX12_look0 133 = .ok (.dup, 1) := by decide +kernel
theorem dX12_look0_134 : decode cX12_look0 134 = .ok (.getfield 200, 3) := by decide +kernel
theorem dX12_look0_137 : decode cX12_look0 137 = .ok (.iconst 1, 1) := by decide +kernel
theorem dX12_look0_138 : decode cX12_look0 138 = .ok (.iadd, 1) := by decide +kernel
theorem dX12_look0_139 : decode cX12_look0 139 = .ok (.putfield 200, 3) := by decide +kernel
theorem dX12_look0_142 : decode cX12_look0 142 = .ok (.goto (-54), 3) := by decide +kernel
theorem dX12_look0_145 : decode cX12_look0 145 = .ok (.iload_n 2, 1) := by decide +kernel
theorem dX12_look0_146 : decode cX12_look0 146 = .ok (.bipush 6, 2) := by decide +kernel
theorem dX12_look0_148 : decode cX12_look0 148 = .ok (.if_icmp .gt 11, 3) := by decide +kernel
theorem dX12_look0_151 : decode cX12_look0 151 = .ok (.aload_n 0, 1) := by decide +kernel
theorem dX12_look0_152 : decode cX12_look0 152 = .ok (.aload_n 0, 1) := by decide +kernel
theorem dX12_look0_153 : decode cX12_look0 153 = .ok (.invokevirtual 213, 3) := by decide +kernel
theorem dX12_look0_156 : decode cX12_look0 156 = .ok (.putfield 210, 3) := by decide +kernel
theorem dX12_look0_159 : decode cX12_look0 159 = .ok (.goto 281, 3) := by decide +kernel
theorem dX12_look0_162 : decode cX12_look0 162 = .ok (.iload_n 1, 1) := by decide +kernel
theorem dX12_look0_163 : decode cX12_look0 163 = .ok (.bipush 48, 2) := by decide +kernel
theorem dX12_look0_165 : decode cX12_look0 165 = .ok (.bipush 57, 2) := by decide +kernel
theorem dX12_look0_167 : decode cX12_look0 167 = .ok (.invokestatic 154, 3) := by decide +kernel
theorem dX12_look0_170 : decode cX12_look0 170 = .ok (.ifCond .eq 99, 3) := by decide +kernel
theorem dX12_look0_173 : decode cX12_look0 173 = .ok (.iconst 0, 1) := by decide +kernel
theorem dX12_look0_174 : decode cX12_look0 174 = .ok (.istore_n 2, 1) := by decide +kernel
theorem dX12_look0_175 : decode cX12_look0 175 = .ok (.aload_n 0, 1) := by decide +kernel
theorem dX12_look0_176 : decode cX12_look0 176 = .ok (.iconst 0, 1) := by decide +kernel
theorem dX12_look0_177 : decode cX12_look0 177 = .ok (.putfield 217, 3) := by decide +kernel
theorem dX12_look0_180 : decode cX12_look0 180 = .ok (.aload_n 0, 1) := by decide +kernel
theorem dX12_look0_181 : decode cX12_look0 181 = .ok (.aload_n 0, 1) := by decide +kernel
theorem dX12_look0_182 : decode cX12_look0 182 = .ok (.getfield 200, 3) := by decide +kernel
theorem dX12_look0_185 : decode cX12_look0 185 = .ok (.invokevirtual 203, 3) := by decide +kernel
theorem dX12_look0_188 : decode cX12_look0 188 = .ok (.bipush 48, 2) := by decide +kernel
theorem dX12_look0_190 : decode cX12_look0 190 = .ok (.bipush 57, 2) := by decide +kernel
theorem dX12_look0_192 : decode cX12_look0 192 = .ok (.invokestatic 154, 3) := by decide +kernel
theorem dX12_look0_195 : decode cX12_look0 195 = .ok (.ifCond .eq 47, 3) := by decide +kernel
theorem dX12_look0_198 : decode cX12_look0 198 = .ok (.iload_n 2, 1) := by decide +kernel
theorem dX12_look0_199 : decode cX12_look0 199 = .ok (.iconst 4, 1) := by decide +kernel
theorem dX12_look0_200 : decode cX12_look0 200 = .ok (.if_icmp .ge 26, 3) := by decide +kernel
theorem dX12_look0_203 : decode cX12_look0 203 = .ok (.aload_n 0, 1) := by decide +kernel
theorem dX12_look0_204 : decode cX12_look0 204 = .ok (.bipush 10, 2) := by decide +kernel
theorem dX12_look0_206 : decode cX12_look0 206 = .ok (.aload_n 0, 1) := by decide +kernel
theorem dX12_look0_207 : decode cX12_look0 207 = .ok (.getfield 217, 3) := by decide +kernel
theorem dX12_look0_210 : decode cX12_look0 210 = .ok (.imul, 1) := by decide +kernel
theorem dX12_look0_211 : decode cX12_look0 211 = .ok (.aload_n 0, 1) := by decide +kernel
theorem dX12_look0_212 : decode cX12_look0 212 = .ok (.aload_n 0, 1) := by decide +kernel
theorem dX12_look0_213 : decode cX12_look0 213 = .ok (.getfield 200, 3) := by decide +kernel
theorem dX12_look0_216 : decode cX12_look0 216 = .ok (.invokevirtual 203, 3) := by decide +kernel
theorem dX12_look0_219 : decode cX12_look0 219 = .ok (.iadd, 1) := by decide +kernel
theorem dX12_look0_220 : decode cX12_look0 220 = .ok (.bipush 48, 2) := by decide +kernel
theorem dX12_look0_222 : decode cX12_look0 222 = .ok (.isub, 1) := by decide +kernel
theorem dX12_look0_223 : decode cX12_look0 223 = .ok (.putfield 217, 3) := by decide +kernel
theorem dX12_look0_226 : decode cX12_look0 226 = .ok (.iinc 2 1, 3) := by decide +kernel
theorem dX12_look0_229 : decode cX12_look0 229 = .ok (.aload_n 0, 1) := by decide +kernel
theorem dX12_look0_230 : decode cX12_look0 230 = .ok (.dup, 1) := by decide +kernel
theorem dX12_look0_231 : decode cX12_look0 231 = .ok (.getfield 200, 3) := by decide +kernel
theorem dX12_look0_234 : decode cX12_look0 234 = .ok (.iconst 1, 1) := by decide +kernel
theorem dX12_look0_235 : decode cX12_look0 235 = .ok (.iadd, 1) := by decide +kernel
theorem dX12_look0_236 : decode cX12_look0 236 = .ok (.putfield 200, 3) := by decide +kernel
theorem dX12_look0_239 : decode cX12_look0 239 = .ok (.goto (-59), 3) := by decide +kernel
theorem dX12_look0_242 : decode cX12_look0 242 = .ok (.iload_n 2, 1) := by decide +kernel
theorem dX12_look0_243 : decode cX12_look0 243 = .ok (.iconst 4, 1) := by decide +kernel
theorem dX12_look0_244 : decode cX12_look0 244 = .ok (.if_icmp .gt 22, 3) := by decide +kernel
theorem dX12_look0_247 : decode cX12_look0 247 = .ok (.aload_n 0, 1) := by decide +kernel
theorem dX12_look0_248 : decode cX12_look0 248 = .ok (.aload_n 0, 1) := by decide +kernel
theorem dX12_look0_249 : decode cX12_look0 249 = .ok (.getfield 200, 3) := by decide +kernel
theorem dX12_look0_252 : decode cX12_look0 252 = .ok (.invokevirtual 203, 3) := by decide +kernel
theorem dX12_look0_255 : decode cX12_look0 255 = .ok (.invokestatic 220, 3) := by decide +kernel
theorem dX12_look0_258 : decode cX12_look0 258 = .ok (.ifCond .ne 8, 3) := by decide +kernel
theorem dX12_look0_261 : decode cX12_look0 261 = .ok (.aload_n 0, 1) := by decide +kernel
theorem dX12_look0_262 : decode cX12_look0 262 = .ok (.iconst 3, 1) := by decide +kernel
theorem dX12_look0_263 : decode cX12_look0 263 = .ok (.putfield 210, 3) := by decide +kernel
theorem dX12_look0_266 : decode cX12_look0 266 = .ok (.goto 174, 3) := by decide +kernel
theorem dX12_look0_269 : decode cX12_look0 269 = .ok (.aload_n 0, 1) := by decide +kernel
theorem dX12_look0_270 : decode cX12_look0 270 = .ok (.dup, 1) := by decide +kernel
theorem dX12_look0_271 : decode cX12_look0 271 = .ok (.getfield 200, 3) := by decide +kernel
theorem dX12_look0_274 : decode cX12_look0 274 = .ok (.iconst 1, 1) := by decide +kernel
theorem dX12_look0_275 : decode cX12_look0 275 = .ok (.iadd, 1) := by decide +kernel
theorem dX12_look0_276 : decode cX12_look0 276 = .ok (.putfield 200, 3) := by decide +kernel
theorem dX12_look0_279 : decode cX12_look0 279 = .ok (.iload_n 1, 1) := by decide +kernel
theorem dX12_look0_280 : decode cX12_look0 280 = .ok (.bipush 40, 2) := by decide +kernel
theorem dX12_look0_282 : decode cX12_look0 282 = .ok (.if_icmp .eq 105, 3) := by decide +kernel
theorem dX12_look0_285 : decode cX12_look0 285 = .ok (.iload_n 1, 1) := by decide +kernel
theorem dX12_look0_286 : decode cX12_look0 286 = .ok (.bipush 41, 2) := by decide +kernel
theorem dX12_look0_288 : decode cX12_look0 288 = .ok (.if_icmp .eq 99, 3) := by decide +kernel
theorem dX12_look0_291 : decode cX12_look0 291 = .ok (.iload_n 1, 1) := by decide +kernel
theorem dX12_look0_292 : decode cX12_look0 292 = .ok (.bipush 123, 2) := by decide +kernel
theorem dX12_look0_294 : decode cX12_look0 294 = .ok (.if_icmp .eq 93, 3) := by decide +kernel
theorem dX12_look0_297 : decode cX12_look0 297 = .ok (.iload_n 1, 1) := by decide +kernel
theorem dX12_look0_298 : decode cX12_look0 298 = .ok (.bipush 125, 2) := by decide +kernel
theorem dX12_look0_300 : decode cX12_look0 300 = .ok (.if_icmp .eq 87, 3) := by decide +kernel
theorem dX12_look0_303 : decode cX12_look0 303 = .ok (.iload_n 1, 1) := by decide +kernel
theorem dX12_look0_304 : decode cX12_look0 304 = .ok (.bipush 44, 2) := by decide +kernel
theorem dX12_look0_306 : decode cX12_look0 306 = .ok (.if_icmp .eq 81, 3) := by decide +kernel
theorem dX12_look0_309 : decode cX12_look0 309 = .ok (.iload_n 1, 1) := by decide +kernel
theorem dX12_look0_310 : decode cX12_look0 310 = .ok (.bipush 59, 2) := by decide +kernel
theorem dX12_look0_312 : decode cX12_look0 312 = .ok (.if_icmp .eq 75, 3) := by decide +kernel
theorem dX12_look0_315 : decode cX12_look0 315 = .ok (.iload_n 1, 1) := by decide +kernel
theorem dX12_look0_316 : decode cX12_look0 316 = .ok (.bipush 58, 2) := by decide +kernel
theorem dX12_look0_318 : decode cX12_look0 318 = .ok (.if_icmp .eq 69, 3) := by decide +kernel
theorem dX12_look0_321 : decode cX12_look0 321 = .ok (.iload_n 1, 1) := by decide +kernel
theorem dX12_look0_322 : decode cX12_look0 322 = .ok (.bipush 46, 2) := by decide +kernel
theorem dX12_look0_324 : decode cX12_look0 324 = .ok (.if_icmp .eq 63, 3) := by decide +kernel
theorem dX12_look0_327 : decode cX12_look0 327 = .ok (.iload_n 1, 1) := by decide +kernel
theorem dX12_look0_328 : decode cX12_look0 328 = .ok (.bipush 61, 2) := by decide +kernel
theorem dX12_look0_330 : decode cX12_look0 330 = .ok (.if_icmp .eq 57, 3) := by decide +kernel
theorem dX12_look0_333 : decode cX12_look0 333 = .ok (.iload_n 1, 1) := by decide +kernel
theorem dX12_look0_334 : decode cX12_look0 334 = .ok (.bipush 33, 2) := by decide +kernel
theorem dX12_look0_336 : decode cX12_look0 336 = .ok (.if_icmp .eq 51, 3) := by decide +kernel
theorem dX12_look0_339 : decode cX12_look0 339 = .ok (.iload_n 1, 1) := by decide +kernel
theorem dX12_look0_340 : decode cX12_look0 340 = .ok (.bipush 63, 2) := by decide +kernel
theorem dX12_look0_342 : decode cX12_look0 342 = .ok (.if_icmp .eq 45, 3) := by decide +kernel
theorem dX12_look0_345 : decode cX12_look0 345 = .ok (.iload_n 1, 1) := by decide +kernel
theorem dX12_look0_346 : decode cX12_look0 346 = .ok (.bipush 62, 2) := by decide +kernel
theorem dX12_look0_348 : decode cX12_look0 348 = .ok (.if_icmp .eq 39, 3) := by decide +kernel
theorem dX12_look0_351 : decode cX12_look0 351 = .ok (.iload_n 1, 1) := by decide +kernel
theorem dX12_look0_352 : decode cX12_look0 352 = .ok (.bipush 60, 2) := by decide +kernel
theorem dX12_look0_354 : decode cX12_look0 354 = .ok (.if_icmp .eq 33, 3) := by decide +kernel
theorem dX12_look0_357 : decode cX12_look0 357 = .ok (.iload_n 1, 1) := by decide +kernel
theorem dX12_look0_358 : decode cX12_look0 358 = .ok (.bipush 43, 2) := by decide +kernel
theorem dX12_look0_360 : decode cX12_look0 360 = .ok (.if_icmp .eq 27, 3) := by decide +kernel
theorem dX12_look0_363 : decode cX12_look0 363 = .ok (.iload_n 1, 1) := by decide +kernel
theorem dX12_look0_364 : decode cX12_look0 364 = .ok (.bipush 45, 2) := by decide +kernel
theorem dX12_look0_366 : decode cX12_look0 366 = .ok (.if_icmp .eq 21, 3) := by decide +kernel
theorem dX12_look0_369 : decode cX12_look0 369 = .ok (.iload_n 1, 1) := by decide +kernel
theorem dX12_look0_370 : decode cX12_look0 370 = .ok (.bipush 42, 2) := by decide +kernel
theorem dX12_look0_372 : decode cX12_look0 372 = .ok (.if_icmp .eq 15, 3) := by decide +kernel
theorem dX12_look0_375 : decode cX12_look0 375 = .ok (.iload_n 1, 1) := by decide +kernel
theorem dX12_look0_376 : decode cX12_look0 376 = .ok (.bipush 38, 2) := by decide +kernel
theorem dX12_look0_378 : decode cX12_look0 378 = .ok (.if_icmp .eq 9, 3) := by decide +kernel
theorem dX12_look0_381 : decode cX12_look0 381 = .ok (.iload_n 1, 1) := by decide +kernel
theorem dX12_look0_382 : decode cX12_look0 382 = .ok (.bipush 124, 2) := by decide +kernel
theorem dX12_look0_384 : decode cX12_look0 384 = .ok (.if_icmp .ne 7, 3) := by decide +kernel
theorem dX12_look0_387 : decode cX12_look0 387 = .ok (.iconst 1, 1) := by decide +kernel
theorem dX12_look0_388 : decode cX12_look0 388 = .ok (.goto 4, 3) := by decide +kernel
theorem dX12_look0_391 : decode cX12_look0 391 = .ok (.iconst 0, 1) := by decide +kernel
theorem dX12_look0_392 : decode cX12_look0 392 = .ok (.istore_n 2, 1) := by decide +kernel
theorem dX12_look0_393 : decode cX12_look0 393 = .ok (.iload_n 2, 1) := by decide +kernel
theorem dX12_look0_394 : decode cX12_look0 394 = .ok (.ifCond .eq 12, 3) := by decide +kernel
theorem dX12_look0_397 : decode cX12_look0 397 = .ok (.aload_n 0, 1) := by decide +kernel
theorem dX12_look0_398 : decode cX12_look0 398 = .ok (.sipush 400, 3) := by decide +kernel
theorem dX12_look0_401 : decode cX12_look0 401 = .ok (.iload_n 1, 1) := by decide +kernel
theorem dX12_look0_402 : decode cX12_look0 402 = .ok (.iadd, 1) := by decide +kernel
theorem dX12_look0_403 : decode cX12_look0 403 = .ok (.putfield 210, 3) := by decide +kernel
theorem dX12_look0_406 : decode cX12_look0 406 = .ok (.iload_n 1, 1) := by decide +kernel
theorem dX12_look0_407 : decode cX12_look0 407 = .ok (.bipush 61, 2) := by decide +kernel
theorem dX12_look0_409 : decode cX12_look0 409 = .ok (.if_icmp .ne 31, 3) := by decide +kernel
theorem dX12_look0_412 : decode cX12_look0 412 = .ok (.aload_n 0, 1) := by decide +kernel
theorem dX12_look0_413 : decode cX12_look0 413 = .ok (.aload_n 0, 1) := by decide +kernel
theorem dX12_look0_414 : decode cX12_look0 414 = .ok (.getfield 200, 3) := by decide +kernel
theorem dX12_look0_417 : decode cX12_look0 417 = .ok (.invokevirtual 203, 3) := by decide +kernel
theorem dX12_look0_420 : decode cX12_look0 420 = .ok (.bipush 61, 2) := by decide +kernel
theorem dX12_look0_422 : decode cX12_look0 422 = .ok (.if_icmp .ne 18, 3) := by decide +kernel
theorem dX12_look0_425 : decode cX12_look0 425 = .ok (.aload_n 0, 1) := by decide +kernel
theorem dX12_look0_426 : decode cX12_look0 426 = .ok (.iconst 4, 1) := by decide +kernel
theorem dX12_look0_427 : decode cX12_look0 427 = .ok (.putfield 210, 3) := by decide +kernel
theorem dX12_look0_430 : decode cX12_look0 430 = .ok (.aload_n 0, 1) := by decide +kernel
theorem dX12_look0_431 : decode cX12_look0 431 = .ok (.dup, 1) := by decide +kernel
theorem dX12_look0_432 : decode cX12_look0 432 = .ok (.getfield 200, 3) := by decide +kernel
theorem dX12_look0_435 : decode cX12_look0 435 = .ok (.iconst 1, 1) := by decide +kernel
theorem dX12_look0_436 : decode cX12_look0 436 = .ok (.iadd, 1) := by decide +kernel
theorem dX12_look0_437 : decode cX12_look0 437 = .ok (.putfield 200, 3) := by decide +kernel
theorem dX12_look0_440 : decode cX12_look0 440 = .ok (.return_, 1) := by decide +kernel
def mX12_look0_26 (k0 : iT → jT → Option (iT × jT)) (I : iT) (J : jT) : Option (iT × jT) := k0 (a_u2 I 186 2 ((I 186 2) + 1)) J
def mX12_look0_129 (k88 : iT → jT → Int32 → Int32 → Option (iT × jT)) (I : iT) (J : jT) (x1 : Int32) (x2 : Int32) : Option (iT × jT) := k88 (a_u2 I 186 2 ((I 186 2) + 1)) J x1 (x2 + 1)
def mX12_look0_159 (I : iT) (J : jT) (x1 : Int32) (x2 : Int32) : Option (iT × jT) := some (I, J)
def mX12_look0_88 : Nat → iT → jT → Int32 → Int32 → Option (iT × jT)
  | 0, _, _, _, _ => none
  | n + 1, I, J, x1, x2 => (mX12_see I (I 186 2)).bind fun q1 => (mX12_isSmall q1).bind fun q2 => if q2 = 0 then if 6 < x2 then mX12_look0_159 I J x1 x2 else (mX12_word J).bind fun q3 => mX12_look0_159 (a_u2 I 186 3 q3) J x1 x2 else if 6 ≤ x2 then mX12_look0_129 (mX12_look0_88 n) I J x1 x2 else (mX12_see I (I 186 2)).bind fun q4 => mX12_look0_129 (mX12_look0_88 n) I (a_u2 J 186 6 (((J 186 6) <<< ((Int32.toInt64 8) &&& 63)) ||| q4.toInt64)) x1 x2
def mX12_look0_226 (k180 : iT → jT → Int32 → Int32 → Option (iT × jT)) (I : iT) (J : jT) (x1 : Int32) (x2 : Int32) : Option (iT × jT) := k180 (a_u2 I 186 2 ((I 186 2) + 1)) J x1 (x2 + 1)
def mX12_look0_266 (I : iT) (J : jT) (x1 : Int32) (x2 : Int32) : Option (iT × jT) := some (I, J)
def mX12_look0_180 : Nat → iT → jT → Int32 → Int32 → Option (iT × jT)
  | 0, _, _, _, _ => none
  | n + 1, I, J, x1, x2 => (mX12_see I (I 186 2)).bind fun q5 => (mX12_isIn q5 48 57).bind fun q6 => if q6 = 0 then if 4 < x2 then mX12_look0_266 I J x1 x2 else (mX12_see I (I 186 2)).bind fun q7 => (mX12_isLetter q7).bind fun q8 => if q8 = 0 then mX12_look0_266 (a_u2 I 186 3 3) J x1 x2 else mX12_look0_266 I J x1 x2 else if 4 ≤ x2 then mX12_look0_226 (mX12_look0_180 n) I J x1 x2 else (mX12_see I (I 186 2)).bind fun q9 => mX12_look0_226 (mX12_look0_180 n) (a_u2 I 186 5 (((10 * (I 186 5)) + q9) - 48)) J x1 x2
def mX12_look0_406 (I : iT) (J : jT) (x1 : Int32) (x2 : Int32) : Option (iT × jT) := if x1 = 61 then (mX12_see I (I 186 2)).bind fun q10 => if q10 = 61 then some (a_u2 (a_u2 I 186 3 4) 186 2 (((a_u2 I 186 3 4) 186 2) + 1), J) else some (I, J) else some (I, J)
def mX12_look0_392 (I : iT) (J : jT) (x1 : Int32) (s0 : Int32) : Option (iT × jT) := if s0 = 0 then mX12_look0_406 I J x1 s0 else mX12_look0_406 (a_u2 I 186 3 (400 + x1)) J x1 s0
def mX12_look0_387 (I : iT) (J : jT) (x1 : Int32) : Option (iT × jT) := mX12_look0_392 I J x1 1
def mX12_look0_0 : Nat → iT → jT → Option (iT × jT)
  | 0, _, _ => none
  | n + 1, I, J => (mX12_see I (I 186 2)).bind fun q11 => if q11 = 32 then mX12_look0_26 (mX12_look0_0 n) I J else (mX12_see I (I 186 2)).bind fun q12 => if q12 = 10 then mX12_look0_26 (mX12_look0_0 n) I J else (mX12_see (a_u2 I 186 4 (I 186 2)) ((a_u2 I 186 4 (I 186 2)) 186 2)).bind fun q13 => if q13 = ((-1)) then some (a_u2 (a_u2 (a_u2 I 186 4 (I 186 2)) 186 3 1) 186 3 0, J) else (mX12_isSmall q13).bind fun q14 => if q14 = 0 then (mX12_isIn q13 48 57).bind fun q15 => if q15 = 0 then if q13 = 40 then mX12_look0_387 (a_u2 (a_u2 (a_u2 I 186 4 (I 186 2)) 186 3 1) 186 2 (((a_u2 (a_u2 I 186 4 (I 186 2)) 186 3 1) 186 2) + 1)) J q13 else if q13 = 41 then mX12_look0_387 (a_u2 (a_u2 (a_u2 I 186 4 (I 186 2)) 186 3 1) 186 2 (((a_u2 (a_u2 I 186 4 (I 186 2)) 186 3 1) 186 2) + 1)) J q13 else if q13 = 123 then mX12_look0_387 (a_u2 (a_u2 (a_u2 I 186 4 (I 186 2)) 186 3 1) 186 2 (((a_u2 (a_u2 I 186 4 (I 186 2)) 186 3 1) 186 2) + 1)) J q13 else if q13 = 125 then mX12_look0_387 (a_u2 (a_u2 (a_u2 I 186 4 (I 186 2)) 186 3 1) 186 2 (((a_u2 (a_u2 I 186 4 (I 186 2)) 186 3 1) 186 2) + 1)) J q13 else if q13 = 44 then mX12_look0_387 (a_u2 (a_u2 (a_u2 I 186 4 (I 186 2)) 186 3 1) 186 2 (((a_u2 (a_u2 I 186 4 (I 186 2)) 186 3 1) 186 2) + 1)) J q13 else if q13 = 59 then mX12_look0_387 (a_u2 (a_u2 (a_u2 I 186 4 (I 186 2)) 186 3 1) 186 2 (((a_u2 (a_u2 I 186 4 (I 186 2)) 186 3 1) 186 2) + 1)) J q13 else if q13 = 58 then mX12_look0_387 (a_u2 (a_u2 (a_u2 I 186 4 (I 186 2)) 186 3 1) 186 2 (((a_u2 (a_u2 I 186 4 (I 186 2)) 186 3 1) 186 2) + 1)) J q13 else if q13 = 46 then mX12_look0_387 (a_u2 (a_u2 (a_u2 I 186 4 (I 186 2)) 186 3 1) 186 2 (((a_u2 (a_u2 I 186 4 (I 186 2)) 186 3 1) 186 2) + 1)) J q13 else if q13 = 61 then mX12_look0_387 (a_u2 (a_u2 (a_u2 I 186 4 (I 186 2)) 186 3 1) 186 2 (((a_u2 (a_u2 I 186 4 (I 186 2)) 186 3 1) 186 2) + 1)) J q13 else if q13 = 33 then mX12_look0_387 (a_u2 (a_u2 (a_u2 I 186 4 (I 186 2)) 186 3 1) 186 2 (((a_u2 (a_u2 I 186 4 (I 186 2)) 186 3 1) 186 2) + 1)) J q13 else if q13 = 63 then mX12_look0_387 (a_u2 (a_u2 (a_u2 I 186 4 (I 186 2)) 186 3 1) 186 2 (((a_u2 (a_u2 I 186 4 (I 186 2)) 186 3 1) 186 2) + 1)) J q13 else if q13 = 62 then mX12_look0_387 (a_u2 (a_u2 (a_u2 I 186 4 (I 186 2)) 186 3 1) 186 2 (((a_u2 (a_u2 I 186 4 (I 186 2)) 186 3 1) 186 2) + 1)) J q13 else if q13 = 60 then mX12_look0_387 (a_u2 (a_u2 (a_u2 I 186 4 (I 186 2)) 186 3 1) 186 2 (((a_u2 (a_u2 I 186 4 (I 186 2)) 186 3 1) 186 2) + 1)) J q13 else if q13 = 43 then mX12_look0_387 (a_u2 (a_u2 (a_u2 I 186 4 (I 186 2)) 186 3 1) 186 2 (((a_u2 (a_u2 I 186 4 (I 186 2)) 186 3 1) 186 2) + 1)) J q13 else if q13 = 45 then mX12_look0_387 (a_u2 (a_u2 (a_u2 I 186 4 (I 186 2)) 186 3 1) 186 2 (((a_u2 (a_u2 I 186 4 (I 186 2)) 186 3 1) 186 2) + 1)) J q13 else if q13 = 42 then mX12_look0_387 (a_u2 (a_u2 (a_u2 I 186 4 (I 186 2)) 186 3 1) 186 2 (((a_u2 (a_u2 I 186 4 (I 186 2)) 186 3 1) 186 2) + 1)) J q13 else if q13 = 38 then mX12_look0_387 (a_u2 (a_u2 (a_u2 I 186 4 (I 186 2)) 186 3 1) 186 2 (((a_u2 (a_u2 I 186 4 (I 186 2)) 186 3 1) 186 2) + 1)) J q13 else if q13 = 124 then mX12_look0_387 (a_u2 (a_u2 (a_u2 I 186 4 (I 186 2)) 186 3 1) 186 2 (((a_u2 (a_u2 I 186 4 (I 186 2)) 186 3 1) 186 2) + 1)) J q13 else mX12_look0_392 (a_u2 (a_u2 (a_u2 I 186 4 (I 186 2)) 186 3 1) 186 2 (((a_u2 (a_u2 I 186 4 (I 186 2)) 186 3 1) 186 2) + 1)) J q13 0 else mX12_look0_180 LF (a_u2 (a_u2 (a_u2 I 186 4 (I 186 2)) 186 3 1) 186 5 0) J q13 0 else mX12_look0_88 LF (a_u2 (a_u2 I 186 4 (I 186 2)) 186 3 1) (a_u2 J 186 6 0) q13 0
def mX12_look0 (I : iT) (J : jT) : Option (iT × jT) := mX12_look0_0 LF I J
set_option maxRecDepth 100000 in
set_option maxHeartbeats 4000000 in
theorem tX12_look0_26 {l : Launch} {K : a_KT} {g : a_GT} {IA : iT} (hko : a_kok K) {F : fT} {k0 : iT → jT → Option (iT × jT)} (hk0 : ∀ (I : iT) (J : jT) (_ : FOK F) (q : iT × jT), k0 I J = some q → E l K g 3 0 0 yX12_look0 cX12_look0 3 none 0 [.ref 186, .null, .null] [] (hg IA I J F) (fun r2 h2 => r2 = none ∧ h2 = hg IA q.1 q.2 F)) (I : iT) (J : jT) (hF : FOK F) (q : iT × jT) (hm : mX12_look0_26 k0 I J = some q) : E l K g 3 0 0 yX12_look0 cX12_look0 3 none 26 [.ref 186, .null, .null] [] (hg IA I J F) (fun r2 h2 => r2 = none ∧ h2 = hg IA q.1 q.2 F) := by
  unfold mX12_look0_26 at hm
  refine e_aload_n (i := 0) rfl dX12_look0_26 ?_
  refine e_dup rfl dX12_look0_27 ?_
  refine l_getI 12 2 dX12_look0_28 fl_RX12_200 rfl iz_186 (by decide) ?_
  refine e_iconst (v := 1) (by decide) dX12_look0_31 ?_
  refine e_iadd dX12_look0_32 ?_
  refine l_putI 12 2 dX12_look0_33 fl_RX12_200 rfl rfl iz_186 (by decide) ?_
  refine e_goto 0 dX12_look0_36 (by decide) ?_
  refine e_weak [.ref 186, .null, .null] ⟨rfl, ⟨trivial, ⟨trivial, trivial⟩⟩⟩ ?_
  exact hk0 (a_u2 I 186 2 ((I 186 2) + 1)) J hF _ hm
set_option maxRecDepth 100000 in
set_option maxHeartbeats 4000000 in
theorem tX12_look0_129 {l : Launch} {K : a_KT} {g : a_GT} {IA : iT} (hko : a_kok K) {F : fT} {k88 : iT → jT → Int32 → Int32 → Option (iT × jT)} (hk88 : ∀ (I : iT) (J : jT) (x1 : Int32) (x2 : Int32) (_ : FOK F) (q : iT × jT), k88 I J x1 x2 = some q → E l K g 3 0 0 yX12_look0 cX12_look0 3 none 88 [.ref 186, .int x1, .int x2] [] (hg IA I J F) (fun r2 h2 => r2 = none ∧ h2 = hg IA q.1 q.2 F)) (I : iT) (J : jT) (x1 : Int32) (x2 : Int32) (hF : FOK F) (q : iT × jT) (hm : mX12_look0_129 k88 I J x1 x2 = some q) : E l K g 3 0 0 yX12_look0 cX12_look0 3 none 129 [.ref 186, .int x1, .int x2] [] (hg IA I J F) (fun r2 h2 => r2 = none ∧ h2 = hg IA q.1 q.2 F) := by
  unfold mX12_look0_129 at hm
  refine q_iinc (i := 2) (x2 + 1) rfl ic_1 rfl dX12_look0_129 ?_
  refine e_aload_n (i := 0) rfl dX12_look0_132 ?_
  refine e_dup rfl dX12_look0_133 ?_
  refine l_getI 12 2 dX12_look0_134 fl_RX12_200 rfl iz_186 (by decide) ?_
  refine e_iconst (v := 1) (by decide) dX12_look0_137 ?_
  refine e_iadd dX12_look0_138 ?_
  refine l_putI 12 2 dX12_look0_139 fl_RX12_200 rfl rfl iz_186 (by decide) ?_
  refine e_goto 88 dX12_look0_142 (by decide) ?_
  refine e_weak [.ref 186, .int x1, .int (x2 + 1)] ⟨rfl, ⟨rfl, ⟨rfl, trivial⟩⟩⟩ ?_
  exact hk88 (a_u2 I 186 2 ((I 186 2) + 1)) J x1 (x2 + 1) hF _ hm
set_option maxRecDepth 100000 in
set_option maxHeartbeats 4000000 in
theorem tX12_look0_159 {l : Launch} {K : a_KT} {g : a_GT} {IA : iT} (hko : a_kok K) {F : fT} (I : iT) (J : jT) (x1 : Int32) (x2 : Int32) (hF : FOK F) (q : iT × jT) (hm : mX12_look0_159 I J x1 x2 = some q) : E l K g 3 0 0 yX12_look0 cX12_look0 3 none 159 [.ref 186, .int x1, .int x2] [] (hg IA I J F) (fun r2 h2 => r2 = none ∧ h2 = hg IA q.1 q.2 F) := by
  unfold mX12_look0_159 at hm
  refine e_goto 440 dX12_look0_159 (by decide) ?_
  refine e_vret dX12_look0_440 rfl ?_
  have hm := some_in hm
  subst hm
  exact ⟨rfl, rfl⟩
set_option maxRecDepth 100000 in
set_option maxHeartbeats 4000000 in
theorem tX12_look0_88 {l : Launch} {K : a_KT} {g : a_GT} {IA : iT} (hko : a_kok K) {F : fT} : ∀ (n : Nat) (I : iT) (J : jT) (x1 : Int32) (x2 : Int32) (hF : FOK F) (q : iT × jT), mX12_look0_88 n I J x1 x2 = some q → E l K g 3 0 0 yX12_look0 cX12_look0 3 none 88 [.ref 186, .int x1, .int x2] [] (hg IA I J F) (fun r2 h2 => r2 = none ∧ h2 = hg IA q.1 q.2 F) := by
  intro n
  induction n with
  | zero => intro I J x1 x2 hF q hm; cases hm
  | succ n ih =>
    intro I J x1 x2 hF q hm
    rw [mX12_look0_88] at hm
    refine e_aload_n (i := 0) rfl dX12_look0_88 ?_
    refine e_aload_n (i := 0) rfl dX12_look0_89 ?_
    refine l_getI 12 2 dX12_look0_90 fl_RX12_200 rfl iz_186 (by decide) ?_
    obtain ⟨q1, eq1, hm⟩ := ob_some hm
    refine e_cV1 hko dX12_look0_93 ml_RX12_203 iz_186 (by decide) rfl (by omega) (Nat.le_of_ble_eq_true rfl) (tX12_see hko I J F hF (I 186 2) _ eq1) ?_
    rintro _ _ ⟨rfl, rfl⟩
    obtain ⟨q2, eq2, hm⟩ := ob_some hm
    refine e_cS1 hko dX12_look0_96 ml_RX12_158 (by omega) (Nat.le_of_ble_eq_true rfl) (tX12_isSmall hko I J F hF q1 _ eq2) ?_
    rintro _ _ ⟨rfl, rfl⟩
    refine e_if_eq 145 dX12_look0_99 (by decide) (fun c_99 => ?_) (fun c_99 => ?_)
    · have hm := it_p c_99 hm
      refine e_iload_n (i := 2) rfl dX12_look0_145 ?_
      refine e_bipush (v := 6) (by decide) dX12_look0_146 ?_
      refine e_icmp_gt 159 dX12_look0_148 (by decide) (fun c_148 => ?_) (fun c_148 => ?_)
      · have hm := it_p c_148 hm
        refine e_weak [.ref 186, .int x1, .int x2] ⟨rfl, ⟨rfl, ⟨rfl, trivial⟩⟩⟩ ?_
        exact tX12_look0_159 hko I J x1 x2 hF _ hm
      · have hm := it_n c_148 hm
        refine e_aload_n (i := 0) rfl dX12_look0_151 ?_
        refine e_aload_n (i := 0) rfl dX12_look0_152 ?_
        obtain ⟨q3, eq3, hm⟩ := ob_some hm
        refine e_cV0 hko dX12_look0_153 ml_RX12_213 iz_186 (by decide) rfl (by omega) (Nat.le_of_ble_eq_true rfl) (tX12_word hko I J F hF _ eq3) ?_
        rintro _ _ ⟨rfl, rfl⟩
        refine l_putI 12 3 dX12_look0_156 fl_RX12_210 rfl rfl iz_186 (by decide) ?_
        refine e_weak [.ref 186, .int x1, .int x2] ⟨rfl, ⟨rfl, ⟨rfl, trivial⟩⟩⟩ ?_
        exact tX12_look0_159 hko (a_u2 I 186 3 q3) J x1 x2 hF _ hm
    · have hm := it_n c_99 hm
      refine e_iload_n (i := 2) rfl dX12_look0_102 ?_
      refine e_bipush (v := 6) (by decide) dX12_look0_103 ?_
      refine e_icmp_ge 129 dX12_look0_105 (by decide) (fun c_105 => ?_) (fun c_105 => ?_)
      · have hm := it_p c_105 hm
        refine e_weak [.ref 186, .int x1, .int x2] ⟨rfl, ⟨rfl, ⟨rfl, trivial⟩⟩⟩ ?_
        exact tX12_look0_129 hko (ih) I J x1 x2 hF _ hm
      · have hm := it_n c_105 hm
        refine e_aload_n (i := 0) rfl dX12_look0_108 ?_
        refine e_aload_n (i := 0) rfl dX12_look0_109 ?_
        refine q_getJ 12 6 dX12_look0_110 fl_RX12_162 rfl iz_186 ?_
        refine e_bipush (v := 8) (by decide) dX12_look0_113 ?_
        refine e_lshl dX12_look0_115 ?_
        refine e_aload_n (i := 0) rfl dX12_look0_116 ?_
        refine e_aload_n (i := 0) rfl dX12_look0_117 ?_
        refine l_getI 12 2 dX12_look0_118 fl_RX12_200 rfl iz_186 (by decide) ?_
        obtain ⟨q4, eq4, hm⟩ := ob_some hm
        refine e_cV1 hko dX12_look0_121 ml_RX12_203 iz_186 (by decide) rfl (by omega) (Nat.le_of_ble_eq_true rfl) (tX12_see hko I J F hF (I 186 2) _ eq4) ?_
        rintro _ _ ⟨rfl, rfl⟩
        refine e_i2l dX12_look0_124 ?_
        refine e_lor dX12_look0_125 ?_
        refine q_putJ 12 6 dX12_look0_126 fl_RX12_162 rfl rfl iz_186 ?_
        refine e_weak [.ref 186, .int x1, .int x2] ⟨rfl, ⟨rfl, ⟨rfl, trivial⟩⟩⟩ ?_
        exact tX12_look0_129 hko (ih) I (a_u2 J 186 6 (((J 186 6) <<< ((Int32.toInt64 8) &&& 63)) ||| q4.toInt64)) x1 x2 hF _ hm
set_option maxRecDepth 100000 in
set_option maxHeartbeats 4000000 in
theorem tX12_look0_226 {l : Launch} {K : a_KT} {g : a_GT} {IA : iT} (hko : a_kok K) {F : fT} {k180 : iT → jT → Int32 → Int32 → Option (iT × jT)} (hk180 : ∀ (I : iT) (J : jT) (x1 : Int32) (x2 : Int32) (_ : FOK F) (q : iT × jT), k180 I J x1 x2 = some q → E l K g 3 0 0 yX12_look0 cX12_look0 3 none 180 [.ref 186, .int x1, .int x2] [] (hg IA I J F) (fun r2 h2 => r2 = none ∧ h2 = hg IA q.1 q.2 F)) (I : iT) (J : jT) (x1 : Int32) (x2 : Int32) (hF : FOK F) (q : iT × jT) (hm : mX12_look0_226 k180 I J x1 x2 = some q) : E l K g 3 0 0 yX12_look0 cX12_look0 3 none 226 [.ref 186, .int x1, .int x2] [] (hg IA I J F) (fun r2 h2 => r2 = none ∧ h2 = hg IA q.1 q.2 F) := by
  unfold mX12_look0_226 at hm
  refine q_iinc (i := 2) (x2 + 1) rfl ic_1 rfl dX12_look0_226 ?_
  refine e_aload_n (i := 0) rfl dX12_look0_229 ?_
  refine e_dup rfl dX12_look0_230 ?_
  refine l_getI 12 2 dX12_look0_231 fl_RX12_200 rfl iz_186 (by decide) ?_
  refine e_iconst (v := 1) (by decide) dX12_look0_234 ?_
  refine e_iadd dX12_look0_235 ?_
  refine l_putI 12 2 dX12_look0_236 fl_RX12_200 rfl rfl iz_186 (by decide) ?_
  refine e_goto 180 dX12_look0_239 (by decide) ?_
  refine e_weak [.ref 186, .int x1, .int (x2 + 1)] ⟨rfl, ⟨rfl, ⟨rfl, trivial⟩⟩⟩ ?_
  exact hk180 (a_u2 I 186 2 ((I 186 2) + 1)) J x1 (x2 + 1) hF _ hm
set_option maxRecDepth 100000 in
set_option maxHeartbeats 4000000 in
theorem tX12_look0_266 {l : Launch} {K : a_KT} {g : a_GT} {IA : iT} (hko : a_kok K) {F : fT} (I : iT) (J : jT) (x1 : Int32) (x2 : Int32) (hF : FOK F) (q : iT × jT) (hm : mX12_look0_266 I J x1 x2 = some q) : E l K g 3 0 0 yX12_look0 cX12_look0 3 none 266 [.ref 186, .int x1, .int x2] [] (hg IA I J F) (fun r2 h2 => r2 = none ∧ h2 = hg IA q.1 q.2 F) := by
  unfold mX12_look0_266 at hm
  refine e_goto 440 dX12_look0_266 (by decide) ?_
  refine e_vret dX12_look0_440 rfl ?_
  have hm := some_in hm
  subst hm
  exact ⟨rfl, rfl⟩
set_option maxRecDepth 100000 in
set_option maxHeartbeats 4000000 in
theorem tX12_look0_180 {l : Launch} {K : a_KT} {g : a_GT} {IA : iT} (hko : a_kok K) {F : fT} : ∀ (n : Nat) (I : iT) (J : jT) (x1 : Int32) (x2 : Int32) (hF : FOK F) (q : iT × jT), mX12_look0_180 n I J x1 x2 = some q → E l K g 3 0 0 yX12_look0 cX12_look0 3 none 180 [.ref 186, .int x1, .int x2] [] (hg IA I J F) (fun r2 h2 => r2 = none ∧ h2 = hg IA q.1 q.2 F) := by
  intro n
  induction n with
  | zero => intro I J x1 x2 hF q hm; cases hm
  | succ n ih =>
    intro I J x1 x2 hF q hm
    rw [mX12_look0_180] at hm
    refine e_aload_n (i := 0) rfl dX12_look0_180 ?_
    refine e_aload_n (i := 0) rfl dX12_look0_181 ?_
    refine l_getI 12 2 dX12_look0_182 fl_RX12_200 rfl iz_186 (by decide) ?_
    obtain ⟨q5, eq5, hm⟩ := ob_some hm
    refine e_cV1 hko dX12_look0_185 ml_RX12_203 iz_186 (by decide) rfl (by omega) (Nat.le_of_ble_eq_true rfl) (tX12_see hko I J F hF (I 186 2) _ eq5) ?_
    rintro _ _ ⟨rfl, rfl⟩
    refine e_bipush (v := 48) (by decide) dX12_look0_188 ?_
    refine e_bipush (v := 57) (by decide) dX12_look0_190 ?_
    obtain ⟨q6, eq6, hm⟩ := ob_some hm
    refine e_cS3 hko dX12_look0_192 ml_RX12_154 (by omega) (Nat.le_of_ble_eq_true rfl) (tX12_isIn hko I J F hF q5 48 57 _ eq6) ?_
    rintro _ _ ⟨rfl, rfl⟩
    refine e_if_eq 242 dX12_look0_195 (by decide) (fun c_195 => ?_) (fun c_195 => ?_)
    · have hm := it_p c_195 hm
      refine e_iload_n (i := 2) rfl dX12_look0_242 ?_
      refine e_iconst (v := 4) (by decide) dX12_look0_243 ?_
      refine e_icmp_gt 266 dX12_look0_244 (by decide) (fun c_244 => ?_) (fun c_244 => ?_)
      · have hm := it_p c_244 hm
        refine e_weak [.ref 186, .int x1, .int x2] ⟨rfl, ⟨rfl, ⟨rfl, trivial⟩⟩⟩ ?_
        exact tX12_look0_266 hko I J x1 x2 hF _ hm
      · have hm := it_n c_244 hm
        refine e_aload_n (i := 0) rfl dX12_look0_247 ?_
        refine e_aload_n (i := 0) rfl dX12_look0_248 ?_
        refine l_getI 12 2 dX12_look0_249 fl_RX12_200 rfl iz_186 (by decide) ?_
        obtain ⟨q7, eq7, hm⟩ := ob_some hm
        refine e_cV1 hko dX12_look0_252 ml_RX12_203 iz_186 (by decide) rfl (by omega) (Nat.le_of_ble_eq_true rfl) (tX12_see hko I J F hF (I 186 2) _ eq7) ?_
        rintro _ _ ⟨rfl, rfl⟩
        obtain ⟨q8, eq8, hm⟩ := ob_some hm
        refine e_cS1 hko dX12_look0_255 ml_RX12_220 (by omega) (Nat.le_of_ble_eq_true rfl) (tX12_isLetter hko I J F hF q7 _ eq8) ?_
        rintro _ _ ⟨rfl, rfl⟩
        refine e_if_ne 266 dX12_look0_258 (by decide) (fun c_258 => ?_) (fun c_258 => ?_)
        · have hm := it_n c_258 hm
          refine e_weak [.ref 186, .int x1, .int x2] ⟨rfl, ⟨rfl, ⟨rfl, trivial⟩⟩⟩ ?_
          exact tX12_look0_266 hko I J x1 x2 hF _ hm
        · have hm := it_p c_258 hm
          refine e_aload_n (i := 0) rfl dX12_look0_261 ?_
          refine e_iconst (v := 3) (by decide) dX12_look0_262 ?_
          refine l_putI 12 3 dX12_look0_263 fl_RX12_210 rfl rfl iz_186 (by decide) ?_
          refine e_weak [.ref 186, .int x1, .int x2] ⟨rfl, ⟨rfl, ⟨rfl, trivial⟩⟩⟩ ?_
          exact tX12_look0_266 hko (a_u2 I 186 3 3) J x1 x2 hF _ hm
    · have hm := it_n c_195 hm
      refine e_iload_n (i := 2) rfl dX12_look0_198 ?_
      refine e_iconst (v := 4) (by decide) dX12_look0_199 ?_
      refine e_icmp_ge 226 dX12_look0_200 (by decide) (fun c_200 => ?_) (fun c_200 => ?_)
      · have hm := it_p c_200 hm
        refine e_weak [.ref 186, .int x1, .int x2] ⟨rfl, ⟨rfl, ⟨rfl, trivial⟩⟩⟩ ?_
        exact tX12_look0_226 hko (ih) I J x1 x2 hF _ hm
      · have hm := it_n c_200 hm
        refine e_aload_n (i := 0) rfl dX12_look0_203 ?_
        refine e_bipush (v := 10) (by decide) dX12_look0_204 ?_
        refine e_aload_n (i := 0) rfl dX12_look0_206 ?_
        refine l_getI 12 5 dX12_look0_207 fl_RX12_217 rfl iz_186 (by decide) ?_
        refine e_imul dX12_look0_210 ?_
        refine e_aload_n (i := 0) rfl dX12_look0_211 ?_
        refine e_aload_n (i := 0) rfl dX12_look0_212 ?_
        refine l_getI 12 2 dX12_look0_213 fl_RX12_200 rfl iz_186 (by decide) ?_
        obtain ⟨q9, eq9, hm⟩ := ob_some hm
        refine e_cV1 hko dX12_look0_216 ml_RX12_203 iz_186 (by decide) rfl (by omega) (Nat.le_of_ble_eq_true rfl) (tX12_see hko I J F hF (I 186 2) _ eq9) ?_
        rintro _ _ ⟨rfl, rfl⟩
        refine e_iadd dX12_look0_219 ?_
        refine e_bipush (v := 48) (by decide) dX12_look0_220 ?_
        refine e_isub dX12_look0_222 ?_
        refine l_putI 12 5 dX12_look0_223 fl_RX12_217 rfl rfl iz_186 (by decide) ?_
        refine e_weak [.ref 186, .int x1, .int x2] ⟨rfl, ⟨rfl, ⟨rfl, trivial⟩⟩⟩ ?_
        exact tX12_look0_226 hko (ih) (a_u2 I 186 5 (((10 * (I 186 5)) + q9) - 48)) J x1 x2 hF _ hm
set_option maxRecDepth 100000 in
set_option maxHeartbeats 4000000 in
theorem tX12_look0_406 {l : Launch} {K : a_KT} {g : a_GT} {IA : iT} (hko : a_kok K) {F : fT} (I : iT) (J : jT) (x1 : Int32) (x2 : Int32) (hF : FOK F) (q : iT × jT) (hm : mX12_look0_406 I J x1 x2 = some q) : E l K g 3 0 0 yX12_look0 cX12_look0 3 none 406 [.ref 186, .int x1, .int x2] [] (hg IA I J F) (fun r2 h2 => r2 = none ∧ h2 = hg IA q.1 q.2 F) := by
  unfold mX12_look0_406 at hm
  refine e_iload_n (i := 1) rfl dX12_look0_406 ?_
  refine e_bipush (v := 61) (by decide) dX12_look0_407 ?_
  refine e_icmp_ne 440 dX12_look0_409 (by decide) (fun c_409 => ?_) (fun c_409 => ?_)
  · have hm := it_n c_409 hm
    refine e_vret dX12_look0_440 rfl ?_
    have hm := some_in hm
    subst hm
    exact ⟨rfl, rfl⟩
  · have hm := it_p c_409 hm
    refine e_aload_n (i := 0) rfl dX12_look0_412 ?_
    refine e_aload_n (i := 0) rfl dX12_look0_413 ?_
    refine l_getI 12 2 dX12_look0_414 fl_RX12_200 rfl iz_186 (by decide) ?_
    obtain ⟨q10, eq10, hm⟩ := ob_some hm
    refine e_cV1 hko dX12_look0_417 ml_RX12_203 iz_186 (by decide) rfl (by omega) (Nat.le_of_ble_eq_true rfl) (tX12_see hko I J F hF (I 186 2) _ eq10) ?_
    rintro _ _ ⟨rfl, rfl⟩
    refine e_bipush (v := 61) (by decide) dX12_look0_420 ?_
    refine e_icmp_ne 440 dX12_look0_422 (by decide) (fun c_422 => ?_) (fun c_422 => ?_)
    · have hm := it_n c_422 hm
      refine e_vret dX12_look0_440 rfl ?_
      have hm := some_in hm
      subst hm
      exact ⟨rfl, rfl⟩
    · have hm := it_p c_422 hm
      refine e_aload_n (i := 0) rfl dX12_look0_425 ?_
      refine e_iconst (v := 4) (by decide) dX12_look0_426 ?_
      refine l_putI 12 3 dX12_look0_427 fl_RX12_210 rfl rfl iz_186 (by decide) ?_
      refine e_aload_n (i := 0) rfl dX12_look0_430 ?_
      refine e_dup rfl dX12_look0_431 ?_
      refine l_getI 12 2 dX12_look0_432 fl_RX12_200 rfl iz_186 (by decide) ?_
      refine e_iconst (v := 1) (by decide) dX12_look0_435 ?_
      refine e_iadd dX12_look0_436 ?_
      refine l_putI 12 2 dX12_look0_437 fl_RX12_200 rfl rfl iz_186 (by decide) ?_
      refine e_vret dX12_look0_440 rfl ?_
      have hm := some_in hm
      subst hm
      exact ⟨rfl, rfl⟩
set_option maxRecDepth 100000 in
set_option maxHeartbeats 4000000 in
theorem tX12_look0_392 {l : Launch} {K : a_KT} {g : a_GT} {IA : iT} (hko : a_kok K) {F : fT} (I : iT) (J : jT) (x1 : Int32) (s0 : Int32) (hF : FOK F) (q : iT × jT) (hm : mX12_look0_392 I J x1 s0 = some q) : E l K g 3 0 0 yX12_look0 cX12_look0 3 none 392 [.ref 186, .int x1, .null] [.int s0] (hg IA I J F) (fun r2 h2 => r2 = none ∧ h2 = hg IA q.1 q.2 F) := by
  unfold mX12_look0_392 at hm
  refine q_istore_n (i := 2) (by decide) rfl dX12_look0_392 ?_
  refine e_iload_n (i := 2) rfl dX12_look0_393 ?_
  refine e_if_eq 406 dX12_look0_394 (by decide) (fun c_394 => ?_) (fun c_394 => ?_)
  · have hm := it_p c_394 hm
    refine e_weak [.ref 186, .int x1, .int s0] ⟨rfl, ⟨rfl, ⟨rfl, trivial⟩⟩⟩ ?_
    exact tX12_look0_406 hko I J x1 s0 hF _ hm
  · have hm := it_n c_394 hm
    refine e_aload_n (i := 0) rfl dX12_look0_397 ?_
    refine e_sipush (v := 400) (by decide) dX12_look0_398 ?_
    refine e_iload_n (i := 1) rfl dX12_look0_401 ?_
    refine e_iadd dX12_look0_402 ?_
    refine l_putI 12 3 dX12_look0_403 fl_RX12_210 rfl rfl iz_186 (by decide) ?_
    refine e_weak [.ref 186, .int x1, .int s0] ⟨rfl, ⟨rfl, ⟨rfl, trivial⟩⟩⟩ ?_
    exact tX12_look0_406 hko (a_u2 I 186 3 (400 + x1)) J x1 s0 hF _ hm
set_option maxRecDepth 100000 in
set_option maxHeartbeats 4000000 in
theorem tX12_look0_387 {l : Launch} {K : a_KT} {g : a_GT} {IA : iT} (hko : a_kok K) {F : fT} (I : iT) (J : jT) (x1 : Int32) (hF : FOK F) (q : iT × jT) (hm : mX12_look0_387 I J x1 = some q) : E l K g 3 0 0 yX12_look0 cX12_look0 3 none 387 [.ref 186, .int x1, .null] [] (hg IA I J F) (fun r2 h2 => r2 = none ∧ h2 = hg IA q.1 q.2 F) := by
  unfold mX12_look0_387 at hm
  refine e_iconst (v := 1) (by decide) dX12_look0_387 ?_
  refine e_goto 392 dX12_look0_388 (by decide) ?_
  refine e_weak [.ref 186, .int x1, .null] ⟨rfl, ⟨rfl, ⟨trivial, trivial⟩⟩⟩ ?_
  exact tX12_look0_392 hko I J x1 1 hF _ hm
set_option maxRecDepth 100000 in
set_option maxHeartbeats 4000000 in
theorem tX12_look0_0 {l : Launch} {K : a_KT} {g : a_GT} {IA : iT} (hko : a_kok K) {F : fT} : ∀ (n : Nat) (I : iT) (J : jT) (hF : FOK F) (q : iT × jT), mX12_look0_0 n I J = some q → E l K g 3 0 0 yX12_look0 cX12_look0 3 none 0 [.ref 186, .null, .null] [] (hg IA I J F) (fun r2 h2 => r2 = none ∧ h2 = hg IA q.1 q.2 F) := by
  intro n
  induction n with
  | zero => intro I J hF q hm; cases hm
  | succ n ih =>
    intro I J hF q hm
    rw [mX12_look0_0] at hm
    refine e_aload_n (i := 0) rfl dX12_look0_0 ?_
    refine e_aload_n (i := 0) rfl dX12_look0_1 ?_
    refine l_getI 12 2 dX12_look0_2 fl_RX12_200 rfl iz_186 (by decide) ?_
    obtain ⟨q11, eq11, hm⟩ := ob_some hm
    refine e_cV1 hko dX12_look0_5 ml_RX12_203 iz_186 (by decide) rfl (by omega) (Nat.le_of_ble_eq_true rfl) (tX12_see hko I J F hF (I 186 2) _ eq11) ?_
    rintro _ _ ⟨rfl, rfl⟩
    refine e_bipush (v := 32) (by decide) dX12_look0_8 ?_
    refine e_icmp_eq 26 dX12_look0_10 (by decide) (fun c_10 => ?_) (fun c_10 => ?_)
    · have hm := it_p c_10 hm
      refine e_weak [.ref 186, .null, .null] ⟨rfl, ⟨trivial, ⟨trivial, trivial⟩⟩⟩ ?_
      exact tX12_look0_26 hko (ih) I J hF _ hm
    · have hm := it_n c_10 hm
      refine e_aload_n (i := 0) rfl dX12_look0_13 ?_
      refine e_aload_n (i := 0) rfl dX12_look0_14 ?_
      refine l_getI 12 2 dX12_look0_15 fl_RX12_200 rfl iz_186 (by decide) ?_
      obtain ⟨q12, eq12, hm⟩ := ob_some hm
      refine e_cV1 hko dX12_look0_18 ml_RX12_203 iz_186 (by decide) rfl (by omega) (Nat.le_of_ble_eq_true rfl) (tX12_see hko I J F hF (I 186 2) _ eq12) ?_
      rintro _ _ ⟨rfl, rfl⟩
      refine e_bipush (v := 10) (by decide) dX12_look0_21 ?_
      refine e_icmp_ne 39 dX12_look0_23 (by decide) (fun c_23 => ?_) (fun c_23 => ?_)
      · have hm := it_n c_23 hm
        refine e_aload_n (i := 0) rfl dX12_look0_39 ?_
        refine e_aload_n (i := 0) rfl dX12_look0_40 ?_
        refine l_getI 12 2 dX12_look0_41 fl_RX12_200 rfl iz_186 (by decide) ?_
        refine l_putI 12 4 dX12_look0_44 fl_RX12_207 rfl rfl iz_186 (by decide) ?_
        refine e_aload_n (i := 0) rfl dX12_look0_47 ?_
        refine e_aload_n (i := 0) rfl dX12_look0_48 ?_
        refine l_getI 12 2 dX12_look0_49 fl_RX12_200 rfl iz_186 (by decide) ?_
        obtain ⟨q13, eq13, hm⟩ := ob_some hm
        refine e_cV1 hko dX12_look0_52 ml_RX12_203 iz_186 (by decide) rfl (by omega) (Nat.le_of_ble_eq_true rfl) (tX12_see hko (a_u2 I 186 4 (I 186 2)) J F hF ((a_u2 I 186 4 (I 186 2)) 186 2) _ eq13) ?_
        rintro _ _ ⟨rfl, rfl⟩
        refine q_istore_n (i := 1) (by decide) rfl dX12_look0_55 ?_
        refine e_aload_n (i := 0) rfl dX12_look0_56 ?_
        refine e_iconst (v := 1) (by decide) dX12_look0_57 ?_
        refine l_putI 12 3 dX12_look0_58 fl_RX12_210 rfl rfl iz_186 (by decide) ?_
        refine e_iload_n (i := 1) rfl dX12_look0_61 ?_
        refine e_iconst (v := (-1)) (by decide) dX12_look0_62 ?_
        refine e_icmp_ne 74 dX12_look0_63 (by decide) (fun c_63 => ?_) (fun c_63 => ?_)
        · have hm := it_n c_63 hm
          refine e_iload_n (i := 1) rfl dX12_look0_74 ?_
          obtain ⟨q14, eq14, hm⟩ := ob_some hm
          refine e_cS1 hko dX12_look0_75 ml_RX12_158 (by omega) (Nat.le_of_ble_eq_true rfl) (tX12_isSmall hko (a_u2 (a_u2 I 186 4 (I 186 2)) 186 3 1) J F hF q13 _ eq14) ?_
          rintro _ _ ⟨rfl, rfl⟩
          refine e_if_eq 162 dX12_look0_78 (by decide) (fun c_78 => ?_) (fun c_78 => ?_)
          · have hm := it_p c_78 hm
            refine e_iload_n (i := 1) rfl dX12_look0_162 ?_
            refine e_bipush (v := 48) (by decide) dX12_look0_163 ?_
            refine e_bipush (v := 57) (by decide) dX12_look0_165 ?_
            obtain ⟨q15, eq15, hm⟩ := ob_some hm
            refine e_cS3 hko dX12_look0_167 ml_RX12_154 (by omega) (Nat.le_of_ble_eq_true rfl) (tX12_isIn hko (a_u2 (a_u2 I 186 4 (I 186 2)) 186 3 1) J F hF q13 48 57 _ eq15) ?_
            rintro _ _ ⟨rfl, rfl⟩
            refine e_if_eq 269 dX12_look0_170 (by decide) (fun c_170 => ?_) (fun c_170 => ?_)
            · have hm := it_p c_170 hm
              refine e_aload_n (i := 0) rfl dX12_look0_269 ?_
              refine e_dup rfl dX12_look0_270 ?_
              refine l_getI 12 2 dX12_look0_271 fl_RX12_200 rfl iz_186 (by decide) ?_
              refine e_iconst (v := 1) (by decide) dX12_look0_274 ?_
              refine e_iadd dX12_look0_275 ?_
              refine l_putI 12 2 dX12_look0_276 fl_RX12_200 rfl rfl iz_186 (by decide) ?_
              refine e_iload_n (i := 1) rfl dX12_look0_279 ?_
              refine e_bipush (v := 40) (by decide) dX12_look0_280 ?_
              refine e_icmp_eq 387 dX12_look0_282 (by decide) (fun c_282 => ?_) (fun c_282 => ?_)
              · have hm := it_p c_282 hm
                refine e_weak [.ref 186, .int q13, .null] ⟨rfl, ⟨rfl, ⟨trivial, trivial⟩⟩⟩ ?_
                exact tX12_look0_387 hko (a_u2 (a_u2 (a_u2 I 186 4 (I 186 2)) 186 3 1) 186 2 (((a_u2 (a_u2 I 186 4 (I 186 2)) 186 3 1) 186 2) + 1)) J q13 hF _ hm
              · have hm := it_n c_282 hm
                refine e_iload_n (i := 1) rfl dX12_look0_285 ?_
                refine e_bipush (v := 41) (by decide) dX12_look0_286 ?_
                refine e_icmp_eq 387 dX12_look0_288 (by decide) (fun c_288 => ?_) (fun c_288 => ?_)
                · have hm := it_p c_288 hm
                  refine e_weak [.ref 186, .int q13, .null] ⟨rfl, ⟨rfl, ⟨trivial, trivial⟩⟩⟩ ?_
                  exact tX12_look0_387 hko (a_u2 (a_u2 (a_u2 I 186 4 (I 186 2)) 186 3 1) 186 2 (((a_u2 (a_u2 I 186 4 (I 186 2)) 186 3 1) 186 2) + 1)) J q13 hF _ hm
                · have hm := it_n c_288 hm
                  refine e_iload_n (i := 1) rfl dX12_look0_291 ?_
                  refine e_bipush (v := 123) (by decide) dX12_look0_292 ?_
                  refine e_icmp_eq 387 dX12_look0_294 (by decide) (fun c_294 => ?_) (fun c_294 => ?_)
                  · have hm := it_p c_294 hm
                    refine e_weak [.ref 186, .int q13, .null] ⟨rfl, ⟨rfl, ⟨trivial, trivial⟩⟩⟩ ?_
                    exact tX12_look0_387 hko (a_u2 (a_u2 (a_u2 I 186 4 (I 186 2)) 186 3 1) 186 2 (((a_u2 (a_u2 I 186 4 (I 186 2)) 186 3 1) 186 2) + 1)) J q13 hF _ hm
                  · have hm := it_n c_294 hm
                    refine e_iload_n (i := 1) rfl dX12_look0_297 ?_
                    refine e_bipush (v := 125) (by decide) dX12_look0_298 ?_
                    refine e_icmp_eq 387 dX12_look0_300 (by decide) (fun c_300 => ?_) (fun c_300 => ?_)
                    · have hm := it_p c_300 hm
                      refine e_weak [.ref 186, .int q13, .null] ⟨rfl, ⟨rfl, ⟨trivial, trivial⟩⟩⟩ ?_
                      exact tX12_look0_387 hko (a_u2 (a_u2 (a_u2 I 186 4 (I 186 2)) 186 3 1) 186 2 (((a_u2 (a_u2 I 186 4 (I 186 2)) 186 3 1) 186 2) + 1)) J q13 hF _ hm
                    · have hm := it_n c_300 hm
                      refine e_iload_n (i := 1) rfl dX12_look0_303 ?_
                      refine e_bipush (v := 44) (by decide) dX12_look0_304 ?_
                      refine e_icmp_eq 387 dX12_look0_306 (by decide) (fun c_306 => ?_) (fun c_306 => ?_)
                      · have hm := it_p c_306 hm
                        refine e_weak [.ref 186, .int q13, .null] ⟨rfl, ⟨rfl, ⟨trivial, trivial⟩⟩⟩ ?_
                        exact tX12_look0_387 hko (a_u2 (a_u2 (a_u2 I 186 4 (I 186 2)) 186 3 1) 186 2 (((a_u2 (a_u2 I 186 4 (I 186 2)) 186 3 1) 186 2) + 1)) J q13 hF _ hm
                      · have hm := it_n c_306 hm
                        refine e_iload_n (i := 1) rfl dX12_look0_309 ?_
                        refine e_bipush (v := 59) (by decide) dX12_look0_310 ?_
                        refine e_icmp_eq 387 dX12_look0_312 (by decide) (fun c_312 => ?_) (fun c_312 => ?_)
                        · have hm := it_p c_312 hm
                          refine e_weak [.ref 186, .int q13, .null] ⟨rfl, ⟨rfl, ⟨trivial, trivial⟩⟩⟩ ?_
                          exact tX12_look0_387 hko (a_u2 (a_u2 (a_u2 I 186 4 (I 186 2)) 186 3 1) 186 2 (((a_u2 (a_u2 I 186 4 (I 186 2)) 186 3 1) 186 2) + 1)) J q13 hF _ hm
                        · have hm := it_n c_312 hm
                          refine e_iload_n (i := 1) rfl dX12_look0_315 ?_
                          refine e_bipush (v := 58) (by decide) dX12_look0_316 ?_
                          refine e_icmp_eq 387 dX12_look0_318 (by decide) (fun c_318 => ?_) (fun c_318 => ?_)
                          · have hm := it_p c_318 hm
                            refine e_weak [.ref 186, .int q13, .null] ⟨rfl, ⟨rfl, ⟨trivial, trivial⟩⟩⟩ ?_
                            exact tX12_look0_387 hko (a_u2 (a_u2 (a_u2 I 186 4 (I 186 2)) 186 3 1) 186 2 (((a_u2 (a_u2 I 186 4 (I 186 2)) 186 3 1) 186 2) + 1)) J q13 hF _ hm
                          · have hm := it_n c_318 hm
                            refine e_iload_n (i := 1) rfl dX12_look0_321 ?_
                            refine e_bipush (v := 46) (by decide) dX12_look0_322 ?_
                            refine e_icmp_eq 387 dX12_look0_324 (by decide) (fun c_324 => ?_) (fun c_324 => ?_)
                            · have hm := it_p c_324 hm
                              refine e_weak [.ref 186, .int q13, .null] ⟨rfl, ⟨rfl, ⟨trivial, trivial⟩⟩⟩ ?_
                              exact tX12_look0_387 hko (a_u2 (a_u2 (a_u2 I 186 4 (I 186 2)) 186 3 1) 186 2 (((a_u2 (a_u2 I 186 4 (I 186 2)) 186 3 1) 186 2) + 1)) J q13 hF _ hm
                            · have hm := it_n c_324 hm
                              refine e_iload_n (i := 1) rfl dX12_look0_327 ?_
                              refine e_bipush (v := 61) (by decide) dX12_look0_328 ?_
                              refine e_icmp_eq 387 dX12_look0_330 (by decide) (fun c_330 => ?_) (fun c_330 => ?_)
                              · have hm := it_p c_330 hm
                                refine e_weak [.ref 186, .int q13, .null] ⟨rfl, ⟨rfl, ⟨trivial, trivial⟩⟩⟩ ?_
                                exact tX12_look0_387 hko (a_u2 (a_u2 (a_u2 I 186 4 (I 186 2)) 186 3 1) 186 2 (((a_u2 (a_u2 I 186 4 (I 186 2)) 186 3 1) 186 2) + 1)) J q13 hF _ hm
                              · have hm := it_n c_330 hm
                                refine e_iload_n (i := 1) rfl dX12_look0_333 ?_
                                refine e_bipush (v := 33) (by decide) dX12_look0_334 ?_
                                refine e_icmp_eq 387 dX12_look0_336 (by decide) (fun c_336 => ?_) (fun c_336 => ?_)
                                · have hm := it_p c_336 hm
                                  refine e_weak [.ref 186, .int q13, .null] ⟨rfl, ⟨rfl, ⟨trivial, trivial⟩⟩⟩ ?_
                                  exact tX12_look0_387 hko (a_u2 (a_u2 (a_u2 I 186 4 (I 186 2)) 186 3 1) 186 2 (((a_u2 (a_u2 I 186 4 (I 186 2)) 186 3 1) 186 2) + 1)) J q13 hF _ hm
                                · have hm := it_n c_336 hm
                                  refine e_iload_n (i := 1) rfl dX12_look0_339 ?_
                                  refine e_bipush (v := 63) (by decide) dX12_look0_340 ?_
                                  refine e_icmp_eq 387 dX12_look0_342 (by decide) (fun c_342 => ?_) (fun c_342 => ?_)
                                  · have hm := it_p c_342 hm
                                    refine e_weak [.ref 186, .int q13, .null] ⟨rfl, ⟨rfl, ⟨trivial, trivial⟩⟩⟩ ?_
                                    exact tX12_look0_387 hko (a_u2 (a_u2 (a_u2 I 186 4 (I 186 2)) 186 3 1) 186 2 (((a_u2 (a_u2 I 186 4 (I 186 2)) 186 3 1) 186 2) + 1)) J q13 hF _ hm
                                  · have hm := it_n c_342 hm
                                    refine e_iload_n (i := 1) rfl dX12_look0_345 ?_
                                    refine e_bipush (v := 62) (by decide) dX12_look0_346 ?_
                                    refine e_icmp_eq 387 dX12_look0_348 (by decide) (fun c_348 => ?_) (fun c_348 => ?_)
                                    · have hm := it_p c_348 hm
                                      refine e_weak [.ref 186, .int q13, .null] ⟨rfl, ⟨rfl, ⟨trivial, trivial⟩⟩⟩ ?_
                                      exact tX12_look0_387 hko (a_u2 (a_u2 (a_u2 I 186 4 (I 186 2)) 186 3 1) 186 2 (((a_u2 (a_u2 I 186 4 (I 186 2)) 186 3 1) 186 2) + 1)) J q13 hF _ hm
                                    · have hm := it_n c_348 hm
                                      refine e_iload_n (i := 1) rfl dX12_look0_351 ?_
                                      refine e_bipush (v := 60) (by decide) dX12_look0_352 ?_
                                      refine e_icmp_eq 387 dX12_look0_354 (by decide) (fun c_354 => ?_) (fun c_354 => ?_)
                                      · have hm := it_p c_354 hm
                                        refine e_weak [.ref 186, .int q13, .null] ⟨rfl, ⟨rfl, ⟨trivial, trivial⟩⟩⟩ ?_
                                        exact tX12_look0_387 hko (a_u2 (a_u2 (a_u2 I 186 4 (I 186 2)) 186 3 1) 186 2 (((a_u2 (a_u2 I 186 4 (I 186 2)) 186 3 1) 186 2) + 1)) J q13 hF _ hm
                                      · have hm := it_n c_354 hm
                                        refine e_iload_n (i := 1) rfl dX12_look0_357 ?_
                                        refine e_bipush (v := 43) (by decide) dX12_look0_358 ?_
                                        refine e_icmp_eq 387 dX12_look0_360 (by decide) (fun c_360 => ?_) (fun c_360 => ?_)
                                        · have hm := it_p c_360 hm
                                          refine e_weak [.ref 186, .int q13, .null] ⟨rfl, ⟨rfl, ⟨trivial, trivial⟩⟩⟩ ?_
                                          exact tX12_look0_387 hko (a_u2 (a_u2 (a_u2 I 186 4 (I 186 2)) 186 3 1) 186 2 (((a_u2 (a_u2 I 186 4 (I 186 2)) 186 3 1) 186 2) + 1)) J q13 hF _ hm
                                        · have hm := it_n c_360 hm
                                          refine e_iload_n (i := 1) rfl dX12_look0_363 ?_
                                          refine e_bipush (v := 45) (by decide) dX12_look0_364 ?_
                                          refine e_icmp_eq 387 dX12_look0_366 (by decide) (fun c_366 => ?_) (fun c_366 => ?_)
                                          · have hm := it_p c_366 hm
                                            refine e_weak [.ref 186, .int q13, .null] ⟨rfl, ⟨rfl, ⟨trivial, trivial⟩⟩⟩ ?_
                                            exact tX12_look0_387 hko (a_u2 (a_u2 (a_u2 I 186 4 (I 186 2)) 186 3 1) 186 2 (((a_u2 (a_u2 I 186 4 (I 186 2)) 186 3 1) 186 2) + 1)) J q13 hF _ hm
                                          · have hm := it_n c_366 hm
                                            refine e_iload_n (i := 1) rfl dX12_look0_369 ?_
                                            refine e_bipush (v := 42) (by decide) dX12_look0_370 ?_
                                            refine e_icmp_eq 387 dX12_look0_372 (by decide) (fun c_372 => ?_) (fun c_372 => ?_)
                                            · have hm := it_p c_372 hm
                                              refine e_weak [.ref 186, .int q13, .null] ⟨rfl, ⟨rfl, ⟨trivial, trivial⟩⟩⟩ ?_
                                              exact tX12_look0_387 hko (a_u2 (a_u2 (a_u2 I 186 4 (I 186 2)) 186 3 1) 186 2 (((a_u2 (a_u2 I 186 4 (I 186 2)) 186 3 1) 186 2) + 1)) J q13 hF _ hm
                                            · have hm := it_n c_372 hm
                                              refine e_iload_n (i := 1) rfl dX12_look0_375 ?_
                                              refine e_bipush (v := 38) (by decide) dX12_look0_376 ?_
                                              refine e_icmp_eq 387 dX12_look0_378 (by decide) (fun c_378 => ?_) (fun c_378 => ?_)
                                              · have hm := it_p c_378 hm
                                                refine e_weak [.ref 186, .int q13, .null] ⟨rfl, ⟨rfl, ⟨trivial, trivial⟩⟩⟩ ?_
                                                exact tX12_look0_387 hko (a_u2 (a_u2 (a_u2 I 186 4 (I 186 2)) 186 3 1) 186 2 (((a_u2 (a_u2 I 186 4 (I 186 2)) 186 3 1) 186 2) + 1)) J q13 hF _ hm
                                              · have hm := it_n c_378 hm
                                                refine e_iload_n (i := 1) rfl dX12_look0_381 ?_
                                                refine e_bipush (v := 124) (by decide) dX12_look0_382 ?_
                                                refine e_icmp_ne 391 dX12_look0_384 (by decide) (fun c_384 => ?_) (fun c_384 => ?_)
                                                · have hm := it_n c_384 hm
                                                  refine e_iconst (v := 0) (by decide) dX12_look0_391 ?_
                                                  refine e_weak [.ref 186, .int q13, .null] ⟨rfl, ⟨rfl, ⟨trivial, trivial⟩⟩⟩ ?_
                                                  exact tX12_look0_392 hko (a_u2 (a_u2 (a_u2 I 186 4 (I 186 2)) 186 3 1) 186 2 (((a_u2 (a_u2 I 186 4 (I 186 2)) 186 3 1) 186 2) + 1)) J q13 0 hF _ hm
                                                · have hm := it_p c_384 hm
                                                  refine e_weak [.ref 186, .int q13, .null] ⟨rfl, ⟨rfl, ⟨trivial, trivial⟩⟩⟩ ?_
                                                  exact tX12_look0_387 hko (a_u2 (a_u2 (a_u2 I 186 4 (I 186 2)) 186 3 1) 186 2 (((a_u2 (a_u2 I 186 4 (I 186 2)) 186 3 1) 186 2) + 1)) J q13 hF _ hm
            · have hm := it_n c_170 hm
              refine e_iconst (v := 0) (by decide) dX12_look0_173 ?_
              refine q_istore_n (i := 2) (by decide) rfl dX12_look0_174 ?_
              refine e_aload_n (i := 0) rfl dX12_look0_175 ?_
              refine e_iconst (v := 0) (by decide) dX12_look0_176 ?_
              refine l_putI 12 5 dX12_look0_177 fl_RX12_217 rfl rfl iz_186 (by decide) ?_
              refine e_weak [.ref 186, .int q13, .int 0] ⟨rfl, ⟨rfl, ⟨rfl, trivial⟩⟩⟩ ?_
              exact tX12_look0_180 hko LF (a_u2 (a_u2 (a_u2 I 186 4 (I 186 2)) 186 3 1) 186 5 0) J q13 0 hF _ hm
          · have hm := it_n c_78 hm
            refine e_iconst (v := 0) (by decide) dX12_look0_81 ?_
            refine q_istore_n (i := 2) (by decide) rfl dX12_look0_82 ?_
            refine e_aload_n (i := 0) rfl dX12_look0_83 ?_
            refine e_lconst (v := 0) (by decide) dX12_look0_84 ?_
            refine q_putJ 12 6 dX12_look0_85 fl_RX12_162 rfl rfl iz_186 ?_
            refine e_weak [.ref 186, .int q13, .int 0] ⟨rfl, ⟨rfl, ⟨rfl, trivial⟩⟩⟩ ?_
            exact tX12_look0_88 hko LF (a_u2 (a_u2 I 186 4 (I 186 2)) 186 3 1) (a_u2 J 186 6 0) q13 0 hF _ hm
        · have hm := it_p c_63 hm
          refine e_aload_n (i := 0) rfl dX12_look0_66 ?_
          refine e_iconst (v := 0) (by decide) dX12_look0_67 ?_
          refine l_putI 12 3 dX12_look0_68 fl_RX12_210 rfl rfl iz_186 (by decide) ?_
          refine e_goto 440 dX12_look0_71 (by decide) ?_
          refine e_vret dX12_look0_440 rfl ?_
          have hm := some_in hm
          subst hm
          exact ⟨rfl, rfl⟩
      · have hm := it_p c_23 hm
        refine e_weak [.ref 186, .null, .null] ⟨rfl, ⟨trivial, ⟨trivial, trivial⟩⟩⟩ ?_
        exact tX12_look0_26 hko (ih) I J hF _ hm
set_option maxRecDepth 100000 in
set_option maxHeartbeats 4000000 in
theorem tX12_look0 {l : Launch} {K : a_KT} {g : a_GT} {IA : iT} (hko : a_kok K) (I : iT) (J : jT) (F : fT) (hF : FOK F) (q : iT × jT) (hm : mX12_look0 I J = some q) : C l K g 3 0 0 yX12_look0 cX12_look0 3 none [.ref 186] (hg IA I J F) (fun r2 h2 => r2 = none ∧ h2 = hg IA q.1 q.2 F) := by
  unfold mX12_look0 at hm
  refine c_of [.ref 186, .null, .null] (by decide) (Nat.le_of_ble_eq_true rfl) rfl ?_
  refine e_weak [.ref 186, .null, .null] ⟨rfl, ⟨trivial, ⟨trivial, trivial⟩⟩⟩ ?_
  exact tX12_look0_0 hko LF I J hF _ hm
theorem dX12_slot_0 : decode cX12_slot 0 = .ok (.iconst 0, 1) := by decide +kernel
theorem dX12_slot_1 : decode cX12_slot 1 = .ok (.istore_n 3, 1) := by decide +kernel
theorem dX12_slot_2 : decode cX12_slot 2 = .ok (.iload_n 3, 1) := by decide +kernel
theorem dX12_slot_3 : decode cX12_slot 3 = .ok (.aload_n 0, 1) := by decide +kernel
theorem dX12_slot_4 : decode cX12_slot 4 = .ok (.getfield 292, 3) := by decide +kernel
theorem dX12_slot_7 : decode cX12_slot 7 = .ok (.if_icmp .ge 22, 3) := by decide +kernel
theorem dX12_slot_10 : decode cX12_slot 10 = .ok (.aload_n 0, 1) := by decide +kernel
theorem dX12_slot_11 : decode cX12_slot 11 = .ok (.getfield 72, 3) := by decide +kernel
theorem dX12_slot_14 : decode cX12_slot 14 = .ok (.iload_n 3, 1) := by decide +kernel
theorem dX12_slot_15 : decode cX12_slot 15 = .ok (.laload, 1) := by decide +kernel
theorem dX12_slot_16 : decode cX12_slot 16 = .ok (.lload_n 1, 1) := by decide +kernel
theorem dX12_slot_17 : decode cX12_slot 17 = .ok (.lcmp, 1) := by decide +kernel
theorem dX12_slot_18 : decode cX12_slot 18 = .ok (.ifCond .ne 5, 3) := by decide +kernel
theorem dX12_slot_21 : decode cX12_slot 21 = .ok (.iload_n 3, 1) := by decide +kernel
theorem dX12_slot_22 : decode cX12_slot 22 = .ok (.ireturn, 1) := by decide +kernel
theorem dX12_slot_23 : decode cX12_slot 23 = .ok (.iinc 3 1, 3) := by decide +kernel
theorem dX12_slot_26 : decode cX12_slot 26 = .ok (.goto (-24), 3) := by decide +kernel
theorem dX12_slot_29 : decode cX12_slot 29 = .ok (.iconst (-1), 1) := by decide +kernel
theorem dX12_slot_30 : decode cX12_slot 30 = .ok (.ireturn, 1) := by decide +kernel
def mX12_slot_2 : Nat → iT → jT → Int64 → Int32 → Option (Int32)
  | 0, _, _, _, _ => none
  | n + 1, I, J, w1, x3 => if (I 186 43) ≤ x3 then some ((-1)) else if inb x3 128 then if (lg_cmp (J 206 x3.toNatClampNeg) w1) = 0 then some x3 else mX12_slot_2 n I J w1 (x3 + 1) else none
def mX12_slot (I : iT) (J : jT) (w1 : Int64) : Option (Int32) := mX12_slot_2 LF I J w1 0
set_option maxRecDepth 100000 in
set_option maxHeartbeats 4000000 in
theorem tX12_slot_2 {l : Launch} {K : a_KT} {g : a_GT} {IA : iT} (hko : a_kok K) {F : fT} : ∀ (n : Nat) (I : iT) (J : jT) (w1 : Int64) (x3 : Int32) (hF : FOK F) (q : Int32), mX12_slot_2 n I J w1 x3 = some q → E l K g 0 0 0 yX12_slot cX12_slot 4 (some .int) 2 [.ref 186, .long w1, .null, .int x3] [] (hg IA I J F) (fun r2 h2 => r2 = some (.int q) ∧ h2 = hg IA I J F) := by
  intro n
  induction n with
  | zero => intro I J w1 x3 hF q hm; cases hm
  | succ n ih =>
    intro I J w1 x3 hF q hm
    rw [mX12_slot_2] at hm
    refine e_iload_n (i := 3) rfl dX12_slot_2 ?_
    refine e_aload_n (i := 0) rfl dX12_slot_3 ?_
    refine l_getI 12 43 dX12_slot_4 fl_RX12_292 rfl iz_186 (by decide) ?_
    refine e_icmp_ge 29 dX12_slot_7 (by decide) (fun c_7 => ?_) (fun c_7 => ?_)
    · have hm := it_p c_7 hm
      refine e_iconst (v := (-1)) (by decide) dX12_slot_29 ?_
      refine e_iret dX12_slot_30 rfl ?_
      have hm := some_in hm
      subst hm
      exact ⟨rfl, rfl⟩
    · have hm := it_n c_7 hm
      refine e_aload_n (i := 0) rfl dX12_slot_10 ?_
      refine q_getF 12 37 206 dX12_slot_11 fl_RX12_72 rfl iz_186 (fr_186_37 hF) ?_
      refine e_iload_n (i := 3) rfl dX12_slot_14 ?_
      obtain ⟨c_15, hm⟩ := gd_s hm
      refine q_lald dX12_slot_15 iz_206 (inb_in ln_206 c_15) ?_
      refine e_lload_n (i := 1) rfl dX12_slot_16 ?_
      refine e_lcmp dX12_slot_17 ?_
      refine e_if_ne 23 dX12_slot_18 (by decide) (fun c_18 => ?_) (fun c_18 => ?_)
      · have hm := it_n c_18 hm
        refine q_iinc (i := 3) (x3 + 1) rfl ic_1 rfl dX12_slot_23 ?_
        refine e_goto 2 dX12_slot_26 (by decide) ?_
        refine e_weak [.ref 186, .long w1, .null, .int (x3 + 1)] ⟨rfl, ⟨rfl, ⟨trivial, ⟨rfl, trivial⟩⟩⟩⟩ ?_
        exact ih I J w1 (x3 + 1) hF _ hm
      · have hm := it_p c_18 hm
        refine e_iload_n (i := 3) rfl dX12_slot_21 ?_
        refine e_iret dX12_slot_22 rfl ?_
        have hm := some_in hm
        subst hm
        exact ⟨rfl, rfl⟩
set_option maxRecDepth 100000 in
set_option maxHeartbeats 4000000 in
theorem tX12_slot {l : Launch} {K : a_KT} {g : a_GT} {IA : iT} (hko : a_kok K) (I : iT) (J : jT) (F : fT) (hF : FOK F) (w1 : Int64) (q : Int32) (hm : mX12_slot I J w1 = some q) : C l K g 0 0 0 yX12_slot cX12_slot 4 (some .int) [.ref 186, .long w1] (hg IA I J F) (fun r2 h2 => r2 = some (.int q) ∧ h2 = hg IA I J F) := by
  unfold mX12_slot at hm
  refine c_of [.ref 186, .long w1, .null, .null] (by decide) (Nat.le_of_ble_eq_true rfl) rfl ?_
  refine e_iconst (v := 0) (by decide) dX12_slot_0 ?_
  refine q_istore_n (i := 3) (by decide) rfl dX12_slot_1 ?_
  refine e_weak [.ref 186, .long w1, .null, .int 0] ⟨rfl, ⟨rfl, ⟨trivial, ⟨rfl, trivial⟩⟩⟩⟩ ?_
  exact tX12_slot_2 hko LF I J w1 0 hF _ hm
theorem dX12_aChannel_0 : decode cX12_aChannel 0 = .ok (.aload_n 0, 1) := by decide +kernel
theorem dX12_aChannel_1 : decode cX12_aChannel 1 = .ok (.getfield 210, 3) := by decide +kernel
theorem dX12_aChannel_4 : decode cX12_aChannel 4 = .ok (.iconst 2, 1) := by decide +kernel
theorem dX12_aChannel_5 : decode cX12_aChannel 5 = .ok (.if_icmp .eq 13, 3) := by decide +kernel
theorem dX12_aChannel_8 : decode cX12_aChannel 8 = .ok (.aload_n 0, 1) := by decide +kernel
theorem dX12_aChannel_9 : decode cX12_aChannel 9 = .ok (.iconst 1, 1) := by decide +kernel
theorem dX12_aChannel_10 : decode cX12_aChannel 10 = .ok (.aload_n 0, 1) := by decide +kernel
theorem dX12_aChannel_11 : decode cX12_aChannel 11 = .ok (.getfield 207, 3) := by decide +kernel
theorem dX12_aChannel_14 : decode cX12_aChannel 14 = .ok (.invokevirtual 232, 3) := by decide +kernel
theorem dX12_aChannel_17 : decode cX12_aChannel 17 = .ok (.ireturn, 1) := by decide +kernel
theorem dX12_aChannel_18 : decode cX12_aChannel 18 = .ok (.aload_n 0, 1) := by decide +kernel
theorem dX12_aChannel_19 : decode cX12_aChannel 19 = .ok (.aload_n 0, 1) := by decide +kernel
theorem dX12_aChannel_20 : decode cX12_aChannel 20 = .ok (.getfield 162, 3) := by decide +kernel
theorem dX12_aChannel_23 : decode cX12_aChannel 23 = .ok (.invokevirtual 301, 3) := by decide +kernel
theorem dX12_aChannel_26 : decode cX12_aChannel 26 = .ok (.istore_n 3, 1) := by decide +kernel
theorem dX12_aChannel_27 : decode cX12_aChannel 27 = .ok (.iload_n 3, 1) := by decide +kernel
theorem dX12_aChannel_28 : decode cX12_aChannel 28 = .ok (.iconst (-1), 1) := by decide +kernel
theorem dX12_aChannel_29 : decode cX12_aChannel 29 = .ok (.if_icmp .eq 12, 3) := by decide +kernel
theorem dX12_aChannel_32 : decode cX12_aChannel 32 = .ok (.aload_n 0, 1) := by decide +kernel
theorem dX12_aChannel_33 : decode cX12_aChannel 33 = .ok (.getfield 78, 3) := by decide +kernel
theorem dX12_aChannel_36 : decode cX12_aChannel 36 = .ok (.iload_n 3, 1) := by decide +kernel
theorem dX12_aChannel_37 : decode cX12_aChannel 37 = .ok (.iaload, 1) := by decide +kernel
theorem dX12_aChannel_38 : decode cX12_aChannel 38 = .ok (.ifCond .ne 13, 3) := by decide +kernel
theorem dX12_aChannel_41 : decode cX12_aChannel 41 = .ok (.aload_n 0, 1) := by decide +kernel
theorem dX12_aChannel_42 : decode cX12_aChannel 42 = .ok (.iconst 2, 1) := by decide +kernel
theorem dX12_aChannel_43 : decode cX12_aChannel 43 = .ok (.aload_n 0, 1) := by decide +kernel
theorem dX12_aChannel_44 : decode cX12_aChannel 44 = .ok (.getfield 207, 3) := by decide +kernel
theorem dX12_aChannel_47 : decode cX12_aChannel 47 = .ok (.invokevirtual 232, 3) := by decide +kernel
theorem dX12_aChannel_50 : decode cX12_aChannel 50 = .ok (.ireturn, 1) := by decide +kernel
theorem dX12_aChannel_51 : decode cX12_aChannel 51 = .ok (.aload_n 0, 1) := by decide +kernel
theorem dX12_aChannel_52 : decode cX12_aChannel 52 = .ok (.getfield 17, 3) := by decide +kernel
theorem dX12_aChannel_55 : decode cX12_aChannel 55 = .ok (.aload_n 0, 1) := by decide +kernel
theorem dX12_aChannel_56 : decode cX12_aChannel 56 = .ok (.getfield 81, 3) := by decide +kernel
theorem dX12_aChannel_59 : decode cX12_aChannel 59 = .ok (.iload_n 3, 1) := by decide +kernel
theorem dX12_aChannel_60 : decode cX12_aChannel 60 = .ok (.iaload, 1) := by decide +kernel
theorem dX12_aChannel_61 : decode cX12_aChannel 61 = .ok (.iaload, 1) := by decide +kernel
theorem dX12_aChannel_62 : decode cX12_aChannel 62 = .ok (.istore 4, 2) := by decide +kernel
theorem dX12_aChannel_64 : decode cX12_aChannel 64 = .ok (.iload 4, 2) := by decide +kernel
theorem dX12_aChannel_66 : decode cX12_aChannel 66 = .ok (.aload_n 0, 1) := by decide +kernel
theorem dX12_aChannel_67 : decode cX12_aChannel 67 = .ok (.getfield 78, 3) := by decide +kernel
theorem dX12_aChannel_70 : decode cX12_aChannel 70 = .ok (.iload_n 3, 1) := by decide +kernel
theorem dX12_aChannel_71 : decode cX12_aChannel 71 = .ok (.iaload, 1) := by decide +kernel
theorem dX12_aChannel_72 : decode cX12_aChannel 72 = .ok (.iconst 1, 1) := by decide +kernel
theorem dX12_aChannel_73 : decode cX12_aChannel 73 = .ok (.if_icmp .ne 7, 3) := by decide +kernel
theorem dX12_aChannel_76 : decode cX12_aChannel 76 = .ok (.iload_n 1, 1) := by decide +kernel
theorem dX12_aChannel_77 : decode cX12_aChannel 77 = .ok (.goto 4, 3) := by decide +kernel
theorem dX12_aChannel_80 : decode cX12_aChannel 80 = .ok (.iload_n 2, 1) := by decide +kernel
theorem dX12_aChannel_81 : decode cX12_aChannel 81 = .ok (.if_icmp .eq 13, 3) := by decide +kernel
theorem dX12_aChannel_84 : decode cX12_aChannel 84 = .ok (.aload_n 0, 1) := by decide +kernel
theorem dX12_aChannel_85 : decode cX12_aChannel 85 = .ok (.iconst 3, 1) := by decide +kernel
theorem dX12_aChannel_86 : decode cX12_aChannel 86 = .ok (.aload_n 0, 1) := by decide +kernel
theorem dX12_aChannel_87 : decode cX12_aChannel 87 = .ok (.getfield 207, 3) := by decide +kernel
theorem dX12_aChannel_90 : decode cX12_aChannel 90 = .ok (.invokevirtual 232, 3) := by decide +kernel
theorem dX12_aChannel_93 : decode cX12_aChannel 93 = .ok (.ireturn, 1) := by decide +kernel
theorem dX12_aChannel_94 : decode cX12_aChannel 94 = .ok (.aload_n 0, 1) := by decide +kernel
theorem dX12_aChannel_95 : decode cX12_aChannel 95 = .ok (.iload_n 3, 1) := by decide +kernel
theorem dX12_aChannel_96 : decode cX12_aChannel 96 = .ok (.putfield 319, 3) := by decide +kernel
theorem dX12_aChannel_99 : decode cX12_aChannel 99 = .ok (.aload_n 0, 1) := by decide +kernel
theorem dX12_aChannel_100 : decode cX12_aChannel 100 = .ok (.invokevirtual 236, 3) := by decide +kernel
theorem dX12_aChannel_103 : decode cX12_aChannel 103 = .ok (.iconst 1, 1) := by decide +kernel
theorem dX12_aChannel_104 : decode cX12_aChannel 104 = .ok (.ireturn, 1) := by decide +kernel
def mX12_aChannel_81 (I : iT) (J : jT) (x1 : Int32) (x2 : Int32) (x3 : Int32) (x4 : Int32) (s0 : Int32) (s1 : Int32) : Option (Int32 × iT × jT) := if s1 = s0 then (mX12_look0 (a_u2 I 186 48 x3) J).bind fun q1 => some (1, q1.1, q1.2) else (mX12_bad I 3 (I 186 4)).bind fun q2 => if q2.1 = 0 ∨ q2.1 = 1 then some (q2.1, q2.2, J) else none
def mX12_aChannel_41 (I : iT) (J : jT) (x1 : Int32) (x2 : Int32) (x3 : Int32) : Option (Int32 × iT × jT) := (mX12_bad I 2 (I 186 4)).bind fun q3 => if q3.1 = 0 ∨ q3.1 = 1 then some (q3.1, q3.2, J) else none
def mX12_aChannel (I : iT) (J : jT) (x1 : Int32) (x2 : Int32) : Option (Int32 × iT × jT) := if (I 186 3) = 2 then (mX12_slot I J (J 186 6)).bind fun q4 => if q4 = ((-1)) then mX12_aChannel_41 I J x1 x2 q4 else if inb q4 128 then if (I 208 q4.toNatClampNeg) = 0 then mX12_aChannel_41 I J x1 x2 q4 else if inb q4 128 then if inb (I 209 q4.toNatClampNeg) 2800 then if inb q4 128 then if (I 208 q4.toNatClampNeg) = 1 then mX12_aChannel_81 I J x1 x2 q4 (I 188 (I 209 q4.toNatClampNeg).toNatClampNeg) x1 (I 188 (I 209 q4.toNatClampNeg).toNatClampNeg) else mX12_aChannel_81 I J x1 x2 q4 (I 188 (I 209 q4.toNatClampNeg).toNatClampNeg) x2 (I 188 (I 209 q4.toNatClampNeg).toNatClampNeg) else none else none else none else none else (mX12_bad I 1 (I 186 4)).bind fun q5 => if q5.1 = 0 ∨ q5.1 = 1 then some (q5.1, q5.2, J) else none
set_option maxRecDepth 100000 in
set_option maxHeartbeats 4000000 in
theorem tX12_aChannel_81 {l : Launch} {K : a_KT} {g : a_GT} {IA : iT} (hko : a_kok K) {F : fT} (I : iT) (J : jT) (x1 : Int32) (x2 : Int32) (x3 : Int32) (x4 : Int32) (s0 : Int32) (s1 : Int32) (hF : FOK F) (q : Int32 × iT × jT) (hm : mX12_aChannel_81 I J x1 x2 x3 x4 s0 s1 = some q) : E l K g 4 0 0 yX12_aChannel cX12_aChannel 5 (some .boolean) 81 [.ref 186, .int x1, .int x2, .int x3, .int x4] [.int s0, .int s1] (hg IA I J F) (fun r2 h2 => r2 = some (.int q.1) ∧ h2 = hg IA q.2.1 q.2.2 F) := by
  unfold mX12_aChannel_81 at hm
  refine e_icmp_eq 94 dX12_aChannel_81 (by decide) (fun c_81 => ?_) (fun c_81 => ?_)
  · have hm := it_p c_81 hm
    refine e_aload_n (i := 0) rfl dX12_aChannel_94 ?_
    refine e_iload_n (i := 3) rfl dX12_aChannel_95 ?_
    refine l_putI 12 48 dX12_aChannel_96 fl_RX12_319 rfl rfl iz_186 (by decide) ?_
    refine e_aload_n (i := 0) rfl dX12_aChannel_99 ?_
    obtain ⟨q1, eq1, hm⟩ := ob_some hm
    refine e_cV0 hko dX12_aChannel_100 ml_RX12_236 iz_186 (by decide) rfl (by omega) (Nat.le_of_ble_eq_true rfl) (tX12_look0 hko (a_u2 I 186 48 x3) J F hF _ eq1) ?_
    rintro _ _ ⟨rfl, rfl⟩
    refine e_iconst (v := 1) (by decide) dX12_aChannel_103 ?_
    refine e_zret dX12_aChannel_104 rfl rfl ?_
    have hm := some_in hm
    subst hm
    exact ⟨rfl, rfl⟩
  · have hm := it_n c_81 hm
    refine e_aload_n (i := 0) rfl dX12_aChannel_84 ?_
    refine e_iconst (v := 3) (by decide) dX12_aChannel_85 ?_
    refine e_aload_n (i := 0) rfl dX12_aChannel_86 ?_
    refine l_getI 12 4 dX12_aChannel_87 fl_RX12_207 rfl iz_186 (by decide) ?_
    obtain ⟨q2, eq2, hm⟩ := ob_some hm
    refine e_cV2 hko dX12_aChannel_90 ml_RX12_232 iz_186 (by decide) rfl (by omega) (Nat.le_of_ble_eq_true rfl) (tX12_bad hko I J F hF 3 (I 186 4) _ eq2) ?_
    rintro _ _ ⟨rfl, rfl⟩
    obtain ⟨c_93, hm⟩ := gd_s hm
    refine e_zret dX12_aChannel_93 rfl (zz_nar c_93) ?_
    have hm := some_in hm
    subst hm
    exact ⟨rfl, rfl⟩
set_option maxRecDepth 100000 in
set_option maxHeartbeats 4000000 in
theorem tX12_aChannel_41 {l : Launch} {K : a_KT} {g : a_GT} {IA : iT} (hko : a_kok K) {F : fT} (I : iT) (J : jT) (x1 : Int32) (x2 : Int32) (x3 : Int32) (hF : FOK F) (q : Int32 × iT × jT) (hm : mX12_aChannel_41 I J x1 x2 x3 = some q) : E l K g 4 0 0 yX12_aChannel cX12_aChannel 5 (some .boolean) 41 [.ref 186, .int x1, .int x2, .int x3, .null] [] (hg IA I J F) (fun r2 h2 => r2 = some (.int q.1) ∧ h2 = hg IA q.2.1 q.2.2 F) := by
  unfold mX12_aChannel_41 at hm
  refine e_aload_n (i := 0) rfl dX12_aChannel_41 ?_
  refine e_iconst (v := 2) (by decide) dX12_aChannel_42 ?_
  refine e_aload_n (i := 0) rfl dX12_aChannel_43 ?_
  refine l_getI 12 4 dX12_aChannel_44 fl_RX12_207 rfl iz_186 (by decide) ?_
  obtain ⟨q3, eq3, hm⟩ := ob_some hm
  refine e_cV2 hko dX12_aChannel_47 ml_RX12_232 iz_186 (by decide) rfl (by omega) (Nat.le_of_ble_eq_true rfl) (tX12_bad hko I J F hF 2 (I 186 4) _ eq3) ?_
  rintro _ _ ⟨rfl, rfl⟩
  obtain ⟨c_50, hm⟩ := gd_s hm
  refine e_zret dX12_aChannel_50 rfl (zz_nar c_50) ?_
  have hm := some_in hm
  subst hm
  exact ⟨rfl, rfl⟩
set_option maxRecDepth 100000 in
set_option maxHeartbeats 4000000 in
theorem tX12_aChannel {l : Launch} {K : a_KT} {g : a_GT} {IA : iT} (hko : a_kok K) (I : iT) (J : jT) (F : fT) (hF : FOK F) (x1 : Int32) (x2 : Int32) (q : Int32 × iT × jT) (hm : mX12_aChannel I J x1 x2 = some q) : C l K g 4 0 0 yX12_aChannel cX12_aChannel 5 (some .boolean) [.ref 186, .int x1, .int x2] (hg IA I J F) (fun r2 h2 => r2 = some (.int q.1) ∧ h2 = hg IA q.2.1 q.2.2 F) := by
  unfold mX12_aChannel at hm
  refine c_of [.ref 186, .int x1, .int x2, .null, .null] (by decide) (Nat.le_of_ble_eq_true rfl) rfl ?_
  refine e_aload_n (i := 0) rfl dX12_aChannel_0 ?_
  refine l_getI 12 3 dX12_aChannel_1 fl_RX12_210 rfl iz_186 (by decide) ?_
  refine e_iconst (v := 2) (by decide) dX12_aChannel_4 ?_
  refine e_icmp_eq 18 dX12_aChannel_5 (by decide) (fun c_5 => ?_) (fun c_5 => ?_)
  · have hm := it_p c_5 hm
    refine e_aload_n (i := 0) rfl dX12_aChannel_18 ?_
    refine e_aload_n (i := 0) rfl dX12_aChannel_19 ?_
    refine q_getJ 12 6 dX12_aChannel_20 fl_RX12_162 rfl iz_186 ?_
    obtain ⟨q4, eq4, hm⟩ := ob_some hm
    refine e_cV1 hko dX12_aChannel_23 ml_RX12_301 iz_186 (by decide) rfl (by omega) (Nat.le_of_ble_eq_true rfl) (tX12_slot hko I J F hF (J 186 6) _ eq4) ?_
    rintro _ _ ⟨rfl, rfl⟩
    refine q_istore_n (i := 3) (by decide) rfl dX12_aChannel_26 ?_
    refine e_iload_n (i := 3) rfl dX12_aChannel_27 ?_
    refine e_iconst (v := (-1)) (by decide) dX12_aChannel_28 ?_
    refine e_icmp_eq 41 dX12_aChannel_29 (by decide) (fun c_29 => ?_) (fun c_29 => ?_)
    · have hm := it_p c_29 hm
      refine e_weak [.ref 186, .int x1, .int x2, .int q4, .null] ⟨rfl, ⟨rfl, ⟨rfl, ⟨rfl, ⟨trivial, trivial⟩⟩⟩⟩⟩ ?_
      exact tX12_aChannel_41 hko I J x1 x2 q4 hF _ hm
    · have hm := it_n c_29 hm
      refine e_aload_n (i := 0) rfl dX12_aChannel_32 ?_
      refine q_getF 12 39 208 dX12_aChannel_33 fl_RX12_78 rfl iz_186 (fr_186_39 hF) ?_
      refine e_iload_n (i := 3) rfl dX12_aChannel_36 ?_
      obtain ⟨c_37, hm⟩ := gd_s hm
      refine l_iald dX12_aChannel_37 iz_208 (inb_in ln_208 c_37) (by decide) ?_
      refine e_if_ne 51 dX12_aChannel_38 (by decide) (fun c_38 => ?_) (fun c_38 => ?_)
      · have hm := it_n c_38 hm
        refine e_aload_n (i := 0) rfl dX12_aChannel_51 ?_
        refine q_getF 12 11 188 dX12_aChannel_52 fl_RX12_17 rfl iz_186 (fr_186_11 hF) ?_
        refine e_aload_n (i := 0) rfl dX12_aChannel_55 ?_
        refine q_getF 12 40 209 dX12_aChannel_56 fl_RX12_81 rfl iz_186 (fr_186_40 hF) ?_
        refine e_iload_n (i := 3) rfl dX12_aChannel_59 ?_
        obtain ⟨c_60, hm⟩ := gd_s hm
        refine l_iald dX12_aChannel_60 iz_209 (inb_in ln_209 c_60) (by decide) ?_
        obtain ⟨c_61, hm⟩ := gd_s hm
        refine l_iald dX12_aChannel_61 iz_188 (inb_in ln_188 c_61) (by decide) ?_
        refine q_istore (i := 4) (by decide) rfl dX12_aChannel_62 ?_
        refine e_iload (i := 4) rfl dX12_aChannel_64 ?_
        refine e_aload_n (i := 0) rfl dX12_aChannel_66 ?_
        refine q_getF 12 39 208 dX12_aChannel_67 fl_RX12_78 rfl iz_186 (fr_186_39 hF) ?_
        refine e_iload_n (i := 3) rfl dX12_aChannel_70 ?_
        obtain ⟨c_71, hm⟩ := gd_s hm
        refine l_iald dX12_aChannel_71 iz_208 (inb_in ln_208 c_71) (by decide) ?_
        refine e_iconst (v := 1) (by decide) dX12_aChannel_72 ?_
        refine e_icmp_ne 80 dX12_aChannel_73 (by decide) (fun c_73 => ?_) (fun c_73 => ?_)
        · have hm := it_n c_73 hm
          refine e_iload_n (i := 2) rfl dX12_aChannel_80 ?_
          refine e_weak [.ref 186, .int x1, .int x2, .int q4, .int (I 188 (I 209 q4.toNatClampNeg).toNatClampNeg)] ⟨rfl, ⟨rfl, ⟨rfl, ⟨rfl, ⟨rfl, trivial⟩⟩⟩⟩⟩ ?_
          exact tX12_aChannel_81 hko I J x1 x2 q4 (I 188 (I 209 q4.toNatClampNeg).toNatClampNeg) x2 (I 188 (I 209 q4.toNatClampNeg).toNatClampNeg) hF _ hm
        · have hm := it_p c_73 hm
          refine e_iload_n (i := 1) rfl dX12_aChannel_76 ?_
          refine e_goto 81 dX12_aChannel_77 (by decide) ?_
          refine e_weak [.ref 186, .int x1, .int x2, .int q4, .int (I 188 (I 209 q4.toNatClampNeg).toNatClampNeg)] ⟨rfl, ⟨rfl, ⟨rfl, ⟨rfl, ⟨rfl, trivial⟩⟩⟩⟩⟩ ?_
          exact tX12_aChannel_81 hko I J x1 x2 q4 (I 188 (I 209 q4.toNatClampNeg).toNatClampNeg) x1 (I 188 (I 209 q4.toNatClampNeg).toNatClampNeg) hF _ hm
      · have hm := it_p c_38 hm
        refine e_weak [.ref 186, .int x1, .int x2, .int q4, .null] ⟨rfl, ⟨rfl, ⟨rfl, ⟨rfl, ⟨trivial, trivial⟩⟩⟩⟩⟩ ?_
        exact tX12_aChannel_41 hko I J x1 x2 q4 hF _ hm
  · have hm := it_n c_5 hm
    refine e_aload_n (i := 0) rfl dX12_aChannel_8 ?_
    refine e_iconst (v := 1) (by decide) dX12_aChannel_9 ?_
    refine e_aload_n (i := 0) rfl dX12_aChannel_10 ?_
    refine l_getI 12 4 dX12_aChannel_11 fl_RX12_207 rfl iz_186 (by decide) ?_
    obtain ⟨q5, eq5, hm⟩ := ob_some hm
    refine e_cV2 hko dX12_aChannel_14 ml_RX12_232 iz_186 (by decide) rfl (by omega) (Nat.le_of_ble_eq_true rfl) (tX12_bad hko I J F hF 1 (I 186 4) _ eq5) ?_
    rintro _ _ ⟨rfl, rfl⟩
    obtain ⟨c_17, hm⟩ := gd_s hm
    refine e_zret dX12_aChannel_17 rfl (zz_nar c_17) ?_
    have hm := some_in hm
    subst hm
    exact ⟨rfl, rfl⟩
theorem dX12_aGiven_0 : decode cX12_aGiven 0 = .ok (.aload_n 0, 1) := by decide +kernel
theorem dX12_aGiven_1 : decode cX12_aGiven 1 = .ok (.iload_n 1, 1) := by decide +kernel
theorem dX12_aGiven_2 : decode cX12_aGiven 2 = .ok (.iconst (-1), 1) := by decide +kernel
theorem dX12_aGiven_3 : decode cX12_aGiven 3 = .ok (.invokevirtual 343, 3) := by decide +kernel
theorem dX12_aGiven_6 : decode cX12_aGiven 6 = .ok (.ireturn, 1) := by decide +kernel
def mX12_aGiven (I : iT) (J : jT) (x1 : Int32) : Option (Int32 × iT × jT) := (mX12_aChannel I J x1 ((-1))).bind fun q1 => if q1.1 = 0 ∨ q1.1 = 1 then some (q1.1, q1.2.1, q1.2.2) else none
set_option maxRecDepth 100000 in
set_option maxHeartbeats 4000000 in
theorem tX12_aGiven {l : Launch} {K : a_KT} {g : a_GT} {IA : iT} (hko : a_kok K) (I : iT) (J : jT) (F : fT) (hF : FOK F) (x1 : Int32) (q : Int32 × iT × jT) (hm : mX12_aGiven I J x1 = some q) : C l K g 5 0 0 yX12_aGiven cX12_aGiven 2 (some .boolean) [.ref 186, .int x1] (hg IA I J F) (fun r2 h2 => r2 = some (.int q.1) ∧ h2 = hg IA q.2.1 q.2.2 F) := by
  unfold mX12_aGiven at hm
  refine c_of [.ref 186, .int x1] (by decide) (Nat.le_of_ble_eq_true rfl) rfl ?_
  refine e_aload_n (i := 0) rfl dX12_aGiven_0 ?_
  refine e_iload_n (i := 1) rfl dX12_aGiven_1 ?_
  refine e_iconst (v := (-1)) (by decide) dX12_aGiven_2 ?_
  obtain ⟨q1, eq1, hm⟩ := ob_some hm
  refine e_cV2 hko dX12_aGiven_3 ml_RX12_343 iz_186 (by decide) rfl (by omega) (Nat.le_of_ble_eq_true rfl) (tX12_aChannel hko I J F hF x1 ((-1)) _ eq1) ?_
  rintro _ _ ⟨rfl, rfl⟩
  obtain ⟨c_6, hm⟩ := gd_s hm
  refine e_zret dX12_aGiven_6 rfl (zz_nar c_6) ?_
  have hm := some_in hm
  subst hm
  exact ⟨rfl, rfl⟩
theorem dX12_back_0 : decode cX12_back 0 = .ok (.iconst 0, 1) := by decide +kernel
theorem dX12_back_1 : decode cX12_back 1 = .ok (.istore_n 2, 1) := by decide +kernel
theorem dX12_back_2 : decode cX12_back 2 = .ok (.iload_n 2, 1) := by decide +kernel
theorem dX12_back_3 : decode cX12_back 3 = .ok (.sipush 128, 3) := by decide +kernel
theorem dX12_back_6 : decode cX12_back 6 = .ok (.if_icmp .ge 63, 3) := by decide +kernel
theorem dX12_back_9 : decode cX12_back 9 = .ok (.aload_n 0, 1) := by decide +kernel
theorem dX12_back_10 : decode cX12_back 10 = .ok (.getfield 72, 3) := by decide +kernel
theorem dX12_back_13 : decode cX12_back 13 = .ok (.iload_n 2, 1) := by decide +kernel
theorem dX12_back_14 : decode cX12_back 14 = .ok (.aload_n 0, 1) := by decide +kernel
theorem dX12_back_15 : decode cX12_back 15 = .ok (.getfield 75, 3) := by decide +kernel
theorem dX12_back_18 : decode cX12_back 18 = .ok (.sipush 128, 3) := by decide +kernel
theorem dX12_back_21 : decode cX12_back 21 = .ok (.iload_n 1, 1) := by decide +kernel
theorem dX12_back_22 : decode cX12_back 22 = .ok (.imul, 1) := by decide +kernel
theorem dX12_back_23 : decode cX12_back 23 = .ok (.iload_n 2, 1) := by decide +kernel
theorem dX12_back_24 : decode cX12_back 24 = .ok (.iadd, 1) := by decide +kernel
theorem dX12_back_25 : decode cX12_back 25 = .ok (.laload, 1) := by decide +kernel
theorem dX12_back_26 : decode cX12_back 26 = .ok (.lastore, 1) := by decide +kernel
theorem dX12_back_27 : decode cX12_back 27 = .ok (.aload_n 0, 1) := by decide +kernel
theorem dX12_back_28 : decode cX12_back 28 = .ok (.getfield 78, 3) := by decide +kernel
theorem dX12_back_31 : decode cX12_back 31 = .ok (.iload_n 2, 1) := by decide +kernel
theorem dX12_back_32 : decode cX12_back 32 = .ok (.aload_n 0, 1) := by decide +kernel
theorem dX12_back_33 : decode cX12_back 33 = .ok (.getfield 84, 3) := by decide +kernel
theorem dX12_back_36 : decode cX12_back 36 = .ok (.sipush 128, 3) := by decide +kernel
theorem dX12_back_39 : decode cX12_back 39 = .ok (.iload_n 1, 1) := by decide +kernel
theorem dX12_back_40 : decode cX12_back 40 = .ok (.imul, 1) := by decide +kernel
theorem dX12_back_41 : decode cX12_back 41 = .ok (.iload_n 2, 1) := by decide +kernel
theorem dX12_back_42 : decode cX12_back 42 = .ok (.iadd, 1) := by decide +kernel
theorem dX12_back_43 : decode cX12_back 43 = .ok (.iaload, 1) := by decide +kernel
theorem dX12_back_44 : decode cX12_back 44 = .ok (.iastore, 1) := by decide +kernel
theorem dX12_back_45 : decode cX12_back 45 = .ok (.aload_n 0, 1) := by decide +kernel
theorem dX12_back_46 : decode cX12_back 46 = .ok (.getfield 81, 3) := by decide +kernel
theorem dX12_back_49 : decode cX12_back 49 = .ok (.iload_n 2, 1) := by decide +kernel
theorem dX12_back_50 : decode cX12_back 50 = .ok (.aload_n 0, 1) := by decide +kernel
theorem dX12_back_51 : decode cX12_back 51 = .ok (.getfield 87, 3) := by decide +kernel
theorem dX12_back_54 : decode cX12_back 54 = .ok (.sipush 128, 3) := by decide +kernel
theorem dX12_back_57 : decode cX12_back 57 = .ok (.iload_n 1, 1) := by decide +kernel
theorem dX12_back_58 : decode cX12_back 58 = .ok (.imul, 1) := by decide +kernel
theorem dX12_back_59 : decode cX12_back 59 = .ok (.iload_n 2, 1) := by decide +kernel
theorem dX12_back_60 : decode cX12_back 60 = .ok (.iadd, 1) := by decide +kernel
theorem dX12_back_61 : decode cX12_back 61 = .ok (.iaload, 1) := by decide +kernel
theorem dX12_back_62 : decode cX12_back 62 = .ok (.iastore, 1) := by decide +kernel
theorem dX12_back_63 : decode cX12_back 63 = .ok (.iinc 2 1, 3) := by decide +kernel
theorem dX12_back_66 : decode cX12_back 66 = .ok (.goto (-64), 3) := by decide +kernel
theorem dX12_back_69 : decode cX12_back 69 = .ok (.return_, 1) := by decide +kernel
def mX12_back_2 : Nat → iT → jT → Int32 → Int32 → Option (iT × jT)
  | 0, _, _, _, _ => none
  | n + 1, I, J, x1, x2 => if 128 ≤ x2 then some (I, J) else if inb ((128 * x1) + x2) 1152 then if inb x2 128 then if inb ((128 * x1) + x2) 1152 then if inb x2 128 then if inb ((128 * x1) + x2) 1152 then if inb x2 128 then mX12_back_2 n (a_u2 (a_u2 I 208 x2.toNatClampNeg (I 210 ((128 * x1) + x2).toNatClampNeg)) 209 x2.toNatClampNeg ((a_u2 I 208 x2.toNatClampNeg (I 210 ((128 * x1) + x2).toNatClampNeg)) 211 ((128 * x1) + x2).toNatClampNeg)) (a_u2 J 206 x2.toNatClampNeg (J 207 ((128 * x1) + x2).toNatClampNeg)) x1 (x2 + 1) else none else none else none else none else none else none
def mX12_back (I : iT) (J : jT) (x1 : Int32) : Option (iT × jT) := mX12_back_2 LF I J x1 0
set_option maxRecDepth 100000 in
set_option maxHeartbeats 4000000 in
theorem tX12_back_2 {l : Launch} {K : a_KT} {g : a_GT} {IA : iT} (hko : a_kok K) {F : fT} : ∀ (n : Nat) (I : iT) (J : jT) (x1 : Int32) (x2 : Int32) (hF : FOK F) (q : iT × jT), mX12_back_2 n I J x1 x2 = some q → E l K g 0 0 0 yX12_back cX12_back 3 none 2 [.ref 186, .int x1, .int x2] [] (hg IA I J F) (fun r2 h2 => r2 = none ∧ h2 = hg IA q.1 q.2 F) := by
  intro n
  induction n with
  | zero => intro I J x1 x2 hF q hm; cases hm
  | succ n ih =>
    intro I J x1 x2 hF q hm
    rw [mX12_back_2] at hm
    refine e_iload_n (i := 2) rfl dX12_back_2 ?_
    refine e_sipush (v := 128) (by decide) dX12_back_3 ?_
    refine e_icmp_ge 69 dX12_back_6 (by decide) (fun c_6 => ?_) (fun c_6 => ?_)
    · have hm := it_p c_6 hm
      refine e_vret dX12_back_69 rfl ?_
      have hm := some_in hm
      subst hm
      exact ⟨rfl, rfl⟩
    · have hm := it_n c_6 hm
      refine e_aload_n (i := 0) rfl dX12_back_9 ?_
      refine q_getF 12 37 206 dX12_back_10 fl_RX12_72 rfl iz_186 (fr_186_37 hF) ?_
      refine e_iload_n (i := 2) rfl dX12_back_13 ?_
      refine e_aload_n (i := 0) rfl dX12_back_14 ?_
      refine q_getF 12 38 207 dX12_back_15 fl_RX12_75 rfl iz_186 (fr_186_38 hF) ?_
      refine e_sipush (v := 128) (by decide) dX12_back_18 ?_
      refine e_iload_n (i := 1) rfl dX12_back_21 ?_
      refine e_imul dX12_back_22 ?_
      refine e_iload_n (i := 2) rfl dX12_back_23 ?_
      refine e_iadd dX12_back_24 ?_
      obtain ⟨c_25, hm⟩ := gd_s hm
      refine q_lald dX12_back_25 iz_207 (inb_in ln_207 c_25) ?_
      obtain ⟨c_26, hm⟩ := gd_s hm
      refine q_last dX12_back_26 iz_206 (inb_in ln_206 c_26) ?_
      refine e_aload_n (i := 0) rfl dX12_back_27 ?_
      refine q_getF 12 39 208 dX12_back_28 fl_RX12_78 rfl iz_186 (fr_186_39 hF) ?_
      refine e_iload_n (i := 2) rfl dX12_back_31 ?_
      refine e_aload_n (i := 0) rfl dX12_back_32 ?_
      refine q_getF 12 41 210 dX12_back_33 fl_RX12_84 rfl iz_186 (fr_186_41 hF) ?_
      refine e_sipush (v := 128) (by decide) dX12_back_36 ?_
      refine e_iload_n (i := 1) rfl dX12_back_39 ?_
      refine e_imul dX12_back_40 ?_
      refine e_iload_n (i := 2) rfl dX12_back_41 ?_
      refine e_iadd dX12_back_42 ?_
      obtain ⟨c_43, hm⟩ := gd_s hm
      refine l_iald dX12_back_43 iz_210 (inb_in ln_210 c_43) (by decide) ?_
      obtain ⟨c_44, hm⟩ := gd_s hm
      refine l_iast dX12_back_44 iz_208 (inb_in ln_208 c_44) (by decide) ?_
      refine e_aload_n (i := 0) rfl dX12_back_45 ?_
      refine q_getF 12 40 209 dX12_back_46 fl_RX12_81 rfl iz_186 (fr_186_40 hF) ?_
      refine e_iload_n (i := 2) rfl dX12_back_49 ?_
      refine e_aload_n (i := 0) rfl dX12_back_50 ?_
      refine q_getF 12 42 211 dX12_back_51 fl_RX12_87 rfl iz_186 (fr_186_42 hF) ?_
      refine e_sipush (v := 128) (by decide) dX12_back_54 ?_
      refine e_iload_n (i := 1) rfl dX12_back_57 ?_
      refine e_imul dX12_back_58 ?_
      refine e_iload_n (i := 2) rfl dX12_back_59 ?_
      refine e_iadd dX12_back_60 ?_
      obtain ⟨c_61, hm⟩ := gd_s hm
      refine l_iald dX12_back_61 iz_211 (inb_in ln_211 c_61) (by decide) ?_
      obtain ⟨c_62, hm⟩ := gd_s hm
      refine l_iast dX12_back_62 iz_209 (inb_in ln_209 c_62) (by decide) ?_
      refine q_iinc (i := 2) (x2 + 1) rfl ic_1 rfl dX12_back_63 ?_
      refine e_goto 2 dX12_back_66 (by decide) ?_
      refine e_weak [.ref 186, .int x1, .int (x2 + 1)] ⟨rfl, ⟨rfl, ⟨rfl, trivial⟩⟩⟩ ?_
      exact ih (a_u2 (a_u2 I 208 x2.toNatClampNeg (I 210 ((128 * x1) + x2).toNatClampNeg)) 209 x2.toNatClampNeg ((a_u2 I 208 x2.toNatClampNeg (I 210 ((128 * x1) + x2).toNatClampNeg)) 211 ((128 * x1) + x2).toNatClampNeg)) (a_u2 J 206 x2.toNatClampNeg (J 207 ((128 * x1) + x2).toNatClampNeg)) x1 (x2 + 1) hF _ hm
set_option maxRecDepth 100000 in
set_option maxHeartbeats 4000000 in
theorem tX12_back {l : Launch} {K : a_KT} {g : a_GT} {IA : iT} (hko : a_kok K) (I : iT) (J : jT) (F : fT) (hF : FOK F) (x1 : Int32) (q : iT × jT) (hm : mX12_back I J x1 = some q) : C l K g 0 0 0 yX12_back cX12_back 3 none [.ref 186, .int x1] (hg IA I J F) (fun r2 h2 => r2 = none ∧ h2 = hg IA q.1 q.2 F) := by
  unfold mX12_back at hm
  refine c_of [.ref 186, .int x1, .null] (by decide) (Nat.le_of_ble_eq_true rfl) rfl ?_
  refine e_iconst (v := 0) (by decide) dX12_back_0 ?_
  refine q_istore_n (i := 2) (by decide) rfl dX12_back_1 ?_
  refine e_weak [.ref 186, .int x1, .int 0] ⟨rfl, ⟨rfl, ⟨rfl, trivial⟩⟩⟩ ?_
  exact tX12_back_2 hko LF I J x1 0 hF _ hm
theorem dX12_isSign_0 : decode cX12_isSign 0 = .ok (.aload_n 0, 1) := by decide +kernel
theorem dX12_isSign_1 : decode cX12_isSign 1 = .ok (.getfield 210, 3) := by decide +kernel
theorem dX12_isSign_4 : decode cX12_isSign 4 = .ok (.sipush 400, 3) := by decide +kernel
theorem dX12_isSign_7 : decode cX12_isSign 7 = .ok (.iload_n 1, 1) := by decide +kernel
theorem dX12_isSign_8 : decode cX12_isSign 8 = .ok (.iadd, 1) := by decide +kernel
theorem dX12_isSign_9 : decode cX12_isSign 9 = .ok (.if_icmp .ne 7, 3) := by decide +kernel
theorem dX12_isSign_12 : decode cX12_isSign 12 = .ok (.iconst 1, 1) := by decide +kernel
theorem dX12_isSign_13 : decode cX12_isSign 13 = .ok (.goto 4, 3) := by decide +kernel
theorem dX12_isSign_16 : decode cX12_isSign 16 = .ok (.iconst 0, 1) := by decide +kernel
theorem dX12_isSign_17 : decode cX12_isSign 17 = .ok (.ireturn, 1) := by decide +kernel
def mX12_isSign (I : iT) (x1 : Int32) : Option (Int32) := if (I 186 3) = (400 + x1) then some 1 else some 0
set_option maxRecDepth 100000 in
set_option maxHeartbeats 4000000 in
theorem tX12_isSign {l : Launch} {K : a_KT} {g : a_GT} {IA : iT} (hko : a_kok K) (I : iT) (J : jT) (F : fT) (hF : FOK F) (x1 : Int32) (q : Int32) (hm : mX12_isSign I x1 = some q) : C l K g 0 0 0 yX12_isSign cX12_isSign 2 (some .boolean) [.ref 186, .int x1] (hg IA I J F) (fun r2 h2 => r2 = some (.int q) ∧ h2 = hg IA I J F) := by
  unfold mX12_isSign at hm
  refine c_of [.ref 186, .int x1] (by decide) (Nat.le_of_ble_eq_true rfl) rfl ?_
  refine e_aload_n (i := 0) rfl dX12_isSign_0 ?_
  refine l_getI 12 3 dX12_isSign_1 fl_RX12_210 rfl iz_186 (by decide) ?_
  refine e_sipush (v := 400) (by decide) dX12_isSign_4 ?_
  refine e_iload_n (i := 1) rfl dX12_isSign_7 ?_
  refine e_iadd dX12_isSign_8 ?_
  refine e_icmp_ne 16 dX12_isSign_9 (by decide) (fun c_9 => ?_) (fun c_9 => ?_)
  · have hm := it_n c_9 hm
    refine e_iconst (v := 0) (by decide) dX12_isSign_16 ?_
    refine e_zret dX12_isSign_17 rfl rfl ?_
    have hm := some_in hm
    subst hm
    exact ⟨rfl, rfl⟩
  · have hm := it_p c_9 hm
    refine e_iconst (v := 1) (by decide) dX12_isSign_12 ?_
    refine e_goto 17 dX12_isSign_13 (by decide) ?_
    refine e_zret dX12_isSign_17 rfl rfl ?_
    have hm := some_in hm
    subst hm
    exact ⟨rfl, rfl⟩
theorem dX12_node_0 : decode cX12_node 0 = .ok (.aload_n 0, 1) := by decide +kernel
theorem dX12_node_1 : decode cX12_node 1 = .ok (.getfield 239, 3) := by decide +kernel
theorem dX12_node_4 : decode cX12_node 4 = .ok (.aload_n 0, 1) := by decide +kernel
theorem dX12_node_5 : decode cX12_node 5 = .ok (.getfield 242, 3) := by decide +kernel
theorem dX12_node_8 : decode cX12_node 8 = .ok (.iadd, 1) := by decide +kernel
theorem dX12_node_9 : decode cX12_node 9 = .ok (.istore 6, 2) := by decide +kernel
theorem dX12_node_11 : decode cX12_node 11 = .ok (.aload_n 0, 1) := by decide +kernel
theorem dX12_node_12 : decode cX12_node 12 = .ok (.dup, 1) := by decide +kernel
theorem dX12_node_13 : decode cX12_node 13 = .ok (.getfield 242, 3) := by decide +kernel
theorem dX12_node_16 : decode cX12_node 16 = .ok (.iconst 1, 1) := by decide +kernel
theorem dX12_node_17 : decode cX12_node 17 = .ok (.iadd, 1) := by decide +kernel
theorem dX12_node_18 : decode cX12_node 18 = .ok (.putfield 242, 3) := by decide +kernel
theorem dX12_node_21 : decode cX12_node 21 = .ok (.aload_n 0, 1) := by decide +kernel
theorem dX12_node_22 : decode cX12_node 22 = .ok (.getfield 17, 3) := by decide +kernel
theorem dX12_node_25 : decode cX12_node 25 = .ok (.iload 6, 2) := by decide +kernel
theorem dX12_node_27 : decode cX12_node 27 = .ok (.iload_n 1, 1) := by decide +kernel
theorem dX12_node_28 : decode cX12_node 28 = .ok (.iastore, 1) := by decide +kernel
theorem dX12_node_29 : decode cX12_node 29 = .ok (.aload_n 0, 1) := by decide +kernel
theorem dX12_node_30 : decode cX12_node 30 = .ok (.getfield 20, 3) := by decide +kernel
theorem dX12_node_33 : decode cX12_node 33 = .ok (.iload 6, 2) := by decide +kernel
theorem dX12_node_35 : decode cX12_node 35 = .ok (.iload_n 2, 1) := by decide +kernel
theorem dX12_node_36 : decode cX12_node 36 = .ok (.iastore, 1) := by decide +kernel
theorem dX12_node_37 : decode cX12_node 37 = .ok (.aload_n 0, 1) := by decide +kernel
theorem dX12_node_38 : decode cX12_node 38 = .ok (.getfield 23, 3) := by decide +kernel
theorem dX12_node_41 : decode cX12_node 41 = .ok (.iload 6, 2) := by decide +kernel
theorem dX12_node_43 : decode cX12_node 43 = .ok (.iload_n 3, 1) := by decide +kernel
theorem dX12_node_44 : decode cX12_node 44 = .ok (.iastore, 1) := by decide +kernel
theorem dX12_node_45 : decode cX12_node 45 = .ok (.aload_n 0, 1) := by decide +kernel
theorem dX12_node_46 : decode cX12_node 46 = .ok (.getfield 26, 3) := by decide +kernel
theorem dX12_node_49 : decode cX12_node 49 = .ok (.iload 6, 2) := by decide +kernel
theorem dX12_node_51 : decode cX12_node 51 = .ok (.iconst (-1), 1) := by decide +kernel
theorem dX12_node_52 : decode cX12_node 52 = .ok (.iastore, 1) := by decide +kernel
theorem dX12_node_53 : decode cX12_node 53 = .ok (.aload_n 0, 1) := by decide +kernel
theorem dX12_node_54 : decode cX12_node 54 = .ok (.getfield 29, 3) := by decide +kernel
theorem dX12_node_57 : decode cX12_node 57 = .ok (.iload 6, 2) := by decide +kernel
theorem dX12_node_59 : decode cX12_node 59 = .ok (.lload 4, 2) := by decide +kernel
theorem dX12_node_61 : decode cX12_node 61 = .ok (.lastore, 1) := by decide +kernel
theorem dX12_node_62 : decode cX12_node 62 = .ok (.iload 6, 2) := by decide +kernel
theorem dX12_node_64 : decode cX12_node 64 = .ok (.ireturn, 1) := by decide +kernel
def mX12_node (I : iT) (J : jT) (x1 : Int32) (x2 : Int32) (x3 : Int32) (w4 : Int64) : Option (Int32 × iT × jT) := if inb ((I 186 16) + (I 186 17)) 2800 then if inb ((I 186 16) + (I 186 17)) 2800 then if inb ((I 186 16) + (I 186 17)) 2800 then if inb ((I 186 16) + (I 186 17)) 2800 then if inb ((I 186 16) + (I 186 17)) 2800 then some ((I 186 16) + (I 186 17), a_u2 (a_u2 (a_u2 (a_u2 (a_u2 I 186 17 ((I 186 17) + 1)) 188 ((I 186 16) + (I 186 17)).toNatClampNeg x1) 189 ((I 186 16) + (I 186 17)).toNatClampNeg x2) 190 ((I 186 16) + (I 186 17)).toNatClampNeg x3) 191 ((I 186 16) + (I 186 17)).toNatClampNeg ((-1)), a_u2 J 192 ((I 186 16) + (I 186 17)).toNatClampNeg w4) else none else none else none else none else none
set_option maxRecDepth 100000 in
set_option maxHeartbeats 4000000 in
theorem tX12_node {l : Launch} {K : a_KT} {g : a_GT} {IA : iT} (hko : a_kok K) (I : iT) (J : jT) (F : fT) (hF : FOK F) (x1 : Int32) (x2 : Int32) (x3 : Int32) (w4 : Int64) (q : Int32 × iT × jT) (hm : mX12_node I J x1 x2 x3 w4 = some q) : C l K g 0 0 0 yX12_node cX12_node 7 (some .int) [.ref 186, .int x1, .int x2, .int x3, .long w4] (hg IA I J F) (fun r2 h2 => r2 = some (.int q.1) ∧ h2 = hg IA q.2.1 q.2.2 F) := by
  unfold mX12_node at hm
  refine c_of [.ref 186, .int x1, .int x2, .int x3, .long w4, .null, .null] (by decide) (Nat.le_of_ble_eq_true rfl) rfl ?_
  refine e_aload_n (i := 0) rfl dX12_node_0 ?_
  refine l_getI 12 16 dX12_node_1 fl_RX12_239 rfl iz_186 (by decide) ?_
  refine e_aload_n (i := 0) rfl dX12_node_4 ?_
  refine l_getI 12 17 dX12_node_5 fl_RX12_242 rfl iz_186 (by decide) ?_
  refine e_iadd dX12_node_8 ?_
  refine q_istore (i := 6) (by decide) rfl dX12_node_9 ?_
  refine e_aload_n (i := 0) rfl dX12_node_11 ?_
  refine e_dup rfl dX12_node_12 ?_
  refine l_getI 12 17 dX12_node_13 fl_RX12_242 rfl iz_186 (by decide) ?_
  refine e_iconst (v := 1) (by decide) dX12_node_16 ?_
  refine e_iadd dX12_node_17 ?_
  refine l_putI 12 17 dX12_node_18 fl_RX12_242 rfl rfl iz_186 (by decide) ?_
  refine e_aload_n (i := 0) rfl dX12_node_21 ?_
  refine q_getF 12 11 188 dX12_node_22 fl_RX12_17 rfl iz_186 (fr_186_11 hF) ?_
  refine e_iload (i := 6) rfl dX12_node_25 ?_
  refine e_iload_n (i := 1) rfl dX12_node_27 ?_
  obtain ⟨c_28, hm⟩ := gd_s hm
  refine l_iast dX12_node_28 iz_188 (inb_in ln_188 c_28) (by decide) ?_
  refine e_aload_n (i := 0) rfl dX12_node_29 ?_
  refine q_getF 12 12 189 dX12_node_30 fl_RX12_20 rfl iz_186 (fr_186_12 hF) ?_
  refine e_iload (i := 6) rfl dX12_node_33 ?_
  refine e_iload_n (i := 2) rfl dX12_node_35 ?_
  obtain ⟨c_36, hm⟩ := gd_s hm
  refine l_iast dX12_node_36 iz_189 (inb_in ln_189 c_36) (by decide) ?_
  refine e_aload_n (i := 0) rfl dX12_node_37 ?_
  refine q_getF 12 13 190 dX12_node_38 fl_RX12_23 rfl iz_186 (fr_186_13 hF) ?_
  refine e_iload (i := 6) rfl dX12_node_41 ?_
  refine e_iload_n (i := 3) rfl dX12_node_43 ?_
  obtain ⟨c_44, hm⟩ := gd_s hm
  refine l_iast dX12_node_44 iz_190 (inb_in ln_190 c_44) (by decide) ?_
  refine e_aload_n (i := 0) rfl dX12_node_45 ?_
  refine q_getF 12 14 191 dX12_node_46 fl_RX12_26 rfl iz_186 (fr_186_14 hF) ?_
  refine e_iload (i := 6) rfl dX12_node_49 ?_
  refine e_iconst (v := (-1)) (by decide) dX12_node_51 ?_
  obtain ⟨c_52, hm⟩ := gd_s hm
  refine l_iast dX12_node_52 iz_191 (inb_in ln_191 c_52) (by decide) ?_
  refine e_aload_n (i := 0) rfl dX12_node_53 ?_
  refine q_getF 12 15 192 dX12_node_54 fl_RX12_29 rfl iz_186 (fr_186_15 hF) ?_
  refine e_iload (i := 6) rfl dX12_node_57 ?_
  refine e_lload (i := 4) rfl dX12_node_59 ?_
  obtain ⟨c_61, hm⟩ := gd_s hm
  refine q_last dX12_node_61 iz_192 (inb_in ln_192 c_61) ?_
  refine e_iload (i := 6) rfl dX12_node_62 ?_
  refine e_iret dX12_node_64 rfl ?_
  have hm := some_in hm
  subst hm
  exact ⟨rfl, rfl⟩
theorem dX12_need_0 : decode cX12_need 0 = .ok (.aload_n 0, 1) := by decide +kernel
theorem dX12_need_1 : decode cX12_need 1 = .ok (.iload_n 1, 1) := by decide +kernel
theorem dX12_need_2 : decode cX12_need 2 = .ok (.invokevirtual 229, 3) := by decide +kernel
theorem dX12_need_5 : decode cX12_need 5 = .ok (.ifCond .ne 13, 3) := by decide +kernel
theorem dX12_need_8 : decode cX12_need 8 = .ok (.aload_n 0, 1) := by decide +kernel
theorem dX12_need_9 : decode cX12_need 9 = .ok (.iconst 1, 1) := by decide +kernel
theorem dX12_need_10 : decode cX12_need 10 = .ok (.aload_n 0, 1) := by decide +kernel
theorem dX12_need_11 : decode cX12_need 11 = .ok (.getfield 207, 3) := by decide +kernel
theorem dX12_need_14 : decode cX12_need 14 = .ok (.invokevirtual 232, 3) := by decide +kernel
theorem dX12_need_17 : decode cX12_need 17 = .ok (.ireturn, 1) := by decide +kernel
theorem dX12_need_18 : decode cX12_need 18 = .ok (.aload_n 0, 1) := by decide +kernel
theorem dX12_need_19 : decode cX12_need 19 = .ok (.invokevirtual 236, 3) := by decide +kernel
theorem dX12_need_22 : decode cX12_need 22 = .ok (.iconst 1, 1) := by decide +kernel
theorem dX12_need_23 : decode cX12_need 23 = .ok (.ireturn, 1) := by decide +kernel
def mX12_need (I : iT) (J : jT) (x1 : Int32) : Option (Int32 × iT × jT) := (mX12_isSign I x1).bind fun q1 => if q1 = 0 then (mX12_bad I 1 (I 186 4)).bind fun q3 => if q3.1 = 0 ∨ q3.1 = 1 then some (q3.1, q3.2, J) else none else (mX12_look0 I J).bind fun q2 => some (1, q2.1, q2.2)
set_option maxRecDepth 100000 in
set_option maxHeartbeats 4000000 in
theorem tX12_need {l : Launch} {K : a_KT} {g : a_GT} {IA : iT} (hko : a_kok K) (I : iT) (J : jT) (F : fT) (hF : FOK F) (x1 : Int32) (q : Int32 × iT × jT) (hm : mX12_need I J x1 = some q) : C l K g 4 0 0 yX12_need cX12_need 2 (some .boolean) [.ref 186, .int x1] (hg IA I J F) (fun r2 h2 => r2 = some (.int q.1) ∧ h2 = hg IA q.2.1 q.2.2 F) := by
  unfold mX12_need at hm
  refine c_of [.ref 186, .int x1] (by decide) (Nat.le_of_ble_eq_true rfl) rfl ?_
  refine e_aload_n (i := 0) rfl dX12_need_0 ?_
  refine e_iload_n (i := 1) rfl dX12_need_1 ?_
  obtain ⟨q1, eq1, hm⟩ := ob_some hm
  refine e_cV1 hko dX12_need_2 ml_RX12_229 iz_186 (by decide) rfl (by omega) (Nat.le_of_ble_eq_true rfl) (tX12_isSign hko I J F hF x1 _ eq1) ?_
  rintro _ _ ⟨rfl, rfl⟩
  refine e_if_ne 18 dX12_need_5 (by decide) (fun c_5 => ?_) (fun c_5 => ?_)
  · have hm := it_n c_5 hm
    refine e_aload_n (i := 0) rfl dX12_need_18 ?_
    obtain ⟨q2, eq2, hm⟩ := ob_some hm
    refine e_cV0 hko dX12_need_19 ml_RX12_236 iz_186 (by decide) rfl (by omega) (Nat.le_of_ble_eq_true rfl) (tX12_look0 hko I J F hF _ eq2) ?_
    rintro _ _ ⟨rfl, rfl⟩
    refine e_iconst (v := 1) (by decide) dX12_need_22 ?_
    refine e_zret dX12_need_23 rfl rfl ?_
    have hm := some_in hm
    subst hm
    exact ⟨rfl, rfl⟩
  · have hm := it_p c_5 hm
    refine e_aload_n (i := 0) rfl dX12_need_8 ?_
    refine e_iconst (v := 1) (by decide) dX12_need_9 ?_
    refine e_aload_n (i := 0) rfl dX12_need_10 ?_
    refine l_getI 12 4 dX12_need_11 fl_RX12_207 rfl iz_186 (by decide) ?_
    obtain ⟨q3, eq3, hm⟩ := ob_some hm
    refine e_cV2 hko dX12_need_14 ml_RX12_232 iz_186 (by decide) rfl (by omega) (Nat.le_of_ble_eq_true rfl) (tX12_bad hko I J F hF 1 (I 186 4) _ eq3) ?_
    rintro _ _ ⟨rfl, rfl⟩
    obtain ⟨c_17, hm⟩ := gd_s hm
    refine e_zret dX12_need_17 rfl (zz_nar c_17) ?_
    have hm := some_in hm
    subst hm
    exact ⟨rfl, rfl⟩
theorem dX12_opens_0 : decode cX12_opens 0 = .ok (.aload_n 0, 1) := by decide +kernel
theorem dX12_opens_1 : decode cX12_opens 1 = .ok (.getfield 295, 3) := by decide +kernel
theorem dX12_opens_4 : decode cX12_opens 4 = .ok (.bipush 8, 2) := by decide +kernel
theorem dX12_opens_6 : decode cX12_opens 6 = .ok (.if_icmp .ne 13, 3) := by decide +kernel
theorem dX12_opens_9 : decode cX12_opens 9 = .ok (.aload_n 0, 1) := by decide +kernel
theorem dX12_opens_10 : decode cX12_opens 10 = .ok (.iconst 5, 1) := by decide +kernel
theorem dX12_opens_11 : decode cX12_opens 11 = .ok (.aload_n 0, 1) := by decide +kernel
theorem dX12_opens_12 : decode cX12_opens 12 = .ok (.getfield 207, 3) := by decide +kernel
theorem dX12_opens_15 : decode cX12_opens 15 = .ok (.invokevirtual 232, 3) := by decide +kernel
theorem dX12_opens_18 : decode cX12_opens 18 = .ok (.ireturn, 1) := by decide +kernel
theorem dX12_opens_19 : decode cX12_opens 19 = .ok (.aload_n 0, 1) := by decide +kernel
theorem dX12_opens_20 : decode cX12_opens 20 = .ok (.dup, 1) := by decide +kernel
theorem dX12_opens_21 : decode cX12_opens 21 = .ok (.getfield 295, 3) := by decide +kernel
theorem dX12_opens_24 : decode cX12_opens 24 = .ok (.iconst 1, 1) := by decide +kernel
theorem dX12_opens_25 : decode cX12_opens 25 = .ok (.iadd, 1) := by decide +kernel
theorem dX12_opens_26 : decode cX12_opens 26 = .ok (.putfield 295, 3) := by decide +kernel
theorem dX12_opens_29 : decode cX12_opens 29 = .ok (.aload_n 0, 1) := by decide +kernel
theorem dX12_opens_30 : decode cX12_opens 30 = .ok (.invokevirtual 236, 3) := by decide +kernel
theorem dX12_opens_33 : decode cX12_opens 33 = .ok (.iconst 1, 1) := by decide +kernel
theorem dX12_opens_34 : decode cX12_opens 34 = .ok (.ireturn, 1) := by decide +kernel
def mX12_opens (I : iT) (J : jT) : Option (Int32 × iT × jT) := if (I 186 45) = 8 then (mX12_bad I 5 (I 186 4)).bind fun q2 => if q2.1 = 0 ∨ q2.1 = 1 then some (q2.1, q2.2, J) else none else (mX12_look0 (a_u2 I 186 45 ((I 186 45) + 1)) J).bind fun q1 => some (1, q1.1, q1.2)
set_option maxRecDepth 100000 in
set_option maxHeartbeats 4000000 in
theorem tX12_opens {l : Launch} {K : a_KT} {g : a_GT} {IA : iT} (hko : a_kok K) (I : iT) (J : jT) (F : fT) (hF : FOK F) (q : Int32 × iT × jT) (hm : mX12_opens I J = some q) : C l K g 4 0 0 yX12_opens cX12_opens 1 (some .boolean) [.ref 186] (hg IA I J F) (fun r2 h2 => r2 = some (.int q.1) ∧ h2 = hg IA q.2.1 q.2.2 F) := by
  unfold mX12_opens at hm
  refine c_of [.ref 186] (by decide) (Nat.le_of_ble_eq_true rfl) rfl ?_
  refine e_aload_n (i := 0) rfl dX12_opens_0 ?_
  refine l_getI 12 45 dX12_opens_1 fl_RX12_295 rfl iz_186 (by decide) ?_
  refine e_bipush (v := 8) (by decide) dX12_opens_4 ?_
  refine e_icmp_ne 19 dX12_opens_6 (by decide) (fun c_6 => ?_) (fun c_6 => ?_)
  · have hm := it_n c_6 hm
    refine e_aload_n (i := 0) rfl dX12_opens_19 ?_
    refine e_dup rfl dX12_opens_20 ?_
    refine l_getI 12 45 dX12_opens_21 fl_RX12_295 rfl iz_186 (by decide) ?_
    refine e_iconst (v := 1) (by decide) dX12_opens_24 ?_
    refine e_iadd dX12_opens_25 ?_
    refine l_putI 12 45 dX12_opens_26 fl_RX12_295 rfl rfl iz_186 (by decide) ?_
    refine e_aload_n (i := 0) rfl dX12_opens_29 ?_
    obtain ⟨q1, eq1, hm⟩ := ob_some hm
    refine e_cV0 hko dX12_opens_30 ml_RX12_236 iz_186 (by decide) rfl (by omega) (Nat.le_of_ble_eq_true rfl) (tX12_look0 hko (a_u2 I 186 45 ((I 186 45) + 1)) J F hF _ eq1) ?_
    rintro _ _ ⟨rfl, rfl⟩
    refine e_iconst (v := 1) (by decide) dX12_opens_33 ?_
    refine e_zret dX12_opens_34 rfl rfl ?_
    have hm := some_in hm
    subst hm
    exact ⟨rfl, rfl⟩
  · have hm := it_p c_6 hm
    refine e_aload_n (i := 0) rfl dX12_opens_9 ?_
    refine e_iconst (v := 5) (by decide) dX12_opens_10 ?_
    refine e_aload_n (i := 0) rfl dX12_opens_11 ?_
    refine l_getI 12 4 dX12_opens_12 fl_RX12_207 rfl iz_186 (by decide) ?_
    obtain ⟨q2, eq2, hm⟩ := ob_some hm
    refine e_cV2 hko dX12_opens_15 ml_RX12_232 iz_186 (by decide) rfl (by omega) (Nat.le_of_ble_eq_true rfl) (tX12_bad hko I J F hF 5 (I 186 4) _ eq2) ?_
    rintro _ _ ⟨rfl, rfl⟩
    obtain ⟨c_18, hm⟩ := gd_s hm
    refine e_zret dX12_opens_18 rfl (zz_nar c_18) ?_
    have hm := some_in hm
    subst hm
    exact ⟨rfl, rfl⟩
theorem dX12_expression_0 : decode cX12_expression 0 = .ok (.aload_n 0, 1) := by decide +kernel
theorem dX12_expression_1 : decode cX12_expression 1 = .ok (.invokevirtual 316, 3) := by decide +kernel
theorem dX12_expression_4 : decode cX12_expression 4 = .ok (.ifCond .ne 5, 3) := by decide +kernel
theorem dX12_expression_7 : decode cX12_expression 7 = .ok (.iconst 0, 1) := by decide +kernel
theorem dX12_expression_8 : decode cX12_expression 8 = .ok (.ireturn, 1) := by decide +kernel
theorem dX12_expression_9 : decode cX12_expression 9 = .ok (.aload_n 0, 1) := by decide +kernel
theorem dX12_expression_10 : decode cX12_expression 10 = .ok (.bipush 60, 2) := by decide +kernel
theorem dX12_expression_12 : decode cX12_expression 12 = .ok (.invokevirtual 229, 3) := by decide +kernel
theorem dX12_expression_15 : decode cX12_expression 15 = .ok (.ifCond .ne 13, 3) := by decide +kernel
theorem dX12_expression_18 : decode cX12_expression 18 = .ok (.aload_n 0, 1) := by decide +kernel
theorem dX12_expression_19 : decode cX12_expression 19 = .ok (.getfield 210, 3) := by decide +kernel
theorem dX12_expression_22 : decode cX12_expression 22 = .ok (.iconst 4, 1) := by decide +kernel
theorem dX12_expression_23 : decode cX12_expression 23 = .ok (.if_icmp .eq 5, 3) := by decide +kernel
theorem dX12_expression_26 : decode cX12_expression 26 = .ok (.iconst 1, 1) := by decide +kernel
theorem dX12_expression_27 : decode cX12_expression 27 = .ok (.ireturn, 1) := by decide +kernel
theorem dX12_expression_28 : decode cX12_expression 28 = .ok (.aload_n 0, 1) := by decide +kernel
theorem dX12_expression_29 : decode cX12_expression 29 = .ok (.getfield 210, 3) := by decide +kernel
theorem dX12_expression_32 : decode cX12_expression 32 = .ok (.iconst 4, 1) := by decide +kernel
theorem dX12_expression_33 : decode cX12_expression 33 = .ok (.if_icmp .ne 8, 3) := by decide +kernel
theorem dX12_expression_36 : decode cX12_expression 36 = .ok (.bipush 27, 2) := by decide +kernel
theorem dX12_expression_38 : decode cX12_expression 38 = .ok (.goto 5, 3) := by decide +kernel
theorem dX12_expression_41 : decode cX12_expression 41 = .ok (.bipush 26, 2) := by decide +kernel
theorem dX12_expression_43 : decode cX12_expression 43 = .ok (.istore_n 1, 1) := by decide +kernel
theorem dX12_expression_44 : decode cX12_expression 44 = .ok (.aload_n 0, 1) := by decide +kernel
theorem dX12_expression_45 : decode cX12_expression 45 = .ok (.getfield 298, 3) := by decide +kernel
theorem dX12_expression_48 : decode cX12_expression 48 = .ok (.istore_n 2, 1) := by decide +kernel
theorem dX12_expression_49 : decode cX12_expression 49 = .ok (.aload_n 0, 1) := by decide +kernel
theorem dX12_expression_50 : decode cX12_expression 50 = .ok (.invokevirtual 236, 3) := by decide +kernel
theorem dX12_expression_53 : decode cX12_expression 53 = .ok (.aload_n 0, 1) := by decide +kernel
theorem dX12_expression_54 : decode cX12_expression 54 = .ok (.invokevirtual 316, 3) := by decide +kernel
theorem dX12_expression_57 : decode cX12_expression 57 = .ok (.ifCond .ne 5, 3) := by decide +kernel
theorem dX12_expression_60 : decode cX12_expression 60 = .ok (.iconst 0, 1) := by decide +kernel
theorem dX12_expression_61 : decode cX12_expression 61 = .ok (.ireturn, 1) := by decide +kernel
theorem dX12_expression_62 : decode cX12_expression 62 = .ok (.aload_n 0, 1) := by decide +kernel
theorem dX12_expression_63 : decode cX12_expression 63 = .ok (.aload_n 0, 1) := by decide +kernel
theorem dX12_expression_64 : decode cX12_expression 64 = .ok (.iload_n 1, 1) := by decide +kernel
theorem dX12_expression_65 : decode cX12_expression 65 = .ok (.iload_n 2, 1) := by decide +kernel
theorem dX12_expression_66 : decode cX12_expression 66 = .ok (.aload_n 0, 1) := by decide +kernel
theorem dX12_expression_67 : decode cX12_expression 67 = .ok (.getfield 298, 3) := by decide +kernel
theorem dX12_expression_70 : decode cX12_expression 70 = .ok (.lconst 0, 1) := by decide +kernel
theorem dX12_expression_71 : decode cX12_expression 71 = .ok (.invokevirtual 264, 3) := by decide +kernel
theorem dX12_expression_74 : decode cX12_expression 74 = .ok (.putfield 298, 3) := by decide +kernel
theorem dX12_expression_77 : decode cX12_expression 77 = .ok (.iconst 1, 1) := by decide +kernel
theorem dX12_expression_78 : decode cX12_expression 78 = .ok (.ireturn, 1) := by decide +kernel
theorem dX12_product_0 : decode cX12_product 0 = .ok (.aload_n 0, 1) := by decide +kernel
theorem dX12_product_1 : decode cX12_product 1 = .ok (.invokevirtual 307, 3) := by decide +kernel
theorem dX12_product_4 : decode cX12_product 4 = .ok (.ifCond .ne 5, 3) := by decide +kernel
theorem dX12_product_7 : decode cX12_product 7 = .ok (.iconst 0, 1) := by decide +kernel
theorem dX12_product_8 : decode cX12_product 8 = .ok (.ireturn, 1) := by decide +kernel
theorem dX12_product_9 : decode cX12_product 9 = .ok (.aload_n 0, 1) := by decide +kernel
theorem dX12_product_10 : decode cX12_product 10 = .ok (.bipush 42, 2) := by decide +kernel
theorem dX12_product_12 : decode cX12_product 12 = .ok (.invokevirtual 229, 3) := by decide +kernel
theorem dX12_product_15 : decode cX12_product 15 = .ok (.ifCond .eq 40, 3) := by decide +kernel
theorem dX12_product_18 : decode cX12_product 18 = .ok (.aload_n 0, 1) := by decide +kernel
theorem dX12_product_19 : decode cX12_product 19 = .ok (.getfield 298, 3) := by decide +kernel
theorem dX12_product_22 : decode cX12_product 22 = .ok (.istore_n 1, 1) := by decide +kernel
theorem dX12_product_23 : decode cX12_product 23 = .ok (.aload_n 0, 1) := by decide +kernel
theorem dX12_product_24 : decode cX12_product 24 = .ok (.invokevirtual 236, 3) := by decide +kernel
theorem dX12_product_27 : decode cX12_product 27 = .ok (.aload_n 0, 1) := by decide +kernel
theorem dX12_product_28 : decode cX12_product 28 = .ok (.invokevirtual 307, 3) := by decide +kernel
theorem dX12_product_31 : decode cX12_product 31 = .ok (.ifCond .ne 5, 3) := by decide +kernel
theorem dX12_product_34 : decode cX12_product 34 = .ok (.iconst 0, 1) := by decide +kernel
theorem dX12_product_35 : decode cX12_product 35 = .ok (.ireturn, 1) := by decide +kernel
theorem dX12_product_36 : decode cX12_product 36 = .ok (.aload_n 0, 1) := by decide +kernel
theorem dX12_product_37 : decode cX12_product 37 = .ok (.aload_n 0, 1) := by decide +kernel
theorem dX12_product_38 : decode cX12_product 38 = .ok (.bipush 25, 2) := by decide +kernel
theorem dX12_product_40 : decode cX12_product 40 = .ok (.iload_n 1, 1) := by decide +kernel
theorem dX12_product_41 : decode cX12_product 41 = .ok (.aload_n 0, 1) := by decide +kernel
theorem dX12_product_42 : decode cX12_product 42 = .ok (.getfield 298, 3) := by decide +kernel
theorem dX12_product_45 : decode cX12_product 45 = .ok (.lconst 0, 1) := by decide +kernel
theorem dX12_product_46 : decode cX12_product 46 = .ok (.invokevirtual 264, 3) := by decide +kernel
theorem dX12_product_49 : decode cX12_product 49 = .ok (.putfield 298, 3) := by decide +kernel
theorem dX12_product_52 : decode cX12_product 52 = .ok (.goto (-43), 3) := by decide +kernel
theorem dX12_product_55 : decode cX12_product 55 = .ok (.iconst 1, 1) := by decide +kernel
theorem dX12_product_56 : decode cX12_product 56 = .ok (.ireturn, 1) := by decide +kernel
theorem dX12_sum_0 : decode cX12_sum 0 = .ok (.aload_n 0, 1) := by decide +kernel
theorem dX12_sum_1 : decode cX12_sum 1 = .ok (.invokevirtual 313, 3) := by decide +kernel
theorem dX12_sum_4 : decode cX12_sum 4 = .ok (.ifCond .ne 5, 3) := by decide +kernel
theorem dX12_sum_7 : decode cX12_sum 7 = .ok (.iconst 0, 1) := by decide +kernel
theorem dX12_sum_8 : decode cX12_sum 8 = .ok (.ireturn, 1) := by decide +kernel
theorem dX12_sum_9 : decode cX12_sum 9 = .ok (.aload_n 0, 1) := by decide +kernel
theorem dX12_sum_10 : decode cX12_sum 10 = .ok (.bipush 43, 2) := by decide +kernel
theorem dX12_sum_12 : decode cX12_sum 12 = .ok (.invokevirtual 229, 3) := by decide +kernel
theorem dX12_sum_15 : decode cX12_sum 15 = .ok (.ifCond .ne 12, 3) := by decide +kernel
theorem dX12_sum_18 : decode cX12_sum 18 = .ok (.aload_n 0, 1) := by decide +kernel
theorem dX12_sum_19 : decode cX12_sum 19 = .ok (.bipush 45, 2) := by decide +kernel
theorem dX12_sum_21 : decode cX12_sum 21 = .ok (.invokevirtual 229, 3) := by decide +kernel
theorem dX12_sum_24 : decode cX12_sum 24 = .ok (.ifCond .eq 56, 3) := by decide +kernel
theorem dX12_sum_27 : decode cX12_sum 27 = .ok (.aload_n 0, 1) := by decide +kernel
theorem dX12_sum_28 : decode cX12_sum 28 = .ok (.bipush 43, 2) := by decide +kernel
theorem dX12_sum_30 : decode cX12_sum 30 = .ok (.invokevirtual 229, 3) := by decide +kernel
theorem dX12_sum_33 : decode cX12_sum 33 = .ok (.ifCond .eq 8, 3) := by decide +kernel
theorem dX12_sum_36 : decode cX12_sum 36 = .ok (.bipush 23, 2) := by decide +kernel
theorem dX12_sum_38 : decode cX12_sum 38 = .ok (.goto 5, 3) := by decide +kernel
theorem dX12_sum_41 : decode cX12_sum 41 = .ok (.bipush 24, 2) := by decide +kernel
theorem dX12_sum_43 : decode cX12_sum 43 = .ok (.istore_n 1, 1) := by decide +kernel
theorem dX12_sum_44 : decode cX12_sum 44 = .ok (.aload_n 0, 1) := by decide +kernel
theorem dX12_sum_45 : decode cX12_sum 45 = .ok (.getfield 298, 3) := by decide +kernel
theorem dX12_sum_48 : decode cX12_sum 48 = .ok (.istore_n 2, 1) := by decide +kernel
theorem dX12_sum_49 : decode cX12_sum 49 = .ok (.aload_n 0, 1) := by decide +kernel
theorem dX12_sum_50 : decode cX12_sum 50 = .ok (.invokevirtual 236, 3) := by decide +kernel
theorem dX12_sum_53 : decode cX12_sum 53 = .ok (.aload_n 0, 1) := by decide +kernel
theorem dX12_sum_54 : decode cX12_sum 54 = .ok (.invokevirtual 313, 3) := by decide +kernel
theorem dX12_sum_57 : decode cX12_sum 57 = .ok (.ifCond .ne 5, 3) := by decide +kernel
theorem dX12_sum_60 : decode cX12_sum 60 = .ok (.iconst 0, 1) := by decide +kernel
theorem dX12_sum_61 : decode cX12_sum 61 = .ok (.ireturn, 1) := by decide +kernel
theorem dX12_sum_62 : decode cX12_sum 62 = .ok (.aload_n 0, 1) := by decide +kernel
theorem dX12_sum_63 : decode cX12_sum 63 = .ok (.aload_n 0, 1) := by decide +kernel
theorem dX12_sum_64 : decode cX12_sum 64 = .ok (.iload_n 1, 1) := by decide +kernel
theorem dX12_sum_65 : decode cX12_sum 65 = .ok (.iload_n 2, 1) := by decide +kernel
theorem dX12_sum_66 : decode cX12_sum 66 = .ok (.aload_n 0, 1) := by decide +kernel
theorem dX12_sum_67 : decode cX12_sum 67 = .ok (.getfield 298, 3) := by decide +kernel
theorem dX12_sum_70 : decode cX12_sum 70 = .ok (.lconst 0, 1) := by decide +kernel
theorem dX12_sum_71 : decode cX12_sum 71 = .ok (.invokevirtual 264, 3) := by decide +kernel
theorem dX12_sum_74 : decode cX12_sum 74 = .ok (.putfield 298, 3) := by decide +kernel
theorem dX12_sum_77 : decode cX12_sum 77 = .ok (.goto (-68), 3) := by decide +kernel
theorem dX12_sum_80 : decode cX12_sum 80 = .ok (.iconst 1, 1) := by decide +kernel
theorem dX12_sum_81 : decode cX12_sum 81 = .ok (.ireturn, 1) := by decide +kernel
theorem dX12_unit_0 : decode cX12_unit 0 = .ok (.aload_n 0, 1) := by decide +kernel
theorem dX12_unit_1 : decode cX12_unit 1 = .ok (.getfield 210, 3) := by decide +kernel
theorem dX12_unit_4 : decode cX12_unit 4 = .ok (.iconst 3, 1) := by decide +kernel
theorem dX12_unit_5 : decode cX12_unit 5 = .ok (.if_icmp .ne 25, 3) := by decide +kernel
theorem dX12_unit_8 : decode cX12_unit 8 = .ok (.aload_n 0, 1) := by decide +kernel
theorem dX12_unit_9 : decode cX12_unit 9 = .ok (.aload_n 0, 1) := by decide +kernel
theorem dX12_unit_10 : decode cX12_unit 10 = .ok (.bipush 20, 2) := by decide +kernel
theorem dX12_unit_12 : decode cX12_unit 12 = .ok (.aload_n 0, 1) := by decide +kernel
theorem dX12_unit_13 : decode cX12_unit 13 = .ok (.getfield 217, 3) := by decide +kernel
theorem dX12_unit_16 : decode cX12_unit 16 = .ok (.iconst (-1), 1) := by decide +kernel
theorem dX12_unit_17 : decode cX12_unit 17 = .ok (.lconst 0, 1) := by decide +kernel
theorem dX12_unit_18 : decode cX12_unit 18 = .ok (.invokevirtual 264, 3) := by decide +kernel
theorem dX12_unit_21 : decode cX12_unit 21 = .ok (.putfield 298, 3) := by decide +kernel
theorem dX12_unit_24 : decode cX12_unit 24 = .ok (.aload_n 0, 1) := by decide +kernel
theorem dX12_unit_25 : decode cX12_unit 25 = .ok (.invokevirtual 236, 3) := by decide +kernel
theorem dX12_unit_28 : decode cX12_unit 28 = .ok (.iconst 1, 1) := by decide +kernel
theorem dX12_unit_29 : decode cX12_unit 29 = .ok (.ireturn, 1) := by decide +kernel
theorem dX12_unit_30 : decode cX12_unit 30 = .ok (.aload_n 0, 1) := by decide +kernel
theorem dX12_unit_31 : decode cX12_unit 31 = .ok (.getfield 210, 3) := by decide +kernel
theorem dX12_unit_34 : decode cX12_unit 34 = .ok (.iconst 2, 1) := by decide +kernel
theorem dX12_unit_35 : decode cX12_unit 35 = .ok (.if_icmp .ne 55, 3) := by decide +kernel
theorem dX12_unit_38 : decode cX12_unit 38 = .ok (.aload_n 0, 1) := by decide +kernel
theorem dX12_unit_39 : decode cX12_unit 39 = .ok (.aload_n 0, 1) := by decide +kernel
theorem dX12_unit_40 : decode cX12_unit 40 = .ok (.getfield 162, 3) := by decide +kernel
theorem dX12_unit_43 : decode cX12_unit 43 = .ok (.invokevirtual 301, 3) := by decide +kernel
theorem dX12_unit_46 : decode cX12_unit 46 = .ok (.istore_n 1, 1) := by decide +kernel
theorem dX12_unit_47 : decode cX12_unit 47 = .ok (.iload_n 1, 1) := by decide +kernel
theorem dX12_unit_48 : decode cX12_unit 48 = .ok (.iconst (-1), 1) := by decide +kernel
theorem dX12_unit_49 : decode cX12_unit 49 = .ok (.if_icmp .eq 12, 3) := by decide +kernel
theorem dX12_unit_52 : decode cX12_unit 52 = .ok (.aload_n 0, 1) := by decide +kernel
theorem dX12_unit_53 : decode cX12_unit 53 = .ok (.getfield 78, 3) := by decide +kernel
theorem dX12_unit_56 : decode cX12_unit 56 = .ok (.iload_n 1, 1) := by decide +kernel
theorem dX12_unit_57 : decode cX12_unit 57 = .ok (.iaload, 1) := by decide +kernel
theorem dX12_unit_58 : decode cX12_unit 58 = .ok (.ifCond .eq 13, 3) := by decide +kernel
theorem dX12_unit_61 : decode cX12_unit 61 = .ok (.aload_n 0, 1) := by decide +kernel
theorem dX12_unit_62 : decode cX12_unit 62 = .ok (.iconst 2, 1) := by decide +kernel
theorem dX12_unit_63 : decode cX12_unit 63 = .ok (.aload_n 0, 1) := by decide +kernel
theorem dX12_unit_64 : decode cX12_unit 64 = .ok (.getfield 207, 3) := by decide +kernel
theorem dX12_unit_67 : decode cX12_unit 67 = .ok (.invokevirtual 232, 3) := by decide +kernel
theorem dX12_unit_70 : decode cX12_unit 70 = .ok (.ireturn, 1) := by decide +kernel
theorem dX12_unit_71 : decode cX12_unit 71 = .ok (.aload_n 0, 1) := by decide +kernel
theorem dX12_unit_72 : decode cX12_unit 72 = .ok (.aload_n 0, 1) := by decide +kernel
theorem dX12_unit_73 : decode cX12_unit 73 = .ok (.bipush 21, 2) := by decide +kernel
theorem dX12_unit_75 : decode cX12_unit 75 = .ok (.iload_n 1, 1) := by decide +kernel
theorem dX12_unit_76 : decode cX12_unit 76 = .ok (.iconst (-1), 1) := by decide +kernel
theorem dX12_unit_77 : decode cX12_unit 77 = .ok (.lconst 0, 1) := by decide +kernel
theorem dX12_unit_78 : decode cX12_unit 78 = .ok (.invokevirtual 264, 3) := by decide +kernel
theorem dX12_unit_81 : decode cX12_unit 81 = .ok (.putfield 298, 3) := by decide +kernel
theorem dX12_unit_84 : decode cX12_unit 84 = .ok (.aload_n 0, 1) := by decide +kernel
theorem dX12_unit_85 : decode cX12_unit 85 = .ok (.invokevirtual 236, 3) := by decide +kernel
theorem dX12_unit_88 : decode cX12_unit 88 = .ok (.iconst 1, 1) := by decide +kernel
theorem dX12_unit_89 : decode cX12_unit 89 = .ok (.ireturn, 1) := by decide +kernel
theorem dX12_unit_90 : decode cX12_unit 90 = .ok (.aload_n 0, 1) := by decide +kernel
theorem dX12_unit_91 : decode cX12_unit 91 = .ok (.bipush 45, 2) := by decide +kernel
theorem dX12_unit_93 : decode cX12_unit 93 = .ok (.invokevirtual 229, 3) := by decide +kernel
theorem dX12_unit_96 : decode cX12_unit 96 = .ok (.ifCond .eq 47, 3) := by decide +kernel
theorem dX12_unit_99 : decode cX12_unit 99 = .ok (.aload_n 0, 1) := by decide +kernel
theorem dX12_unit_100 : decode cX12_unit 100 = .ok (.invokevirtual 304, 3) := by decide +kernel
theorem dX12_unit_103 : decode cX12_unit 103 = .ok (.ifCond .eq 10, 3) := by decide +kernel
theorem dX12_unit_106 : decode cX12_unit 106 = .ok (.aload_n 0, 1) := by decide +kernel
theorem dX12_unit_107 : decode cX12_unit 107 = .ok (.invokevirtual 307, 3) := by decide +kernel
theorem dX12_unit_110 : decode cX12_unit 110 = .ok (.ifCond .ne 5, 3) := by decide +kernel
theorem dX12_unit_113 : decode cX12_unit 113 = .ok (.iconst 0, 1) := by decide +kernel
theorem dX12_unit_114 : decode cX12_unit 114 = .ok (.ireturn, 1) := by decide +kernel
theorem dX12_unit_115 : decode cX12_unit 115 = .ok (.aload_n 0, 1) := by decide +kernel
theorem dX12_unit_116 : decode cX12_unit 116 = .ok (.dup, 1) := by decide +kernel
theorem dX12_unit_117 : decode cX12_unit 117 = .ok (.getfield 295, 3) := by decide +kernel
theorem dX12_unit_120 : decode cX12_unit 120 = .ok (.iconst 1, 1) := by decide +kernel
theorem dX12_unit_121 : decode cX12_unit 121 = .ok (.isub, 1) := by decide +kernel
theorem dX12_unit_122 : decode cX12_unit 122 = .ok (.putfield 295, 3) := by decide +kernel
theorem dX12_unit_125 : decode cX12_unit 125 = .ok (.aload_n 0, 1) := by decide +kernel
theorem dX12_unit_126 : decode cX12_unit 126 = .ok (.aload_n 0, 1) := by decide +kernel
theorem dX12_unit_127 : decode cX12_unit 127 = .ok (.bipush 22, 2) := by decide +kernel
theorem dX12_unit_129 : decode cX12_unit 129 = .ok (.aload_n 0, 1) := by decide +kernel
theorem dX12_unit_130 : decode cX12_unit 130 = .ok (.getfield 298, 3) := by decide +kernel
theorem dX12_unit_133 : decode cX12_unit 133 = .ok (.iconst (-1), 1) := by decide +kernel
theorem dX12_unit_134 : decode cX12_unit 134 = .ok (.lconst 0, 1) := by decide +kernel
theorem dX12_unit_135 : decode cX12_unit 135 = .ok (.invokevirtual 264, 3) := by decide +kernel
theorem dX12_unit_138 : decode cX12_unit 138 = .ok (.putfield 298, 3) := by decide +kernel
theorem dX12_unit_141 : decode cX12_unit 141 = .ok (.iconst 1, 1) := by decide +kernel
theorem dX12_unit_142 : decode cX12_unit 142 = .ok (.ireturn, 1) := by decide +kernel
theorem dX12_unit_143 : decode cX12_unit 143 = .ok (.aload_n 0, 1) := by decide +kernel
theorem dX12_unit_144 : decode cX12_unit 144 = .ok (.bipush 40, 2) := by decide +kernel
theorem dX12_unit_146 : decode cX12_unit 146 = .ok (.invokevirtual 229, 3) := by decide +kernel
theorem dX12_unit_149 : decode cX12_unit 149 = .ok (.ifCond .ne 13, 3) := by decide +kernel
theorem dX12_unit_152 : decode cX12_unit 152 = .ok (.aload_n 0, 1) := by decide +kernel
theorem dX12_unit_153 : decode cX12_unit 153 = .ok (.iconst 1, 1) := by decide +kernel
theorem dX12_unit_154 : decode cX12_unit 154 = .ok (.aload_n 0, 1) := by decide +kernel
theorem dX12_unit_155 : decode cX12_unit 155 = .ok (.getfield 207, 3) := by decide +kernel
theorem dX12_unit_158 : decode cX12_unit 158 = .ok (.invokevirtual 232, 3) := by decide +kernel
theorem dX12_unit_161 : decode cX12_unit 161 = .ok (.ireturn, 1) := by decide +kernel
theorem dX12_unit_162 : decode cX12_unit 162 = .ok (.aload_n 0, 1) := by decide +kernel
theorem dX12_unit_163 : decode cX12_unit 163 = .ok (.invokevirtual 304, 3) := by decide +kernel
theorem dX12_unit_166 : decode cX12_unit 166 = .ok (.ifCond .eq 19, 3) := by decide +kernel
theorem dX12_unit_169 : decode cX12_unit 169 = .ok (.aload_n 0, 1) := by decide +kernel
theorem dX12_unit_170 : decode cX12_unit 170 = .ok (.invokevirtual 310, 3) := by decide +kernel
theorem dX12_unit_173 : decode cX12_unit 173 = .ok (.ifCond .eq 12, 3) := by decide +kernel
theorem dX12_unit_176 : decode cX12_unit 176 = .ok (.aload_n 0, 1) := by decide +kernel
theorem dX12_unit_177 : decode cX12_unit 177 = .ok (.bipush 41, 2) := by decide +kernel
theorem dX12_unit_179 : decode cX12_unit 179 = .ok (.invokevirtual 278, 3) := by decide +kernel
theorem dX12_unit_182 : decode cX12_unit 182 = .ok (.ifCond .ne 5, 3) := by decide +kernel
theorem dX12_unit_185 : decode cX12_unit 185 = .ok (.iconst 0, 1) := by decide +kernel
theorem dX12_unit_186 : decode cX12_unit 186 = .ok (.ireturn, 1) := by decide +kernel
theorem dX12_unit_187 : decode cX12_unit 187 = .ok (.aload_n 0, 1) := by decide +kernel
theorem dX12_unit_188 : decode cX12_unit 188 = .ok (.dup, 1) := by decide +kernel
theorem dX12_unit_189 : decode cX12_unit 189 = .ok (.getfield 295, 3) := by decide +kernel
theorem dX12_unit_192 : decode cX12_unit 192 = .ok (.iconst 1, 1) := by decide +kernel
theorem dX12_unit_193 : decode cX12_unit 193 = .ok (.isub, 1) := by decide +kernel
theorem dX12_unit_194 : decode cX12_unit 194 = .ok (.putfield 295, 3) := by decide +kernel
theorem dX12_unit_197 : decode cX12_unit 197 = .ok (.iconst 1, 1) := by decide +kernel
theorem dX12_unit_198 : decode cX12_unit 198 = .ok (.ireturn, 1) := by decide +kernel
abbrev sc_12expressionT : Type := (iT → jT → Option (Int32 × iT × jT)) × (iT → jT → Option (Int32 × iT × jT)) × (iT → jT → Option (Int32 × iT × jT)) × (iT → jT → Option (Int32 × iT × jT))
def sc_12expression_ok (l : Launch) (K : a_KT) (g : a_GT) (D0 : Nat) (R : sc_12expressionT) : Prop := (∀ {IA : iT} (I : iT) (J : jT) (F : fT), FOK F → ∀ q : Int32 × iT × jT, R.1 I J = some q → C l K g D0 0 0 yX12_expression cX12_expression 3 (some .boolean) [.ref 186] (hg IA I J F) (fun r2 h2 => r2 = some (.int q.1) ∧ h2 = hg IA q.2.1 q.2.2 F)) ∧ (∀ {IA : iT} (I : iT) (J : jT) (F : fT), FOK F → ∀ q : Int32 × iT × jT, R.2.1 I J = some q → C l K g D0 0 0 yX12_product cX12_product 2 (some .boolean) [.ref 186] (hg IA I J F) (fun r2 h2 => r2 = some (.int q.1) ∧ h2 = hg IA q.2.1 q.2.2 F)) ∧ (∀ {IA : iT} (I : iT) (J : jT) (F : fT), FOK F → ∀ q : Int32 × iT × jT, R.2.2.1 I J = some q → C l K g D0 0 0 yX12_sum cX12_sum 3 (some .boolean) [.ref 186] (hg IA I J F) (fun r2 h2 => r2 = some (.int q.1) ∧ h2 = hg IA q.2.1 q.2.2 F)) ∧ (∀ {IA : iT} (I : iT) (J : jT) (F : fT), FOK F → ∀ q : Int32 × iT × jT, R.2.2.2 I J = some q → C l K g D0 0 0 yX12_unit cX12_unit 2 (some .boolean) [.ref 186] (hg IA I J F) (fun r2 h2 => r2 = some (.int q.1) ∧ h2 = hg IA q.2.1 q.2.2 F))
def mX12_expression_43 (R : sc_12expressionT) (I : iT) (J : jT) (s0 : Int32) : Option (Int32 × iT × jT) := (mX12_look0 I J).bind fun q1 => (R.2.2.1 q1.1 q1.2).bind fun q2 => if q2.1 = 0 then some (0, q2.2.1, q2.2.2) else (mX12_node q2.2.1 q2.2.2 s0 (I 186 47) (q2.2.1 186 47) 0).bind fun q3 => some (1, a_u2 q3.2.1 186 47 q3.1, q3.2.2)
def mX12_expression_28 (R : sc_12expressionT) (I : iT) (J : jT) : Option (Int32 × iT × jT) := if (I 186 3) = 4 then mX12_expression_43 R I J 27 else mX12_expression_43 R I J 26
def bX12_expression (R : sc_12expressionT) (I : iT) (J : jT) : Option (Int32 × iT × jT) := (R.2.2.1 I J).bind fun q4 => if q4.1 = 0 then some (0, q4.2.1, q4.2.2) else (mX12_isSign q4.2.1 60).bind fun q5 => if q5 = 0 then if (q4.2.1 186 3) = 4 then mX12_expression_28 R q4.2.1 q4.2.2 else some (1, q4.2.1, q4.2.2) else mX12_expression_28 R q4.2.1 q4.2.2
def mX12_product_9 (R : sc_12expressionT) : Nat → iT → jT → Option (Int32 × iT × jT)
  | 0, _, _ => none
  | n + 1, I, J => (mX12_isSign I 42).bind fun q1 => if q1 = 0 then some (1, I, J) else (mX12_look0 I J).bind fun q2 => (R.2.2.2 q2.1 q2.2).bind fun q3 => if q3.1 = 0 then some (0, q3.2.1, q3.2.2) else (mX12_node q3.2.1 q3.2.2 25 (I 186 47) (q3.2.1 186 47) 0).bind fun q4 => mX12_product_9 R n (a_u2 q4.2.1 186 47 q4.1) q4.2.2
def bX12_product (R : sc_12expressionT) (I : iT) (J : jT) : Option (Int32 × iT × jT) := (R.2.2.2 I J).bind fun q5 => if q5.1 = 0 then some (0, q5.2.1, q5.2.2) else mX12_product_9 R LF q5.2.1 q5.2.2
def mX12_sum_43 (R : sc_12expressionT) (k9 : iT → jT → Option (Int32 × iT × jT)) (I : iT) (J : jT) (s0 : Int32) : Option (Int32 × iT × jT) := (mX12_look0 I J).bind fun q1 => (R.2.1 q1.1 q1.2).bind fun q2 => if q2.1 = 0 then some (0, q2.2.1, q2.2.2) else (mX12_node q2.2.1 q2.2.2 s0 (I 186 47) (q2.2.1 186 47) 0).bind fun q3 => k9 (a_u2 q3.2.1 186 47 q3.1) q3.2.2
def mX12_sum_27 (R : sc_12expressionT) (k9 : iT → jT → Option (Int32 × iT × jT)) (I : iT) (J : jT) : Option (Int32 × iT × jT) := (mX12_isSign I 43).bind fun q4 => if q4 = 0 then mX12_sum_43 R (k9) I J 24 else mX12_sum_43 R (k9) I J 23
def mX12_sum_9 (R : sc_12expressionT) : Nat → iT → jT → Option (Int32 × iT × jT)
  | 0, _, _ => none
  | n + 1, I, J => (mX12_isSign I 43).bind fun q5 => if q5 = 0 then (mX12_isSign I 45).bind fun q6 => if q6 = 0 then some (1, I, J) else mX12_sum_27 R (mX12_sum_9 R n) I J else mX12_sum_27 R (mX12_sum_9 R n) I J
def bX12_sum (R : sc_12expressionT) (I : iT) (J : jT) : Option (Int32 × iT × jT) := (R.2.1 I J).bind fun q7 => if q7.1 = 0 then some (0, q7.2.1, q7.2.2) else mX12_sum_9 R LF q7.2.1 q7.2.2
def mX12_unit_61 (R : sc_12expressionT) (I : iT) (J : jT) (x1 : Int32) : Option (Int32 × iT × jT) := (mX12_bad I 2 (I 186 4)).bind fun q1 => if q1.1 = 0 ∨ q1.1 = 1 then some (q1.1, q1.2, J) else none
def bX12_unit (R : sc_12expressionT) (I : iT) (J : jT) : Option (Int32 × iT × jT) := if (I 186 3) = 3 then (mX12_node I J 20 (I 186 5) ((-1)) 0).bind fun q14 => (mX12_look0 (a_u2 q14.2.1 186 47 q14.1) q14.2.2).bind fun q15 => some (1, q15.1, q15.2) else if (I 186 3) = 2 then (mX12_slot I J (J 186 6)).bind fun q11 => if q11 = ((-1)) then mX12_unit_61 R I J q11 else if inb q11 128 then if (I 208 q11.toNatClampNeg) = 0 then (mX12_node I J 21 q11 ((-1)) 0).bind fun q12 => (mX12_look0 (a_u2 q12.2.1 186 47 q12.1) q12.2.2).bind fun q13 => some (1, q13.1, q13.2) else mX12_unit_61 R I J q11 else none else (mX12_isSign I 45).bind fun q2 => if q2 = 0 then (mX12_isSign I 40).bind fun q3 => if q3 = 0 then (mX12_bad I 1 (I 186 4)).bind fun q7 => if q7.1 = 0 ∨ q7.1 = 1 then some (q7.1, q7.2, J) else none else (mX12_opens I J).bind fun q4 => if q4.1 = 0 then some (0, q4.2.1, q4.2.2) else (R.1 q4.2.1 q4.2.2).bind fun q5 => if q5.1 = 0 then some (0, q5.2.1, q5.2.2) else (mX12_need q5.2.1 q5.2.2 41).bind fun q6 => if q6.1 = 0 then some (0, q6.2.1, q6.2.2) else some (1, a_u2 q6.2.1 186 45 ((q6.2.1 186 45) - 1), q6.2.2) else (mX12_opens I J).bind fun q8 => if q8.1 = 0 then some (0, q8.2.1, q8.2.2) else (R.2.2.2 q8.2.1 q8.2.2).bind fun q9 => if q9.1 = 0 then some (0, q9.2.1, q9.2.2) else (mX12_node (a_u2 q9.2.1 186 45 ((q9.2.1 186 45) - 1)) q9.2.2 22 ((a_u2 q9.2.1 186 45 ((q9.2.1 186 45) - 1)) 186 47) ((-1)) 0).bind fun q10 => some (1, a_u2 q10.2.1 186 47 q10.1, q10.2.2)
def sc_12expression : Nat → sc_12expressionT
  | 0 => (fun _ _ => none, fun _ _ => none, fun _ _ => none, fun _ _ => none)
  | n + 1 => (bX12_expression (sc_12expression n), bX12_product (sc_12expression n), bX12_sum (sc_12expression n), bX12_unit (sc_12expression n))
def mX12_expression (n : Nat) : iT → jT → Option (Int32 × iT × jT) := (sc_12expression n).1
def mX12_product (n : Nat) : iT → jT → Option (Int32 × iT × jT) := (sc_12expression n).2.1
def mX12_sum (n : Nat) : iT → jT → Option (Int32 × iT × jT) := (sc_12expression n).2.2.1
def mX12_unit (n : Nat) : iT → jT → Option (Int32 × iT × jT) := (sc_12expression n).2.2.2
set_option maxRecDepth 100000 in
set_option maxHeartbeats 4000000 in
theorem tX12_expression_43 {l : Launch} {K : a_KT} {g : a_GT} {IA : iT} {D0 : Nat} {R : sc_12expressionT} (hko : a_kok K) (hB : 5 ≤ D0 + 1) (hR : sc_12expression_ok l K g D0 R) {F : fT} (I : iT) (J : jT) (s0 : Int32) (hF : FOK F) (q : Int32 × iT × jT) (hm : mX12_expression_43 R I J s0 = some q) : E l K g (D0 + 1) 0 0 yX12_expression cX12_expression 3 (some .boolean) 43 [.ref 186, .null, .null] [.int s0] (hg IA I J F) (fun r2 h2 => r2 = some (.int q.1) ∧ h2 = hg IA q.2.1 q.2.2 F) := by
  unfold mX12_expression_43 at hm
  refine q_istore_n (i := 1) (by decide) rfl dX12_expression_43 ?_
  refine e_aload_n (i := 0) rfl dX12_expression_44 ?_
  refine l_getI 12 47 dX12_expression_45 fl_RX12_298 rfl iz_186 (by decide) ?_
  refine q_istore_n (i := 2) (by decide) rfl dX12_expression_48 ?_
  refine e_aload_n (i := 0) rfl dX12_expression_49 ?_
  obtain ⟨q1, eq1, hm⟩ := ob_some hm
  refine e_cV0 hko dX12_expression_50 ml_RX12_236 iz_186 (by decide) rfl (by omega) (Nat.le_of_ble_eq_true rfl) (tX12_look0 hko I J F hF _ eq1) ?_
  rintro _ _ ⟨rfl, rfl⟩
  refine e_aload_n (i := 0) rfl dX12_expression_53 ?_
  obtain ⟨q2, eq2, hm⟩ := ob_some hm
  refine e_cV0 hko dX12_expression_54 ml_RX12_316 iz_186 (by decide) rfl (by omega) (Nat.le_of_ble_eq_true rfl) (hR.2.2.1 q1.1 q1.2 F hF q2 eq2) ?_
  rintro _ _ ⟨rfl, rfl⟩
  refine e_if_ne 62 dX12_expression_57 (by decide) (fun c_57 => ?_) (fun c_57 => ?_)
  · have hm := it_n c_57 hm
    refine e_aload_n (i := 0) rfl dX12_expression_62 ?_
    refine e_aload_n (i := 0) rfl dX12_expression_63 ?_
    refine e_iload_n (i := 1) rfl dX12_expression_64 ?_
    refine e_iload_n (i := 2) rfl dX12_expression_65 ?_
    refine e_aload_n (i := 0) rfl dX12_expression_66 ?_
    refine l_getI 12 47 dX12_expression_67 fl_RX12_298 rfl iz_186 (by decide) ?_
    refine e_lconst (v := 0) (by decide) dX12_expression_70 ?_
    obtain ⟨q3, eq3, hm⟩ := ob_some hm
    refine e_cV4 hko dX12_expression_71 ml_RX12_264 iz_186 (by decide) rfl (by omega) (Nat.le_of_ble_eq_true rfl) (tX12_node hko q2.2.1 q2.2.2 F hF s0 (I 186 47) (q2.2.1 186 47) 0 _ eq3) ?_
    rintro _ _ ⟨rfl, rfl⟩
    refine l_putI 12 47 dX12_expression_74 fl_RX12_298 rfl rfl iz_186 (by decide) ?_
    refine e_iconst (v := 1) (by decide) dX12_expression_77 ?_
    refine e_zret dX12_expression_78 rfl rfl ?_
    have hm := some_in hm
    subst hm
    exact ⟨rfl, rfl⟩
  · have hm := it_p c_57 hm
    refine e_iconst (v := 0) (by decide) dX12_expression_60 ?_
    refine e_zret dX12_expression_61 rfl rfl ?_
    have hm := some_in hm
    subst hm
    exact ⟨rfl, rfl⟩
set_option maxRecDepth 100000 in
set_option maxHeartbeats 4000000 in
theorem tX12_expression_28 {l : Launch} {K : a_KT} {g : a_GT} {IA : iT} {D0 : Nat} {R : sc_12expressionT} (hko : a_kok K) (hB : 5 ≤ D0 + 1) (hR : sc_12expression_ok l K g D0 R) {F : fT} (I : iT) (J : jT) (hF : FOK F) (q : Int32 × iT × jT) (hm : mX12_expression_28 R I J = some q) : E l K g (D0 + 1) 0 0 yX12_expression cX12_expression 3 (some .boolean) 28 [.ref 186, .null, .null] [] (hg IA I J F) (fun r2 h2 => r2 = some (.int q.1) ∧ h2 = hg IA q.2.1 q.2.2 F) := by
  unfold mX12_expression_28 at hm
  refine e_aload_n (i := 0) rfl dX12_expression_28 ?_
  refine l_getI 12 3 dX12_expression_29 fl_RX12_210 rfl iz_186 (by decide) ?_
  refine e_iconst (v := 4) (by decide) dX12_expression_32 ?_
  refine e_icmp_ne 41 dX12_expression_33 (by decide) (fun c_33 => ?_) (fun c_33 => ?_)
  · have hm := it_n c_33 hm
    refine e_bipush (v := 26) (by decide) dX12_expression_41 ?_
    refine e_weak [.ref 186, .null, .null] ⟨rfl, ⟨trivial, ⟨trivial, trivial⟩⟩⟩ ?_
    exact tX12_expression_43 hko hB hR I J 26 hF _ hm
  · have hm := it_p c_33 hm
    refine e_bipush (v := 27) (by decide) dX12_expression_36 ?_
    refine e_goto 43 dX12_expression_38 (by decide) ?_
    refine e_weak [.ref 186, .null, .null] ⟨rfl, ⟨trivial, ⟨trivial, trivial⟩⟩⟩ ?_
    exact tX12_expression_43 hko hB hR I J 27 hF _ hm
set_option maxRecDepth 100000 in
set_option maxHeartbeats 4000000 in
theorem tbX12_expression {l : Launch} {K : a_KT} {g : a_GT} {IA : iT} {D0 : Nat} {R : sc_12expressionT} (hko : a_kok K) (hB : 5 ≤ D0 + 1) (hR : sc_12expression_ok l K g D0 R) (I : iT) (J : jT) (F : fT) (hF : FOK F) (q : Int32 × iT × jT) (hm : bX12_expression R I J = some q) : C l K g (D0 + 1) 0 0 yX12_expression cX12_expression 3 (some .boolean) [.ref 186] (hg IA I J F) (fun r2 h2 => r2 = some (.int q.1) ∧ h2 = hg IA q.2.1 q.2.2 F) := by
  unfold bX12_expression at hm
  refine c_of [.ref 186, .null, .null] (by decide) (Nat.le_of_ble_eq_true rfl) rfl ?_
  refine e_aload_n (i := 0) rfl dX12_expression_0 ?_
  obtain ⟨q4, eq4, hm⟩ := ob_some hm
  refine e_cV0 hko dX12_expression_1 ml_RX12_316 iz_186 (by decide) rfl (by omega) (Nat.le_of_ble_eq_true rfl) (hR.2.2.1 I J F hF q4 eq4) ?_
  rintro _ _ ⟨rfl, rfl⟩
  refine e_if_ne 9 dX12_expression_4 (by decide) (fun c_4 => ?_) (fun c_4 => ?_)
  · have hm := it_n c_4 hm
    refine e_aload_n (i := 0) rfl dX12_expression_9 ?_
    refine e_bipush (v := 60) (by decide) dX12_expression_10 ?_
    obtain ⟨q5, eq5, hm⟩ := ob_some hm
    refine e_cV1 hko dX12_expression_12 ml_RX12_229 iz_186 (by decide) rfl (by omega) (Nat.le_of_ble_eq_true rfl) (tX12_isSign hko q4.2.1 q4.2.2 F hF 60 _ eq5) ?_
    rintro _ _ ⟨rfl, rfl⟩
    refine e_if_ne 28 dX12_expression_15 (by decide) (fun c_15 => ?_) (fun c_15 => ?_)
    · have hm := it_n c_15 hm
      refine e_weak [.ref 186, .null, .null] ⟨rfl, ⟨trivial, ⟨trivial, trivial⟩⟩⟩ ?_
      exact tX12_expression_28 hko hB hR q4.2.1 q4.2.2 hF _ hm
    · have hm := it_p c_15 hm
      refine e_aload_n (i := 0) rfl dX12_expression_18 ?_
      refine l_getI 12 3 dX12_expression_19 fl_RX12_210 rfl iz_186 (by decide) ?_
      refine e_iconst (v := 4) (by decide) dX12_expression_22 ?_
      refine e_icmp_eq 28 dX12_expression_23 (by decide) (fun c_23 => ?_) (fun c_23 => ?_)
      · have hm := it_p c_23 hm
        refine e_weak [.ref 186, .null, .null] ⟨rfl, ⟨trivial, ⟨trivial, trivial⟩⟩⟩ ?_
        exact tX12_expression_28 hko hB hR q4.2.1 q4.2.2 hF _ hm
      · have hm := it_n c_23 hm
        refine e_iconst (v := 1) (by decide) dX12_expression_26 ?_
        refine e_zret dX12_expression_27 rfl rfl ?_
        have hm := some_in hm
        subst hm
        exact ⟨rfl, rfl⟩
  · have hm := it_p c_4 hm
    refine e_iconst (v := 0) (by decide) dX12_expression_7 ?_
    refine e_zret dX12_expression_8 rfl rfl ?_
    have hm := some_in hm
    subst hm
    exact ⟨rfl, rfl⟩
set_option maxRecDepth 100000 in
set_option maxHeartbeats 4000000 in
theorem tX12_product_9 {l : Launch} {K : a_KT} {g : a_GT} {IA : iT} {D0 : Nat} {R : sc_12expressionT} (hko : a_kok K) (hB : 5 ≤ D0 + 1) (hR : sc_12expression_ok l K g D0 R) {F : fT} : ∀ (n : Nat) (I : iT) (J : jT) (hF : FOK F) (q : Int32 × iT × jT), mX12_product_9 R n I J = some q → E l K g (D0 + 1) 0 0 yX12_product cX12_product 2 (some .boolean) 9 [.ref 186, .null] [] (hg IA I J F) (fun r2 h2 => r2 = some (.int q.1) ∧ h2 = hg IA q.2.1 q.2.2 F) := by
  intro n
  induction n with
  | zero => intro I J hF q hm; cases hm
  | succ n ih =>
    intro I J hF q hm
    rw [mX12_product_9] at hm
    refine e_aload_n (i := 0) rfl dX12_product_9 ?_
    refine e_bipush (v := 42) (by decide) dX12_product_10 ?_
    obtain ⟨q1, eq1, hm⟩ := ob_some hm
    refine e_cV1 hko dX12_product_12 ml_RX12_229 iz_186 (by decide) rfl (by omega) (Nat.le_of_ble_eq_true rfl) (tX12_isSign hko I J F hF 42 _ eq1) ?_
    rintro _ _ ⟨rfl, rfl⟩
    refine e_if_eq 55 dX12_product_15 (by decide) (fun c_15 => ?_) (fun c_15 => ?_)
    · have hm := it_p c_15 hm
      refine e_iconst (v := 1) (by decide) dX12_product_55 ?_
      refine e_zret dX12_product_56 rfl rfl ?_
      have hm := some_in hm
      subst hm
      exact ⟨rfl, rfl⟩
    · have hm := it_n c_15 hm
      refine e_aload_n (i := 0) rfl dX12_product_18 ?_
      refine l_getI 12 47 dX12_product_19 fl_RX12_298 rfl iz_186 (by decide) ?_
      refine q_istore_n (i := 1) (by decide) rfl dX12_product_22 ?_
      refine e_aload_n (i := 0) rfl dX12_product_23 ?_
      obtain ⟨q2, eq2, hm⟩ := ob_some hm
      refine e_cV0 hko dX12_product_24 ml_RX12_236 iz_186 (by decide) rfl (by omega) (Nat.le_of_ble_eq_true rfl) (tX12_look0 hko I J F hF _ eq2) ?_
      rintro _ _ ⟨rfl, rfl⟩
      refine e_aload_n (i := 0) rfl dX12_product_27 ?_
      obtain ⟨q3, eq3, hm⟩ := ob_some hm
      refine e_cV0 hko dX12_product_28 ml_RX12_307 iz_186 (by decide) rfl (by omega) (Nat.le_of_ble_eq_true rfl) (hR.2.2.2 q2.1 q2.2 F hF q3 eq3) ?_
      rintro _ _ ⟨rfl, rfl⟩
      refine e_if_ne 36 dX12_product_31 (by decide) (fun c_31 => ?_) (fun c_31 => ?_)
      · have hm := it_n c_31 hm
        refine e_aload_n (i := 0) rfl dX12_product_36 ?_
        refine e_aload_n (i := 0) rfl dX12_product_37 ?_
        refine e_bipush (v := 25) (by decide) dX12_product_38 ?_
        refine e_iload_n (i := 1) rfl dX12_product_40 ?_
        refine e_aload_n (i := 0) rfl dX12_product_41 ?_
        refine l_getI 12 47 dX12_product_42 fl_RX12_298 rfl iz_186 (by decide) ?_
        refine e_lconst (v := 0) (by decide) dX12_product_45 ?_
        obtain ⟨q4, eq4, hm⟩ := ob_some hm
        refine e_cV4 hko dX12_product_46 ml_RX12_264 iz_186 (by decide) rfl (by omega) (Nat.le_of_ble_eq_true rfl) (tX12_node hko q3.2.1 q3.2.2 F hF 25 (I 186 47) (q3.2.1 186 47) 0 _ eq4) ?_
        rintro _ _ ⟨rfl, rfl⟩
        refine l_putI 12 47 dX12_product_49 fl_RX12_298 rfl rfl iz_186 (by decide) ?_
        refine e_goto 9 dX12_product_52 (by decide) ?_
        refine e_weak [.ref 186, .null] ⟨rfl, ⟨trivial, trivial⟩⟩ ?_
        exact ih (a_u2 q4.2.1 186 47 q4.1) q4.2.2 hF _ hm
      · have hm := it_p c_31 hm
        refine e_iconst (v := 0) (by decide) dX12_product_34 ?_
        refine e_zret dX12_product_35 rfl rfl ?_
        have hm := some_in hm
        subst hm
        exact ⟨rfl, rfl⟩
set_option maxRecDepth 100000 in
set_option maxHeartbeats 4000000 in
theorem tbX12_product {l : Launch} {K : a_KT} {g : a_GT} {IA : iT} {D0 : Nat} {R : sc_12expressionT} (hko : a_kok K) (hB : 5 ≤ D0 + 1) (hR : sc_12expression_ok l K g D0 R) (I : iT) (J : jT) (F : fT) (hF : FOK F) (q : Int32 × iT × jT) (hm : bX12_product R I J = some q) : C l K g (D0 + 1) 0 0 yX12_product cX12_product 2 (some .boolean) [.ref 186] (hg IA I J F) (fun r2 h2 => r2 = some (.int q.1) ∧ h2 = hg IA q.2.1 q.2.2 F) := by
  unfold bX12_product at hm
  refine c_of [.ref 186, .null] (by decide) (Nat.le_of_ble_eq_true rfl) rfl ?_
  refine e_aload_n (i := 0) rfl dX12_product_0 ?_
  obtain ⟨q5, eq5, hm⟩ := ob_some hm
  refine e_cV0 hko dX12_product_1 ml_RX12_307 iz_186 (by decide) rfl (by omega) (Nat.le_of_ble_eq_true rfl) (hR.2.2.2 I J F hF q5 eq5) ?_
  rintro _ _ ⟨rfl, rfl⟩
  refine e_if_ne 9 dX12_product_4 (by decide) (fun c_4 => ?_) (fun c_4 => ?_)
  · have hm := it_n c_4 hm
    refine e_weak [.ref 186, .null] ⟨rfl, ⟨trivial, trivial⟩⟩ ?_
    exact tX12_product_9 hko hB hR LF q5.2.1 q5.2.2 hF _ hm
  · have hm := it_p c_4 hm
    refine e_iconst (v := 0) (by decide) dX12_product_7 ?_
    refine e_zret dX12_product_8 rfl rfl ?_
    have hm := some_in hm
    subst hm
    exact ⟨rfl, rfl⟩
set_option maxRecDepth 100000 in
set_option maxHeartbeats 4000000 in
theorem tX12_sum_43 {l : Launch} {K : a_KT} {g : a_GT} {IA : iT} {D0 : Nat} {R : sc_12expressionT} (hko : a_kok K) (hB : 5 ≤ D0 + 1) (hR : sc_12expression_ok l K g D0 R) {F : fT} {k9 : iT → jT → Option (Int32 × iT × jT)} (hk9 : ∀ (I : iT) (J : jT) (_ : FOK F) (q : Int32 × iT × jT), k9 I J = some q → E l K g (D0 + 1) 0 0 yX12_sum cX12_sum 3 (some .boolean) 9 [.ref 186, .null, .null] [] (hg IA I J F) (fun r2 h2 => r2 = some (.int q.1) ∧ h2 = hg IA q.2.1 q.2.2 F)) (I : iT) (J : jT) (s0 : Int32) (hF : FOK F) (q : Int32 × iT × jT) (hm : mX12_sum_43 R k9 I J s0 = some q) : E l K g (D0 + 1) 0 0 yX12_sum cX12_sum 3 (some .boolean) 43 [.ref 186, .null, .null] [.int s0] (hg IA I J F) (fun r2 h2 => r2 = some (.int q.1) ∧ h2 = hg IA q.2.1 q.2.2 F) := by
  unfold mX12_sum_43 at hm
  refine q_istore_n (i := 1) (by decide) rfl dX12_sum_43 ?_
  refine e_aload_n (i := 0) rfl dX12_sum_44 ?_
  refine l_getI 12 47 dX12_sum_45 fl_RX12_298 rfl iz_186 (by decide) ?_
  refine q_istore_n (i := 2) (by decide) rfl dX12_sum_48 ?_
  refine e_aload_n (i := 0) rfl dX12_sum_49 ?_
  obtain ⟨q1, eq1, hm⟩ := ob_some hm
  refine e_cV0 hko dX12_sum_50 ml_RX12_236 iz_186 (by decide) rfl (by omega) (Nat.le_of_ble_eq_true rfl) (tX12_look0 hko I J F hF _ eq1) ?_
  rintro _ _ ⟨rfl, rfl⟩
  refine e_aload_n (i := 0) rfl dX12_sum_53 ?_
  obtain ⟨q2, eq2, hm⟩ := ob_some hm
  refine e_cV0 hko dX12_sum_54 ml_RX12_313 iz_186 (by decide) rfl (by omega) (Nat.le_of_ble_eq_true rfl) (hR.2.1 q1.1 q1.2 F hF q2 eq2) ?_
  rintro _ _ ⟨rfl, rfl⟩
  refine e_if_ne 62 dX12_sum_57 (by decide) (fun c_57 => ?_) (fun c_57 => ?_)
  · have hm := it_n c_57 hm
    refine e_aload_n (i := 0) rfl dX12_sum_62 ?_
    refine e_aload_n (i := 0) rfl dX12_sum_63 ?_
    refine e_iload_n (i := 1) rfl dX12_sum_64 ?_
    refine e_iload_n (i := 2) rfl dX12_sum_65 ?_
    refine e_aload_n (i := 0) rfl dX12_sum_66 ?_
    refine l_getI 12 47 dX12_sum_67 fl_RX12_298 rfl iz_186 (by decide) ?_
    refine e_lconst (v := 0) (by decide) dX12_sum_70 ?_
    obtain ⟨q3, eq3, hm⟩ := ob_some hm
    refine e_cV4 hko dX12_sum_71 ml_RX12_264 iz_186 (by decide) rfl (by omega) (Nat.le_of_ble_eq_true rfl) (tX12_node hko q2.2.1 q2.2.2 F hF s0 (I 186 47) (q2.2.1 186 47) 0 _ eq3) ?_
    rintro _ _ ⟨rfl, rfl⟩
    refine l_putI 12 47 dX12_sum_74 fl_RX12_298 rfl rfl iz_186 (by decide) ?_
    refine e_goto 9 dX12_sum_77 (by decide) ?_
    refine e_weak [.ref 186, .null, .null] ⟨rfl, ⟨trivial, ⟨trivial, trivial⟩⟩⟩ ?_
    exact hk9 (a_u2 q3.2.1 186 47 q3.1) q3.2.2 hF _ hm
  · have hm := it_p c_57 hm
    refine e_iconst (v := 0) (by decide) dX12_sum_60 ?_
    refine e_zret dX12_sum_61 rfl rfl ?_
    have hm := some_in hm
    subst hm
    exact ⟨rfl, rfl⟩
set_option maxRecDepth 100000 in
set_option maxHeartbeats 4000000 in
theorem tX12_sum_27 {l : Launch} {K : a_KT} {g : a_GT} {IA : iT} {D0 : Nat} {R : sc_12expressionT} (hko : a_kok K) (hB : 5 ≤ D0 + 1) (hR : sc_12expression_ok l K g D0 R) {F : fT} {k9 : iT → jT → Option (Int32 × iT × jT)} (hk9 : ∀ (I : iT) (J : jT) (_ : FOK F) (q : Int32 × iT × jT), k9 I J = some q → E l K g (D0 + 1) 0 0 yX12_sum cX12_sum 3 (some .boolean) 9 [.ref 186, .null, .null] [] (hg IA I J F) (fun r2 h2 => r2 = some (.int q.1) ∧ h2 = hg IA q.2.1 q.2.2 F)) (I : iT) (J : jT) (hF : FOK F) (q : Int32 × iT × jT) (hm : mX12_sum_27 R k9 I J = some q) : E l K g (D0 + 1) 0 0 yX12_sum cX12_sum 3 (some .boolean) 27 [.ref 186, .null, .null] [] (hg IA I J F) (fun r2 h2 => r2 = some (.int q.1) ∧ h2 = hg IA q.2.1 q.2.2 F) := by
  unfold mX12_sum_27 at hm
  refine e_aload_n (i := 0) rfl dX12_sum_27 ?_
  refine e_bipush (v := 43) (by decide) dX12_sum_28 ?_
  obtain ⟨q4, eq4, hm⟩ := ob_some hm
  refine e_cV1 hko dX12_sum_30 ml_RX12_229 iz_186 (by decide) rfl (by omega) (Nat.le_of_ble_eq_true rfl) (tX12_isSign hko I J F hF 43 _ eq4) ?_
  rintro _ _ ⟨rfl, rfl⟩
  refine e_if_eq 41 dX12_sum_33 (by decide) (fun c_33 => ?_) (fun c_33 => ?_)
  · have hm := it_p c_33 hm
    refine e_bipush (v := 24) (by decide) dX12_sum_41 ?_
    refine e_weak [.ref 186, .null, .null] ⟨rfl, ⟨trivial, ⟨trivial, trivial⟩⟩⟩ ?_
    exact tX12_sum_43 hko hB hR (hk9) I J 24 hF _ hm
  · have hm := it_n c_33 hm
    refine e_bipush (v := 23) (by decide) dX12_sum_36 ?_
    refine e_goto 43 dX12_sum_38 (by decide) ?_
    refine e_weak [.ref 186, .null, .null] ⟨rfl, ⟨trivial, ⟨trivial, trivial⟩⟩⟩ ?_
    exact tX12_sum_43 hko hB hR (hk9) I J 23 hF _ hm
set_option maxRecDepth 100000 in
set_option maxHeartbeats 4000000 in
theorem tX12_sum_9 {l : Launch} {K : a_KT} {g : a_GT} {IA : iT} {D0 : Nat} {R : sc_12expressionT} (hko : a_kok K) (hB : 5 ≤ D0 + 1) (hR : sc_12expression_ok l K g D0 R) {F : fT} : ∀ (n : Nat) (I : iT) (J : jT) (hF : FOK F) (q : Int32 × iT × jT), mX12_sum_9 R n I J = some q → E l K g (D0 + 1) 0 0 yX12_sum cX12_sum 3 (some .boolean) 9 [.ref 186, .null, .null] [] (hg IA I J F) (fun r2 h2 => r2 = some (.int q.1) ∧ h2 = hg IA q.2.1 q.2.2 F) := by
  intro n
  induction n with
  | zero => intro I J hF q hm; cases hm
  | succ n ih =>
    intro I J hF q hm
    rw [mX12_sum_9] at hm
    refine e_aload_n (i := 0) rfl dX12_sum_9 ?_
    refine e_bipush (v := 43) (by decide) dX12_sum_10 ?_
    obtain ⟨q5, eq5, hm⟩ := ob_some hm
    refine e_cV1 hko dX12_sum_12 ml_RX12_229 iz_186 (by decide) rfl (by omega) (Nat.le_of_ble_eq_true rfl) (tX12_isSign hko I J F hF 43 _ eq5) ?_
    rintro _ _ ⟨rfl, rfl⟩
    refine e_if_ne 27 dX12_sum_15 (by decide) (fun c_15 => ?_) (fun c_15 => ?_)
    · have hm := it_n c_15 hm
      refine e_weak [.ref 186, .null, .null] ⟨rfl, ⟨trivial, ⟨trivial, trivial⟩⟩⟩ ?_
      exact tX12_sum_27 hko hB hR (ih) I J hF _ hm
    · have hm := it_p c_15 hm
      refine e_aload_n (i := 0) rfl dX12_sum_18 ?_
      refine e_bipush (v := 45) (by decide) dX12_sum_19 ?_
      obtain ⟨q6, eq6, hm⟩ := ob_some hm
      refine e_cV1 hko dX12_sum_21 ml_RX12_229 iz_186 (by decide) rfl (by omega) (Nat.le_of_ble_eq_true rfl) (tX12_isSign hko I J F hF 45 _ eq6) ?_
      rintro _ _ ⟨rfl, rfl⟩
      refine e_if_eq 80 dX12_sum_24 (by decide) (fun c_24 => ?_) (fun c_24 => ?_)
      · have hm := it_p c_24 hm
        refine e_iconst (v := 1) (by decide) dX12_sum_80 ?_
        refine e_zret dX12_sum_81 rfl rfl ?_
        have hm := some_in hm
        subst hm
        exact ⟨rfl, rfl⟩
      · have hm := it_n c_24 hm
        refine e_weak [.ref 186, .null, .null] ⟨rfl, ⟨trivial, ⟨trivial, trivial⟩⟩⟩ ?_
        exact tX12_sum_27 hko hB hR (ih) I J hF _ hm
set_option maxRecDepth 100000 in
set_option maxHeartbeats 4000000 in
theorem tbX12_sum {l : Launch} {K : a_KT} {g : a_GT} {IA : iT} {D0 : Nat} {R : sc_12expressionT} (hko : a_kok K) (hB : 5 ≤ D0 + 1) (hR : sc_12expression_ok l K g D0 R) (I : iT) (J : jT) (F : fT) (hF : FOK F) (q : Int32 × iT × jT) (hm : bX12_sum R I J = some q) : C l K g (D0 + 1) 0 0 yX12_sum cX12_sum 3 (some .boolean) [.ref 186] (hg IA I J F) (fun r2 h2 => r2 = some (.int q.1) ∧ h2 = hg IA q.2.1 q.2.2 F) := by
  unfold bX12_sum at hm
  refine c_of [.ref 186, .null, .null] (by decide) (Nat.le_of_ble_eq_true rfl) rfl ?_
  refine e_aload_n (i := 0) rfl dX12_sum_0 ?_
  obtain ⟨q7, eq7, hm⟩ := ob_some hm
  refine e_cV0 hko dX12_sum_1 ml_RX12_313 iz_186 (by decide) rfl (by omega) (Nat.le_of_ble_eq_true rfl) (hR.2.1 I J F hF q7 eq7) ?_
  rintro _ _ ⟨rfl, rfl⟩
  refine e_if_ne 9 dX12_sum_4 (by decide) (fun c_4 => ?_) (fun c_4 => ?_)
  · have hm := it_n c_4 hm
    refine e_weak [.ref 186, .null, .null] ⟨rfl, ⟨trivial, ⟨trivial, trivial⟩⟩⟩ ?_
    exact tX12_sum_9 hko hB hR LF q7.2.1 q7.2.2 hF _ hm
  · have hm := it_p c_4 hm
    refine e_iconst (v := 0) (by decide) dX12_sum_7 ?_
    refine e_zret dX12_sum_8 rfl rfl ?_
    have hm := some_in hm
    subst hm
    exact ⟨rfl, rfl⟩
set_option maxRecDepth 100000 in
set_option maxHeartbeats 4000000 in
theorem tX12_unit_61 {l : Launch} {K : a_KT} {g : a_GT} {IA : iT} {D0 : Nat} {R : sc_12expressionT} (hko : a_kok K) (hB : 5 ≤ D0 + 1) (hR : sc_12expression_ok l K g D0 R) {F : fT} (I : iT) (J : jT) (x1 : Int32) (hF : FOK F) (q : Int32 × iT × jT) (hm : mX12_unit_61 R I J x1 = some q) : E l K g (D0 + 1) 0 0 yX12_unit cX12_unit 2 (some .boolean) 61 [.ref 186, .int x1] [] (hg IA I J F) (fun r2 h2 => r2 = some (.int q.1) ∧ h2 = hg IA q.2.1 q.2.2 F) := by
  unfold mX12_unit_61 at hm
  refine e_aload_n (i := 0) rfl dX12_unit_61 ?_
  refine e_iconst (v := 2) (by decide) dX12_unit_62 ?_
  refine e_aload_n (i := 0) rfl dX12_unit_63 ?_
  refine l_getI 12 4 dX12_unit_64 fl_RX12_207 rfl iz_186 (by decide) ?_
  obtain ⟨q1, eq1, hm⟩ := ob_some hm
  refine e_cV2 hko dX12_unit_67 ml_RX12_232 iz_186 (by decide) rfl (by omega) (Nat.le_of_ble_eq_true rfl) (tX12_bad hko I J F hF 2 (I 186 4) _ eq1) ?_
  rintro _ _ ⟨rfl, rfl⟩
  obtain ⟨c_70, hm⟩ := gd_s hm
  refine e_zret dX12_unit_70 rfl (zz_nar c_70) ?_
  have hm := some_in hm
  subst hm
  exact ⟨rfl, rfl⟩
set_option maxRecDepth 100000 in
set_option maxHeartbeats 4000000 in
theorem tbX12_unit {l : Launch} {K : a_KT} {g : a_GT} {IA : iT} {D0 : Nat} {R : sc_12expressionT} (hko : a_kok K) (hB : 5 ≤ D0 + 1) (hR : sc_12expression_ok l K g D0 R) (I : iT) (J : jT) (F : fT) (hF : FOK F) (q : Int32 × iT × jT) (hm : bX12_unit R I J = some q) : C l K g (D0 + 1) 0 0 yX12_unit cX12_unit 2 (some .boolean) [.ref 186] (hg IA I J F) (fun r2 h2 => r2 = some (.int q.1) ∧ h2 = hg IA q.2.1 q.2.2 F) := by
  unfold bX12_unit at hm
  refine c_of [.ref 186, .null] (by decide) (Nat.le_of_ble_eq_true rfl) rfl ?_
  refine e_aload_n (i := 0) rfl dX12_unit_0 ?_
  refine l_getI 12 3 dX12_unit_1 fl_RX12_210 rfl iz_186 (by decide) ?_
  refine e_iconst (v := 3) (by decide) dX12_unit_4 ?_
  refine e_icmp_ne 30 dX12_unit_5 (by decide) (fun c_5 => ?_) (fun c_5 => ?_)
  · have hm := it_n c_5 hm
    refine e_aload_n (i := 0) rfl dX12_unit_30 ?_
    refine l_getI 12 3 dX12_unit_31 fl_RX12_210 rfl iz_186 (by decide) ?_
    refine e_iconst (v := 2) (by decide) dX12_unit_34 ?_
    refine e_icmp_ne 90 dX12_unit_35 (by decide) (fun c_35 => ?_) (fun c_35 => ?_)
    · have hm := it_n c_35 hm
      refine e_aload_n (i := 0) rfl dX12_unit_90 ?_
      refine e_bipush (v := 45) (by decide) dX12_unit_91 ?_
      obtain ⟨q2, eq2, hm⟩ := ob_some hm
      refine e_cV1 hko dX12_unit_93 ml_RX12_229 iz_186 (by decide) rfl (by omega) (Nat.le_of_ble_eq_true rfl) (tX12_isSign hko I J F hF 45 _ eq2) ?_
      rintro _ _ ⟨rfl, rfl⟩
      refine e_if_eq 143 dX12_unit_96 (by decide) (fun c_96 => ?_) (fun c_96 => ?_)
      · have hm := it_p c_96 hm
        refine e_aload_n (i := 0) rfl dX12_unit_143 ?_
        refine e_bipush (v := 40) (by decide) dX12_unit_144 ?_
        obtain ⟨q3, eq3, hm⟩ := ob_some hm
        refine e_cV1 hko dX12_unit_146 ml_RX12_229 iz_186 (by decide) rfl (by omega) (Nat.le_of_ble_eq_true rfl) (tX12_isSign hko I J F hF 40 _ eq3) ?_
        rintro _ _ ⟨rfl, rfl⟩
        refine e_if_ne 162 dX12_unit_149 (by decide) (fun c_149 => ?_) (fun c_149 => ?_)
        · have hm := it_n c_149 hm
          refine e_aload_n (i := 0) rfl dX12_unit_162 ?_
          obtain ⟨q4, eq4, hm⟩ := ob_some hm
          refine e_cV0 hko dX12_unit_163 ml_RX12_304 iz_186 (by decide) rfl (by omega) (Nat.le_of_ble_eq_true rfl) (tX12_opens hko I J F hF _ eq4) ?_
          rintro _ _ ⟨rfl, rfl⟩
          refine e_if_eq 185 dX12_unit_166 (by decide) (fun c_166 => ?_) (fun c_166 => ?_)
          · have hm := it_p c_166 hm
            refine e_iconst (v := 0) (by decide) dX12_unit_185 ?_
            refine e_zret dX12_unit_186 rfl rfl ?_
            have hm := some_in hm
            subst hm
            exact ⟨rfl, rfl⟩
          · have hm := it_n c_166 hm
            refine e_aload_n (i := 0) rfl dX12_unit_169 ?_
            obtain ⟨q5, eq5, hm⟩ := ob_some hm
            refine e_cV0 hko dX12_unit_170 ml_RX12_310 iz_186 (by decide) rfl (by omega) (Nat.le_of_ble_eq_true rfl) (hR.1 q4.2.1 q4.2.2 F hF q5 eq5) ?_
            rintro _ _ ⟨rfl, rfl⟩
            refine e_if_eq 185 dX12_unit_173 (by decide) (fun c_173 => ?_) (fun c_173 => ?_)
            · have hm := it_p c_173 hm
              refine e_iconst (v := 0) (by decide) dX12_unit_185 ?_
              refine e_zret dX12_unit_186 rfl rfl ?_
              have hm := some_in hm
              subst hm
              exact ⟨rfl, rfl⟩
            · have hm := it_n c_173 hm
              refine e_aload_n (i := 0) rfl dX12_unit_176 ?_
              refine e_bipush (v := 41) (by decide) dX12_unit_177 ?_
              obtain ⟨q6, eq6, hm⟩ := ob_some hm
              refine e_cV1 hko dX12_unit_179 ml_RX12_278 iz_186 (by decide) rfl (by omega) (Nat.le_of_ble_eq_true rfl) (tX12_need hko q5.2.1 q5.2.2 F hF 41 _ eq6) ?_
              rintro _ _ ⟨rfl, rfl⟩
              refine e_if_ne 187 dX12_unit_182 (by decide) (fun c_182 => ?_) (fun c_182 => ?_)
              · have hm := it_n c_182 hm
                refine e_aload_n (i := 0) rfl dX12_unit_187 ?_
                refine e_dup rfl dX12_unit_188 ?_
                refine l_getI 12 45 dX12_unit_189 fl_RX12_295 rfl iz_186 (by decide) ?_
                refine e_iconst (v := 1) (by decide) dX12_unit_192 ?_
                refine e_isub dX12_unit_193 ?_
                refine l_putI 12 45 dX12_unit_194 fl_RX12_295 rfl rfl iz_186 (by decide) ?_
                refine e_iconst (v := 1) (by decide) dX12_unit_197 ?_
                refine e_zret dX12_unit_198 rfl rfl ?_
                have hm := some_in hm
                subst hm
                exact ⟨rfl, rfl⟩
              · have hm := it_p c_182 hm
                refine e_iconst (v := 0) (by decide) dX12_unit_185 ?_
                refine e_zret dX12_unit_186 rfl rfl ?_
                have hm := some_in hm
                subst hm
                exact ⟨rfl, rfl⟩
        · have hm := it_p c_149 hm
          refine e_aload_n (i := 0) rfl dX12_unit_152 ?_
          refine e_iconst (v := 1) (by decide) dX12_unit_153 ?_
          refine e_aload_n (i := 0) rfl dX12_unit_154 ?_
          refine l_getI 12 4 dX12_unit_155 fl_RX12_207 rfl iz_186 (by decide) ?_
          obtain ⟨q7, eq7, hm⟩ := ob_some hm
          refine e_cV2 hko dX12_unit_158 ml_RX12_232 iz_186 (by decide) rfl (by omega) (Nat.le_of_ble_eq_true rfl) (tX12_bad hko I J F hF 1 (I 186 4) _ eq7) ?_
          rintro _ _ ⟨rfl, rfl⟩
          obtain ⟨c_161, hm⟩ := gd_s hm
          refine e_zret dX12_unit_161 rfl (zz_nar c_161) ?_
          have hm := some_in hm
          subst hm
          exact ⟨rfl, rfl⟩
      · have hm := it_n c_96 hm
        refine e_aload_n (i := 0) rfl dX12_unit_99 ?_
        obtain ⟨q8, eq8, hm⟩ := ob_some hm
        refine e_cV0 hko dX12_unit_100 ml_RX12_304 iz_186 (by decide) rfl (by omega) (Nat.le_of_ble_eq_true rfl) (tX12_opens hko I J F hF _ eq8) ?_
        rintro _ _ ⟨rfl, rfl⟩
        refine e_if_eq 113 dX12_unit_103 (by decide) (fun c_103 => ?_) (fun c_103 => ?_)
        · have hm := it_p c_103 hm
          refine e_iconst (v := 0) (by decide) dX12_unit_113 ?_
          refine e_zret dX12_unit_114 rfl rfl ?_
          have hm := some_in hm
          subst hm
          exact ⟨rfl, rfl⟩
        · have hm := it_n c_103 hm
          refine e_aload_n (i := 0) rfl dX12_unit_106 ?_
          obtain ⟨q9, eq9, hm⟩ := ob_some hm
          refine e_cV0 hko dX12_unit_107 ml_RX12_307 iz_186 (by decide) rfl (by omega) (Nat.le_of_ble_eq_true rfl) (hR.2.2.2 q8.2.1 q8.2.2 F hF q9 eq9) ?_
          rintro _ _ ⟨rfl, rfl⟩
          refine e_if_ne 115 dX12_unit_110 (by decide) (fun c_110 => ?_) (fun c_110 => ?_)
          · have hm := it_n c_110 hm
            refine e_aload_n (i := 0) rfl dX12_unit_115 ?_
            refine e_dup rfl dX12_unit_116 ?_
            refine l_getI 12 45 dX12_unit_117 fl_RX12_295 rfl iz_186 (by decide) ?_
            refine e_iconst (v := 1) (by decide) dX12_unit_120 ?_
            refine e_isub dX12_unit_121 ?_
            refine l_putI 12 45 dX12_unit_122 fl_RX12_295 rfl rfl iz_186 (by decide) ?_
            refine e_aload_n (i := 0) rfl dX12_unit_125 ?_
            refine e_aload_n (i := 0) rfl dX12_unit_126 ?_
            refine e_bipush (v := 22) (by decide) dX12_unit_127 ?_
            refine e_aload_n (i := 0) rfl dX12_unit_129 ?_
            refine l_getI 12 47 dX12_unit_130 fl_RX12_298 rfl iz_186 (by decide) ?_
            refine e_iconst (v := (-1)) (by decide) dX12_unit_133 ?_
            refine e_lconst (v := 0) (by decide) dX12_unit_134 ?_
            obtain ⟨q10, eq10, hm⟩ := ob_some hm
            refine e_cV4 hko dX12_unit_135 ml_RX12_264 iz_186 (by decide) rfl (by omega) (Nat.le_of_ble_eq_true rfl) (tX12_node hko (a_u2 q9.2.1 186 45 ((q9.2.1 186 45) - 1)) q9.2.2 F hF 22 ((a_u2 q9.2.1 186 45 ((q9.2.1 186 45) - 1)) 186 47) ((-1)) 0 _ eq10) ?_
            rintro _ _ ⟨rfl, rfl⟩
            refine l_putI 12 47 dX12_unit_138 fl_RX12_298 rfl rfl iz_186 (by decide) ?_
            refine e_iconst (v := 1) (by decide) dX12_unit_141 ?_
            refine e_zret dX12_unit_142 rfl rfl ?_
            have hm := some_in hm
            subst hm
            exact ⟨rfl, rfl⟩
          · have hm := it_p c_110 hm
            refine e_iconst (v := 0) (by decide) dX12_unit_113 ?_
            refine e_zret dX12_unit_114 rfl rfl ?_
            have hm := some_in hm
            subst hm
            exact ⟨rfl, rfl⟩
    · have hm := it_p c_35 hm
      refine e_aload_n (i := 0) rfl dX12_unit_38 ?_
      refine e_aload_n (i := 0) rfl dX12_unit_39 ?_
      refine q_getJ 12 6 dX12_unit_40 fl_RX12_162 rfl iz_186 ?_
      obtain ⟨q11, eq11, hm⟩ := ob_some hm
      refine e_cV1 hko dX12_unit_43 ml_RX12_301 iz_186 (by decide) rfl (by omega) (Nat.le_of_ble_eq_true rfl) (tX12_slot hko I J F hF (J 186 6) _ eq11) ?_
      rintro _ _ ⟨rfl, rfl⟩
      refine q_istore_n (i := 1) (by decide) rfl dX12_unit_46 ?_
      refine e_iload_n (i := 1) rfl dX12_unit_47 ?_
      refine e_iconst (v := (-1)) (by decide) dX12_unit_48 ?_
      refine e_icmp_eq 61 dX12_unit_49 (by decide) (fun c_49 => ?_) (fun c_49 => ?_)
      · have hm := it_p c_49 hm
        refine e_weak [.ref 186, .int q11] ⟨rfl, ⟨rfl, trivial⟩⟩ ?_
        exact tX12_unit_61 hko hB hR I J q11 hF _ hm
      · have hm := it_n c_49 hm
        refine e_aload_n (i := 0) rfl dX12_unit_52 ?_
        refine q_getF 12 39 208 dX12_unit_53 fl_RX12_78 rfl iz_186 (fr_186_39 hF) ?_
        refine e_iload_n (i := 1) rfl dX12_unit_56 ?_
        obtain ⟨c_57, hm⟩ := gd_s hm
        refine l_iald dX12_unit_57 iz_208 (inb_in ln_208 c_57) (by decide) ?_
        refine e_if_eq 71 dX12_unit_58 (by decide) (fun c_58 => ?_) (fun c_58 => ?_)
        · have hm := it_p c_58 hm
          refine e_aload_n (i := 0) rfl dX12_unit_71 ?_
          refine e_aload_n (i := 0) rfl dX12_unit_72 ?_
          refine e_bipush (v := 21) (by decide) dX12_unit_73 ?_
          refine e_iload_n (i := 1) rfl dX12_unit_75 ?_
          refine e_iconst (v := (-1)) (by decide) dX12_unit_76 ?_
          refine e_lconst (v := 0) (by decide) dX12_unit_77 ?_
          obtain ⟨q12, eq12, hm⟩ := ob_some hm
          refine e_cV4 hko dX12_unit_78 ml_RX12_264 iz_186 (by decide) rfl (by omega) (Nat.le_of_ble_eq_true rfl) (tX12_node hko I J F hF 21 q11 ((-1)) 0 _ eq12) ?_
          rintro _ _ ⟨rfl, rfl⟩
          refine l_putI 12 47 dX12_unit_81 fl_RX12_298 rfl rfl iz_186 (by decide) ?_
          refine e_aload_n (i := 0) rfl dX12_unit_84 ?_
          obtain ⟨q13, eq13, hm⟩ := ob_some hm
          refine e_cV0 hko dX12_unit_85 ml_RX12_236 iz_186 (by decide) rfl (by omega) (Nat.le_of_ble_eq_true rfl) (tX12_look0 hko (a_u2 q12.2.1 186 47 q12.1) q12.2.2 F hF _ eq13) ?_
          rintro _ _ ⟨rfl, rfl⟩
          refine e_iconst (v := 1) (by decide) dX12_unit_88 ?_
          refine e_zret dX12_unit_89 rfl rfl ?_
          have hm := some_in hm
          subst hm
          exact ⟨rfl, rfl⟩
        · have hm := it_n c_58 hm
          refine e_weak [.ref 186, .int q11] ⟨rfl, ⟨rfl, trivial⟩⟩ ?_
          exact tX12_unit_61 hko hB hR I J q11 hF _ hm
  · have hm := it_p c_5 hm
    refine e_aload_n (i := 0) rfl dX12_unit_8 ?_
    refine e_aload_n (i := 0) rfl dX12_unit_9 ?_
    refine e_bipush (v := 20) (by decide) dX12_unit_10 ?_
    refine e_aload_n (i := 0) rfl dX12_unit_12 ?_
    refine l_getI 12 5 dX12_unit_13 fl_RX12_217 rfl iz_186 (by decide) ?_
    refine e_iconst (v := (-1)) (by decide) dX12_unit_16 ?_
    refine e_lconst (v := 0) (by decide) dX12_unit_17 ?_
    obtain ⟨q14, eq14, hm⟩ := ob_some hm
    refine e_cV4 hko dX12_unit_18 ml_RX12_264 iz_186 (by decide) rfl (by omega) (Nat.le_of_ble_eq_true rfl) (tX12_node hko I J F hF 20 (I 186 5) ((-1)) 0 _ eq14) ?_
    rintro _ _ ⟨rfl, rfl⟩
    refine l_putI 12 47 dX12_unit_21 fl_RX12_298 rfl rfl iz_186 (by decide) ?_
    refine e_aload_n (i := 0) rfl dX12_unit_24 ?_
    obtain ⟨q15, eq15, hm⟩ := ob_some hm
    refine e_cV0 hko dX12_unit_25 ml_RX12_236 iz_186 (by decide) rfl (by omega) (Nat.le_of_ble_eq_true rfl) (tX12_look0 hko (a_u2 q14.2.1 186 47 q14.1) q14.2.2 F hF _ eq15) ?_
    rintro _ _ ⟨rfl, rfl⟩
    refine e_iconst (v := 1) (by decide) dX12_unit_28 ?_
    refine e_zret dX12_unit_29 rfl rfl ?_
    have hm := some_in hm
    subst hm
    exact ⟨rfl, rfl⟩
set_option maxRecDepth 100000 in
set_option maxHeartbeats 4000000 in
theorem sc_12expression_all {l : Launch} {K : a_KT} {g : a_GT} (hko : a_kok K) : ∀ n : Nat, sc_12expression_ok l K g (5 + n) (sc_12expression n) := by
  intro n
  induction n with
  | zero => exact ⟨(by intros; rename_i h; cases (show (none : Option _) = some _ from h)), (by intros; rename_i h; cases (show (none : Option _) = some _ from h)), (by intros; rename_i h; cases (show (none : Option _) = some _ from h)), (by intros; rename_i h; cases (show (none : Option _) = some _ from h))⟩
  | succ n ih =>
    exact ⟨fun I J F hF q hm => tbX12_expression hko (by omega) ih I J F hF q hm, fun I J F hF q hm => tbX12_product hko (by omega) ih I J F hF q hm, fun I J F hF q hm => tbX12_sum hko (by omega) ih I J F hF q hm, fun I J F hF q hm => tbX12_unit hko (by omega) ih I J F hF q hm⟩
theorem tX12_expression {l : Launch} {K : a_KT} {g : a_GT} {IA : iT} (hko : a_kok K) (I : iT) (J : jT) (F : fT) (hF : FOK F) (q : Int32 × iT × jT) (hm : mX12_expression SF I J = some q) : C l K g 455 0 0 yX12_expression cX12_expression 3 (some .boolean) [.ref 186] (hg IA I J F) (fun r2 h2 => r2 = some (.int q.1) ∧ h2 = hg IA q.2.1 q.2.2 F) := (sc_12expression_all hko SF).1 I J F hF q hm
theorem tX12_product {l : Launch} {K : a_KT} {g : a_GT} {IA : iT} (hko : a_kok K) (I : iT) (J : jT) (F : fT) (hF : FOK F) (q : Int32 × iT × jT) (hm : mX12_product SF I J = some q) : C l K g 455 0 0 yX12_product cX12_product 2 (some .boolean) [.ref 186] (hg IA I J F) (fun r2 h2 => r2 = some (.int q.1) ∧ h2 = hg IA q.2.1 q.2.2 F) := (sc_12expression_all hko SF).2.1 I J F hF q hm
theorem tX12_sum {l : Launch} {K : a_KT} {g : a_GT} {IA : iT} (hko : a_kok K) (I : iT) (J : jT) (F : fT) (hF : FOK F) (q : Int32 × iT × jT) (hm : mX12_sum SF I J = some q) : C l K g 455 0 0 yX12_sum cX12_sum 3 (some .boolean) [.ref 186] (hg IA I J F) (fun r2 h2 => r2 = some (.int q.1) ∧ h2 = hg IA q.2.1 q.2.2 F) := (sc_12expression_all hko SF).2.2.1 I J F hF q hm
theorem tX12_unit {l : Launch} {K : a_KT} {g : a_GT} {IA : iT} (hko : a_kok K) (I : iT) (J : jT) (F : fT) (hF : FOK F) (q : Int32 × iT × jT) (hm : mX12_unit SF I J = some q) : C l K g 455 0 0 yX12_unit cX12_unit 2 (some .boolean) [.ref 186] (hg IA I J F) (fun r2 h2 => r2 = some (.int q.1) ∧ h2 = hg IA q.2.1 q.2.2 F) := (sc_12expression_all hko SF).2.2.2 I J F hF q hm
theorem dX12_needWord_0 : decode cX12_needWord 0 = .ok (.aload_n 0, 1) := by decide +kernel
theorem dX12_needWord_1 : decode cX12_needWord 1 = .ok (.getfield 210, 3) := by decide +kernel
theorem dX12_needWord_4 : decode cX12_needWord 4 = .ok (.iload_n 1, 1) := by decide +kernel
theorem dX12_needWord_5 : decode cX12_needWord 5 = .ok (.if_icmp .eq 13, 3) := by decide +kernel
theorem dX12_needWord_8 : decode cX12_needWord 8 = .ok (.aload_n 0, 1) := by decide +kernel
theorem dX12_needWord_9 : decode cX12_needWord 9 = .ok (.iconst 1, 1) := by decide +kernel
theorem dX12_needWord_10 : decode cX12_needWord 10 = .ok (.aload_n 0, 1) := by decide +kernel
theorem dX12_needWord_11 : decode cX12_needWord 11 = .ok (.getfield 207, 3) := by decide +kernel
theorem dX12_needWord_14 : decode cX12_needWord 14 = .ok (.invokevirtual 232, 3) := by decide +kernel
theorem dX12_needWord_17 : decode cX12_needWord 17 = .ok (.ireturn, 1) := by decide +kernel
theorem dX12_needWord_18 : decode cX12_needWord 18 = .ok (.aload_n 0, 1) := by decide +kernel
theorem dX12_needWord_19 : decode cX12_needWord 19 = .ok (.invokevirtual 236, 3) := by decide +kernel
theorem dX12_needWord_22 : decode cX12_needWord 22 = .ok (.iconst 1, 1) := by decide +kernel
theorem dX12_needWord_23 : decode cX12_needWord 23 = .ok (.ireturn, 1) := by decide +kernel
def mX12_needWord (I : iT) (J : jT) (x1 : Int32) : Option (Int32 × iT × jT) := if (I 186 3) = x1 then (mX12_look0 I J).bind fun q1 => some (1, q1.1, q1.2) else (mX12_bad I 1 (I 186 4)).bind fun q2 => if q2.1 = 0 ∨ q2.1 = 1 then some (q2.1, q2.2, J) else none
set_option maxRecDepth 100000 in
set_option maxHeartbeats 4000000 in
theorem tX12_needWord {l : Launch} {K : a_KT} {g : a_GT} {IA : iT} (hko : a_kok K) (I : iT) (J : jT) (F : fT) (hF : FOK F) (x1 : Int32) (q : Int32 × iT × jT) (hm : mX12_needWord I J x1 = some q) : C l K g 4 0 0 yX12_needWord cX12_needWord 2 (some .boolean) [.ref 186, .int x1] (hg IA I J F) (fun r2 h2 => r2 = some (.int q.1) ∧ h2 = hg IA q.2.1 q.2.2 F) := by
  unfold mX12_needWord at hm
  refine c_of [.ref 186, .int x1] (by decide) (Nat.le_of_ble_eq_true rfl) rfl ?_
  refine e_aload_n (i := 0) rfl dX12_needWord_0 ?_
  refine l_getI 12 3 dX12_needWord_1 fl_RX12_210 rfl iz_186 (by decide) ?_
  refine e_iload_n (i := 1) rfl dX12_needWord_4 ?_
  refine e_icmp_eq 18 dX12_needWord_5 (by decide) (fun c_5 => ?_) (fun c_5 => ?_)
  · have hm := it_p c_5 hm
    refine e_aload_n (i := 0) rfl dX12_needWord_18 ?_
    obtain ⟨q1, eq1, hm⟩ := ob_some hm
    refine e_cV0 hko dX12_needWord_19 ml_RX12_236 iz_186 (by decide) rfl (by omega) (Nat.le_of_ble_eq_true rfl) (tX12_look0 hko I J F hF _ eq1) ?_
    rintro _ _ ⟨rfl, rfl⟩
    refine e_iconst (v := 1) (by decide) dX12_needWord_22 ?_
    refine e_zret dX12_needWord_23 rfl rfl ?_
    have hm := some_in hm
    subst hm
    exact ⟨rfl, rfl⟩
  · have hm := it_n c_5 hm
    refine e_aload_n (i := 0) rfl dX12_needWord_8 ?_
    refine e_iconst (v := 1) (by decide) dX12_needWord_9 ?_
    refine e_aload_n (i := 0) rfl dX12_needWord_10 ?_
    refine l_getI 12 4 dX12_needWord_11 fl_RX12_207 rfl iz_186 (by decide) ?_
    obtain ⟨q2, eq2, hm⟩ := ob_some hm
    refine e_cV2 hko dX12_needWord_14 ml_RX12_232 iz_186 (by decide) rfl (by omega) (Nat.le_of_ble_eq_true rfl) (tX12_bad hko I J F hF 1 (I 186 4) _ eq2) ?_
    rintro _ _ ⟨rfl, rfl⟩
    obtain ⟨c_17, hm⟩ := gd_s hm
    refine e_zret dX12_needWord_17 rfl (zz_nar c_17) ?_
    have hm := some_in hm
    subst hm
    exact ⟨rfl, rfl⟩
theorem dX12_has_0 : decode cX12_has 0 = .ok (.iconst 0, 1) := by decide +kernel
theorem dX12_has_1 : decode cX12_has 1 = .ok (.istore_n 1, 1) := by decide +kernel
theorem dX12_has_2 : decode cX12_has 2 = .ok (.iload_n 1, 1) := by decide +kernel
theorem dX12_has_3 : decode cX12_has 3 = .ok (.aload_n 0, 1) := by decide +kernel
theorem dX12_has_4 : decode cX12_has 4 = .ok (.getfield 292, 3) := by decide +kernel
theorem dX12_has_7 : decode cX12_has 7 = .ok (.if_icmp .ge 32, 3) := by decide +kernel
theorem dX12_has_10 : decode cX12_has 10 = .ok (.aload_n 0, 1) := by decide +kernel
theorem dX12_has_11 : decode cX12_has 11 = .ok (.getfield 72, 3) := by decide +kernel
theorem dX12_has_14 : decode cX12_has 14 = .ok (.iload_n 1, 1) := by decide +kernel
theorem dX12_has_15 : decode cX12_has 15 = .ok (.laload, 1) := by decide +kernel
theorem dX12_has_16 : decode cX12_has 16 = .ok (.lconst 0, 1) := by decide +kernel
theorem dX12_has_17 : decode cX12_has 17 = .ok (.lcmp, 1) := by decide +kernel
theorem dX12_has_18 : decode cX12_has 18 = .ok (.ifCond .eq 15, 3) := by decide +kernel
theorem dX12_has_21 : decode cX12_has 21 = .ok (.aload_n 0, 1) := by decide +kernel
theorem dX12_has_22 : decode cX12_has 22 = .ok (.getfield 78, 3) := by decide +kernel
theorem dX12_has_25 : decode cX12_has 25 = .ok (.iload_n 1, 1) := by decide +kernel
theorem dX12_has_26 : decode cX12_has 26 = .ok (.iaload, 1) := by decide +kernel
theorem dX12_has_27 : decode cX12_has 27 = .ok (.iconst 2, 1) := by decide +kernel
theorem dX12_has_28 : decode cX12_has 28 = .ok (.if_icmp .ne 5, 3) := by decide +kernel
theorem dX12_has_31 : decode cX12_has 31 = .ok (.iconst 1, 1) := by decide +kernel
theorem dX12_has_32 : decode cX12_has 32 = .ok (.ireturn, 1) := by decide +kernel
theorem dX12_has_33 : decode cX12_has 33 = .ok (.iinc 1 1, 3) := by decide +kernel
theorem dX12_has_36 : decode cX12_has 36 = .ok (.goto (-34), 3) := by decide +kernel
theorem dX12_has_39 : decode cX12_has 39 = .ok (.iconst 0, 1) := by decide +kernel
theorem dX12_has_40 : decode cX12_has 40 = .ok (.ireturn, 1) := by decide +kernel
def mX12_has_33 (k2 : iT → jT → Int32 → Option (Int32)) (I : iT) (J : jT) (x1 : Int32) : Option (Int32) := k2 I J (x1 + 1)
def mX12_has_2 : Nat → iT → jT → Int32 → Option (Int32)
  | 0, _, _, _ => none
  | n + 1, I, J, x1 => if (I 186 43) ≤ x1 then some 0 else if inb x1 128 then if (lg_cmp (J 206 x1.toNatClampNeg) 0) = 0 then mX12_has_33 (mX12_has_2 n) I J x1 else if inb x1 128 then if (I 208 x1.toNatClampNeg) = 2 then some 1 else mX12_has_33 (mX12_has_2 n) I J x1 else none else none
def mX12_has (I : iT) (J : jT) : Option (Int32) := mX12_has_2 LF I J 0
set_option maxRecDepth 100000 in
set_option maxHeartbeats 4000000 in
theorem tX12_has_33 {l : Launch} {K : a_KT} {g : a_GT} {IA : iT} (hko : a_kok K) {F : fT} {k2 : iT → jT → Int32 → Option (Int32)} (hk2 : ∀ (I : iT) (J : jT) (x1 : Int32) (_ : FOK F) (q : Int32), k2 I J x1 = some q → E l K g 0 0 0 yX12_has cX12_has 2 (some .boolean) 2 [.ref 186, .int x1] [] (hg IA I J F) (fun r2 h2 => r2 = some (.int q) ∧ h2 = hg IA I J F)) (I : iT) (J : jT) (x1 : Int32) (hF : FOK F) (q : Int32) (hm : mX12_has_33 k2 I J x1 = some q) : E l K g 0 0 0 yX12_has cX12_has 2 (some .boolean) 33 [.ref 186, .int x1] [] (hg IA I J F) (fun r2 h2 => r2 = some (.int q) ∧ h2 = hg IA I J F) := by
  unfold mX12_has_33 at hm
  refine q_iinc (i := 1) (x1 + 1) rfl ic_1 rfl dX12_has_33 ?_
  refine e_goto 2 dX12_has_36 (by decide) ?_
  refine e_weak [.ref 186, .int (x1 + 1)] ⟨rfl, ⟨rfl, trivial⟩⟩ ?_
  exact hk2 I J (x1 + 1) hF _ hm
set_option maxRecDepth 100000 in
set_option maxHeartbeats 4000000 in
theorem tX12_has_2 {l : Launch} {K : a_KT} {g : a_GT} {IA : iT} (hko : a_kok K) {F : fT} : ∀ (n : Nat) (I : iT) (J : jT) (x1 : Int32) (hF : FOK F) (q : Int32), mX12_has_2 n I J x1 = some q → E l K g 0 0 0 yX12_has cX12_has 2 (some .boolean) 2 [.ref 186, .int x1] [] (hg IA I J F) (fun r2 h2 => r2 = some (.int q) ∧ h2 = hg IA I J F) := by
  intro n
  induction n with
  | zero => intro I J x1 hF q hm; cases hm
  | succ n ih =>
    intro I J x1 hF q hm
    rw [mX12_has_2] at hm
    refine e_iload_n (i := 1) rfl dX12_has_2 ?_
    refine e_aload_n (i := 0) rfl dX12_has_3 ?_
    refine l_getI 12 43 dX12_has_4 fl_RX12_292 rfl iz_186 (by decide) ?_
    refine e_icmp_ge 39 dX12_has_7 (by decide) (fun c_7 => ?_) (fun c_7 => ?_)
    · have hm := it_p c_7 hm
      refine e_iconst (v := 0) (by decide) dX12_has_39 ?_
      refine e_zret dX12_has_40 rfl rfl ?_
      have hm := some_in hm
      subst hm
      exact ⟨rfl, rfl⟩
    · have hm := it_n c_7 hm
      refine e_aload_n (i := 0) rfl dX12_has_10 ?_
      refine q_getF 12 37 206 dX12_has_11 fl_RX12_72 rfl iz_186 (fr_186_37 hF) ?_
      refine e_iload_n (i := 1) rfl dX12_has_14 ?_
      obtain ⟨c_15, hm⟩ := gd_s hm
      refine q_lald dX12_has_15 iz_206 (inb_in ln_206 c_15) ?_
      refine e_lconst (v := 0) (by decide) dX12_has_16 ?_
      refine e_lcmp dX12_has_17 ?_
      refine e_if_eq 33 dX12_has_18 (by decide) (fun c_18 => ?_) (fun c_18 => ?_)
      · have hm := it_p c_18 hm
        refine e_weak [.ref 186, .int x1] ⟨rfl, ⟨rfl, trivial⟩⟩ ?_
        exact tX12_has_33 hko (ih) I J x1 hF _ hm
      · have hm := it_n c_18 hm
        refine e_aload_n (i := 0) rfl dX12_has_21 ?_
        refine q_getF 12 39 208 dX12_has_22 fl_RX12_78 rfl iz_186 (fr_186_39 hF) ?_
        refine e_iload_n (i := 1) rfl dX12_has_25 ?_
        obtain ⟨c_26, hm⟩ := gd_s hm
        refine l_iald dX12_has_26 iz_208 (inb_in ln_208 c_26) (by decide) ?_
        refine e_iconst (v := 2) (by decide) dX12_has_27 ?_
        refine e_icmp_ne 33 dX12_has_28 (by decide) (fun c_28 => ?_) (fun c_28 => ?_)
        · have hm := it_n c_28 hm
          refine e_weak [.ref 186, .int x1] ⟨rfl, ⟨rfl, trivial⟩⟩ ?_
          exact tX12_has_33 hko (ih) I J x1 hF _ hm
        · have hm := it_p c_28 hm
          refine e_iconst (v := 1) (by decide) dX12_has_31 ?_
          refine e_zret dX12_has_32 rfl rfl ?_
          have hm := some_in hm
          subst hm
          exact ⟨rfl, rfl⟩
set_option maxRecDepth 100000 in
set_option maxHeartbeats 4000000 in
theorem tX12_has {l : Launch} {K : a_KT} {g : a_GT} {IA : iT} (hko : a_kok K) (I : iT) (J : jT) (F : fT) (hF : FOK F) (q : Int32) (hm : mX12_has I J = some q) : C l K g 0 0 0 yX12_has cX12_has 2 (some .boolean) [.ref 186] (hg IA I J F) (fun r2 h2 => r2 = some (.int q) ∧ h2 = hg IA I J F) := by
  unfold mX12_has at hm
  refine c_of [.ref 186, .null] (by decide) (Nat.le_of_ble_eq_true rfl) rfl ?_
  refine e_iconst (v := 0) (by decide) dX12_has_0 ?_
  refine q_istore_n (i := 1) (by decide) rfl dX12_has_1 ?_
  refine e_weak [.ref 186, .int 0] ⟨rfl, ⟨rfl, trivial⟩⟩ ?_
  exact tX12_has_2 hko LF I J 0 hF _ hm
theorem dX12_save_0 : decode cX12_save 0 = .ok (.iconst 0, 1) := by decide +kernel
theorem dX12_save_1 : decode cX12_save 1 = .ok (.istore_n 2, 1) := by decide +kernel
theorem dX12_save_2 : decode cX12_save 2 = .ok (.iload_n 2, 1) := by decide +kernel
theorem dX12_save_3 : decode cX12_save 3 = .ok (.sipush 128, 3) := by decide +kernel
theorem dX12_save_6 : decode cX12_save 6 = .ok (.if_icmp .ge 63, 3) := by decide +kernel
theorem dX12_save_9 : decode cX12_save 9 = .ok (.aload_n 0, 1) := by decide +kernel
theorem dX12_save_10 : decode cX12_save 10 = .ok (.getfield 75, 3) := by decide +kernel
theorem dX12_save_13 : decode cX12_save 13 = .ok (.sipush 128, 3) := by decide +kernel
theorem dX12_save_16 : decode cX12_save 16 = .ok (.iload_n 1, 1) := by decide +kernel
theorem dX12_save_17 : decode cX12_save 17 = .ok (.imul, 1) := by decide +kernel
theorem dX12_save_18 : decode cX12_save 18 = .ok (.iload_n 2, 1) := by decide +kernel
theorem dX12_save_19 : decode cX12_save 19 = .ok (.iadd, 1) := by decide +kernel
theorem dX12_save_20 : decode cX12_save 20 = .ok (.aload_n 0, 1) := by decide +kernel
theorem dX12_save_21 : decode cX12_save 21 = .ok (.getfield 72, 3) := by decide +kernel
theorem dX12_save_24 : decode cX12_save 24 = .ok (.iload_n 2, 1) := by decide +kernel
theorem dX12_save_25 : decode cX12_save 25 = .ok (.laload, 1) := by decide +kernel
theorem dX12_save_26 : decode cX12_save 26 = .ok (.lastore, 1) := by decide +kernel
theorem dX12_save_27 : decode cX12_save 27 = .ok (.aload_n 0, 1) := by decide +kernel
theorem dX12_save_28 : decode cX12_save 28 = .ok (.getfield 84, 3) := by decide +kernel
theorem dX12_save_31 : decode cX12_save 31 = .ok (.sipush 128, 3) := by decide +kernel
theorem dX12_save_34 : decode cX12_save 34 = .ok (.iload_n 1, 1) := by decide +kernel
theorem dX12_save_35 : decode cX12_save 35 = .ok (.imul, 1) := by decide +kernel
theorem dX12_save_36 : decode cX12_save 36 = .ok (.iload_n 2, 1) := by decide +kernel
theorem dX12_save_37 : decode cX12_save 37 = .ok (.iadd, 1) := by decide +kernel
theorem dX12_save_38 : decode cX12_save 38 = .ok (.aload_n 0, 1) := by decide +kernel
theorem dX12_save_39 : decode cX12_save 39 = .ok (.getfield 78, 3) := by decide +kernel
theorem dX12_save_42 : decode cX12_save 42 = .ok (.iload_n 2, 1) := by decide +kernel
theorem dX12_save_43 : decode cX12_save 43 = .ok (.iaload, 1) := by decide +kernel
theorem dX12_save_44 : decode cX12_save 44 = .ok (.iastore, 1) := by decide +kernel
theorem dX12_save_45 : decode cX12_save 45 = .ok (.aload_n 0, 1) := by decide +kernel
theorem dX12_save_46 : decode cX12_save 46 = .ok (.getfield 87, 3) := by decide +kernel
theorem dX12_save_49 : decode cX12_save 49 = .ok (.sipush 128, 3) := by decide +kernel
theorem dX12_save_52 : decode cX12_save 52 = .ok (.iload_n 1, 1) := by decide +kernel
theorem dX12_save_53 : decode cX12_save 53 = .ok (.imul, 1) := by decide +kernel
theorem dX12_save_54 : decode cX12_save 54 = .ok (.iload_n 2, 1) := by decide +kernel
theorem dX12_save_55 : decode cX12_save 55 = .ok (.iadd, 1) := by decide +kernel
theorem dX12_save_56 : decode cX12_save 56 = .ok (.aload_n 0, 1) := by decide +kernel
theorem dX12_save_57 : decode cX12_save 57 = .ok (.getfield 81, 3) := by decide +kernel
theorem dX12_save_60 : decode cX12_save 60 = .ok (.iload_n 2, 1) := by decide +kernel
theorem dX12_save_61 : decode cX12_save 61 = .ok (.iaload, 1) := by decide +kernel
theorem dX12_save_62 : decode cX12_save 62 = .ok (.iastore, 1) := by decide +kernel
theorem dX12_save_63 : decode cX12_save 63 = .ok (.iinc 2 1, 3) := by decide +kernel
theorem dX12_save_66 : decode cX12_save 66 = .ok (.goto (-64), 3) := by decide +kernel
theorem dX12_save_69 : decode cX12_save 69 = .ok (.return_, 1) := by decide +kernel
def mX12_save_2 : Nat → iT → jT → Int32 → Int32 → Option (iT × jT)
  | 0, _, _, _, _ => none
  | n + 1, I, J, x1, x2 => if 128 ≤ x2 then some (I, J) else if inb x2 128 then if inb ((128 * x1) + x2) 1152 then if inb x2 128 then if inb ((128 * x1) + x2) 1152 then if inb x2 128 then if inb ((128 * x1) + x2) 1152 then mX12_save_2 n (a_u2 (a_u2 I 210 ((128 * x1) + x2).toNatClampNeg (I 208 x2.toNatClampNeg)) 211 ((128 * x1) + x2).toNatClampNeg ((a_u2 I 210 ((128 * x1) + x2).toNatClampNeg (I 208 x2.toNatClampNeg)) 209 x2.toNatClampNeg)) (a_u2 J 207 ((128 * x1) + x2).toNatClampNeg (J 206 x2.toNatClampNeg)) x1 (x2 + 1) else none else none else none else none else none else none
def mX12_save (I : iT) (J : jT) (x1 : Int32) : Option (iT × jT) := mX12_save_2 LF I J x1 0
set_option maxRecDepth 100000 in
set_option maxHeartbeats 4000000 in
theorem tX12_save_2 {l : Launch} {K : a_KT} {g : a_GT} {IA : iT} (hko : a_kok K) {F : fT} : ∀ (n : Nat) (I : iT) (J : jT) (x1 : Int32) (x2 : Int32) (hF : FOK F) (q : iT × jT), mX12_save_2 n I J x1 x2 = some q → E l K g 0 0 0 yX12_save cX12_save 3 none 2 [.ref 186, .int x1, .int x2] [] (hg IA I J F) (fun r2 h2 => r2 = none ∧ h2 = hg IA q.1 q.2 F) := by
  intro n
  induction n with
  | zero => intro I J x1 x2 hF q hm; cases hm
  | succ n ih =>
    intro I J x1 x2 hF q hm
    rw [mX12_save_2] at hm
    refine e_iload_n (i := 2) rfl dX12_save_2 ?_
    refine e_sipush (v := 128) (by decide) dX12_save_3 ?_
    refine e_icmp_ge 69 dX12_save_6 (by decide) (fun c_6 => ?_) (fun c_6 => ?_)
    · have hm := it_p c_6 hm
      refine e_vret dX12_save_69 rfl ?_
      have hm := some_in hm
      subst hm
      exact ⟨rfl, rfl⟩
    · have hm := it_n c_6 hm
      refine e_aload_n (i := 0) rfl dX12_save_9 ?_
      refine q_getF 12 38 207 dX12_save_10 fl_RX12_75 rfl iz_186 (fr_186_38 hF) ?_
      refine e_sipush (v := 128) (by decide) dX12_save_13 ?_
      refine e_iload_n (i := 1) rfl dX12_save_16 ?_
      refine e_imul dX12_save_17 ?_
      refine e_iload_n (i := 2) rfl dX12_save_18 ?_
      refine e_iadd dX12_save_19 ?_
      refine e_aload_n (i := 0) rfl dX12_save_20 ?_
      refine q_getF 12 37 206 dX12_save_21 fl_RX12_72 rfl iz_186 (fr_186_37 hF) ?_
      refine e_iload_n (i := 2) rfl dX12_save_24 ?_
      obtain ⟨c_25, hm⟩ := gd_s hm
      refine q_lald dX12_save_25 iz_206 (inb_in ln_206 c_25) ?_
      obtain ⟨c_26, hm⟩ := gd_s hm
      refine q_last dX12_save_26 iz_207 (inb_in ln_207 c_26) ?_
      refine e_aload_n (i := 0) rfl dX12_save_27 ?_
      refine q_getF 12 41 210 dX12_save_28 fl_RX12_84 rfl iz_186 (fr_186_41 hF) ?_
      refine e_sipush (v := 128) (by decide) dX12_save_31 ?_
      refine e_iload_n (i := 1) rfl dX12_save_34 ?_
      refine e_imul dX12_save_35 ?_
      refine e_iload_n (i := 2) rfl dX12_save_36 ?_
      refine e_iadd dX12_save_37 ?_
      refine e_aload_n (i := 0) rfl dX12_save_38 ?_
      refine q_getF 12 39 208 dX12_save_39 fl_RX12_78 rfl iz_186 (fr_186_39 hF) ?_
      refine e_iload_n (i := 2) rfl dX12_save_42 ?_
      obtain ⟨c_43, hm⟩ := gd_s hm
      refine l_iald dX12_save_43 iz_208 (inb_in ln_208 c_43) (by decide) ?_
      obtain ⟨c_44, hm⟩ := gd_s hm
      refine l_iast dX12_save_44 iz_210 (inb_in ln_210 c_44) (by decide) ?_
      refine e_aload_n (i := 0) rfl dX12_save_45 ?_
      refine q_getF 12 42 211 dX12_save_46 fl_RX12_87 rfl iz_186 (fr_186_42 hF) ?_
      refine e_sipush (v := 128) (by decide) dX12_save_49 ?_
      refine e_iload_n (i := 1) rfl dX12_save_52 ?_
      refine e_imul dX12_save_53 ?_
      refine e_iload_n (i := 2) rfl dX12_save_54 ?_
      refine e_iadd dX12_save_55 ?_
      refine e_aload_n (i := 0) rfl dX12_save_56 ?_
      refine q_getF 12 40 209 dX12_save_57 fl_RX12_81 rfl iz_186 (fr_186_40 hF) ?_
      refine e_iload_n (i := 2) rfl dX12_save_60 ?_
      obtain ⟨c_61, hm⟩ := gd_s hm
      refine l_iald dX12_save_61 iz_209 (inb_in ln_209 c_61) (by decide) ?_
      obtain ⟨c_62, hm⟩ := gd_s hm
      refine l_iast dX12_save_62 iz_211 (inb_in ln_211 c_62) (by decide) ?_
      refine q_iinc (i := 2) (x2 + 1) rfl ic_1 rfl dX12_save_63 ?_
      refine e_goto 2 dX12_save_66 (by decide) ?_
      refine e_weak [.ref 186, .int x1, .int (x2 + 1)] ⟨rfl, ⟨rfl, ⟨rfl, trivial⟩⟩⟩ ?_
      exact ih (a_u2 (a_u2 I 210 ((128 * x1) + x2).toNatClampNeg (I 208 x2.toNatClampNeg)) 211 ((128 * x1) + x2).toNatClampNeg ((a_u2 I 210 ((128 * x1) + x2).toNatClampNeg (I 208 x2.toNatClampNeg)) 209 x2.toNatClampNeg)) (a_u2 J 207 ((128 * x1) + x2).toNatClampNeg (J 206 x2.toNatClampNeg)) x1 (x2 + 1) hF _ hm
set_option maxRecDepth 100000 in
set_option maxHeartbeats 4000000 in
theorem tX12_save {l : Launch} {K : a_KT} {g : a_GT} {IA : iT} (hko : a_kok K) (I : iT) (J : jT) (F : fT) (hF : FOK F) (x1 : Int32) (q : iT × jT) (hm : mX12_save I J x1 = some q) : C l K g 0 0 0 yX12_save cX12_save 3 none [.ref 186, .int x1] (hg IA I J F) (fun r2 h2 => r2 = none ∧ h2 = hg IA q.1 q.2 F) := by
  unfold mX12_save at hm
  refine c_of [.ref 186, .int x1, .null] (by decide) (Nat.le_of_ble_eq_true rfl) rfl ?_
  refine e_iconst (v := 0) (by decide) dX12_save_0 ?_
  refine q_istore_n (i := 2) (by decide) rfl dX12_save_1 ?_
  refine e_weak [.ref 186, .int x1, .int 0] ⟨rfl, ⟨rfl, ⟨rfl, trivial⟩⟩⟩ ?_
  exact tX12_save_2 hko LF I J x1 0 hF _ hm
theorem dX12_branch_0 : decode cX12_branch 0 = .ok (.aload_n 0, 1) := by decide +kernel
theorem dX12_branch_1 : decode cX12_branch 1 = .ok (.getfield 20, 3) := by decide +kernel
theorem dX12_branch_4 : decode cX12_branch 4 = .ok (.iload_n 1, 1) := by decide +kernel
theorem dX12_branch_5 : decode cX12_branch 5 = .ok (.iaload, 1) := by decide +kernel
theorem dX12_branch_6 : decode cX12_branch 6 = .ok (.istore 4, 2) := by decide +kernel
theorem dX12_branch_8 : decode cX12_branch 8 = .ok (.iload 4, 2) := by decide +kernel
theorem dX12_branch_10 : decode cX12_branch 10 = .ok (.iconst (-1), 1) := by decide +kernel
theorem dX12_branch_11 : decode cX12_branch 11 = .ok (.if_icmp .eq 30, 3) := by decide +kernel
theorem dX12_branch_14 : decode cX12_branch 14 = .ok (.aload_n 0, 1) := by decide +kernel
theorem dX12_branch_15 : decode cX12_branch 15 = .ok (.getfield 29, 3) := by decide +kernel
theorem dX12_branch_18 : decode cX12_branch 18 = .ok (.iload 4, 2) := by decide +kernel
theorem dX12_branch_20 : decode cX12_branch 20 = .ok (.laload, 1) := by decide +kernel
theorem dX12_branch_21 : decode cX12_branch 21 = .ok (.lload_n 2, 1) := by decide +kernel
theorem dX12_branch_22 : decode cX12_branch 22 = .ok (.lcmp, 1) := by decide +kernel
theorem dX12_branch_23 : decode cX12_branch 23 = .ok (.ifCond .ne 6, 3) := by decide +kernel
theorem dX12_branch_26 : decode cX12_branch 26 = .ok (.iload 4, 2) := by decide +kernel
theorem dX12_branch_28 : decode cX12_branch 28 = .ok (.ireturn, 1) := by decide +kernel
theorem dX12_branch_29 : decode cX12_branch 29 = .ok (.aload_n 0, 1) := by decide +kernel
theorem dX12_branch_30 : decode cX12_branch 30 = .ok (.getfield 26, 3) := by decide +kernel
theorem dX12_branch_33 : decode cX12_branch 33 = .ok (.iload 4, 2) := by decide +kernel
theorem dX12_branch_35 : decode cX12_branch 35 = .ok (.iaload, 1) := by decide +kernel
theorem dX12_branch_36 : decode cX12_branch 36 = .ok (.istore 4, 2) := by decide +kernel
theorem dX12_branch_38 : decode cX12_branch 38 = .ok (.goto (-30), 3) := by decide +kernel
theorem dX12_branch_41 : decode cX12_branch 41 = .ok (.iconst (-1), 1) := by decide +kernel
theorem dX12_branch_42 : decode cX12_branch 42 = .ok (.ireturn, 1) := by decide +kernel
def mX12_branch_8 : Nat → iT → jT → Int32 → Int64 → Int32 → Option (Int32)
  | 0, _, _, _, _, _ => none
  | n + 1, I, J, x1, w2, x4 => if x4 = ((-1)) then some ((-1)) else if inb x4 2800 then if (lg_cmp (J 192 x4.toNatClampNeg) w2) = 0 then some x4 else if inb x4 2800 then mX12_branch_8 n I J x1 w2 (I 191 x4.toNatClampNeg) else none else none
def mX12_branch (I : iT) (J : jT) (x1 : Int32) (w2 : Int64) : Option (Int32) := if inb x1 2800 then mX12_branch_8 LF I J x1 w2 (I 189 x1.toNatClampNeg) else none
set_option maxRecDepth 100000 in
set_option maxHeartbeats 4000000 in
theorem tX12_branch_8 {l : Launch} {K : a_KT} {g : a_GT} {IA : iT} (hko : a_kok K) {F : fT} : ∀ (n : Nat) (I : iT) (J : jT) (x1 : Int32) (w2 : Int64) (x4 : Int32) (hF : FOK F) (q : Int32), mX12_branch_8 n I J x1 w2 x4 = some q → E l K g 0 0 0 yX12_branch cX12_branch 5 (some .int) 8 [.ref 186, .int x1, .long w2, .null, .int x4] [] (hg IA I J F) (fun r2 h2 => r2 = some (.int q) ∧ h2 = hg IA I J F) := by
  intro n
  induction n with
  | zero => intro I J x1 w2 x4 hF q hm; cases hm
  | succ n ih =>
    intro I J x1 w2 x4 hF q hm
    rw [mX12_branch_8] at hm
    refine e_iload (i := 4) rfl dX12_branch_8 ?_
    refine e_iconst (v := (-1)) (by decide) dX12_branch_10 ?_
    refine e_icmp_eq 41 dX12_branch_11 (by decide) (fun c_11 => ?_) (fun c_11 => ?_)
    · have hm := it_p c_11 hm
      refine e_iconst (v := (-1)) (by decide) dX12_branch_41 ?_
      refine e_iret dX12_branch_42 rfl ?_
      have hm := some_in hm
      subst hm
      exact ⟨rfl, rfl⟩
    · have hm := it_n c_11 hm
      refine e_aload_n (i := 0) rfl dX12_branch_14 ?_
      refine q_getF 12 15 192 dX12_branch_15 fl_RX12_29 rfl iz_186 (fr_186_15 hF) ?_
      refine e_iload (i := 4) rfl dX12_branch_18 ?_
      obtain ⟨c_20, hm⟩ := gd_s hm
      refine q_lald dX12_branch_20 iz_192 (inb_in ln_192 c_20) ?_
      refine e_lload_n (i := 2) rfl dX12_branch_21 ?_
      refine e_lcmp dX12_branch_22 ?_
      refine e_if_ne 29 dX12_branch_23 (by decide) (fun c_23 => ?_) (fun c_23 => ?_)
      · have hm := it_n c_23 hm
        refine e_aload_n (i := 0) rfl dX12_branch_29 ?_
        refine q_getF 12 14 191 dX12_branch_30 fl_RX12_26 rfl iz_186 (fr_186_14 hF) ?_
        refine e_iload (i := 4) rfl dX12_branch_33 ?_
        obtain ⟨c_35, hm⟩ := gd_s hm
        refine l_iald dX12_branch_35 iz_191 (inb_in ln_191 c_35) (by decide) ?_
        refine q_istore (i := 4) (by decide) rfl dX12_branch_36 ?_
        refine e_goto 8 dX12_branch_38 (by decide) ?_
        refine e_weak [.ref 186, .int x1, .long w2, .null, .int (I 191 x4.toNatClampNeg)] ⟨rfl, ⟨rfl, ⟨rfl, ⟨trivial, ⟨rfl, trivial⟩⟩⟩⟩⟩ ?_
        exact ih I J x1 w2 (I 191 x4.toNatClampNeg) hF _ hm
      · have hm := it_p c_23 hm
        refine e_iload (i := 4) rfl dX12_branch_26 ?_
        refine e_iret dX12_branch_28 rfl ?_
        have hm := some_in hm
        subst hm
        exact ⟨rfl, rfl⟩
set_option maxRecDepth 100000 in
set_option maxHeartbeats 4000000 in
theorem tX12_branch {l : Launch} {K : a_KT} {g : a_GT} {IA : iT} (hko : a_kok K) (I : iT) (J : jT) (F : fT) (hF : FOK F) (x1 : Int32) (w2 : Int64) (q : Int32) (hm : mX12_branch I J x1 w2 = some q) : C l K g 0 0 0 yX12_branch cX12_branch 5 (some .int) [.ref 186, .int x1, .long w2] (hg IA I J F) (fun r2 h2 => r2 = some (.int q) ∧ h2 = hg IA I J F) := by
  unfold mX12_branch at hm
  refine c_of [.ref 186, .int x1, .long w2, .null, .null] (by decide) (Nat.le_of_ble_eq_true rfl) rfl ?_
  refine e_aload_n (i := 0) rfl dX12_branch_0 ?_
  refine q_getF 12 12 189 dX12_branch_1 fl_RX12_20 rfl iz_186 (fr_186_12 hF) ?_
  refine e_iload_n (i := 1) rfl dX12_branch_4 ?_
  obtain ⟨c_5, hm⟩ := gd_s hm
  refine l_iald dX12_branch_5 iz_189 (inb_in ln_189 c_5) (by decide) ?_
  refine q_istore (i := 4) (by decide) rfl dX12_branch_6 ?_
  refine e_weak [.ref 186, .int x1, .long w2, .null, .int (I 189 x1.toNatClampNeg)] ⟨rfl, ⟨rfl, ⟨rfl, ⟨trivial, ⟨rfl, trivial⟩⟩⟩⟩⟩ ?_
  exact tX12_branch_8 hko LF I J x1 w2 (I 189 x1.toNatClampNeg) hF _ hm
theorem dX12_alike_0 : decode cX12_alike 0 = .ok (.iload_n 1, 1) := by decide +kernel
theorem dX12_alike_1 : decode cX12_alike 1 = .ok (.iload_n 2, 1) := by decide +kernel
theorem dX12_alike_2 : decode cX12_alike 2 = .ok (.if_icmp .ne 5, 3) := by decide +kernel
theorem dX12_alike_5 : decode cX12_alike 5 = .ok (.iconst 1, 1) := by decide +kernel
theorem dX12_alike_6 : decode cX12_alike 6 = .ok (.ireturn, 1) := by decide +kernel
theorem dX12_alike_7 : decode cX12_alike 7 = .ok (.iload_n 1, 1) := by decide +kernel
theorem dX12_alike_8 : decode cX12_alike 8 = .ok (.iconst (-1), 1) := by decide +kernel
theorem dX12_alike_9 : decode cX12_alike 9 = .ok (.if_icmp .eq 77, 3) := by decide +kernel
theorem dX12_alike_12 : decode cX12_alike 12 = .ok (.iload_n 2, 1) := by decide +kernel
theorem dX12_alike_13 : decode cX12_alike 13 = .ok (.iconst (-1), 1) := by decide +kernel
theorem dX12_alike_14 : decode cX12_alike 14 = .ok (.if_icmp .eq 72, 3) := by decide +kernel
theorem dX12_alike_17 : decode cX12_alike 17 = .ok (.aload_n 0, 1) := by decide +kernel
theorem dX12_alike_18 : decode cX12_alike 18 = .ok (.getfield 17, 3) := by decide +kernel
theorem dX12_alike_21 : decode cX12_alike 21 = .ok (.iload_n 1, 1) := by decide +kernel
theorem dX12_alike_22 : decode cX12_alike 22 = .ok (.iaload, 1) := by decide +kernel
theorem dX12_alike_23 : decode cX12_alike 23 = .ok (.aload_n 0, 1) := by decide +kernel
theorem dX12_alike_24 : decode cX12_alike 24 = .ok (.getfield 17, 3) := by decide +kernel
theorem dX12_alike_27 : decode cX12_alike 27 = .ok (.iload_n 2, 1) := by decide +kernel
theorem dX12_alike_28 : decode cX12_alike 28 = .ok (.iaload, 1) := by decide +kernel
theorem dX12_alike_29 : decode cX12_alike 29 = .ok (.if_icmp .ne 57, 3) := by decide +kernel
theorem dX12_alike_32 : decode cX12_alike 32 = .ok (.aload_n 0, 1) := by decide +kernel
theorem dX12_alike_33 : decode cX12_alike 33 = .ok (.getfield 29, 3) := by decide +kernel
theorem dX12_alike_36 : decode cX12_alike 36 = .ok (.iload_n 1, 1) := by decide +kernel
theorem dX12_alike_37 : decode cX12_alike 37 = .ok (.laload, 1) := by decide +kernel
theorem dX12_alike_38 : decode cX12_alike 38 = .ok (.aload_n 0, 1) := by decide +kernel
theorem dX12_alike_39 : decode cX12_alike 39 = .ok (.getfield 29, 3) := by decide +kernel
theorem dX12_alike_42 : decode cX12_alike 42 = .ok (.iload_n 2, 1) := by decide +kernel
theorem dX12_alike_43 : decode cX12_alike 43 = .ok (.laload, 1) := by decide +kernel
theorem dX12_alike_44 : decode cX12_alike 44 = .ok (.lcmp, 1) := by decide +kernel
theorem dX12_alike_45 : decode cX12_alike 45 = .ok (.ifCond .ne 41, 3) := by decide +kernel
theorem dX12_alike_48 : decode cX12_alike 48 = .ok (.aload_n 0, 1) := by decide +kernel
theorem dX12_alike_49 : decode cX12_alike 49 = .ok (.aload_n 0, 1) := by decide +kernel
theorem dX12_alike_50 : decode cX12_alike 50 = .ok (.getfield 20, 3) := by decide +kernel
theorem dX12_alike_53 : decode cX12_alike 53 = .ok (.iload_n 1, 1) := by decide +kernel
theorem dX12_alike_54 : decode cX12_alike 54 = .ok (.iaload, 1) := by decide +kernel
theorem dX12_alike_55 : decode cX12_alike 55 = .ok (.aload_n 0, 1) := by decide +kernel
theorem dX12_alike_56 : decode cX12_alike 56 = .ok (.getfield 20, 3) := by decide +kernel
theorem dX12_alike_59 : decode cX12_alike 59 = .ok (.iload_n 2, 1) := by decide +kernel
theorem dX12_alike_60 : decode cX12_alike 60 = .ok (.iaload, 1) := by decide +kernel
theorem dX12_alike_61 : decode cX12_alike 61 = .ok (.invokevirtual 289, 3) := by decide +kernel
theorem dX12_alike_64 : decode cX12_alike 64 = .ok (.ifCond .eq 22, 3) := by decide +kernel
theorem dX12_alike_67 : decode cX12_alike 67 = .ok (.aload_n 0, 1) := by decide +kernel
theorem dX12_alike_68 : decode cX12_alike 68 = .ok (.aload_n 0, 1) := by decide +kernel
theorem dX12_alike_69 : decode cX12_alike 69 = .ok (.getfield 23, 3) := by decide +kernel
theorem dX12_alike_72 : decode cX12_alike 72 = .ok (.iload_n 1, 1) := by decide +kernel
theorem dX12_alike_73 : decode cX12_alike 73 = .ok (.iaload, 1) := by decide +kernel
theorem dX12_alike_74 : decode cX12_alike 74 = .ok (.aload_n 0, 1) := by decide +kernel
theorem dX12_alike_75 : decode cX12_alike 75 = .ok (.getfield 23, 3) := by decide +kernel
theorem dX12_alike_78 : decode cX12_alike 78 = .ok (.iload_n 2, 1) := by decide +kernel
theorem dX12_alike_79 : decode cX12_alike 79 = .ok (.iaload, 1) := by decide +kernel
theorem dX12_alike_80 : decode cX12_alike 80 = .ok (.invokevirtual 289, 3) := by decide +kernel
theorem dX12_alike_83 : decode cX12_alike 83 = .ok (.ifCond .ne 5, 3) := by decide +kernel
theorem dX12_alike_86 : decode cX12_alike 86 = .ok (.iconst 0, 1) := by decide +kernel
theorem dX12_alike_87 : decode cX12_alike 87 = .ok (.ireturn, 1) := by decide +kernel
theorem dX12_alike_88 : decode cX12_alike 88 = .ok (.aload_n 0, 1) := by decide +kernel
theorem dX12_alike_89 : decode cX12_alike 89 = .ok (.getfield 17, 3) := by decide +kernel
theorem dX12_alike_92 : decode cX12_alike 92 = .ok (.iload_n 1, 1) := by decide +kernel
theorem dX12_alike_93 : decode cX12_alike 93 = .ok (.iaload, 1) := by decide +kernel
theorem dX12_alike_94 : decode cX12_alike 94 = .ok (.bipush 8, 2) := by decide +kernel
theorem dX12_alike_96 : decode cX12_alike 96 = .ok (.if_icmp .ne 22, 3) := by decide +kernel
theorem dX12_alike_99 : decode cX12_alike 99 = .ok (.aload_n 0, 1) := by decide +kernel
theorem dX12_alike_100 : decode cX12_alike 100 = .ok (.aload_n 0, 1) := by decide +kernel
theorem dX12_alike_101 : decode cX12_alike 101 = .ok (.getfield 26, 3) := by decide +kernel
theorem dX12_alike_104 : decode cX12_alike 104 = .ok (.iload_n 1, 1) := by decide +kernel
theorem dX12_alike_105 : decode cX12_alike 105 = .ok (.iaload, 1) := by decide +kernel
theorem dX12_alike_106 : decode cX12_alike 106 = .ok (.aload_n 0, 1) := by decide +kernel
theorem dX12_alike_107 : decode cX12_alike 107 = .ok (.getfield 26, 3) := by decide +kernel
theorem dX12_alike_110 : decode cX12_alike 110 = .ok (.iload_n 2, 1) := by decide +kernel
theorem dX12_alike_111 : decode cX12_alike 111 = .ok (.iaload, 1) := by decide +kernel
theorem dX12_alike_112 : decode cX12_alike 112 = .ok (.invokevirtual 289, 3) := by decide +kernel
theorem dX12_alike_115 : decode cX12_alike 115 = .ok (.ifCond .eq 7, 3) := by decide +kernel
theorem dX12_alike_118 : decode cX12_alike 118 = .ok (.iconst 1, 1) := by decide +kernel
theorem dX12_alike_119 : decode cX12_alike 119 = .ok (.goto 4, 3) := by decide +kernel
theorem dX12_alike_122 : decode cX12_alike 122 = .ok (.iconst 0, 1) := by decide +kernel
theorem dX12_alike_123 : decode cX12_alike 123 = .ok (.ireturn, 1) := by decide +kernel
abbrev sc_12alikeT : Type := (iT → jT → Int32 → Int32 → Option (Int32))
def sc_12alike_ok (l : Launch) (K : a_KT) (g : a_GT) (D0 : Nat) (R : sc_12alikeT) : Prop := (∀ {IA : iT} (I : iT) (J : jT) (F : fT) (x1 : Int32) (x2 : Int32), FOK F → ∀ q : Int32, R I J x1 x2 = some q → C l K g D0 0 0 yX12_alike cX12_alike 3 (some .boolean) [.ref 186, .int x1, .int x2] (hg IA I J F) (fun r2 h2 => r2 = some (.int q) ∧ h2 = hg IA I J F))
def mX12_alike_118 (R : sc_12alikeT) (I : iT) (J : jT) (x1 : Int32) (x2 : Int32) : Option (Int32) := some 1
def bX12_alike (R : sc_12alikeT) (I : iT) (J : jT) (x1 : Int32) (x2 : Int32) : Option (Int32) := if x1 = x2 then some 1 else if x1 = ((-1)) then some 0 else if x2 = ((-1)) then some 0 else if inb x1 2800 then if inb x2 2800 then if (I 188 x1.toNatClampNeg) = (I 188 x2.toNatClampNeg) then if inb x1 2800 then if inb x2 2800 then if (lg_cmp (J 192 x1.toNatClampNeg) (J 192 x2.toNatClampNeg)) = 0 then if inb x1 2800 then if inb x2 2800 then (R I J (I 189 x1.toNatClampNeg) (I 189 x2.toNatClampNeg)).bind fun q1 => if q1 = 0 then some 0 else if inb x1 2800 then if inb x2 2800 then (R I J (I 190 x1.toNatClampNeg) (I 190 x2.toNatClampNeg)).bind fun q2 => if q2 = 0 then some 0 else if inb x1 2800 then if (I 188 x1.toNatClampNeg) = 8 then if inb x1 2800 then if inb x2 2800 then (R I J (I 191 x1.toNatClampNeg) (I 191 x2.toNatClampNeg)).bind fun q3 => if q3 = 0 then some 0 else mX12_alike_118 R I J x1 x2 else none else none else mX12_alike_118 R I J x1 x2 else none else none else none else none else none else some 0 else none else none else some 0 else none else none
def sc_12alike : Nat → sc_12alikeT
  | 0 => (fun _ _ _ _ => none)
  | n + 1 => (bX12_alike (sc_12alike n))
def mX12_alike (n : Nat) : iT → jT → Int32 → Int32 → Option (Int32) := (sc_12alike n)
set_option maxRecDepth 100000 in
set_option maxHeartbeats 4000000 in
theorem tX12_alike_118 {l : Launch} {K : a_KT} {g : a_GT} {IA : iT} {D0 : Nat} {R : sc_12alikeT} (hko : a_kok K) (hB : 0 ≤ D0 + 1) (hR : sc_12alike_ok l K g D0 R) {F : fT} (I : iT) (J : jT) (x1 : Int32) (x2 : Int32) (hF : FOK F) (q : Int32) (hm : mX12_alike_118 R I J x1 x2 = some q) : E l K g (D0 + 1) 0 0 yX12_alike cX12_alike 3 (some .boolean) 118 [.ref 186, .int x1, .int x2] [] (hg IA I J F) (fun r2 h2 => r2 = some (.int q) ∧ h2 = hg IA I J F) := by
  unfold mX12_alike_118 at hm
  refine e_iconst (v := 1) (by decide) dX12_alike_118 ?_
  refine e_goto 123 dX12_alike_119 (by decide) ?_
  refine e_zret dX12_alike_123 rfl rfl ?_
  have hm := some_in hm
  subst hm
  exact ⟨rfl, rfl⟩
set_option maxRecDepth 100000 in
set_option maxHeartbeats 4000000 in
theorem tbX12_alike {l : Launch} {K : a_KT} {g : a_GT} {IA : iT} {D0 : Nat} {R : sc_12alikeT} (hko : a_kok K) (hB : 0 ≤ D0 + 1) (hR : sc_12alike_ok l K g D0 R) (I : iT) (J : jT) (F : fT) (hF : FOK F) (x1 : Int32) (x2 : Int32) (q : Int32) (hm : bX12_alike R I J x1 x2 = some q) : C l K g (D0 + 1) 0 0 yX12_alike cX12_alike 3 (some .boolean) [.ref 186, .int x1, .int x2] (hg IA I J F) (fun r2 h2 => r2 = some (.int q) ∧ h2 = hg IA I J F) := by
  unfold bX12_alike at hm
  refine c_of [.ref 186, .int x1, .int x2] (by decide) (Nat.le_of_ble_eq_true rfl) rfl ?_
  refine e_iload_n (i := 1) rfl dX12_alike_0 ?_
  refine e_iload_n (i := 2) rfl dX12_alike_1 ?_
  refine e_icmp_ne 7 dX12_alike_2 (by decide) (fun c_2 => ?_) (fun c_2 => ?_)
  · have hm := it_n c_2 hm
    refine e_iload_n (i := 1) rfl dX12_alike_7 ?_
    refine e_iconst (v := (-1)) (by decide) dX12_alike_8 ?_
    refine e_icmp_eq 86 dX12_alike_9 (by decide) (fun c_9 => ?_) (fun c_9 => ?_)
    · have hm := it_p c_9 hm
      refine e_iconst (v := 0) (by decide) dX12_alike_86 ?_
      refine e_zret dX12_alike_87 rfl rfl ?_
      have hm := some_in hm
      subst hm
      exact ⟨rfl, rfl⟩
    · have hm := it_n c_9 hm
      refine e_iload_n (i := 2) rfl dX12_alike_12 ?_
      refine e_iconst (v := (-1)) (by decide) dX12_alike_13 ?_
      refine e_icmp_eq 86 dX12_alike_14 (by decide) (fun c_14 => ?_) (fun c_14 => ?_)
      · have hm := it_p c_14 hm
        refine e_iconst (v := 0) (by decide) dX12_alike_86 ?_
        refine e_zret dX12_alike_87 rfl rfl ?_
        have hm := some_in hm
        subst hm
        exact ⟨rfl, rfl⟩
      · have hm := it_n c_14 hm
        refine e_aload_n (i := 0) rfl dX12_alike_17 ?_
        refine q_getF 12 11 188 dX12_alike_18 fl_RX12_17 rfl iz_186 (fr_186_11 hF) ?_
        refine e_iload_n (i := 1) rfl dX12_alike_21 ?_
        obtain ⟨c_22, hm⟩ := gd_s hm
        refine l_iald dX12_alike_22 iz_188 (inb_in ln_188 c_22) (by decide) ?_
        refine e_aload_n (i := 0) rfl dX12_alike_23 ?_
        refine q_getF 12 11 188 dX12_alike_24 fl_RX12_17 rfl iz_186 (fr_186_11 hF) ?_
        refine e_iload_n (i := 2) rfl dX12_alike_27 ?_
        obtain ⟨c_28, hm⟩ := gd_s hm
        refine l_iald dX12_alike_28 iz_188 (inb_in ln_188 c_28) (by decide) ?_
        refine e_icmp_ne 86 dX12_alike_29 (by decide) (fun c_29 => ?_) (fun c_29 => ?_)
        · have hm := it_n c_29 hm
          refine e_iconst (v := 0) (by decide) dX12_alike_86 ?_
          refine e_zret dX12_alike_87 rfl rfl ?_
          have hm := some_in hm
          subst hm
          exact ⟨rfl, rfl⟩
        · have hm := it_p c_29 hm
          refine e_aload_n (i := 0) rfl dX12_alike_32 ?_
          refine q_getF 12 15 192 dX12_alike_33 fl_RX12_29 rfl iz_186 (fr_186_15 hF) ?_
          refine e_iload_n (i := 1) rfl dX12_alike_36 ?_
          obtain ⟨c_37, hm⟩ := gd_s hm
          refine q_lald dX12_alike_37 iz_192 (inb_in ln_192 c_37) ?_
          refine e_aload_n (i := 0) rfl dX12_alike_38 ?_
          refine q_getF 12 15 192 dX12_alike_39 fl_RX12_29 rfl iz_186 (fr_186_15 hF) ?_
          refine e_iload_n (i := 2) rfl dX12_alike_42 ?_
          obtain ⟨c_43, hm⟩ := gd_s hm
          refine q_lald dX12_alike_43 iz_192 (inb_in ln_192 c_43) ?_
          refine e_lcmp dX12_alike_44 ?_
          refine e_if_ne 86 dX12_alike_45 (by decide) (fun c_45 => ?_) (fun c_45 => ?_)
          · have hm := it_n c_45 hm
            refine e_iconst (v := 0) (by decide) dX12_alike_86 ?_
            refine e_zret dX12_alike_87 rfl rfl ?_
            have hm := some_in hm
            subst hm
            exact ⟨rfl, rfl⟩
          · have hm := it_p c_45 hm
            refine e_aload_n (i := 0) rfl dX12_alike_48 ?_
            refine e_aload_n (i := 0) rfl dX12_alike_49 ?_
            refine q_getF 12 12 189 dX12_alike_50 fl_RX12_20 rfl iz_186 (fr_186_12 hF) ?_
            refine e_iload_n (i := 1) rfl dX12_alike_53 ?_
            obtain ⟨c_54, hm⟩ := gd_s hm
            refine l_iald dX12_alike_54 iz_189 (inb_in ln_189 c_54) (by decide) ?_
            refine e_aload_n (i := 0) rfl dX12_alike_55 ?_
            refine q_getF 12 12 189 dX12_alike_56 fl_RX12_20 rfl iz_186 (fr_186_12 hF) ?_
            refine e_iload_n (i := 2) rfl dX12_alike_59 ?_
            obtain ⟨c_60, hm⟩ := gd_s hm
            refine l_iald dX12_alike_60 iz_189 (inb_in ln_189 c_60) (by decide) ?_
            obtain ⟨q1, eq1, hm⟩ := ob_some hm
            refine e_cV2 hko dX12_alike_61 ml_RX12_289 iz_186 (by decide) rfl (by omega) (Nat.le_of_ble_eq_true rfl) (hR I J F (I 189 x1.toNatClampNeg) (I 189 x2.toNatClampNeg) hF q1 eq1) ?_
            rintro _ _ ⟨rfl, rfl⟩
            refine e_if_eq 86 dX12_alike_64 (by decide) (fun c_64 => ?_) (fun c_64 => ?_)
            · have hm := it_p c_64 hm
              refine e_iconst (v := 0) (by decide) dX12_alike_86 ?_
              refine e_zret dX12_alike_87 rfl rfl ?_
              have hm := some_in hm
              subst hm
              exact ⟨rfl, rfl⟩
            · have hm := it_n c_64 hm
              refine e_aload_n (i := 0) rfl dX12_alike_67 ?_
              refine e_aload_n (i := 0) rfl dX12_alike_68 ?_
              refine q_getF 12 13 190 dX12_alike_69 fl_RX12_23 rfl iz_186 (fr_186_13 hF) ?_
              refine e_iload_n (i := 1) rfl dX12_alike_72 ?_
              obtain ⟨c_73, hm⟩ := gd_s hm
              refine l_iald dX12_alike_73 iz_190 (inb_in ln_190 c_73) (by decide) ?_
              refine e_aload_n (i := 0) rfl dX12_alike_74 ?_
              refine q_getF 12 13 190 dX12_alike_75 fl_RX12_23 rfl iz_186 (fr_186_13 hF) ?_
              refine e_iload_n (i := 2) rfl dX12_alike_78 ?_
              obtain ⟨c_79, hm⟩ := gd_s hm
              refine l_iald dX12_alike_79 iz_190 (inb_in ln_190 c_79) (by decide) ?_
              obtain ⟨q2, eq2, hm⟩ := ob_some hm
              refine e_cV2 hko dX12_alike_80 ml_RX12_289 iz_186 (by decide) rfl (by omega) (Nat.le_of_ble_eq_true rfl) (hR I J F (I 190 x1.toNatClampNeg) (I 190 x2.toNatClampNeg) hF q2 eq2) ?_
              rintro _ _ ⟨rfl, rfl⟩
              refine e_if_ne 88 dX12_alike_83 (by decide) (fun c_83 => ?_) (fun c_83 => ?_)
              · have hm := it_n c_83 hm
                refine e_aload_n (i := 0) rfl dX12_alike_88 ?_
                refine q_getF 12 11 188 dX12_alike_89 fl_RX12_17 rfl iz_186 (fr_186_11 hF) ?_
                refine e_iload_n (i := 1) rfl dX12_alike_92 ?_
                obtain ⟨c_93, hm⟩ := gd_s hm
                refine l_iald dX12_alike_93 iz_188 (inb_in ln_188 c_93) (by decide) ?_
                refine e_bipush (v := 8) (by decide) dX12_alike_94 ?_
                refine e_icmp_ne 118 dX12_alike_96 (by decide) (fun c_96 => ?_) (fun c_96 => ?_)
                · have hm := it_n c_96 hm
                  refine e_weak [.ref 186, .int x1, .int x2] ⟨rfl, ⟨rfl, ⟨rfl, trivial⟩⟩⟩ ?_
                  exact tX12_alike_118 hko hB hR I J x1 x2 hF _ hm
                · have hm := it_p c_96 hm
                  refine e_aload_n (i := 0) rfl dX12_alike_99 ?_
                  refine e_aload_n (i := 0) rfl dX12_alike_100 ?_
                  refine q_getF 12 14 191 dX12_alike_101 fl_RX12_26 rfl iz_186 (fr_186_14 hF) ?_
                  refine e_iload_n (i := 1) rfl dX12_alike_104 ?_
                  obtain ⟨c_105, hm⟩ := gd_s hm
                  refine l_iald dX12_alike_105 iz_191 (inb_in ln_191 c_105) (by decide) ?_
                  refine e_aload_n (i := 0) rfl dX12_alike_106 ?_
                  refine q_getF 12 14 191 dX12_alike_107 fl_RX12_26 rfl iz_186 (fr_186_14 hF) ?_
                  refine e_iload_n (i := 2) rfl dX12_alike_110 ?_
                  obtain ⟨c_111, hm⟩ := gd_s hm
                  refine l_iald dX12_alike_111 iz_191 (inb_in ln_191 c_111) (by decide) ?_
                  obtain ⟨q3, eq3, hm⟩ := ob_some hm
                  refine e_cV2 hko dX12_alike_112 ml_RX12_289 iz_186 (by decide) rfl (by omega) (Nat.le_of_ble_eq_true rfl) (hR I J F (I 191 x1.toNatClampNeg) (I 191 x2.toNatClampNeg) hF q3 eq3) ?_
                  rintro _ _ ⟨rfl, rfl⟩
                  refine e_if_eq 122 dX12_alike_115 (by decide) (fun c_115 => ?_) (fun c_115 => ?_)
                  · have hm := it_p c_115 hm
                    refine e_iconst (v := 0) (by decide) dX12_alike_122 ?_
                    refine e_zret dX12_alike_123 rfl rfl ?_
                    have hm := some_in hm
                    subst hm
                    exact ⟨rfl, rfl⟩
                  · have hm := it_n c_115 hm
                    refine e_weak [.ref 186, .int x1, .int x2] ⟨rfl, ⟨rfl, ⟨rfl, trivial⟩⟩⟩ ?_
                    exact tX12_alike_118 hko hB hR I J x1 x2 hF _ hm
              · have hm := it_p c_83 hm
                refine e_iconst (v := 0) (by decide) dX12_alike_86 ?_
                refine e_zret dX12_alike_87 rfl rfl ?_
                have hm := some_in hm
                subst hm
                exact ⟨rfl, rfl⟩
  · have hm := it_p c_2 hm
    refine e_iconst (v := 1) (by decide) dX12_alike_5 ?_
    refine e_zret dX12_alike_6 rfl rfl ?_
    have hm := some_in hm
    subst hm
    exact ⟨rfl, rfl⟩
set_option maxRecDepth 100000 in
set_option maxHeartbeats 4000000 in
theorem sc_12alike_all {l : Launch} {K : a_KT} {g : a_GT} (hko : a_kok K) : ∀ n : Nat, sc_12alike_ok l K g (0 + n) (sc_12alike n) := by
  intro n
  induction n with
  | zero => exact (by unfold sc_12alike_ok; intros; rename_i h; cases (show (none : Option _) = some _ from h))
  | succ n ih =>
    exact fun I J F x1 x2 hF q hm => tbX12_alike hko (by omega) ih I J F hF x1 x2 q hm
theorem tX12_alike {l : Launch} {K : a_KT} {g : a_GT} {IA : iT} (hko : a_kok K) (I : iT) (J : jT) (F : fT) (hF : FOK F) (x1 : Int32) (x2 : Int32) (q : Int32) (hm : mX12_alike SF I J x1 x2 = some q) : C l K g 450 0 0 yX12_alike cX12_alike 3 (some .boolean) [.ref 186, .int x1, .int x2] (hg IA I J F) (fun r2 h2 => r2 = some (.int q) ∧ h2 = hg IA I J F) := (sc_12alike_all hko SF) I J F x1 x2 hF q hm
theorem dX12_findDef_0 : decode cX12_findDef 0 = .ok (.iconst 0, 1) := by decide +kernel
theorem dX12_findDef_1 : decode cX12_findDef 1 = .ok (.istore_n 3, 1) := by decide +kernel
theorem dX12_findDef_2 : decode cX12_findDef 2 = .ok (.iload_n 3, 1) := by decide +kernel
theorem dX12_findDef_3 : decode cX12_findDef 3 = .ok (.aload_n 0, 1) := by decide +kernel
theorem dX12_findDef_4 : decode cX12_findDef 4 = .ok (.getfield 69, 3) := by decide +kernel
theorem dX12_findDef_7 : decode cX12_findDef 7 = .ok (.aload_n 0, 1) := by decide +kernel
theorem dX12_findDef_8 : decode cX12_findDef 8 = .ok (.getfield 251, 3) := by decide +kernel
theorem dX12_findDef_11 : decode cX12_findDef 11 = .ok (.iaload, 1) := by decide +kernel
theorem dX12_findDef_12 : decode cX12_findDef 12 = .ok (.if_icmp .ge 30, 3) := by decide +kernel
theorem dX12_findDef_15 : decode cX12_findDef 15 = .ok (.aload_n 0, 1) := by decide +kernel
theorem dX12_findDef_16 : decode cX12_findDef 16 = .ok (.getfield 36, 3) := by decide +kernel
theorem dX12_findDef_19 : decode cX12_findDef 19 = .ok (.bipush 12, 2) := by decide +kernel
theorem dX12_findDef_21 : decode cX12_findDef 21 = .ok (.aload_n 0, 1) := by decide +kernel
theorem dX12_findDef_22 : decode cX12_findDef 22 = .ok (.getfield 251, 3) := by decide +kernel
theorem dX12_findDef_25 : decode cX12_findDef 25 = .ok (.imul, 1) := by decide +kernel
theorem dX12_findDef_26 : decode cX12_findDef 26 = .ok (.iload_n 3, 1) := by decide +kernel
theorem dX12_findDef_27 : decode cX12_findDef 27 = .ok (.iadd, 1) := by decide +kernel
theorem dX12_findDef_28 : decode cX12_findDef 28 = .ok (.laload, 1) := by decide +kernel
theorem dX12_findDef_29 : decode cX12_findDef 29 = .ok (.lload_n 1, 1) := by decide +kernel
theorem dX12_findDef_30 : decode cX12_findDef 30 = .ok (.lcmp, 1) := by decide +kernel
theorem dX12_findDef_31 : decode cX12_findDef 31 = .ok (.ifCond .ne 5, 3) := by decide +kernel
theorem dX12_findDef_34 : decode cX12_findDef 34 = .ok (.iload_n 3, 1) := by decide +kernel
theorem dX12_findDef_35 : decode cX12_findDef 35 = .ok (.ireturn, 1) := by decide +kernel
theorem dX12_findDef_36 : decode cX12_findDef 36 = .ok (.iinc 3 1, 3) := by decide +kernel
theorem dX12_findDef_39 : decode cX12_findDef 39 = .ok (.goto (-37), 3) := by decide +kernel
theorem dX12_findDef_42 : decode cX12_findDef 42 = .ok (.iconst (-1), 1) := by decide +kernel
theorem dX12_findDef_43 : decode cX12_findDef 43 = .ok (.ireturn, 1) := by decide +kernel
def mX12_findDef_2 : Nat → iT → jT → Int64 → Int32 → Option (Int32)
  | 0, _, _, _, _ => none
  | n + 1, I, J, w1, x3 => if inb (I 186 32) 2 then if (I 205 (I 186 32).toNatClampNeg) ≤ x3 then some ((-1)) else if inb ((12 * (I 186 32)) + x3) 24 then if (lg_cmp (J 194 ((12 * (I 186 32)) + x3).toNatClampNeg) w1) = 0 then some x3 else mX12_findDef_2 n I J w1 (x3 + 1) else none else none
def mX12_findDef (I : iT) (J : jT) (w1 : Int64) : Option (Int32) := mX12_findDef_2 LF I J w1 0
set_option maxRecDepth 100000 in
set_option maxHeartbeats 4000000 in
theorem tX12_findDef_2 {l : Launch} {K : a_KT} {g : a_GT} {IA : iT} (hko : a_kok K) {F : fT} : ∀ (n : Nat) (I : iT) (J : jT) (w1 : Int64) (x3 : Int32) (hF : FOK F) (q : Int32), mX12_findDef_2 n I J w1 x3 = some q → E l K g 0 0 0 yX12_findDef cX12_findDef 4 (some .int) 2 [.ref 186, .long w1, .null, .int x3] [] (hg IA I J F) (fun r2 h2 => r2 = some (.int q) ∧ h2 = hg IA I J F) := by
  intro n
  induction n with
  | zero => intro I J w1 x3 hF q hm; cases hm
  | succ n ih =>
    intro I J w1 x3 hF q hm
    rw [mX12_findDef_2] at hm
    refine e_iload_n (i := 3) rfl dX12_findDef_2 ?_
    refine e_aload_n (i := 0) rfl dX12_findDef_3 ?_
    refine q_getF 12 30 205 dX12_findDef_4 fl_RX12_69 rfl iz_186 (fr_186_30 hF) ?_
    refine e_aload_n (i := 0) rfl dX12_findDef_7 ?_
    refine l_getI 12 32 dX12_findDef_8 fl_RX12_251 rfl iz_186 (by decide) ?_
    obtain ⟨c_11, hm⟩ := gd_s hm
    refine l_iald dX12_findDef_11 iz_205 (inb_in ln_205 c_11) (by decide) ?_
    refine e_icmp_ge 42 dX12_findDef_12 (by decide) (fun c_12 => ?_) (fun c_12 => ?_)
    · have hm := it_p c_12 hm
      refine e_iconst (v := (-1)) (by decide) dX12_findDef_42 ?_
      refine e_iret dX12_findDef_43 rfl ?_
      have hm := some_in hm
      subst hm
      exact ⟨rfl, rfl⟩
    · have hm := it_n c_12 hm
      refine e_aload_n (i := 0) rfl dX12_findDef_15 ?_
      refine q_getF 12 19 194 dX12_findDef_16 fl_RX12_36 rfl iz_186 (fr_186_19 hF) ?_
      refine e_bipush (v := 12) (by decide) dX12_findDef_19 ?_
      refine e_aload_n (i := 0) rfl dX12_findDef_21 ?_
      refine l_getI 12 32 dX12_findDef_22 fl_RX12_251 rfl iz_186 (by decide) ?_
      refine e_imul dX12_findDef_25 ?_
      refine e_iload_n (i := 3) rfl dX12_findDef_26 ?_
      refine e_iadd dX12_findDef_27 ?_
      obtain ⟨c_28, hm⟩ := gd_s hm
      refine q_lald dX12_findDef_28 iz_194 (inb_in ln_194 c_28) ?_
      refine e_lload_n (i := 1) rfl dX12_findDef_29 ?_
      refine e_lcmp dX12_findDef_30 ?_
      refine e_if_ne 36 dX12_findDef_31 (by decide) (fun c_31 => ?_) (fun c_31 => ?_)
      · have hm := it_n c_31 hm
        refine q_iinc (i := 3) (x3 + 1) rfl ic_1 rfl dX12_findDef_36 ?_
        refine e_goto 2 dX12_findDef_39 (by decide) ?_
        refine e_weak [.ref 186, .long w1, .null, .int (x3 + 1)] ⟨rfl, ⟨rfl, ⟨trivial, ⟨rfl, trivial⟩⟩⟩⟩ ?_
        exact ih I J w1 (x3 + 1) hF _ hm
      · have hm := it_p c_31 hm
        refine e_iload_n (i := 3) rfl dX12_findDef_34 ?_
        refine e_iret dX12_findDef_35 rfl ?_
        have hm := some_in hm
        subst hm
        exact ⟨rfl, rfl⟩
set_option maxRecDepth 100000 in
set_option maxHeartbeats 4000000 in
theorem tX12_findDef {l : Launch} {K : a_KT} {g : a_GT} {IA : iT} (hko : a_kok K) (I : iT) (J : jT) (F : fT) (hF : FOK F) (w1 : Int64) (q : Int32) (hm : mX12_findDef I J w1 = some q) : C l K g 0 0 0 yX12_findDef cX12_findDef 4 (some .int) [.ref 186, .long w1] (hg IA I J F) (fun r2 h2 => r2 = some (.int q) ∧ h2 = hg IA I J F) := by
  unfold mX12_findDef at hm
  refine c_of [.ref 186, .long w1, .null, .null] (by decide) (Nat.le_of_ble_eq_true rfl) rfl ?_
  refine e_iconst (v := 0) (by decide) dX12_findDef_0 ?_
  refine q_istore_n (i := 3) (by decide) rfl dX12_findDef_1 ?_
  refine e_weak [.ref 186, .long w1, .null, .int 0] ⟨rfl, ⟨rfl, ⟨trivial, ⟨rfl, trivial⟩⟩⟩⟩ ?_
  exact tX12_findDef_2 hko LF I J w1 0 hF _ hm
theorem dX12_call_0 : decode cX12_call 0 = .ok (.aload_n 0, 1) := by decide +kernel
theorem dX12_call_1 : decode cX12_call 1 = .ok (.getfield 210, 3) := by decide +kernel
theorem dX12_call_4 : decode cX12_call 4 = .ok (.iconst 2, 1) := by decide +kernel
theorem dX12_call_5 : decode cX12_call 5 = .ok (.if_icmp .eq 13, 3) := by decide +kernel
theorem dX12_call_8 : decode cX12_call 8 = .ok (.aload_n 0, 1) := by decide +kernel
theorem dX12_call_9 : decode cX12_call 9 = .ok (.iconst 1, 1) := by decide +kernel
theorem dX12_call_10 : decode cX12_call 10 = .ok (.aload_n 0, 1) := by decide +kernel
theorem dX12_call_11 : decode cX12_call 11 = .ok (.getfield 207, 3) := by decide +kernel
theorem dX12_call_14 : decode cX12_call 14 = .ok (.invokevirtual 232, 3) := by decide +kernel
theorem dX12_call_17 : decode cX12_call 17 = .ok (.ireturn, 1) := by decide +kernel
theorem dX12_call_18 : decode cX12_call 18 = .ok (.aload_n 0, 1) := by decide +kernel
theorem dX12_call_19 : decode cX12_call 19 = .ok (.aload_n 0, 1) := by decide +kernel
theorem dX12_call_20 : decode cX12_call 20 = .ok (.getfield 162, 3) := by decide +kernel
theorem dX12_call_23 : decode cX12_call 23 = .ok (.invokevirtual 365, 3) := by decide +kernel
theorem dX12_call_26 : decode cX12_call 26 = .ok (.istore_n 1, 1) := by decide +kernel
theorem dX12_call_27 : decode cX12_call 27 = .ok (.iload_n 1, 1) := by decide +kernel
theorem dX12_call_28 : decode cX12_call 28 = .ok (.iconst (-1), 1) := by decide +kernel
theorem dX12_call_29 : decode cX12_call 29 = .ok (.if_icmp .ne 13, 3) := by decide +kernel
theorem dX12_call_32 : decode cX12_call 32 = .ok (.aload_n 0, 1) := by decide +kernel
theorem dX12_call_33 : decode cX12_call 33 = .ok (.iconst 2, 1) := by decide +kernel
theorem dX12_call_34 : decode cX12_call 34 = .ok (.aload_n 0, 1) := by decide +kernel
theorem dX12_call_35 : decode cX12_call 35 = .ok (.getfield 207, 3) := by decide +kernel
theorem dX12_call_38 : decode cX12_call 38 = .ok (.invokevirtual 232, 3) := by decide +kernel
theorem dX12_call_41 : decode cX12_call 41 = .ok (.ireturn, 1) := by decide +kernel
theorem dX12_call_42 : decode cX12_call 42 = .ok (.aload_n 0, 1) := by decide +kernel
theorem dX12_call_43 : decode cX12_call 43 = .ok (.iload_n 1, 1) := by decide +kernel
theorem dX12_call_44 : decode cX12_call 44 = .ok (.putfield 368, 3) := by decide +kernel
theorem dX12_call_47 : decode cX12_call 47 = .ok (.aload_n 0, 1) := by decide +kernel
theorem dX12_call_48 : decode cX12_call 48 = .ok (.invokevirtual 236, 3) := by decide +kernel
theorem dX12_call_51 : decode cX12_call 51 = .ok (.aload_n 0, 1) := by decide +kernel
theorem dX12_call_52 : decode cX12_call 52 = .ok (.bipush 40, 2) := by decide +kernel
theorem dX12_call_54 : decode cX12_call 54 = .ok (.invokevirtual 278, 3) := by decide +kernel
theorem dX12_call_57 : decode cX12_call 57 = .ok (.ifCond .ne 5, 3) := by decide +kernel
theorem dX12_call_60 : decode cX12_call 60 = .ok (.iconst 0, 1) := by decide +kernel
theorem dX12_call_61 : decode cX12_call 61 = .ok (.ireturn, 1) := by decide +kernel
theorem dX12_call_62 : decode cX12_call 62 = .ok (.aload_n 0, 1) := by decide +kernel
theorem dX12_call_63 : decode cX12_call 63 = .ok (.getfield 48, 3) := by decide +kernel
theorem dX12_call_66 : decode cX12_call 66 = .ok (.bipush 12, 2) := by decide +kernel
theorem dX12_call_68 : decode cX12_call 68 = .ok (.aload_n 0, 1) := by decide +kernel
theorem dX12_call_69 : decode cX12_call 69 = .ok (.getfield 251, 3) := by decide +kernel
theorem dX12_call_72 : decode cX12_call 72 = .ok (.imul, 1) := by decide +kernel
theorem dX12_call_73 : decode cX12_call 73 = .ok (.iload_n 1, 1) := by decide +kernel
theorem dX12_call_74 : decode cX12_call 74 = .ok (.iadd, 1) := by decide +kernel
theorem dX12_call_75 : decode cX12_call 75 = .ok (.iaload, 1) := by decide +kernel
theorem dX12_call_76 : decode cX12_call 76 = .ok (.istore_n 2, 1) := by decide +kernel
theorem dX12_call_77 : decode cX12_call 77 = .ok (.iconst (-1), 1) := by decide +kernel
theorem dX12_call_78 : decode cX12_call 78 = .ok (.istore_n 3, 1) := by decide +kernel
theorem dX12_call_79 : decode cX12_call 79 = .ok (.aload_n 0, 1) := by decide +kernel
theorem dX12_call_80 : decode cX12_call 80 = .ok (.iconst (-1), 1) := by decide +kernel
theorem dX12_call_81 : decode cX12_call 81 = .ok (.putfield 371, 3) := by decide +kernel
theorem dX12_call_84 : decode cX12_call 84 = .ok (.iconst 0, 1) := by decide +kernel
theorem dX12_call_85 : decode cX12_call 85 = .ok (.istore 4, 2) := by decide +kernel
theorem dX12_call_87 : decode cX12_call 87 = .ok (.iload 4, 2) := by decide +kernel
theorem dX12_call_89 : decode cX12_call 89 = .ok (.iload_n 2, 1) := by decide +kernel
theorem dX12_call_90 : decode cX12_call 90 = .ok (.if_icmp .ge 273, 3) := by decide +kernel
theorem dX12_call_93 : decode cX12_call 93 = .ok (.iload 4, 2) := by decide +kernel
theorem dX12_call_95 : decode cX12_call 95 = .ok (.ifCond .le 34, 3) := by decide +kernel
theorem dX12_call_98 : decode cX12_call 98 = .ok (.aload_n 0, 1) := by decide +kernel
theorem dX12_call_99 : decode cX12_call 99 = .ok (.bipush 41, 2) := by decide +kernel
theorem dX12_call_101 : decode cX12_call 101 = .ok (.invokevirtual 229, 3) := by decide +kernel
theorem dX12_call_104 : decode cX12_call 104 = .ok (.ifCond .eq 14, 3) := by decide +kernel
theorem dX12_call_107 : decode cX12_call 107 = .ok (.aload_n 0, 1) := by decide +kernel
theorem dX12_call_108 : decode cX12_call 108 = .ok (.bipush 6, 2) := by decide +kernel
theorem dX12_call_110 : decode cX12_call 110 = .ok (.aload_n 0, 1) := by decide +kernel
theorem dX12_call_111 : decode cX12_call 111 = .ok (.getfield 207, 3) := by decide +kernel
theorem dX12_call_114 : decode cX12_call 114 = .ok (.invokevirtual 232, 3) := by decide +kernel
theorem dX12_call_117 : decode cX12_call 117 = .ok (.ireturn, 1) := by decide +kernel
theorem dX12_call_118 : decode cX12_call 118 = .ok (.aload_n 0, 1) := by decide +kernel
theorem dX12_call_119 : decode cX12_call 119 = .ok (.bipush 44, 2) := by decide +kernel
theorem dX12_call_121 : decode cX12_call 121 = .ok (.invokevirtual 278, 3) := by decide +kernel
theorem dX12_call_124 : decode cX12_call 124 = .ok (.ifCond .ne 25, 3) := by decide +kernel
theorem dX12_call_127 : decode cX12_call 127 = .ok (.iconst 0, 1) := by decide +kernel
theorem dX12_call_128 : decode cX12_call 128 = .ok (.ireturn, 1) := by decide +kernel
theorem dX12_call_129 : decode cX12_call 129 = .ok (.aload_n 0, 1) := by decide +kernel
theorem dX12_call_130 : decode cX12_call 130 = .ok (.bipush 41, 2) := by decide +kernel
theorem dX12_call_132 : decode cX12_call 132 = .ok (.invokevirtual 229, 3) := by decide +kernel
theorem dX12_call_135 : decode cX12_call 135 = .ok (.ifCond .eq 14, 3) := by decide +kernel
theorem dX12_call_138 : decode cX12_call 138 = .ok (.aload_n 0, 1) := by decide +kernel
theorem dX12_call_139 : decode cX12_call 139 = .ok (.bipush 6, 2) := by decide +kernel
theorem dX12_call_141 : decode cX12_call 141 = .ok (.aload_n 0, 1) := by decide +kernel
theorem dX12_call_142 : decode cX12_call 142 = .ok (.getfield 207, 3) := by decide +kernel
theorem dX12_call_145 : decode cX12_call 145 = .ok (.invokevirtual 232, 3) := by decide +kernel
theorem dX12_call_148 : decode cX12_call 148 = .ok (.ireturn, 1) := by decide +kernel
theorem dX12_call_149 : decode cX12_call 149 = .ok (.aload_n 0, 1) := by decide +kernel
theorem dX12_call_150 : decode cX12_call 150 = .ok (.getfield 51, 3) := by decide +kernel
theorem dX12_call_153 : decode cX12_call 153 = .ok (.iconst 4, 1) := by decide +kernel
theorem dX12_call_154 : decode cX12_call 154 = .ok (.bipush 12, 2) := by decide +kernel
theorem dX12_call_156 : decode cX12_call 156 = .ok (.aload_n 0, 1) := by decide +kernel
theorem dX12_call_157 : decode cX12_call 157 = .ok (.getfield 251, 3) := by decide +kernel
theorem dX12_call_160 : decode cX12_call 160 = .ok (.imul, 1) := by decide +kernel
theorem dX12_call_161 : decode cX12_call 161 = .ok (.iload_n 1, 1) := by decide +kernel
theorem dX12_call_162 : decode cX12_call 162 = .ok (.iadd, 1) := by decide +kernel
theorem dX12_call_163 : decode cX12_call 163 = .ok (.imul, 1) := by decide +kernel
theorem dX12_call_164 : decode cX12_call 164 = .ok (.iload 4, 2) := by decide +kernel
theorem dX12_call_166 : decode cX12_call 166 = .ok (.iadd, 1) := by decide +kernel
theorem dX12_call_167 : decode cX12_call 167 = .ok (.iaload, 1) := by decide +kernel
theorem dX12_call_168 : decode cX12_call 168 = .ok (.istore 5, 2) := by decide +kernel
theorem dX12_call_170 : decode cX12_call 170 = .ok (.iload 5, 2) := by decide +kernel
theorem dX12_call_172 : decode cX12_call 172 = .ok (.iconst (-1), 1) := by decide +kernel
theorem dX12_call_173 : decode cX12_call 173 = .ok (.if_icmp .eq 121, 3) := by decide +kernel
theorem dX12_call_176 : decode cX12_call 176 = .ok (.aload_n 0, 1) := by decide +kernel
theorem dX12_call_177 : decode cX12_call 177 = .ok (.getfield 210, 3) := by decide +kernel
theorem dX12_call_180 : decode cX12_call 180 = .ok (.iconst 2, 1) := by decide +kernel
theorem dX12_call_181 : decode cX12_call 181 = .ok (.if_icmp .eq 13, 3) := by decide +kernel
theorem dX12_call_184 : decode cX12_call 184 = .ok (.aload_n 0, 1) := by decide +kernel
theorem dX12_call_185 : decode cX12_call 185 = .ok (.iconst 1, 1) := by decide +kernel
theorem dX12_call_186 : decode cX12_call 186 = .ok (.aload_n 0, 1) := by decide +kernel
theorem dX12_call_187 : decode cX12_call 187 = .ok (.getfield 207, 3) := by decide +kernel
theorem dX12_call_190 : decode cX12_call 190 = .ok (.invokevirtual 232, 3) := by decide +kernel
theorem dX12_call_193 : decode cX12_call 193 = .ok (.ireturn, 1) := by decide +kernel
theorem dX12_call_194 : decode cX12_call 194 = .ok (.aload_n 0, 1) := by decide +kernel
theorem dX12_call_195 : decode cX12_call 195 = .ok (.aload_n 0, 1) := by decide +kernel
theorem dX12_call_196 : decode cX12_call 196 = .ok (.getfield 162, 3) := by decide +kernel
theorem dX12_call_199 : decode cX12_call 199 = .ok (.invokevirtual 301, 3) := by decide +kernel
theorem dX12_call_202 : decode cX12_call 202 = .ok (.istore 7, 2) := by decide +kernel
theorem dX12_call_204 : decode cX12_call 204 = .ok (.iload 7, 2) := by decide +kernel
theorem dX12_call_206 : decode cX12_call 206 = .ok (.iconst (-1), 1) := by decide +kernel
theorem dX12_call_207 : decode cX12_call 207 = .ok (.if_icmp .eq 13, 3) := by decide +kernel
theorem dX12_call_210 : decode cX12_call 210 = .ok (.aload_n 0, 1) := by decide +kernel
theorem dX12_call_211 : decode cX12_call 211 = .ok (.getfield 78, 3) := by decide +kernel
theorem dX12_call_214 : decode cX12_call 214 = .ok (.iload 7, 2) := by decide +kernel
theorem dX12_call_216 : decode cX12_call 216 = .ok (.iaload, 1) := by decide +kernel
theorem dX12_call_217 : decode cX12_call 217 = .ok (.ifCond .ne 13, 3) := by decide +kernel
theorem dX12_call_220 : decode cX12_call 220 = .ok (.aload_n 0, 1) := by decide +kernel
theorem dX12_call_221 : decode cX12_call 221 = .ok (.iconst 2, 1) := by decide +kernel
theorem dX12_call_222 : decode cX12_call 222 = .ok (.aload_n 0, 1) := by decide +kernel
theorem dX12_call_223 : decode cX12_call 223 = .ok (.getfield 207, 3) := by decide +kernel
theorem dX12_call_226 : decode cX12_call 226 = .ok (.invokevirtual 232, 3) := by decide +kernel
theorem dX12_call_229 : decode cX12_call 229 = .ok (.ireturn, 1) := by decide +kernel
theorem dX12_call_230 : decode cX12_call 230 = .ok (.aload_n 0, 1) := by decide +kernel
theorem dX12_call_231 : decode cX12_call 231 = .ok (.getfield 78, 3) := by decide +kernel
theorem dX12_call_234 : decode cX12_call 234 = .ok (.iload 7, 2) := by decide +kernel
theorem dX12_call_236 : decode cX12_call 236 = .ok (.iaload, 1) := by decide +kernel
theorem dX12_call_237 : decode cX12_call 237 = .ok (.iconst 1, 1) := by decide +kernel
theorem dX12_call_238 : decode cX12_call 238 = .ok (.if_icmp .eq 19, 3) := by decide +kernel
theorem dX12_call_241 : decode cX12_call 241 = .ok (.aload_n 0, 1) := by decide +kernel
theorem dX12_call_242 : decode cX12_call 242 = .ok (.aload_n 0, 1) := by decide +kernel
theorem dX12_call_243 : decode cX12_call 243 = .ok (.getfield 81, 3) := by decide +kernel
theorem dX12_call_246 : decode cX12_call 246 = .ok (.iload 7, 2) := by decide +kernel
theorem dX12_call_248 : decode cX12_call 248 = .ok (.iaload, 1) := by decide +kernel
theorem dX12_call_249 : decode cX12_call 249 = .ok (.iload 5, 2) := by decide +kernel
theorem dX12_call_251 : decode cX12_call 251 = .ok (.invokevirtual 289, 3) := by decide +kernel
theorem dX12_call_254 : decode cX12_call 254 = .ok (.ifCond .ne 13, 3) := by decide +kernel
theorem dX12_call_257 : decode cX12_call 257 = .ok (.aload_n 0, 1) := by decide +kernel
theorem dX12_call_258 : decode cX12_call 258 = .ok (.iconst 3, 1) := by decide +kernel
theorem dX12_call_259 : decode cX12_call 259 = .ok (.aload_n 0, 1) := by decide +kernel
theorem dX12_call_260 : decode cX12_call 260 = .ok (.getfield 207, 3) := by decide +kernel
theorem dX12_call_263 : decode cX12_call 263 = .ok (.invokevirtual 232, 3) := by decide +kernel
theorem dX12_call_266 : decode cX12_call 266 = .ok (.ireturn, 1) := by decide +kernel
theorem dX12_call_267 : decode cX12_call 267 = .ok (.aload_n 0, 1) := by decide +kernel
theorem dX12_call_268 : decode cX12_call 268 = .ok (.getfield 72, 3) := by decide +kernel
theorem dX12_call_271 : decode cX12_call 271 = .ok (.iload 7, 2) := by decide +kernel
theorem dX12_call_273 : decode cX12_call 273 = .ok (.lconst 0, 1) := by decide +kernel
theorem dX12_call_274 : decode cX12_call 274 = .ok (.lastore, 1) := by decide +kernel
theorem dX12_call_275 : decode cX12_call 275 = .ok (.aload_n 0, 1) := by decide +kernel
theorem dX12_call_276 : decode cX12_call 276 = .ok (.bipush 54, 2) := by decide +kernel
theorem dX12_call_278 : decode cX12_call 278 = .ok (.iload 7, 2) := by decide +kernel
theorem dX12_call_280 : decode cX12_call 280 = .ok (.iconst (-1), 1) := by decide +kernel
theorem dX12_call_281 : decode cX12_call 281 = .ok (.lconst 0, 1) := by decide +kernel
theorem dX12_call_282 : decode cX12_call 282 = .ok (.invokevirtual 264, 3) := by decide +kernel
theorem dX12_call_285 : decode cX12_call 285 = .ok (.istore 6, 2) := by decide +kernel
theorem dX12_call_287 : decode cX12_call 287 = .ok (.aload_n 0, 1) := by decide +kernel
theorem dX12_call_288 : decode cX12_call 288 = .ok (.invokevirtual 236, 3) := by decide +kernel
theorem dX12_call_291 : decode cX12_call 291 = .ok (.goto 38, 3) := by decide +kernel
theorem dX12_call_294 : decode cX12_call 294 = .ok (.aload_n 0, 1) := by decide +kernel
theorem dX12_call_295 : decode cX12_call 295 = .ok (.getfield 371, 3) := by decide +kernel
theorem dX12_call_298 : decode cX12_call 298 = .ok (.istore 7, 2) := by decide +kernel
theorem dX12_call_300 : decode cX12_call 300 = .ok (.aload_n 0, 1) := by decide +kernel
theorem dX12_call_301 : decode cX12_call 301 = .ok (.invokevirtual 310, 3) := by decide +kernel
theorem dX12_call_304 : decode cX12_call 304 = .ok (.ifCond .ne 5, 3) := by decide +kernel
theorem dX12_call_307 : decode cX12_call 307 = .ok (.iconst 0, 1) := by decide +kernel
theorem dX12_call_308 : decode cX12_call 308 = .ok (.ireturn, 1) := by decide +kernel
theorem dX12_call_309 : decode cX12_call 309 = .ok (.aload_n 0, 1) := by decide +kernel
theorem dX12_call_310 : decode cX12_call 310 = .ok (.iload 7, 2) := by decide +kernel
theorem dX12_call_312 : decode cX12_call 312 = .ok (.putfield 371, 3) := by decide +kernel
theorem dX12_call_315 : decode cX12_call 315 = .ok (.aload_n 0, 1) := by decide +kernel
theorem dX12_call_316 : decode cX12_call 316 = .ok (.bipush 55, 2) := by decide +kernel
theorem dX12_call_318 : decode cX12_call 318 = .ok (.aload_n 0, 1) := by decide +kernel
theorem dX12_call_319 : decode cX12_call 319 = .ok (.getfield 298, 3) := by decide +kernel
theorem dX12_call_322 : decode cX12_call 322 = .ok (.iconst (-1), 1) := by decide +kernel
theorem dX12_call_323 : decode cX12_call 323 = .ok (.lconst 0, 1) := by decide +kernel
theorem dX12_call_324 : decode cX12_call 324 = .ok (.invokevirtual 264, 3) := by decide +kernel
theorem dX12_call_327 : decode cX12_call 327 = .ok (.istore 6, 2) := by decide +kernel
theorem dX12_call_329 : decode cX12_call 329 = .ok (.aload_n 0, 1) := by decide +kernel
theorem dX12_call_330 : decode cX12_call 330 = .ok (.getfield 371, 3) := by decide +kernel
theorem dX12_call_333 : decode cX12_call 333 = .ok (.iconst (-1), 1) := by decide +kernel
theorem dX12_call_334 : decode cX12_call 334 = .ok (.if_icmp .ne 12, 3) := by decide +kernel
theorem dX12_call_337 : decode cX12_call 337 = .ok (.aload_n 0, 1) := by decide +kernel
theorem dX12_call_338 : decode cX12_call 338 = .ok (.iload 6, 2) := by decide +kernel
theorem dX12_call_340 : decode cX12_call 340 = .ok (.putfield 371, 3) := by decide +kernel
theorem dX12_call_343 : decode cX12_call 343 = .ok (.goto 11, 3) := by decide +kernel
theorem dX12_call_346 : decode cX12_call 346 = .ok (.aload_n 0, 1) := by decide +kernel
theorem dX12_call_347 : decode cX12_call 347 = .ok (.getfield 26, 3) := by decide +kernel
theorem dX12_call_350 : decode cX12_call 350 = .ok (.iload_n 3, 1) := by decide +kernel
theorem dX12_call_351 : decode cX12_call 351 = .ok (.iload 6, 2) := by decide +kernel
theorem dX12_call_353 : decode cX12_call 353 = .ok (.iastore, 1) := by decide +kernel
theorem dX12_call_354 : decode cX12_call 354 = .ok (.iload 6, 2) := by decide +kernel
theorem dX12_call_356 : decode cX12_call 356 = .ok (.istore_n 3, 1) := by decide +kernel
theorem dX12_call_357 : decode cX12_call 357 = .ok (.iinc 4 1, 3) := by decide +kernel
theorem dX12_call_360 : decode cX12_call 360 = .ok (.goto (-273), 3) := by decide +kernel
theorem dX12_call_363 : decode cX12_call 363 = .ok (.iload_n 2, 1) := by decide +kernel
theorem dX12_call_364 : decode cX12_call 364 = .ok (.ifCond .le 23, 3) := by decide +kernel
theorem dX12_call_367 : decode cX12_call 367 = .ok (.aload_n 0, 1) := by decide +kernel
theorem dX12_call_368 : decode cX12_call 368 = .ok (.bipush 44, 2) := by decide +kernel
theorem dX12_call_370 : decode cX12_call 370 = .ok (.invokevirtual 229, 3) := by decide +kernel
theorem dX12_call_373 : decode cX12_call 373 = .ok (.ifCond .eq 14, 3) := by decide +kernel
theorem dX12_call_376 : decode cX12_call 376 = .ok (.aload_n 0, 1) := by decide +kernel
theorem dX12_call_377 : decode cX12_call 377 = .ok (.bipush 6, 2) := by decide +kernel
theorem dX12_call_379 : decode cX12_call 379 = .ok (.aload_n 0, 1) := by decide +kernel
theorem dX12_call_380 : decode cX12_call 380 = .ok (.getfield 207, 3) := by decide +kernel
theorem dX12_call_383 : decode cX12_call 383 = .ok (.invokevirtual 232, 3) := by decide +kernel
theorem dX12_call_386 : decode cX12_call 386 = .ok (.ireturn, 1) := by decide +kernel
theorem dX12_call_387 : decode cX12_call 387 = .ok (.aload_n 0, 1) := by decide +kernel
theorem dX12_call_388 : decode cX12_call 388 = .ok (.bipush 41, 2) := by decide +kernel
theorem dX12_call_390 : decode cX12_call 390 = .ok (.invokevirtual 278, 3) := by decide +kernel
theorem dX12_call_393 : decode cX12_call 393 = .ok (.ireturn, 1) := by decide +kernel
def mX12_call_220 (I : iT) (J : jT) (x1 : Int32) (x2 : Int32) (x3 : Int32) (x4 : Int32) (x5 : Int32) (x7 : Int32) : Option (Int32 × iT × jT) := (mX12_bad I 2 (I 186 4)).bind fun q1 => if q1.1 = 0 ∨ q1.1 = 1 then some (q1.1, q1.2, J) else none
def mX12_call_257 (I : iT) (J : jT) (x1 : Int32) (x2 : Int32) (x3 : Int32) (x4 : Int32) (x5 : Int32) (x7 : Int32) : Option (Int32 × iT × jT) := (mX12_bad I 3 (I 186 4)).bind fun q2 => if q2.1 = 0 ∨ q2.1 = 1 then some (q2.1, q2.2, J) else none
def mX12_call_354 (k87 : iT → jT → Int32 → Int32 → Int32 → Int32 → Option (Int32 × iT × jT)) (I : iT) (J : jT) (x1 : Int32) (x2 : Int32) (x3 : Int32) (x4 : Int32) (x5 : Int32) (x6 : Int32) (x7 : Int32) : Option (Int32 × iT × jT) := k87 I J x1 x2 x6 (x4 + 1)
def mX12_call_329 (k87 : iT → jT → Int32 → Int32 → Int32 → Int32 → Option (Int32 × iT × jT)) (I : iT) (J : jT) (x1 : Int32) (x2 : Int32) (x3 : Int32) (x4 : Int32) (x5 : Int32) (x6 : Int32) (x7 : Int32) : Option (Int32 × iT × jT) := if (I 186 50) = ((-1)) then mX12_call_354 (k87) (a_u2 I 186 50 x6) J x1 x2 x3 x4 x5 x6 x7 else if inb x3 2800 then mX12_call_354 (k87) (a_u2 I 191 x3.toNatClampNeg x6) J x1 x2 x3 x4 x5 x6 x7 else none
def mX12_call_149 (k87 : iT → jT → Int32 → Int32 → Int32 → Int32 → Option (Int32 × iT × jT)) (I : iT) (J : jT) (x1 : Int32) (x2 : Int32) (x3 : Int32) (x4 : Int32) : Option (Int32 × iT × jT) := if inb ((4 * ((12 * (I 186 32)) + x1)) + x4) 96 then if (I 199 ((4 * ((12 * (I 186 32)) + x1)) + x4).toNatClampNeg) = ((-1)) then (mX12_expression SF I J).bind fun q3 => if q3.1 = 0 then some (0, q3.2.1, q3.2.2) else (mX12_node (a_u2 q3.2.1 186 50 (I 186 50)) q3.2.2 55 ((a_u2 q3.2.1 186 50 (I 186 50)) 186 47) ((-1)) 0).bind fun q4 => mX12_call_329 (k87) q4.2.1 q4.2.2 x1 x2 x3 x4 (I 199 ((4 * ((12 * (I 186 32)) + x1)) + x4).toNatClampNeg) q4.1 (I 186 50) else if (I 186 3) = 2 then (mX12_slot I J (J 186 6)).bind fun q5 => if q5 = ((-1)) then mX12_call_220 I J x1 x2 x3 x4 (I 199 ((4 * ((12 * (I 186 32)) + x1)) + x4).toNatClampNeg) q5 else if inb q5 128 then if (I 208 q5.toNatClampNeg) = 0 then mX12_call_220 I J x1 x2 x3 x4 (I 199 ((4 * ((12 * (I 186 32)) + x1)) + x4).toNatClampNeg) q5 else if inb q5 128 then if (I 208 q5.toNatClampNeg) = 1 then mX12_call_257 I J x1 x2 x3 x4 (I 199 ((4 * ((12 * (I 186 32)) + x1)) + x4).toNatClampNeg) q5 else if inb q5 128 then (mX12_alike SF I J (I 209 q5.toNatClampNeg) (I 199 ((4 * ((12 * (I 186 32)) + x1)) + x4).toNatClampNeg)).bind fun q6 => if q6 = 0 then mX12_call_257 I J x1 x2 x3 x4 (I 199 ((4 * ((12 * (I 186 32)) + x1)) + x4).toNatClampNeg) q5 else if inb q5 128 then (mX12_node I (a_u2 J 206 q5.toNatClampNeg 0) 54 q5 ((-1)) 0).bind fun q7 => (mX12_look0 q7.2.1 q7.2.2).bind fun q8 => mX12_call_329 (k87) q8.1 q8.2 x1 x2 x3 x4 (I 199 ((4 * ((12 * (I 186 32)) + x1)) + x4).toNatClampNeg) q7.1 q5 else none else none else none else none else (mX12_bad I 1 (I 186 4)).bind fun q9 => if q9.1 = 0 ∨ q9.1 = 1 then some (q9.1, q9.2, J) else none else none
def mX12_call_387 (I : iT) (J : jT) (x1 : Int32) (x2 : Int32) (x3 : Int32) (x4 : Int32) : Option (Int32 × iT × jT) := (mX12_need I J 41).bind fun q10 => if q10.1 = 0 ∨ q10.1 = 1 then some (q10.1, q10.2.1, q10.2.2) else none
def mX12_call_87 : Nat → iT → jT → Int32 → Int32 → Int32 → Int32 → Option (Int32 × iT × jT)
  | 0, _, _, _, _, _, _ => none
  | n + 1, I, J, x1, x2, x3, x4 => if x2 ≤ x4 then if x2 ≤ 0 then mX12_call_387 I J x1 x2 x3 x4 else (mX12_isSign I 44).bind fun q11 => if q11 = 0 then mX12_call_387 I J x1 x2 x3 x4 else (mX12_bad I 6 (I 186 4)).bind fun q12 => if q12.1 = 0 ∨ q12.1 = 1 then some (q12.1, q12.2, J) else none else if x4 ≤ 0 then (mX12_isSign I 41).bind fun q13 => if q13 = 0 then mX12_call_149 (mX12_call_87 n) I J x1 x2 x3 x4 else (mX12_bad I 6 (I 186 4)).bind fun q14 => if q14.1 = 0 ∨ q14.1 = 1 then some (q14.1, q14.2, J) else none else (mX12_isSign I 41).bind fun q15 => if q15 = 0 then (mX12_need I J 44).bind fun q16 => if q16.1 = 0 then some (0, q16.2.1, q16.2.2) else mX12_call_149 (mX12_call_87 n) q16.2.1 q16.2.2 x1 x2 x3 x4 else (mX12_bad I 6 (I 186 4)).bind fun q17 => if q17.1 = 0 ∨ q17.1 = 1 then some (q17.1, q17.2, J) else none
def mX12_call (I : iT) (J : jT) : Option (Int32 × iT × jT) := if (I 186 3) = 2 then (mX12_findDef I J (J 186 6)).bind fun q18 => if q18 = ((-1)) then (mX12_bad I 2 (I 186 4)).bind fun q21 => if q21.1 = 0 ∨ q21.1 = 1 then some (q21.1, q21.2, J) else none else (mX12_look0 (a_u2 I 186 46 q18) J).bind fun q19 => (mX12_need q19.1 q19.2 40).bind fun q20 => if q20.1 = 0 then some (0, q20.2.1, q20.2.2) else if inb ((12 * (q20.2.1 186 32)) + q18) 24 then mX12_call_87 LF (a_u2 q20.2.1 186 50 ((-1))) q20.2.2 q18 (q20.2.1 198 ((12 * (q20.2.1 186 32)) + q18).toNatClampNeg) ((-1)) 0 else none else (mX12_bad I 1 (I 186 4)).bind fun q22 => if q22.1 = 0 ∨ q22.1 = 1 then some (q22.1, q22.2, J) else none
set_option maxRecDepth 100000 in
set_option maxHeartbeats 4000000 in
theorem tX12_call_220 {l : Launch} {K : a_KT} {g : a_GT} {IA : iT} (hko : a_kok K) {F : fT} (I : iT) (J : jT) (x1 : Int32) (x2 : Int32) (x3 : Int32) (x4 : Int32) (x5 : Int32) (x7 : Int32) (hF : FOK F) (q : Int32 × iT × jT) (hm : mX12_call_220 I J x1 x2 x3 x4 x5 x7 = some q) : E l K g 456 0 0 yX12_call cX12_call 8 (some .boolean) 220 [.ref 186, .int x1, .int x2, .int x3, .int x4, .int x5, .null, .int x7] [] (hg IA I J F) (fun r2 h2 => r2 = some (.int q.1) ∧ h2 = hg IA q.2.1 q.2.2 F) := by
  unfold mX12_call_220 at hm
  refine e_aload_n (i := 0) rfl dX12_call_220 ?_
  refine e_iconst (v := 2) (by decide) dX12_call_221 ?_
  refine e_aload_n (i := 0) rfl dX12_call_222 ?_
  refine l_getI 12 4 dX12_call_223 fl_RX12_207 rfl iz_186 (by decide) ?_
  obtain ⟨q1, eq1, hm⟩ := ob_some hm
  refine e_cV2 hko dX12_call_226 ml_RX12_232 iz_186 (by decide) rfl (by omega) (Nat.le_of_ble_eq_true rfl) (tX12_bad hko I J F hF 2 (I 186 4) _ eq1) ?_
  rintro _ _ ⟨rfl, rfl⟩
  obtain ⟨c_229, hm⟩ := gd_s hm
  refine e_zret dX12_call_229 rfl (zz_nar c_229) ?_
  have hm := some_in hm
  subst hm
  exact ⟨rfl, rfl⟩
set_option maxRecDepth 100000 in
set_option maxHeartbeats 4000000 in
theorem tX12_call_257 {l : Launch} {K : a_KT} {g : a_GT} {IA : iT} (hko : a_kok K) {F : fT} (I : iT) (J : jT) (x1 : Int32) (x2 : Int32) (x3 : Int32) (x4 : Int32) (x5 : Int32) (x7 : Int32) (hF : FOK F) (q : Int32 × iT × jT) (hm : mX12_call_257 I J x1 x2 x3 x4 x5 x7 = some q) : E l K g 456 0 0 yX12_call cX12_call 8 (some .boolean) 257 [.ref 186, .int x1, .int x2, .int x3, .int x4, .int x5, .null, .int x7] [] (hg IA I J F) (fun r2 h2 => r2 = some (.int q.1) ∧ h2 = hg IA q.2.1 q.2.2 F) := by
  unfold mX12_call_257 at hm
  refine e_aload_n (i := 0) rfl dX12_call_257 ?_
  refine e_iconst (v := 3) (by decide) dX12_call_258 ?_
  refine e_aload_n (i := 0) rfl dX12_call_259 ?_
  refine l_getI 12 4 dX12_call_260 fl_RX12_207 rfl iz_186 (by decide) ?_
  obtain ⟨q2, eq2, hm⟩ := ob_some hm
  refine e_cV2 hko dX12_call_263 ml_RX12_232 iz_186 (by decide) rfl (by omega) (Nat.le_of_ble_eq_true rfl) (tX12_bad hko I J F hF 3 (I 186 4) _ eq2) ?_
  rintro _ _ ⟨rfl, rfl⟩
  obtain ⟨c_266, hm⟩ := gd_s hm
  refine e_zret dX12_call_266 rfl (zz_nar c_266) ?_
  have hm := some_in hm
  subst hm
  exact ⟨rfl, rfl⟩
set_option maxRecDepth 100000 in
set_option maxHeartbeats 4000000 in
theorem tX12_call_354 {l : Launch} {K : a_KT} {g : a_GT} {IA : iT} (hko : a_kok K) {F : fT} {k87 : iT → jT → Int32 → Int32 → Int32 → Int32 → Option (Int32 × iT × jT)} (hk87 : ∀ (I : iT) (J : jT) (x1 : Int32) (x2 : Int32) (x3 : Int32) (x4 : Int32) (_ : FOK F) (q : Int32 × iT × jT), k87 I J x1 x2 x3 x4 = some q → E l K g 456 0 0 yX12_call cX12_call 8 (some .boolean) 87 [.ref 186, .int x1, .int x2, .int x3, .int x4, .null, .null, .null] [] (hg IA I J F) (fun r2 h2 => r2 = some (.int q.1) ∧ h2 = hg IA q.2.1 q.2.2 F)) (I : iT) (J : jT) (x1 : Int32) (x2 : Int32) (x3 : Int32) (x4 : Int32) (x5 : Int32) (x6 : Int32) (x7 : Int32) (hF : FOK F) (q : Int32 × iT × jT) (hm : mX12_call_354 k87 I J x1 x2 x3 x4 x5 x6 x7 = some q) : E l K g 456 0 0 yX12_call cX12_call 8 (some .boolean) 354 [.ref 186, .int x1, .int x2, .int x3, .int x4, .int x5, .int x6, .int x7] [] (hg IA I J F) (fun r2 h2 => r2 = some (.int q.1) ∧ h2 = hg IA q.2.1 q.2.2 F) := by
  unfold mX12_call_354 at hm
  refine e_iload (i := 6) rfl dX12_call_354 ?_
  refine q_istore_n (i := 3) (by decide) rfl dX12_call_356 ?_
  refine q_iinc (i := 4) (x4 + 1) rfl ic_1 rfl dX12_call_357 ?_
  refine e_goto 87 dX12_call_360 (by decide) ?_
  refine e_weak [.ref 186, .int x1, .int x2, .int x6, .int (x4 + 1), .null, .null, .null] ⟨rfl, ⟨rfl, ⟨rfl, ⟨rfl, ⟨rfl, ⟨trivial, ⟨trivial, ⟨trivial, trivial⟩⟩⟩⟩⟩⟩⟩⟩ ?_
  exact hk87 I J x1 x2 x6 (x4 + 1) hF _ hm
set_option maxRecDepth 100000 in
set_option maxHeartbeats 4000000 in
theorem tX12_call_329 {l : Launch} {K : a_KT} {g : a_GT} {IA : iT} (hko : a_kok K) {F : fT} {k87 : iT → jT → Int32 → Int32 → Int32 → Int32 → Option (Int32 × iT × jT)} (hk87 : ∀ (I : iT) (J : jT) (x1 : Int32) (x2 : Int32) (x3 : Int32) (x4 : Int32) (_ : FOK F) (q : Int32 × iT × jT), k87 I J x1 x2 x3 x4 = some q → E l K g 456 0 0 yX12_call cX12_call 8 (some .boolean) 87 [.ref 186, .int x1, .int x2, .int x3, .int x4, .null, .null, .null] [] (hg IA I J F) (fun r2 h2 => r2 = some (.int q.1) ∧ h2 = hg IA q.2.1 q.2.2 F)) (I : iT) (J : jT) (x1 : Int32) (x2 : Int32) (x3 : Int32) (x4 : Int32) (x5 : Int32) (x6 : Int32) (x7 : Int32) (hF : FOK F) (q : Int32 × iT × jT) (hm : mX12_call_329 k87 I J x1 x2 x3 x4 x5 x6 x7 = some q) : E l K g 456 0 0 yX12_call cX12_call 8 (some .boolean) 329 [.ref 186, .int x1, .int x2, .int x3, .int x4, .int x5, .int x6, .int x7] [] (hg IA I J F) (fun r2 h2 => r2 = some (.int q.1) ∧ h2 = hg IA q.2.1 q.2.2 F) := by
  unfold mX12_call_329 at hm
  refine e_aload_n (i := 0) rfl dX12_call_329 ?_
  refine l_getI 12 50 dX12_call_330 fl_RX12_371 rfl iz_186 (by decide) ?_
  refine e_iconst (v := (-1)) (by decide) dX12_call_333 ?_
  refine e_icmp_ne 346 dX12_call_334 (by decide) (fun c_334 => ?_) (fun c_334 => ?_)
  · have hm := it_n c_334 hm
    refine e_aload_n (i := 0) rfl dX12_call_346 ?_
    refine q_getF 12 14 191 dX12_call_347 fl_RX12_26 rfl iz_186 (fr_186_14 hF) ?_
    refine e_iload_n (i := 3) rfl dX12_call_350 ?_
    refine e_iload (i := 6) rfl dX12_call_351 ?_
    obtain ⟨c_353, hm⟩ := gd_s hm
    refine l_iast dX12_call_353 iz_191 (inb_in ln_191 c_353) (by decide) ?_
    refine e_weak [.ref 186, .int x1, .int x2, .int x3, .int x4, .int x5, .int x6, .int x7] ⟨rfl, ⟨rfl, ⟨rfl, ⟨rfl, ⟨rfl, ⟨rfl, ⟨rfl, ⟨rfl, trivial⟩⟩⟩⟩⟩⟩⟩⟩ ?_
    exact tX12_call_354 hko (hk87) (a_u2 I 191 x3.toNatClampNeg x6) J x1 x2 x3 x4 x5 x6 x7 hF _ hm
  · have hm := it_p c_334 hm
    refine e_aload_n (i := 0) rfl dX12_call_337 ?_
    refine e_iload (i := 6) rfl dX12_call_338 ?_
    refine l_putI 12 50 dX12_call_340 fl_RX12_371 rfl rfl iz_186 (by decide) ?_
    refine e_goto 354 dX12_call_343 (by decide) ?_
    refine e_weak [.ref 186, .int x1, .int x2, .int x3, .int x4, .int x5, .int x6, .int x7] ⟨rfl, ⟨rfl, ⟨rfl, ⟨rfl, ⟨rfl, ⟨rfl, ⟨rfl, ⟨rfl, trivial⟩⟩⟩⟩⟩⟩⟩⟩ ?_
    exact tX12_call_354 hko (hk87) (a_u2 I 186 50 x6) J x1 x2 x3 x4 x5 x6 x7 hF _ hm
set_option maxRecDepth 100000 in
set_option maxHeartbeats 4000000 in
theorem tX12_call_149 {l : Launch} {K : a_KT} {g : a_GT} {IA : iT} (hko : a_kok K) {F : fT} {k87 : iT → jT → Int32 → Int32 → Int32 → Int32 → Option (Int32 × iT × jT)} (hk87 : ∀ (I : iT) (J : jT) (x1 : Int32) (x2 : Int32) (x3 : Int32) (x4 : Int32) (_ : FOK F) (q : Int32 × iT × jT), k87 I J x1 x2 x3 x4 = some q → E l K g 456 0 0 yX12_call cX12_call 8 (some .boolean) 87 [.ref 186, .int x1, .int x2, .int x3, .int x4, .null, .null, .null] [] (hg IA I J F) (fun r2 h2 => r2 = some (.int q.1) ∧ h2 = hg IA q.2.1 q.2.2 F)) (I : iT) (J : jT) (x1 : Int32) (x2 : Int32) (x3 : Int32) (x4 : Int32) (hF : FOK F) (q : Int32 × iT × jT) (hm : mX12_call_149 k87 I J x1 x2 x3 x4 = some q) : E l K g 456 0 0 yX12_call cX12_call 8 (some .boolean) 149 [.ref 186, .int x1, .int x2, .int x3, .int x4, .null, .null, .null] [] (hg IA I J F) (fun r2 h2 => r2 = some (.int q.1) ∧ h2 = hg IA q.2.1 q.2.2 F) := by
  unfold mX12_call_149 at hm
  refine e_aload_n (i := 0) rfl dX12_call_149 ?_
  refine q_getF 12 24 199 dX12_call_150 fl_RX12_51 rfl iz_186 (fr_186_24 hF) ?_
  refine e_iconst (v := 4) (by decide) dX12_call_153 ?_
  refine e_bipush (v := 12) (by decide) dX12_call_154 ?_
  refine e_aload_n (i := 0) rfl dX12_call_156 ?_
  refine l_getI 12 32 dX12_call_157 fl_RX12_251 rfl iz_186 (by decide) ?_
  refine e_imul dX12_call_160 ?_
  refine e_iload_n (i := 1) rfl dX12_call_161 ?_
  refine e_iadd dX12_call_162 ?_
  refine e_imul dX12_call_163 ?_
  refine e_iload (i := 4) rfl dX12_call_164 ?_
  refine e_iadd dX12_call_166 ?_
  obtain ⟨c_167, hm⟩ := gd_s hm
  refine l_iald dX12_call_167 iz_199 (inb_in ln_199 c_167) (by decide) ?_
  refine q_istore (i := 5) (by decide) rfl dX12_call_168 ?_
  refine e_iload (i := 5) rfl dX12_call_170 ?_
  refine e_iconst (v := (-1)) (by decide) dX12_call_172 ?_
  refine e_icmp_eq 294 dX12_call_173 (by decide) (fun c_173 => ?_) (fun c_173 => ?_)
  · have hm := it_p c_173 hm
    refine e_aload_n (i := 0) rfl dX12_call_294 ?_
    refine l_getI 12 50 dX12_call_295 fl_RX12_371 rfl iz_186 (by decide) ?_
    refine q_istore (i := 7) (by decide) rfl dX12_call_298 ?_
    refine e_aload_n (i := 0) rfl dX12_call_300 ?_
    obtain ⟨q3, eq3, hm⟩ := ob_some hm
    refine e_cV0 hko dX12_call_301 ml_RX12_310 iz_186 (by decide) rfl (by omega) (Nat.le_of_ble_eq_true rfl) (tX12_expression hko I J F hF _ eq3) ?_
    rintro _ _ ⟨rfl, rfl⟩
    refine e_if_ne 309 dX12_call_304 (by decide) (fun c_304 => ?_) (fun c_304 => ?_)
    · have hm := it_n c_304 hm
      refine e_aload_n (i := 0) rfl dX12_call_309 ?_
      refine e_iload (i := 7) rfl dX12_call_310 ?_
      refine l_putI 12 50 dX12_call_312 fl_RX12_371 rfl rfl iz_186 (by decide) ?_
      refine e_aload_n (i := 0) rfl dX12_call_315 ?_
      refine e_bipush (v := 55) (by decide) dX12_call_316 ?_
      refine e_aload_n (i := 0) rfl dX12_call_318 ?_
      refine l_getI 12 47 dX12_call_319 fl_RX12_298 rfl iz_186 (by decide) ?_
      refine e_iconst (v := (-1)) (by decide) dX12_call_322 ?_
      refine e_lconst (v := 0) (by decide) dX12_call_323 ?_
      obtain ⟨q4, eq4, hm⟩ := ob_some hm
      refine e_cV4 hko dX12_call_324 ml_RX12_264 iz_186 (by decide) rfl (by omega) (Nat.le_of_ble_eq_true rfl) (tX12_node hko (a_u2 q3.2.1 186 50 (I 186 50)) q3.2.2 F hF 55 ((a_u2 q3.2.1 186 50 (I 186 50)) 186 47) ((-1)) 0 _ eq4) ?_
      rintro _ _ ⟨rfl, rfl⟩
      refine q_istore (i := 6) (by decide) rfl dX12_call_327 ?_
      refine e_weak [.ref 186, .int x1, .int x2, .int x3, .int x4, .int (I 199 ((4 * ((12 * (I 186 32)) + x1)) + x4).toNatClampNeg), .int q4.1, .int (I 186 50)] ⟨rfl, ⟨rfl, ⟨rfl, ⟨rfl, ⟨rfl, ⟨rfl, ⟨rfl, ⟨rfl, trivial⟩⟩⟩⟩⟩⟩⟩⟩ ?_
      exact tX12_call_329 hko (hk87) q4.2.1 q4.2.2 x1 x2 x3 x4 (I 199 ((4 * ((12 * (I 186 32)) + x1)) + x4).toNatClampNeg) q4.1 (I 186 50) hF _ hm
    · have hm := it_p c_304 hm
      refine e_iconst (v := 0) (by decide) dX12_call_307 ?_
      refine e_zret dX12_call_308 rfl rfl ?_
      have hm := some_in hm
      subst hm
      exact ⟨rfl, rfl⟩
  · have hm := it_n c_173 hm
    refine e_aload_n (i := 0) rfl dX12_call_176 ?_
    refine l_getI 12 3 dX12_call_177 fl_RX12_210 rfl iz_186 (by decide) ?_
    refine e_iconst (v := 2) (by decide) dX12_call_180 ?_
    refine e_icmp_eq 194 dX12_call_181 (by decide) (fun c_181 => ?_) (fun c_181 => ?_)
    · have hm := it_p c_181 hm
      refine e_aload_n (i := 0) rfl dX12_call_194 ?_
      refine e_aload_n (i := 0) rfl dX12_call_195 ?_
      refine q_getJ 12 6 dX12_call_196 fl_RX12_162 rfl iz_186 ?_
      obtain ⟨q5, eq5, hm⟩ := ob_some hm
      refine e_cV1 hko dX12_call_199 ml_RX12_301 iz_186 (by decide) rfl (by omega) (Nat.le_of_ble_eq_true rfl) (tX12_slot hko I J F hF (J 186 6) _ eq5) ?_
      rintro _ _ ⟨rfl, rfl⟩
      refine q_istore (i := 7) (by decide) rfl dX12_call_202 ?_
      refine e_iload (i := 7) rfl dX12_call_204 ?_
      refine e_iconst (v := (-1)) (by decide) dX12_call_206 ?_
      refine e_icmp_eq 220 dX12_call_207 (by decide) (fun c_207 => ?_) (fun c_207 => ?_)
      · have hm := it_p c_207 hm
        refine e_weak [.ref 186, .int x1, .int x2, .int x3, .int x4, .int (I 199 ((4 * ((12 * (I 186 32)) + x1)) + x4).toNatClampNeg), .null, .int q5] ⟨rfl, ⟨rfl, ⟨rfl, ⟨rfl, ⟨rfl, ⟨rfl, ⟨trivial, ⟨rfl, trivial⟩⟩⟩⟩⟩⟩⟩⟩ ?_
        exact tX12_call_220 hko I J x1 x2 x3 x4 (I 199 ((4 * ((12 * (I 186 32)) + x1)) + x4).toNatClampNeg) q5 hF _ hm
      · have hm := it_n c_207 hm
        refine e_aload_n (i := 0) rfl dX12_call_210 ?_
        refine q_getF 12 39 208 dX12_call_211 fl_RX12_78 rfl iz_186 (fr_186_39 hF) ?_
        refine e_iload (i := 7) rfl dX12_call_214 ?_
        obtain ⟨c_216, hm⟩ := gd_s hm
        refine l_iald dX12_call_216 iz_208 (inb_in ln_208 c_216) (by decide) ?_
        refine e_if_ne 230 dX12_call_217 (by decide) (fun c_217 => ?_) (fun c_217 => ?_)
        · have hm := it_n c_217 hm
          refine e_aload_n (i := 0) rfl dX12_call_230 ?_
          refine q_getF 12 39 208 dX12_call_231 fl_RX12_78 rfl iz_186 (fr_186_39 hF) ?_
          refine e_iload (i := 7) rfl dX12_call_234 ?_
          obtain ⟨c_236, hm⟩ := gd_s hm
          refine l_iald dX12_call_236 iz_208 (inb_in ln_208 c_236) (by decide) ?_
          refine e_iconst (v := 1) (by decide) dX12_call_237 ?_
          refine e_icmp_eq 257 dX12_call_238 (by decide) (fun c_238 => ?_) (fun c_238 => ?_)
          · have hm := it_p c_238 hm
            refine e_weak [.ref 186, .int x1, .int x2, .int x3, .int x4, .int (I 199 ((4 * ((12 * (I 186 32)) + x1)) + x4).toNatClampNeg), .null, .int q5] ⟨rfl, ⟨rfl, ⟨rfl, ⟨rfl, ⟨rfl, ⟨rfl, ⟨trivial, ⟨rfl, trivial⟩⟩⟩⟩⟩⟩⟩⟩ ?_
            exact tX12_call_257 hko I J x1 x2 x3 x4 (I 199 ((4 * ((12 * (I 186 32)) + x1)) + x4).toNatClampNeg) q5 hF _ hm
          · have hm := it_n c_238 hm
            refine e_aload_n (i := 0) rfl dX12_call_241 ?_
            refine e_aload_n (i := 0) rfl dX12_call_242 ?_
            refine q_getF 12 40 209 dX12_call_243 fl_RX12_81 rfl iz_186 (fr_186_40 hF) ?_
            refine e_iload (i := 7) rfl dX12_call_246 ?_
            obtain ⟨c_248, hm⟩ := gd_s hm
            refine l_iald dX12_call_248 iz_209 (inb_in ln_209 c_248) (by decide) ?_
            refine e_iload (i := 5) rfl dX12_call_249 ?_
            obtain ⟨q6, eq6, hm⟩ := ob_some hm
            refine e_cV2 hko dX12_call_251 ml_RX12_289 iz_186 (by decide) rfl (by omega) (Nat.le_of_ble_eq_true rfl) (tX12_alike hko I J F hF (I 209 q5.toNatClampNeg) (I 199 ((4 * ((12 * (I 186 32)) + x1)) + x4).toNatClampNeg) _ eq6) ?_
            rintro _ _ ⟨rfl, rfl⟩
            refine e_if_ne 267 dX12_call_254 (by decide) (fun c_254 => ?_) (fun c_254 => ?_)
            · have hm := it_n c_254 hm
              refine e_aload_n (i := 0) rfl dX12_call_267 ?_
              refine q_getF 12 37 206 dX12_call_268 fl_RX12_72 rfl iz_186 (fr_186_37 hF) ?_
              refine e_iload (i := 7) rfl dX12_call_271 ?_
              refine e_lconst (v := 0) (by decide) dX12_call_273 ?_
              obtain ⟨c_274, hm⟩ := gd_s hm
              refine q_last dX12_call_274 iz_206 (inb_in ln_206 c_274) ?_
              refine e_aload_n (i := 0) rfl dX12_call_275 ?_
              refine e_bipush (v := 54) (by decide) dX12_call_276 ?_
              refine e_iload (i := 7) rfl dX12_call_278 ?_
              refine e_iconst (v := (-1)) (by decide) dX12_call_280 ?_
              refine e_lconst (v := 0) (by decide) dX12_call_281 ?_
              obtain ⟨q7, eq7, hm⟩ := ob_some hm
              refine e_cV4 hko dX12_call_282 ml_RX12_264 iz_186 (by decide) rfl (by omega) (Nat.le_of_ble_eq_true rfl) (tX12_node hko I (a_u2 J 206 q5.toNatClampNeg 0) F hF 54 q5 ((-1)) 0 _ eq7) ?_
              rintro _ _ ⟨rfl, rfl⟩
              refine q_istore (i := 6) (by decide) rfl dX12_call_285 ?_
              refine e_aload_n (i := 0) rfl dX12_call_287 ?_
              obtain ⟨q8, eq8, hm⟩ := ob_some hm
              refine e_cV0 hko dX12_call_288 ml_RX12_236 iz_186 (by decide) rfl (by omega) (Nat.le_of_ble_eq_true rfl) (tX12_look0 hko q7.2.1 q7.2.2 F hF _ eq8) ?_
              rintro _ _ ⟨rfl, rfl⟩
              refine e_goto 329 dX12_call_291 (by decide) ?_
              refine e_weak [.ref 186, .int x1, .int x2, .int x3, .int x4, .int (I 199 ((4 * ((12 * (I 186 32)) + x1)) + x4).toNatClampNeg), .int q7.1, .int q5] ⟨rfl, ⟨rfl, ⟨rfl, ⟨rfl, ⟨rfl, ⟨rfl, ⟨rfl, ⟨rfl, trivial⟩⟩⟩⟩⟩⟩⟩⟩ ?_
              exact tX12_call_329 hko (hk87) q8.1 q8.2 x1 x2 x3 x4 (I 199 ((4 * ((12 * (I 186 32)) + x1)) + x4).toNatClampNeg) q7.1 q5 hF _ hm
            · have hm := it_p c_254 hm
              refine e_weak [.ref 186, .int x1, .int x2, .int x3, .int x4, .int (I 199 ((4 * ((12 * (I 186 32)) + x1)) + x4).toNatClampNeg), .null, .int q5] ⟨rfl, ⟨rfl, ⟨rfl, ⟨rfl, ⟨rfl, ⟨rfl, ⟨trivial, ⟨rfl, trivial⟩⟩⟩⟩⟩⟩⟩⟩ ?_
              exact tX12_call_257 hko I J x1 x2 x3 x4 (I 199 ((4 * ((12 * (I 186 32)) + x1)) + x4).toNatClampNeg) q5 hF _ hm
        · have hm := it_p c_217 hm
          refine e_weak [.ref 186, .int x1, .int x2, .int x3, .int x4, .int (I 199 ((4 * ((12 * (I 186 32)) + x1)) + x4).toNatClampNeg), .null, .int q5] ⟨rfl, ⟨rfl, ⟨rfl, ⟨rfl, ⟨rfl, ⟨rfl, ⟨trivial, ⟨rfl, trivial⟩⟩⟩⟩⟩⟩⟩⟩ ?_
          exact tX12_call_220 hko I J x1 x2 x3 x4 (I 199 ((4 * ((12 * (I 186 32)) + x1)) + x4).toNatClampNeg) q5 hF _ hm
    · have hm := it_n c_181 hm
      refine e_aload_n (i := 0) rfl dX12_call_184 ?_
      refine e_iconst (v := 1) (by decide) dX12_call_185 ?_
      refine e_aload_n (i := 0) rfl dX12_call_186 ?_
      refine l_getI 12 4 dX12_call_187 fl_RX12_207 rfl iz_186 (by decide) ?_
      obtain ⟨q9, eq9, hm⟩ := ob_some hm
      refine e_cV2 hko dX12_call_190 ml_RX12_232 iz_186 (by decide) rfl (by omega) (Nat.le_of_ble_eq_true rfl) (tX12_bad hko I J F hF 1 (I 186 4) _ eq9) ?_
      rintro _ _ ⟨rfl, rfl⟩
      obtain ⟨c_193, hm⟩ := gd_s hm
      refine e_zret dX12_call_193 rfl (zz_nar c_193) ?_
      have hm := some_in hm
      subst hm
      exact ⟨rfl, rfl⟩
set_option maxRecDepth 100000 in
set_option maxHeartbeats 4000000 in
theorem tX12_call_387 {l : Launch} {K : a_KT} {g : a_GT} {IA : iT} (hko : a_kok K) {F : fT} (I : iT) (J : jT) (x1 : Int32) (x2 : Int32) (x3 : Int32) (x4 : Int32) (hF : FOK F) (q : Int32 × iT × jT) (hm : mX12_call_387 I J x1 x2 x3 x4 = some q) : E l K g 456 0 0 yX12_call cX12_call 8 (some .boolean) 387 [.ref 186, .int x1, .int x2, .int x3, .int x4, .null, .null, .null] [] (hg IA I J F) (fun r2 h2 => r2 = some (.int q.1) ∧ h2 = hg IA q.2.1 q.2.2 F) := by
  unfold mX12_call_387 at hm
  refine e_aload_n (i := 0) rfl dX12_call_387 ?_
  refine e_bipush (v := 41) (by decide) dX12_call_388 ?_
  obtain ⟨q10, eq10, hm⟩ := ob_some hm
  refine e_cV1 hko dX12_call_390 ml_RX12_278 iz_186 (by decide) rfl (by omega) (Nat.le_of_ble_eq_true rfl) (tX12_need hko I J F hF 41 _ eq10) ?_
  rintro _ _ ⟨rfl, rfl⟩
  obtain ⟨c_393, hm⟩ := gd_s hm
  refine e_zret dX12_call_393 rfl (zz_nar c_393) ?_
  have hm := some_in hm
  subst hm
  exact ⟨rfl, rfl⟩
set_option maxRecDepth 100000 in
set_option maxHeartbeats 4000000 in
theorem tX12_call_87 {l : Launch} {K : a_KT} {g : a_GT} {IA : iT} (hko : a_kok K) {F : fT} : ∀ (n : Nat) (I : iT) (J : jT) (x1 : Int32) (x2 : Int32) (x3 : Int32) (x4 : Int32) (hF : FOK F) (q : Int32 × iT × jT), mX12_call_87 n I J x1 x2 x3 x4 = some q → E l K g 456 0 0 yX12_call cX12_call 8 (some .boolean) 87 [.ref 186, .int x1, .int x2, .int x3, .int x4, .null, .null, .null] [] (hg IA I J F) (fun r2 h2 => r2 = some (.int q.1) ∧ h2 = hg IA q.2.1 q.2.2 F) := by
  intro n
  induction n with
  | zero => intro I J x1 x2 x3 x4 hF q hm; cases hm
  | succ n ih =>
    intro I J x1 x2 x3 x4 hF q hm
    rw [mX12_call_87] at hm
    refine e_iload (i := 4) rfl dX12_call_87 ?_
    refine e_iload_n (i := 2) rfl dX12_call_89 ?_
    refine e_icmp_ge 363 dX12_call_90 (by decide) (fun c_90 => ?_) (fun c_90 => ?_)
    · have hm := it_p c_90 hm
      refine e_iload_n (i := 2) rfl dX12_call_363 ?_
      refine e_if_le 387 dX12_call_364 (by decide) (fun c_364 => ?_) (fun c_364 => ?_)
      · have hm := it_p c_364 hm
        refine e_weak [.ref 186, .int x1, .int x2, .int x3, .int x4, .null, .null, .null] ⟨rfl, ⟨rfl, ⟨rfl, ⟨rfl, ⟨rfl, ⟨trivial, ⟨trivial, ⟨trivial, trivial⟩⟩⟩⟩⟩⟩⟩⟩ ?_
        exact tX12_call_387 hko I J x1 x2 x3 x4 hF _ hm
      · have hm := it_n c_364 hm
        refine e_aload_n (i := 0) rfl dX12_call_367 ?_
        refine e_bipush (v := 44) (by decide) dX12_call_368 ?_
        obtain ⟨q11, eq11, hm⟩ := ob_some hm
        refine e_cV1 hko dX12_call_370 ml_RX12_229 iz_186 (by decide) rfl (by omega) (Nat.le_of_ble_eq_true rfl) (tX12_isSign hko I J F hF 44 _ eq11) ?_
        rintro _ _ ⟨rfl, rfl⟩
        refine e_if_eq 387 dX12_call_373 (by decide) (fun c_373 => ?_) (fun c_373 => ?_)
        · have hm := it_p c_373 hm
          refine e_weak [.ref 186, .int x1, .int x2, .int x3, .int x4, .null, .null, .null] ⟨rfl, ⟨rfl, ⟨rfl, ⟨rfl, ⟨rfl, ⟨trivial, ⟨trivial, ⟨trivial, trivial⟩⟩⟩⟩⟩⟩⟩⟩ ?_
          exact tX12_call_387 hko I J x1 x2 x3 x4 hF _ hm
        · have hm := it_n c_373 hm
          refine e_aload_n (i := 0) rfl dX12_call_376 ?_
          refine e_bipush (v := 6) (by decide) dX12_call_377 ?_
          refine e_aload_n (i := 0) rfl dX12_call_379 ?_
          refine l_getI 12 4 dX12_call_380 fl_RX12_207 rfl iz_186 (by decide) ?_
          obtain ⟨q12, eq12, hm⟩ := ob_some hm
          refine e_cV2 hko dX12_call_383 ml_RX12_232 iz_186 (by decide) rfl (by omega) (Nat.le_of_ble_eq_true rfl) (tX12_bad hko I J F hF 6 (I 186 4) _ eq12) ?_
          rintro _ _ ⟨rfl, rfl⟩
          obtain ⟨c_386, hm⟩ := gd_s hm
          refine e_zret dX12_call_386 rfl (zz_nar c_386) ?_
          have hm := some_in hm
          subst hm
          exact ⟨rfl, rfl⟩
    · have hm := it_n c_90 hm
      refine e_iload (i := 4) rfl dX12_call_93 ?_
      refine e_if_le 129 dX12_call_95 (by decide) (fun c_95 => ?_) (fun c_95 => ?_)
      · have hm := it_p c_95 hm
        refine e_aload_n (i := 0) rfl dX12_call_129 ?_
        refine e_bipush (v := 41) (by decide) dX12_call_130 ?_
        obtain ⟨q13, eq13, hm⟩ := ob_some hm
        refine e_cV1 hko dX12_call_132 ml_RX12_229 iz_186 (by decide) rfl (by omega) (Nat.le_of_ble_eq_true rfl) (tX12_isSign hko I J F hF 41 _ eq13) ?_
        rintro _ _ ⟨rfl, rfl⟩
        refine e_if_eq 149 dX12_call_135 (by decide) (fun c_135 => ?_) (fun c_135 => ?_)
        · have hm := it_p c_135 hm
          refine e_weak [.ref 186, .int x1, .int x2, .int x3, .int x4, .null, .null, .null] ⟨rfl, ⟨rfl, ⟨rfl, ⟨rfl, ⟨rfl, ⟨trivial, ⟨trivial, ⟨trivial, trivial⟩⟩⟩⟩⟩⟩⟩⟩ ?_
          exact tX12_call_149 hko (ih) I J x1 x2 x3 x4 hF _ hm
        · have hm := it_n c_135 hm
          refine e_aload_n (i := 0) rfl dX12_call_138 ?_
          refine e_bipush (v := 6) (by decide) dX12_call_139 ?_
          refine e_aload_n (i := 0) rfl dX12_call_141 ?_
          refine l_getI 12 4 dX12_call_142 fl_RX12_207 rfl iz_186 (by decide) ?_
          obtain ⟨q14, eq14, hm⟩ := ob_some hm
          refine e_cV2 hko dX12_call_145 ml_RX12_232 iz_186 (by decide) rfl (by omega) (Nat.le_of_ble_eq_true rfl) (tX12_bad hko I J F hF 6 (I 186 4) _ eq14) ?_
          rintro _ _ ⟨rfl, rfl⟩
          obtain ⟨c_148, hm⟩ := gd_s hm
          refine e_zret dX12_call_148 rfl (zz_nar c_148) ?_
          have hm := some_in hm
          subst hm
          exact ⟨rfl, rfl⟩
      · have hm := it_n c_95 hm
        refine e_aload_n (i := 0) rfl dX12_call_98 ?_
        refine e_bipush (v := 41) (by decide) dX12_call_99 ?_
        obtain ⟨q15, eq15, hm⟩ := ob_some hm
        refine e_cV1 hko dX12_call_101 ml_RX12_229 iz_186 (by decide) rfl (by omega) (Nat.le_of_ble_eq_true rfl) (tX12_isSign hko I J F hF 41 _ eq15) ?_
        rintro _ _ ⟨rfl, rfl⟩
        refine e_if_eq 118 dX12_call_104 (by decide) (fun c_104 => ?_) (fun c_104 => ?_)
        · have hm := it_p c_104 hm
          refine e_aload_n (i := 0) rfl dX12_call_118 ?_
          refine e_bipush (v := 44) (by decide) dX12_call_119 ?_
          obtain ⟨q16, eq16, hm⟩ := ob_some hm
          refine e_cV1 hko dX12_call_121 ml_RX12_278 iz_186 (by decide) rfl (by omega) (Nat.le_of_ble_eq_true rfl) (tX12_need hko I J F hF 44 _ eq16) ?_
          rintro _ _ ⟨rfl, rfl⟩
          refine e_if_ne 149 dX12_call_124 (by decide) (fun c_124 => ?_) (fun c_124 => ?_)
          · have hm := it_n c_124 hm
            refine e_weak [.ref 186, .int x1, .int x2, .int x3, .int x4, .null, .null, .null] ⟨rfl, ⟨rfl, ⟨rfl, ⟨rfl, ⟨rfl, ⟨trivial, ⟨trivial, ⟨trivial, trivial⟩⟩⟩⟩⟩⟩⟩⟩ ?_
            exact tX12_call_149 hko (ih) q16.2.1 q16.2.2 x1 x2 x3 x4 hF _ hm
          · have hm := it_p c_124 hm
            refine e_iconst (v := 0) (by decide) dX12_call_127 ?_
            refine e_zret dX12_call_128 rfl rfl ?_
            have hm := some_in hm
            subst hm
            exact ⟨rfl, rfl⟩
        · have hm := it_n c_104 hm
          refine e_aload_n (i := 0) rfl dX12_call_107 ?_
          refine e_bipush (v := 6) (by decide) dX12_call_108 ?_
          refine e_aload_n (i := 0) rfl dX12_call_110 ?_
          refine l_getI 12 4 dX12_call_111 fl_RX12_207 rfl iz_186 (by decide) ?_
          obtain ⟨q17, eq17, hm⟩ := ob_some hm
          refine e_cV2 hko dX12_call_114 ml_RX12_232 iz_186 (by decide) rfl (by omega) (Nat.le_of_ble_eq_true rfl) (tX12_bad hko I J F hF 6 (I 186 4) _ eq17) ?_
          rintro _ _ ⟨rfl, rfl⟩
          obtain ⟨c_117, hm⟩ := gd_s hm
          refine e_zret dX12_call_117 rfl (zz_nar c_117) ?_
          have hm := some_in hm
          subst hm
          exact ⟨rfl, rfl⟩
set_option maxRecDepth 100000 in
set_option maxHeartbeats 4000000 in
theorem tX12_call {l : Launch} {K : a_KT} {g : a_GT} {IA : iT} (hko : a_kok K) (I : iT) (J : jT) (F : fT) (hF : FOK F) (q : Int32 × iT × jT) (hm : mX12_call I J = some q) : C l K g 456 0 0 yX12_call cX12_call 8 (some .boolean) [.ref 186] (hg IA I J F) (fun r2 h2 => r2 = some (.int q.1) ∧ h2 = hg IA q.2.1 q.2.2 F) := by
  unfold mX12_call at hm
  refine c_of [.ref 186, .null, .null, .null, .null, .null, .null, .null] (by decide) (Nat.le_of_ble_eq_true rfl) rfl ?_
  refine e_aload_n (i := 0) rfl dX12_call_0 ?_
  refine l_getI 12 3 dX12_call_1 fl_RX12_210 rfl iz_186 (by decide) ?_
  refine e_iconst (v := 2) (by decide) dX12_call_4 ?_
  refine e_icmp_eq 18 dX12_call_5 (by decide) (fun c_5 => ?_) (fun c_5 => ?_)
  · have hm := it_p c_5 hm
    refine e_aload_n (i := 0) rfl dX12_call_18 ?_
    refine e_aload_n (i := 0) rfl dX12_call_19 ?_
    refine q_getJ 12 6 dX12_call_20 fl_RX12_162 rfl iz_186 ?_
    obtain ⟨q18, eq18, hm⟩ := ob_some hm
    refine e_cV1 hko dX12_call_23 ml_RX12_365 iz_186 (by decide) rfl (by omega) (Nat.le_of_ble_eq_true rfl) (tX12_findDef hko I J F hF (J 186 6) _ eq18) ?_
    rintro _ _ ⟨rfl, rfl⟩
    refine q_istore_n (i := 1) (by decide) rfl dX12_call_26 ?_
    refine e_iload_n (i := 1) rfl dX12_call_27 ?_
    refine e_iconst (v := (-1)) (by decide) dX12_call_28 ?_
    refine e_icmp_ne 42 dX12_call_29 (by decide) (fun c_29 => ?_) (fun c_29 => ?_)
    · have hm := it_n c_29 hm
      refine e_aload_n (i := 0) rfl dX12_call_42 ?_
      refine e_iload_n (i := 1) rfl dX12_call_43 ?_
      refine l_putI 12 46 dX12_call_44 fl_RX12_368 rfl rfl iz_186 (by decide) ?_
      refine e_aload_n (i := 0) rfl dX12_call_47 ?_
      obtain ⟨q19, eq19, hm⟩ := ob_some hm
      refine e_cV0 hko dX12_call_48 ml_RX12_236 iz_186 (by decide) rfl (by omega) (Nat.le_of_ble_eq_true rfl) (tX12_look0 hko (a_u2 I 186 46 q18) J F hF _ eq19) ?_
      rintro _ _ ⟨rfl, rfl⟩
      refine e_aload_n (i := 0) rfl dX12_call_51 ?_
      refine e_bipush (v := 40) (by decide) dX12_call_52 ?_
      obtain ⟨q20, eq20, hm⟩ := ob_some hm
      refine e_cV1 hko dX12_call_54 ml_RX12_278 iz_186 (by decide) rfl (by omega) (Nat.le_of_ble_eq_true rfl) (tX12_need hko q19.1 q19.2 F hF 40 _ eq20) ?_
      rintro _ _ ⟨rfl, rfl⟩
      refine e_if_ne 62 dX12_call_57 (by decide) (fun c_57 => ?_) (fun c_57 => ?_)
      · have hm := it_n c_57 hm
        refine e_aload_n (i := 0) rfl dX12_call_62 ?_
        refine q_getF 12 23 198 dX12_call_63 fl_RX12_48 rfl iz_186 (fr_186_23 hF) ?_
        refine e_bipush (v := 12) (by decide) dX12_call_66 ?_
        refine e_aload_n (i := 0) rfl dX12_call_68 ?_
        refine l_getI 12 32 dX12_call_69 fl_RX12_251 rfl iz_186 (by decide) ?_
        refine e_imul dX12_call_72 ?_
        refine e_iload_n (i := 1) rfl dX12_call_73 ?_
        refine e_iadd dX12_call_74 ?_
        obtain ⟨c_75, hm⟩ := gd_s hm
        refine l_iald dX12_call_75 iz_198 (inb_in ln_198 c_75) (by decide) ?_
        refine q_istore_n (i := 2) (by decide) rfl dX12_call_76 ?_
        refine e_iconst (v := (-1)) (by decide) dX12_call_77 ?_
        refine q_istore_n (i := 3) (by decide) rfl dX12_call_78 ?_
        refine e_aload_n (i := 0) rfl dX12_call_79 ?_
        refine e_iconst (v := (-1)) (by decide) dX12_call_80 ?_
        refine l_putI 12 50 dX12_call_81 fl_RX12_371 rfl rfl iz_186 (by decide) ?_
        refine e_iconst (v := 0) (by decide) dX12_call_84 ?_
        refine q_istore (i := 4) (by decide) rfl dX12_call_85 ?_
        refine e_weak [.ref 186, .int q18, .int (q20.2.1 198 ((12 * (q20.2.1 186 32)) + q18).toNatClampNeg), .int ((-1)), .int 0, .null, .null, .null] ⟨rfl, ⟨rfl, ⟨rfl, ⟨rfl, ⟨rfl, ⟨trivial, ⟨trivial, ⟨trivial, trivial⟩⟩⟩⟩⟩⟩⟩⟩ ?_
        exact tX12_call_87 hko LF (a_u2 q20.2.1 186 50 ((-1))) q20.2.2 q18 (q20.2.1 198 ((12 * (q20.2.1 186 32)) + q18).toNatClampNeg) ((-1)) 0 hF _ hm
      · have hm := it_p c_57 hm
        refine e_iconst (v := 0) (by decide) dX12_call_60 ?_
        refine e_zret dX12_call_61 rfl rfl ?_
        have hm := some_in hm
        subst hm
        exact ⟨rfl, rfl⟩
    · have hm := it_p c_29 hm
      refine e_aload_n (i := 0) rfl dX12_call_32 ?_
      refine e_iconst (v := 2) (by decide) dX12_call_33 ?_
      refine e_aload_n (i := 0) rfl dX12_call_34 ?_
      refine l_getI 12 4 dX12_call_35 fl_RX12_207 rfl iz_186 (by decide) ?_
      obtain ⟨q21, eq21, hm⟩ := ob_some hm
      refine e_cV2 hko dX12_call_38 ml_RX12_232 iz_186 (by decide) rfl (by omega) (Nat.le_of_ble_eq_true rfl) (tX12_bad hko I J F hF 2 (I 186 4) _ eq21) ?_
      rintro _ _ ⟨rfl, rfl⟩
      obtain ⟨c_41, hm⟩ := gd_s hm
      refine e_zret dX12_call_41 rfl (zz_nar c_41) ?_
      have hm := some_in hm
      subst hm
      exact ⟨rfl, rfl⟩
  · have hm := it_n c_5 hm
    refine e_aload_n (i := 0) rfl dX12_call_8 ?_
    refine e_iconst (v := 1) (by decide) dX12_call_9 ?_
    refine e_aload_n (i := 0) rfl dX12_call_10 ?_
    refine l_getI 12 4 dX12_call_11 fl_RX12_207 rfl iz_186 (by decide) ?_
    obtain ⟨q22, eq22, hm⟩ := ob_some hm
    refine e_cV2 hko dX12_call_14 ml_RX12_232 iz_186 (by decide) rfl (by omega) (Nat.le_of_ble_eq_true rfl) (tX12_bad hko I J F hF 1 (I 186 4) _ eq22) ?_
    rintro _ _ ⟨rfl, rfl⟩
    obtain ⟨c_17, hm⟩ := gd_s hm
    refine e_zret dX12_call_17 rfl (zz_nar c_17) ?_
    have hm := some_in hm
    subst hm
    exact ⟨rfl, rfl⟩
theorem dX12_given_0 : decode cX12_given 0 = .ok (.iconst 0, 1) := by decide +kernel
theorem dX12_given_1 : decode cX12_given 1 = .ok (.istore_n 1, 1) := by decide +kernel
theorem dX12_given_2 : decode cX12_given 2 = .ok (.iconst 0, 1) := by decide +kernel
theorem dX12_given_3 : decode cX12_given 3 = .ok (.istore_n 2, 1) := by decide +kernel
theorem dX12_given_4 : decode cX12_given 4 = .ok (.iload_n 2, 1) := by decide +kernel
theorem dX12_given_5 : decode cX12_given 5 = .ok (.aload_n 0, 1) := by decide +kernel
theorem dX12_given_6 : decode cX12_given 6 = .ok (.getfield 292, 3) := by decide +kernel
theorem dX12_given_9 : decode cX12_given 9 = .ok (.if_icmp .ge 36, 3) := by decide +kernel
theorem dX12_given_12 : decode cX12_given 12 = .ok (.aload_n 0, 1) := by decide +kernel
theorem dX12_given_13 : decode cX12_given 13 = .ok (.getfield 72, 3) := by decide +kernel
theorem dX12_given_16 : decode cX12_given 16 = .ok (.iload_n 2, 1) := by decide +kernel
theorem dX12_given_17 : decode cX12_given 17 = .ok (.laload, 1) := by decide +kernel
theorem dX12_given_18 : decode cX12_given 18 = .ok (.lconst 0, 1) := by decide +kernel
theorem dX12_given_19 : decode cX12_given 19 = .ok (.lcmp, 1) := by decide +kernel
theorem dX12_given_20 : decode cX12_given 20 = .ok (.ifCond .eq 17, 3) := by decide +kernel
theorem dX12_given_23 : decode cX12_given 23 = .ok (.aload_n 0, 1) := by decide +kernel
theorem dX12_given_24 : decode cX12_given 24 = .ok (.getfield 78, 3) := by decide +kernel
theorem dX12_given_27 : decode cX12_given 27 = .ok (.iload_n 2, 1) := by decide +kernel
theorem dX12_given_28 : decode cX12_given 28 = .ok (.iaload, 1) := by decide +kernel
theorem dX12_given_29 : decode cX12_given 29 = .ok (.iconst 1, 1) := by decide +kernel
theorem dX12_given_30 : decode cX12_given 30 = .ok (.if_icmp .ne 7, 3) := by decide +kernel
theorem dX12_given_33 : decode cX12_given 33 = .ok (.iload_n 2, 1) := by decide +kernel
theorem dX12_given_34 : decode cX12_given 34 = .ok (.goto 4, 3) := by decide +kernel
theorem dX12_given_37 : decode cX12_given 37 = .ok (.iload_n 1, 1) := by decide +kernel
theorem dX12_given_38 : decode cX12_given 38 = .ok (.istore_n 1, 1) := by decide +kernel
theorem dX12_given_39 : decode cX12_given 39 = .ok (.iinc 2 1, 3) := by decide +kernel
theorem dX12_given_42 : decode cX12_given 42 = .ok (.goto (-38), 3) := by decide +kernel
theorem dX12_given_45 : decode cX12_given 45 = .ok (.iload_n 1, 1) := by decide +kernel
theorem dX12_given_46 : decode cX12_given 46 = .ok (.ireturn, 1) := by decide +kernel
def mX12_given_38 (k4 : iT → jT → Int32 → Int32 → Option (Int32)) (I : iT) (J : jT) (x1 : Int32) (x2 : Int32) (s0 : Int32) : Option (Int32) := k4 I J s0 (x2 + 1)
def mX12_given_37 (k4 : iT → jT → Int32 → Int32 → Option (Int32)) (I : iT) (J : jT) (x1 : Int32) (x2 : Int32) : Option (Int32) := mX12_given_38 (k4) I J x1 x2 x1
def mX12_given_4 : Nat → iT → jT → Int32 → Int32 → Option (Int32)
  | 0, _, _, _, _ => none
  | n + 1, I, J, x1, x2 => if (I 186 43) ≤ x2 then some x1 else if inb x2 128 then if (lg_cmp (J 206 x2.toNatClampNeg) 0) = 0 then mX12_given_37 (mX12_given_4 n) I J x1 x2 else if inb x2 128 then if (I 208 x2.toNatClampNeg) = 1 then mX12_given_38 (mX12_given_4 n) I J x1 x2 x2 else mX12_given_37 (mX12_given_4 n) I J x1 x2 else none else none
def mX12_given (I : iT) (J : jT) : Option (Int32) := mX12_given_4 LF I J 0 0
set_option maxRecDepth 100000 in
set_option maxHeartbeats 4000000 in
theorem tX12_given_38 {l : Launch} {K : a_KT} {g : a_GT} {IA : iT} (hko : a_kok K) {F : fT} {k4 : iT → jT → Int32 → Int32 → Option (Int32)} (hk4 : ∀ (I : iT) (J : jT) (x1 : Int32) (x2 : Int32) (_ : FOK F) (q : Int32), k4 I J x1 x2 = some q → E l K g 0 0 0 yX12_given cX12_given 3 (some .int) 4 [.ref 186, .int x1, .int x2] [] (hg IA I J F) (fun r2 h2 => r2 = some (.int q) ∧ h2 = hg IA I J F)) (I : iT) (J : jT) (x1 : Int32) (x2 : Int32) (s0 : Int32) (hF : FOK F) (q : Int32) (hm : mX12_given_38 k4 I J x1 x2 s0 = some q) : E l K g 0 0 0 yX12_given cX12_given 3 (some .int) 38 [.ref 186, .int x1, .int x2] [.int s0] (hg IA I J F) (fun r2 h2 => r2 = some (.int q) ∧ h2 = hg IA I J F) := by
  unfold mX12_given_38 at hm
  refine q_istore_n (i := 1) (by decide) rfl dX12_given_38 ?_
  refine q_iinc (i := 2) (x2 + 1) rfl ic_1 rfl dX12_given_39 ?_
  refine e_goto 4 dX12_given_42 (by decide) ?_
  refine e_weak [.ref 186, .int s0, .int (x2 + 1)] ⟨rfl, ⟨rfl, ⟨rfl, trivial⟩⟩⟩ ?_
  exact hk4 I J s0 (x2 + 1) hF _ hm
set_option maxRecDepth 100000 in
set_option maxHeartbeats 4000000 in
theorem tX12_given_37 {l : Launch} {K : a_KT} {g : a_GT} {IA : iT} (hko : a_kok K) {F : fT} {k4 : iT → jT → Int32 → Int32 → Option (Int32)} (hk4 : ∀ (I : iT) (J : jT) (x1 : Int32) (x2 : Int32) (_ : FOK F) (q : Int32), k4 I J x1 x2 = some q → E l K g 0 0 0 yX12_given cX12_given 3 (some .int) 4 [.ref 186, .int x1, .int x2] [] (hg IA I J F) (fun r2 h2 => r2 = some (.int q) ∧ h2 = hg IA I J F)) (I : iT) (J : jT) (x1 : Int32) (x2 : Int32) (hF : FOK F) (q : Int32) (hm : mX12_given_37 k4 I J x1 x2 = some q) : E l K g 0 0 0 yX12_given cX12_given 3 (some .int) 37 [.ref 186, .int x1, .int x2] [] (hg IA I J F) (fun r2 h2 => r2 = some (.int q) ∧ h2 = hg IA I J F) := by
  unfold mX12_given_37 at hm
  refine e_iload_n (i := 1) rfl dX12_given_37 ?_
  refine e_weak [.ref 186, .int x1, .int x2] ⟨rfl, ⟨rfl, ⟨rfl, trivial⟩⟩⟩ ?_
  exact tX12_given_38 hko (hk4) I J x1 x2 x1 hF _ hm
set_option maxRecDepth 100000 in
set_option maxHeartbeats 4000000 in
theorem tX12_given_4 {l : Launch} {K : a_KT} {g : a_GT} {IA : iT} (hko : a_kok K) {F : fT} : ∀ (n : Nat) (I : iT) (J : jT) (x1 : Int32) (x2 : Int32) (hF : FOK F) (q : Int32), mX12_given_4 n I J x1 x2 = some q → E l K g 0 0 0 yX12_given cX12_given 3 (some .int) 4 [.ref 186, .int x1, .int x2] [] (hg IA I J F) (fun r2 h2 => r2 = some (.int q) ∧ h2 = hg IA I J F) := by
  intro n
  induction n with
  | zero => intro I J x1 x2 hF q hm; cases hm
  | succ n ih =>
    intro I J x1 x2 hF q hm
    rw [mX12_given_4] at hm
    refine e_iload_n (i := 2) rfl dX12_given_4 ?_
    refine e_aload_n (i := 0) rfl dX12_given_5 ?_
    refine l_getI 12 43 dX12_given_6 fl_RX12_292 rfl iz_186 (by decide) ?_
    refine e_icmp_ge 45 dX12_given_9 (by decide) (fun c_9 => ?_) (fun c_9 => ?_)
    · have hm := it_p c_9 hm
      refine e_iload_n (i := 1) rfl dX12_given_45 ?_
      refine e_iret dX12_given_46 rfl ?_
      have hm := some_in hm
      subst hm
      exact ⟨rfl, rfl⟩
    · have hm := it_n c_9 hm
      refine e_aload_n (i := 0) rfl dX12_given_12 ?_
      refine q_getF 12 37 206 dX12_given_13 fl_RX12_72 rfl iz_186 (fr_186_37 hF) ?_
      refine e_iload_n (i := 2) rfl dX12_given_16 ?_
      obtain ⟨c_17, hm⟩ := gd_s hm
      refine q_lald dX12_given_17 iz_206 (inb_in ln_206 c_17) ?_
      refine e_lconst (v := 0) (by decide) dX12_given_18 ?_
      refine e_lcmp dX12_given_19 ?_
      refine e_if_eq 37 dX12_given_20 (by decide) (fun c_20 => ?_) (fun c_20 => ?_)
      · have hm := it_p c_20 hm
        refine e_weak [.ref 186, .int x1, .int x2] ⟨rfl, ⟨rfl, ⟨rfl, trivial⟩⟩⟩ ?_
        exact tX12_given_37 hko (ih) I J x1 x2 hF _ hm
      · have hm := it_n c_20 hm
        refine e_aload_n (i := 0) rfl dX12_given_23 ?_
        refine q_getF 12 39 208 dX12_given_24 fl_RX12_78 rfl iz_186 (fr_186_39 hF) ?_
        refine e_iload_n (i := 2) rfl dX12_given_27 ?_
        obtain ⟨c_28, hm⟩ := gd_s hm
        refine l_iald dX12_given_28 iz_208 (inb_in ln_208 c_28) (by decide) ?_
        refine e_iconst (v := 1) (by decide) dX12_given_29 ?_
        refine e_icmp_ne 37 dX12_given_30 (by decide) (fun c_30 => ?_) (fun c_30 => ?_)
        · have hm := it_n c_30 hm
          refine e_weak [.ref 186, .int x1, .int x2] ⟨rfl, ⟨rfl, ⟨rfl, trivial⟩⟩⟩ ?_
          exact tX12_given_37 hko (ih) I J x1 x2 hF _ hm
        · have hm := it_p c_30 hm
          refine e_iload_n (i := 2) rfl dX12_given_33 ?_
          refine e_goto 38 dX12_given_34 (by decide) ?_
          refine e_weak [.ref 186, .int x1, .int x2] ⟨rfl, ⟨rfl, ⟨rfl, trivial⟩⟩⟩ ?_
          exact tX12_given_38 hko (ih) I J x1 x2 x2 hF _ hm
set_option maxRecDepth 100000 in
set_option maxHeartbeats 4000000 in
theorem tX12_given {l : Launch} {K : a_KT} {g : a_GT} {IA : iT} (hko : a_kok K) (I : iT) (J : jT) (F : fT) (hF : FOK F) (q : Int32) (hm : mX12_given I J = some q) : C l K g 0 0 0 yX12_given cX12_given 3 (some .int) [.ref 186] (hg IA I J F) (fun r2 h2 => r2 = some (.int q) ∧ h2 = hg IA I J F) := by
  unfold mX12_given at hm
  refine c_of [.ref 186, .null, .null] (by decide) (Nat.le_of_ble_eq_true rfl) rfl ?_
  refine e_iconst (v := 0) (by decide) dX12_given_0 ?_
  refine q_istore_n (i := 1) (by decide) rfl dX12_given_1 ?_
  refine e_iconst (v := 0) (by decide) dX12_given_2 ?_
  refine q_istore_n (i := 2) (by decide) rfl dX12_given_3 ?_
  refine e_weak [.ref 186, .int 0, .int 0] ⟨rfl, ⟨rfl, ⟨rfl, trivial⟩⟩⟩ ?_
  exact tX12_given_4 hko LF I J 0 0 hF _ hm
theorem dX12_goes_0 : decode cX12_goes 0 = .ok (.aload_n 0, 1) := by decide +kernel
theorem dX12_goes_1 : decode cX12_goes 1 = .ok (.invokevirtual 374, 3) := by decide +kernel
theorem dX12_goes_4 : decode cX12_goes 4 = .ok (.ifCond .ne 5, 3) := by decide +kernel
theorem dX12_goes_7 : decode cX12_goes 7 = .ok (.iconst 0, 1) := by decide +kernel
theorem dX12_goes_8 : decode cX12_goes 8 = .ok (.ireturn, 1) := by decide +kernel
theorem dX12_goes_9 : decode cX12_goes 9 = .ok (.aload_n 0, 1) := by decide +kernel
theorem dX12_goes_10 : decode cX12_goes 10 = .ok (.aload_n 0, 1) := by decide +kernel
theorem dX12_goes_11 : decode cX12_goes 11 = .ok (.getfield 54, 3) := by decide +kernel
theorem dX12_goes_14 : decode cX12_goes 14 = .ok (.bipush 12, 2) := by decide +kernel
theorem dX12_goes_16 : decode cX12_goes 16 = .ok (.aload_n 0, 1) := by decide +kernel
theorem dX12_goes_17 : decode cX12_goes 17 = .ok (.getfield 251, 3) := by decide +kernel
theorem dX12_goes_20 : decode cX12_goes 20 = .ok (.imul, 1) := by decide +kernel
theorem dX12_goes_21 : decode cX12_goes 21 = .ok (.aload_n 0, 1) := by decide +kernel
theorem dX12_goes_22 : decode cX12_goes 22 = .ok (.getfield 368, 3) := by decide +kernel
theorem dX12_goes_25 : decode cX12_goes 25 = .ok (.iadd, 1) := by decide +kernel
theorem dX12_goes_26 : decode cX12_goes 26 = .ok (.iaload, 1) := by decide +kernel
theorem dX12_goes_27 : decode cX12_goes 27 = .ok (.aload_n 0, 1) := by decide +kernel
theorem dX12_goes_28 : decode cX12_goes 28 = .ok (.getfield 81, 3) := by decide +kernel
theorem dX12_goes_31 : decode cX12_goes 31 = .ok (.aload_n 0, 1) := by decide +kernel
theorem dX12_goes_32 : decode cX12_goes 32 = .ok (.invokevirtual 377, 3) := by decide +kernel
theorem dX12_goes_35 : decode cX12_goes 35 = .ok (.iaload, 1) := by decide +kernel
theorem dX12_goes_36 : decode cX12_goes 36 = .ok (.invokevirtual 289, 3) := by decide +kernel
theorem dX12_goes_39 : decode cX12_goes 39 = .ok (.ifCond .ne 10, 3) := by decide +kernel
theorem dX12_goes_42 : decode cX12_goes 42 = .ok (.aload_n 0, 1) := by decide +kernel
theorem dX12_goes_43 : decode cX12_goes 43 = .ok (.iconst 3, 1) := by decide +kernel
theorem dX12_goes_44 : decode cX12_goes 44 = .ok (.iload_n 1, 1) := by decide +kernel
theorem dX12_goes_45 : decode cX12_goes 45 = .ok (.invokevirtual 232, 3) := by decide +kernel
theorem dX12_goes_48 : decode cX12_goes 48 = .ok (.ireturn, 1) := by decide +kernel
theorem dX12_goes_49 : decode cX12_goes 49 = .ok (.aload_n 0, 1) := by decide +kernel
theorem dX12_goes_50 : decode cX12_goes 50 = .ok (.invokevirtual 322, 3) := by decide +kernel
theorem dX12_goes_53 : decode cX12_goes 53 = .ok (.ifCond .eq 10, 3) := by decide +kernel
theorem dX12_goes_56 : decode cX12_goes 56 = .ok (.aload_n 0, 1) := by decide +kernel
theorem dX12_goes_57 : decode cX12_goes 57 = .ok (.iconst 4, 1) := by decide +kernel
theorem dX12_goes_58 : decode cX12_goes 58 = .ok (.iload_n 1, 1) := by decide +kernel
theorem dX12_goes_59 : decode cX12_goes 59 = .ok (.invokevirtual 232, 3) := by decide +kernel
theorem dX12_goes_62 : decode cX12_goes 62 = .ok (.ireturn, 1) := by decide +kernel
theorem dX12_goes_63 : decode cX12_goes 63 = .ok (.aload_n 0, 1) := by decide +kernel
theorem dX12_goes_64 : decode cX12_goes 64 = .ok (.aload_n 0, 1) := by decide +kernel
theorem dX12_goes_65 : decode cX12_goes 65 = .ok (.bipush 49, 2) := by decide +kernel
theorem dX12_goes_67 : decode cX12_goes 67 = .ok (.aload_n 0, 1) := by decide +kernel
theorem dX12_goes_68 : decode cX12_goes 68 = .ok (.getfield 368, 3) := by decide +kernel
theorem dX12_goes_71 : decode cX12_goes 71 = .ok (.aload_n 0, 1) := by decide +kernel
theorem dX12_goes_72 : decode cX12_goes 72 = .ok (.getfield 371, 3) := by decide +kernel
theorem dX12_goes_75 : decode cX12_goes 75 = .ok (.lconst 0, 1) := by decide +kernel
theorem dX12_goes_76 : decode cX12_goes 76 = .ok (.invokevirtual 264, 3) := by decide +kernel
theorem dX12_goes_79 : decode cX12_goes 79 = .ok (.putfield 331, 3) := by decide +kernel
theorem dX12_goes_82 : decode cX12_goes 82 = .ok (.iconst 1, 1) := by decide +kernel
theorem dX12_goes_83 : decode cX12_goes 83 = .ok (.ireturn, 1) := by decide +kernel
def mX12_goes (I : iT) (J : jT) (x1 : Int32) : Option (Int32 × iT × jT) := (mX12_call I J).bind fun q1 => if q1.1 = 0 then some (0, q1.2.1, q1.2.2) else if inb ((12 * (q1.2.1 186 32)) + (q1.2.1 186 46)) 24 then (mX12_given q1.2.1 q1.2.2).bind fun q2 => if inb q2 128 then (mX12_alike SF q1.2.1 q1.2.2 (q1.2.1 200 ((12 * (q1.2.1 186 32)) + (q1.2.1 186 46)).toNatClampNeg) (q1.2.1 209 q2.toNatClampNeg)).bind fun q3 => if q3 = 0 then (mX12_bad q1.2.1 3 x1).bind fun q7 => if q7.1 = 0 ∨ q7.1 = 1 then some (q7.1, q7.2, q1.2.2) else none else (mX12_has q1.2.1 q1.2.2).bind fun q4 => if q4 = 0 then (mX12_node q1.2.1 q1.2.2 49 (q1.2.1 186 46) (q1.2.1 186 50) 0).bind fun q5 => some (1, a_u2 q5.2.1 186 49 q5.1, q5.2.2) else (mX12_bad q1.2.1 4 x1).bind fun q6 => if q6.1 = 0 ∨ q6.1 = 1 then some (q6.1, q6.2, q1.2.2) else none else none else none
set_option maxRecDepth 100000 in
set_option maxHeartbeats 4000000 in
theorem tX12_goes {l : Launch} {K : a_KT} {g : a_GT} {IA : iT} (hko : a_kok K) (I : iT) (J : jT) (F : fT) (hF : FOK F) (x1 : Int32) (q : Int32 × iT × jT) (hm : mX12_goes I J x1 = some q) : C l K g 457 0 0 yX12_goes cX12_goes 2 (some .boolean) [.ref 186, .int x1] (hg IA I J F) (fun r2 h2 => r2 = some (.int q.1) ∧ h2 = hg IA q.2.1 q.2.2 F) := by
  unfold mX12_goes at hm
  refine c_of [.ref 186, .int x1] (by decide) (Nat.le_of_ble_eq_true rfl) rfl ?_
  refine e_aload_n (i := 0) rfl dX12_goes_0 ?_
  obtain ⟨q1, eq1, hm⟩ := ob_some hm
  refine e_cV0 hko dX12_goes_1 ml_RX12_374 iz_186 (by decide) rfl (by omega) (Nat.le_of_ble_eq_true rfl) (tX12_call hko I J F hF _ eq1) ?_
  rintro _ _ ⟨rfl, rfl⟩
  refine e_if_ne 9 dX12_goes_4 (by decide) (fun c_4 => ?_) (fun c_4 => ?_)
  · have hm := it_n c_4 hm
    refine e_aload_n (i := 0) rfl dX12_goes_9 ?_
    refine e_aload_n (i := 0) rfl dX12_goes_10 ?_
    refine q_getF 12 25 200 dX12_goes_11 fl_RX12_54 rfl iz_186 (fr_186_25 hF) ?_
    refine e_bipush (v := 12) (by decide) dX12_goes_14 ?_
    refine e_aload_n (i := 0) rfl dX12_goes_16 ?_
    refine l_getI 12 32 dX12_goes_17 fl_RX12_251 rfl iz_186 (by decide) ?_
    refine e_imul dX12_goes_20 ?_
    refine e_aload_n (i := 0) rfl dX12_goes_21 ?_
    refine l_getI 12 46 dX12_goes_22 fl_RX12_368 rfl iz_186 (by decide) ?_
    refine e_iadd dX12_goes_25 ?_
    obtain ⟨c_26, hm⟩ := gd_s hm
    refine l_iald dX12_goes_26 iz_200 (inb_in ln_200 c_26) (by decide) ?_
    refine e_aload_n (i := 0) rfl dX12_goes_27 ?_
    refine q_getF 12 40 209 dX12_goes_28 fl_RX12_81 rfl iz_186 (fr_186_40 hF) ?_
    refine e_aload_n (i := 0) rfl dX12_goes_31 ?_
    obtain ⟨q2, eq2, hm⟩ := ob_some hm
    refine e_cV0 hko dX12_goes_32 ml_RX12_377 iz_186 (by decide) rfl (by omega) (Nat.le_of_ble_eq_true rfl) (tX12_given hko q1.2.1 q1.2.2 F hF _ eq2) ?_
    rintro _ _ ⟨rfl, rfl⟩
    obtain ⟨c_35, hm⟩ := gd_s hm
    refine l_iald dX12_goes_35 iz_209 (inb_in ln_209 c_35) (by decide) ?_
    obtain ⟨q3, eq3, hm⟩ := ob_some hm
    refine e_cV2 hko dX12_goes_36 ml_RX12_289 iz_186 (by decide) rfl (by omega) (Nat.le_of_ble_eq_true rfl) (tX12_alike hko q1.2.1 q1.2.2 F hF (q1.2.1 200 ((12 * (q1.2.1 186 32)) + (q1.2.1 186 46)).toNatClampNeg) (q1.2.1 209 q2.toNatClampNeg) _ eq3) ?_
    rintro _ _ ⟨rfl, rfl⟩
    refine e_if_ne 49 dX12_goes_39 (by decide) (fun c_39 => ?_) (fun c_39 => ?_)
    · have hm := it_n c_39 hm
      refine e_aload_n (i := 0) rfl dX12_goes_49 ?_
      obtain ⟨q4, eq4, hm⟩ := ob_some hm
      refine e_cV0 hko dX12_goes_50 ml_RX12_322 iz_186 (by decide) rfl (by omega) (Nat.le_of_ble_eq_true rfl) (tX12_has hko q1.2.1 q1.2.2 F hF _ eq4) ?_
      rintro _ _ ⟨rfl, rfl⟩
      refine e_if_eq 63 dX12_goes_53 (by decide) (fun c_53 => ?_) (fun c_53 => ?_)
      · have hm := it_p c_53 hm
        refine e_aload_n (i := 0) rfl dX12_goes_63 ?_
        refine e_aload_n (i := 0) rfl dX12_goes_64 ?_
        refine e_bipush (v := 49) (by decide) dX12_goes_65 ?_
        refine e_aload_n (i := 0) rfl dX12_goes_67 ?_
        refine l_getI 12 46 dX12_goes_68 fl_RX12_368 rfl iz_186 (by decide) ?_
        refine e_aload_n (i := 0) rfl dX12_goes_71 ?_
        refine l_getI 12 50 dX12_goes_72 fl_RX12_371 rfl iz_186 (by decide) ?_
        refine e_lconst (v := 0) (by decide) dX12_goes_75 ?_
        obtain ⟨q5, eq5, hm⟩ := ob_some hm
        refine e_cV4 hko dX12_goes_76 ml_RX12_264 iz_186 (by decide) rfl (by omega) (Nat.le_of_ble_eq_true rfl) (tX12_node hko q1.2.1 q1.2.2 F hF 49 (q1.2.1 186 46) (q1.2.1 186 50) 0 _ eq5) ?_
        rintro _ _ ⟨rfl, rfl⟩
        refine l_putI 12 49 dX12_goes_79 fl_RX12_331 rfl rfl iz_186 (by decide) ?_
        refine e_iconst (v := 1) (by decide) dX12_goes_82 ?_
        refine e_zret dX12_goes_83 rfl rfl ?_
        have hm := some_in hm
        subst hm
        exact ⟨rfl, rfl⟩
      · have hm := it_n c_53 hm
        refine e_aload_n (i := 0) rfl dX12_goes_56 ?_
        refine e_iconst (v := 4) (by decide) dX12_goes_57 ?_
        refine e_iload_n (i := 1) rfl dX12_goes_58 ?_
        obtain ⟨q6, eq6, hm⟩ := ob_some hm
        refine e_cV2 hko dX12_goes_59 ml_RX12_232 iz_186 (by decide) rfl (by omega) (Nat.le_of_ble_eq_true rfl) (tX12_bad hko q1.2.1 q1.2.2 F hF 4 x1 _ eq6) ?_
        rintro _ _ ⟨rfl, rfl⟩
        obtain ⟨c_62, hm⟩ := gd_s hm
        refine e_zret dX12_goes_62 rfl (zz_nar c_62) ?_
        have hm := some_in hm
        subst hm
        exact ⟨rfl, rfl⟩
    · have hm := it_p c_39 hm
      refine e_aload_n (i := 0) rfl dX12_goes_42 ?_
      refine e_iconst (v := 3) (by decide) dX12_goes_43 ?_
      refine e_iload_n (i := 1) rfl dX12_goes_44 ?_
      obtain ⟨q7, eq7, hm⟩ := ob_some hm
      refine e_cV2 hko dX12_goes_45 ml_RX12_232 iz_186 (by decide) rfl (by omega) (Nat.le_of_ble_eq_true rfl) (tX12_bad hko q1.2.1 q1.2.2 F hF 3 x1 _ eq7) ?_
      rintro _ _ ⟨rfl, rfl⟩
      obtain ⟨c_48, hm⟩ := gd_s hm
      refine e_zret dX12_goes_48 rfl (zz_nar c_48) ?_
      have hm := some_in hm
      subst hm
      exact ⟨rfl, rfl⟩
  · have hm := it_p c_4 hm
    refine e_iconst (v := 0) (by decide) dX12_goes_7 ?_
    refine e_zret dX12_goes_8 rfl rfl ?_
    have hm := some_in hm
    subst hm
    exact ⟨rfl, rfl⟩
theorem dX12_isFree_0 : decode cX12_isFree 0 = .ok (.aload_n 0, 1) := by decide +kernel
theorem dX12_isFree_1 : decode cX12_isFree 1 = .ok (.getfield 210, 3) := by decide +kernel
theorem dX12_isFree_4 : decode cX12_isFree 4 = .ok (.iconst 2, 1) := by decide +kernel
theorem dX12_isFree_5 : decode cX12_isFree 5 = .ok (.if_icmp .eq 13, 3) := by decide +kernel
theorem dX12_isFree_8 : decode cX12_isFree 8 = .ok (.aload_n 0, 1) := by decide +kernel
theorem dX12_isFree_9 : decode cX12_isFree 9 = .ok (.iconst 1, 1) := by decide +kernel
theorem dX12_isFree_10 : decode cX12_isFree 10 = .ok (.aload_n 0, 1) := by decide +kernel
theorem dX12_isFree_11 : decode cX12_isFree 11 = .ok (.getfield 207, 3) := by decide +kernel
theorem dX12_isFree_14 : decode cX12_isFree 14 = .ok (.invokevirtual 232, 3) := by decide +kernel
theorem dX12_isFree_17 : decode cX12_isFree 17 = .ok (.ireturn, 1) := by decide +kernel
theorem dX12_isFree_18 : decode cX12_isFree 18 = .ok (.aload_n 0, 1) := by decide +kernel
theorem dX12_isFree_19 : decode cX12_isFree 19 = .ok (.aload_n 0, 1) := by decide +kernel
theorem dX12_isFree_20 : decode cX12_isFree 20 = .ok (.getfield 162, 3) := by decide +kernel
theorem dX12_isFree_23 : decode cX12_isFree 23 = .ok (.invokevirtual 301, 3) := by decide +kernel
theorem dX12_isFree_26 : decode cX12_isFree 26 = .ok (.iconst (-1), 1) := by decide +kernel
theorem dX12_isFree_27 : decode cX12_isFree 27 = .ok (.if_icmp .eq 15, 3) := by decide +kernel
theorem dX12_isFree_30 : decode cX12_isFree 30 = .ok (.aload_n 0, 1) := by decide +kernel
theorem dX12_isFree_31 : decode cX12_isFree 31 = .ok (.iconst 2, 1) := by decide +kernel
theorem dX12_isFree_32 : decode cX12_isFree 32 = .ok (.aload_n 0, 1) := by decide +kernel
theorem dX12_isFree_33 : decode cX12_isFree 33 = .ok (.getfield 207, 3) := by decide +kernel
theorem dX12_isFree_36 : decode cX12_isFree 36 = .ok (.invokevirtual 232, 3) := by decide +kernel
theorem dX12_isFree_39 : decode cX12_isFree 39 = .ok (.ifCond .eq 7, 3) := by decide +kernel
theorem dX12_isFree_42 : decode cX12_isFree 42 = .ok (.iconst 1, 1) := by decide +kernel
theorem dX12_isFree_43 : decode cX12_isFree 43 = .ok (.goto 4, 3) := by decide +kernel
theorem dX12_isFree_46 : decode cX12_isFree 46 = .ok (.iconst 0, 1) := by decide +kernel
theorem dX12_isFree_47 : decode cX12_isFree 47 = .ok (.ireturn, 1) := by decide +kernel
def mX12_isFree_42 (I : iT) (J : jT) : Option (Int32 × iT) := some (1, I)
def mX12_isFree (I : iT) (J : jT) : Option (Int32 × iT) := if (I 186 3) = 2 then (mX12_slot I J (J 186 6)).bind fun q1 => if q1 = ((-1)) then mX12_isFree_42 I J else (mX12_bad I 2 (I 186 4)).bind fun q2 => if q2.1 = 0 then some (0, q2.2) else mX12_isFree_42 q2.2 J else (mX12_bad I 1 (I 186 4)).bind fun q3 => if q3.1 = 0 ∨ q3.1 = 1 then some (q3.1, q3.2) else none
set_option maxRecDepth 100000 in
set_option maxHeartbeats 4000000 in
theorem tX12_isFree_42 {l : Launch} {K : a_KT} {g : a_GT} {IA : iT} (hko : a_kok K) {F : fT} (I : iT) (J : jT) (hF : FOK F) (q : Int32 × iT) (hm : mX12_isFree_42 I J = some q) : E l K g 1 0 0 yX12_isFree cX12_isFree 1 (some .boolean) 42 [.ref 186] [] (hg IA I J F) (fun r2 h2 => r2 = some (.int q.1) ∧ h2 = hg IA q.2 J F) := by
  unfold mX12_isFree_42 at hm
  refine e_iconst (v := 1) (by decide) dX12_isFree_42 ?_
  refine e_goto 47 dX12_isFree_43 (by decide) ?_
  refine e_zret dX12_isFree_47 rfl rfl ?_
  have hm := some_in hm
  subst hm
  exact ⟨rfl, rfl⟩
set_option maxRecDepth 100000 in
set_option maxHeartbeats 4000000 in
theorem tX12_isFree {l : Launch} {K : a_KT} {g : a_GT} {IA : iT} (hko : a_kok K) (I : iT) (J : jT) (F : fT) (hF : FOK F) (q : Int32 × iT) (hm : mX12_isFree I J = some q) : C l K g 1 0 0 yX12_isFree cX12_isFree 1 (some .boolean) [.ref 186] (hg IA I J F) (fun r2 h2 => r2 = some (.int q.1) ∧ h2 = hg IA q.2 J F) := by
  unfold mX12_isFree at hm
  refine c_of [.ref 186] (by decide) (Nat.le_of_ble_eq_true rfl) rfl ?_
  refine e_aload_n (i := 0) rfl dX12_isFree_0 ?_
  refine l_getI 12 3 dX12_isFree_1 fl_RX12_210 rfl iz_186 (by decide) ?_
  refine e_iconst (v := 2) (by decide) dX12_isFree_4 ?_
  refine e_icmp_eq 18 dX12_isFree_5 (by decide) (fun c_5 => ?_) (fun c_5 => ?_)
  · have hm := it_p c_5 hm
    refine e_aload_n (i := 0) rfl dX12_isFree_18 ?_
    refine e_aload_n (i := 0) rfl dX12_isFree_19 ?_
    refine q_getJ 12 6 dX12_isFree_20 fl_RX12_162 rfl iz_186 ?_
    obtain ⟨q1, eq1, hm⟩ := ob_some hm
    refine e_cV1 hko dX12_isFree_23 ml_RX12_301 iz_186 (by decide) rfl (by omega) (Nat.le_of_ble_eq_true rfl) (tX12_slot hko I J F hF (J 186 6) _ eq1) ?_
    rintro _ _ ⟨rfl, rfl⟩
    refine e_iconst (v := (-1)) (by decide) dX12_isFree_26 ?_
    refine e_icmp_eq 42 dX12_isFree_27 (by decide) (fun c_27 => ?_) (fun c_27 => ?_)
    · have hm := it_p c_27 hm
      refine e_weak [.ref 186] ⟨rfl, trivial⟩ ?_
      exact tX12_isFree_42 hko I J hF _ hm
    · have hm := it_n c_27 hm
      refine e_aload_n (i := 0) rfl dX12_isFree_30 ?_
      refine e_iconst (v := 2) (by decide) dX12_isFree_31 ?_
      refine e_aload_n (i := 0) rfl dX12_isFree_32 ?_
      refine l_getI 12 4 dX12_isFree_33 fl_RX12_207 rfl iz_186 (by decide) ?_
      obtain ⟨q2, eq2, hm⟩ := ob_some hm
      refine e_cV2 hko dX12_isFree_36 ml_RX12_232 iz_186 (by decide) rfl (by omega) (Nat.le_of_ble_eq_true rfl) (tX12_bad hko I J F hF 2 (I 186 4) _ eq2) ?_
      rintro _ _ ⟨rfl, rfl⟩
      refine e_if_eq 46 dX12_isFree_39 (by decide) (fun c_39 => ?_) (fun c_39 => ?_)
      · have hm := it_p c_39 hm
        refine e_iconst (v := 0) (by decide) dX12_isFree_46 ?_
        refine e_zret dX12_isFree_47 rfl rfl ?_
        have hm := some_in hm
        subst hm
        exact ⟨rfl, rfl⟩
      · have hm := it_n c_39 hm
        refine e_weak [.ref 186] ⟨rfl, trivial⟩ ?_
        exact tX12_isFree_42 hko q2.2 J hF _ hm
  · have hm := it_n c_5 hm
    refine e_aload_n (i := 0) rfl dX12_isFree_8 ?_
    refine e_iconst (v := 1) (by decide) dX12_isFree_9 ?_
    refine e_aload_n (i := 0) rfl dX12_isFree_10 ?_
    refine l_getI 12 4 dX12_isFree_11 fl_RX12_207 rfl iz_186 (by decide) ?_
    obtain ⟨q3, eq3, hm⟩ := ob_some hm
    refine e_cV2 hko dX12_isFree_14 ml_RX12_232 iz_186 (by decide) rfl (by omega) (Nat.le_of_ble_eq_true rfl) (tX12_bad hko I J F hF 1 (I 186 4) _ eq3) ?_
    rintro _ _ ⟨rfl, rfl⟩
    obtain ⟨c_17, hm⟩ := gd_s hm
    refine e_zret dX12_isFree_17 rfl (zz_nar c_17) ?_
    have hm := some_in hm
    subst hm
    exact ⟨rfl, rfl⟩
theorem dX12_newSlot_0 : decode cX12_newSlot 0 = .ok (.aload_n 0, 1) := by decide +kernel
theorem dX12_newSlot_1 : decode cX12_newSlot 1 = .ok (.getfield 72, 3) := by decide +kernel
theorem dX12_newSlot_4 : decode cX12_newSlot 4 = .ok (.aload_n 0, 1) := by decide +kernel
theorem dX12_newSlot_5 : decode cX12_newSlot 5 = .ok (.getfield 292, 3) := by decide +kernel
theorem dX12_newSlot_8 : decode cX12_newSlot 8 = .ok (.lload_n 1, 1) := by decide +kernel
theorem dX12_newSlot_9 : decode cX12_newSlot 9 = .ok (.lastore, 1) := by decide +kernel
theorem dX12_newSlot_10 : decode cX12_newSlot 10 = .ok (.aload_n 0, 1) := by decide +kernel
theorem dX12_newSlot_11 : decode cX12_newSlot 11 = .ok (.getfield 78, 3) := by decide +kernel
theorem dX12_newSlot_14 : decode cX12_newSlot 14 = .ok (.aload_n 0, 1) := by decide +kernel
theorem dX12_newSlot_15 : decode cX12_newSlot 15 = .ok (.getfield 292, 3) := by decide +kernel
theorem dX12_newSlot_18 : decode cX12_newSlot 18 = .ok (.iload_n 3, 1) := by decide +kernel
theorem dX12_newSlot_19 : decode cX12_newSlot 19 = .ok (.iastore, 1) := by decide +kernel
theorem dX12_newSlot_20 : decode cX12_newSlot 20 = .ok (.aload_n 0, 1) := by decide +kernel
theorem dX12_newSlot_21 : decode cX12_newSlot 21 = .ok (.getfield 81, 3) := by decide +kernel
theorem dX12_newSlot_24 : decode cX12_newSlot 24 = .ok (.aload_n 0, 1) := by decide +kernel
theorem dX12_newSlot_25 : decode cX12_newSlot 25 = .ok (.getfield 292, 3) := by decide +kernel
theorem dX12_newSlot_28 : decode cX12_newSlot 28 = .ok (.iload 4, 2) := by decide +kernel
theorem dX12_newSlot_30 : decode cX12_newSlot 30 = .ok (.iastore, 1) := by decide +kernel
theorem dX12_newSlot_31 : decode cX12_newSlot 31 = .ok (.aload_n 0, 1) := by decide +kernel
theorem dX12_newSlot_32 : decode cX12_newSlot 32 = .ok (.dup, 1) := by decide +kernel
theorem dX12_newSlot_33 : decode cX12_newSlot 33 = .ok (.getfield 292, 3) := by decide +kernel
theorem dX12_newSlot_36 : decode cX12_newSlot 36 = .ok (.iconst 1, 1) := by decide +kernel
theorem dX12_newSlot_37 : decode cX12_newSlot 37 = .ok (.iadd, 1) := by decide +kernel
theorem dX12_newSlot_38 : decode cX12_newSlot 38 = .ok (.putfield 292, 3) := by decide +kernel
theorem dX12_newSlot_41 : decode cX12_newSlot 41 = .ok (.aload_n 0, 1) := by decide +kernel
theorem dX12_newSlot_42 : decode cX12_newSlot 42 = .ok (.getfield 292, 3) := by decide +kernel
theorem dX12_newSlot_45 : decode cX12_newSlot 45 = .ok (.iconst 1, 1) := by decide +kernel
theorem dX12_newSlot_46 : decode cX12_newSlot 46 = .ok (.isub, 1) := by decide +kernel
theorem dX12_newSlot_47 : decode cX12_newSlot 47 = .ok (.ireturn, 1) := by decide +kernel
def mX12_newSlot (I : iT) (J : jT) (w1 : Int64) (x3 : Int32) (x4 : Int32) : Option (Int32 × iT × jT) := if inb (I 186 43) 128 then if inb (I 186 43) 128 then if inb ((a_u2 I 208 (I 186 43).toNatClampNeg x3) 186 43) 128 then some (((a_u2 (a_u2 (a_u2 I 208 (I 186 43).toNatClampNeg x3) 209 ((a_u2 I 208 (I 186 43).toNatClampNeg x3) 186 43).toNatClampNeg x4) 186 43 (((a_u2 (a_u2 I 208 (I 186 43).toNatClampNeg x3) 209 ((a_u2 I 208 (I 186 43).toNatClampNeg x3) 186 43).toNatClampNeg x4) 186 43) + 1)) 186 43) - 1, a_u2 (a_u2 (a_u2 I 208 (I 186 43).toNatClampNeg x3) 209 ((a_u2 I 208 (I 186 43).toNatClampNeg x3) 186 43).toNatClampNeg x4) 186 43 (((a_u2 (a_u2 I 208 (I 186 43).toNatClampNeg x3) 209 ((a_u2 I 208 (I 186 43).toNatClampNeg x3) 186 43).toNatClampNeg x4) 186 43) + 1), a_u2 J 206 (I 186 43).toNatClampNeg w1) else none else none else none
set_option maxRecDepth 100000 in
set_option maxHeartbeats 4000000 in
theorem tX12_newSlot {l : Launch} {K : a_KT} {g : a_GT} {IA : iT} (hko : a_kok K) (I : iT) (J : jT) (F : fT) (hF : FOK F) (w1 : Int64) (x3 : Int32) (x4 : Int32) (q : Int32 × iT × jT) (hm : mX12_newSlot I J w1 x3 x4 = some q) : C l K g 0 0 0 yX12_newSlot cX12_newSlot 5 (some .int) [.ref 186, .long w1, .int x3, .int x4] (hg IA I J F) (fun r2 h2 => r2 = some (.int q.1) ∧ h2 = hg IA q.2.1 q.2.2 F) := by
  unfold mX12_newSlot at hm
  refine c_of [.ref 186, .long w1, .null, .int x3, .int x4] (by decide) (Nat.le_of_ble_eq_true rfl) rfl ?_
  refine e_aload_n (i := 0) rfl dX12_newSlot_0 ?_
  refine q_getF 12 37 206 dX12_newSlot_1 fl_RX12_72 rfl iz_186 (fr_186_37 hF) ?_
  refine e_aload_n (i := 0) rfl dX12_newSlot_4 ?_
  refine l_getI 12 43 dX12_newSlot_5 fl_RX12_292 rfl iz_186 (by decide) ?_
  refine e_lload_n (i := 1) rfl dX12_newSlot_8 ?_
  obtain ⟨c_9, hm⟩ := gd_s hm
  refine q_last dX12_newSlot_9 iz_206 (inb_in ln_206 c_9) ?_
  refine e_aload_n (i := 0) rfl dX12_newSlot_10 ?_
  refine q_getF 12 39 208 dX12_newSlot_11 fl_RX12_78 rfl iz_186 (fr_186_39 hF) ?_
  refine e_aload_n (i := 0) rfl dX12_newSlot_14 ?_
  refine l_getI 12 43 dX12_newSlot_15 fl_RX12_292 rfl iz_186 (by decide) ?_
  refine e_iload_n (i := 3) rfl dX12_newSlot_18 ?_
  obtain ⟨c_19, hm⟩ := gd_s hm
  refine l_iast dX12_newSlot_19 iz_208 (inb_in ln_208 c_19) (by decide) ?_
  refine e_aload_n (i := 0) rfl dX12_newSlot_20 ?_
  refine q_getF 12 40 209 dX12_newSlot_21 fl_RX12_81 rfl iz_186 (fr_186_40 hF) ?_
  refine e_aload_n (i := 0) rfl dX12_newSlot_24 ?_
  refine l_getI 12 43 dX12_newSlot_25 fl_RX12_292 rfl iz_186 (by decide) ?_
  refine e_iload (i := 4) rfl dX12_newSlot_28 ?_
  obtain ⟨c_30, hm⟩ := gd_s hm
  refine l_iast dX12_newSlot_30 iz_209 (inb_in ln_209 c_30) (by decide) ?_
  refine e_aload_n (i := 0) rfl dX12_newSlot_31 ?_
  refine e_dup rfl dX12_newSlot_32 ?_
  refine l_getI 12 43 dX12_newSlot_33 fl_RX12_292 rfl iz_186 (by decide) ?_
  refine e_iconst (v := 1) (by decide) dX12_newSlot_36 ?_
  refine e_iadd dX12_newSlot_37 ?_
  refine l_putI 12 43 dX12_newSlot_38 fl_RX12_292 rfl rfl iz_186 (by decide) ?_
  refine e_aload_n (i := 0) rfl dX12_newSlot_41 ?_
  refine l_getI 12 43 dX12_newSlot_42 fl_RX12_292 rfl iz_186 (by decide) ?_
  refine e_iconst (v := 1) (by decide) dX12_newSlot_45 ?_
  refine e_isub dX12_newSlot_46 ?_
  refine e_iret dX12_newSlot_47 rfl ?_
  have hm := some_in hm
  subst hm
  exact ⟨rfl, rfl⟩
theorem dX12_news_0 : decode cX12_news 0 = .ok (.aload_n 0, 1) := by decide +kernel
theorem dX12_news_1 : decode cX12_news 1 = .ok (.invokevirtual 346, 3) := by decide +kernel
theorem dX12_news_4 : decode cX12_news 4 = .ok (.ifCond .ne 5, 3) := by decide +kernel
theorem dX12_news_7 : decode cX12_news 7 = .ok (.iconst 0, 1) := by decide +kernel
theorem dX12_news_8 : decode cX12_news 8 = .ok (.ireturn, 1) := by decide +kernel
theorem dX12_news_9 : decode cX12_news 9 = .ok (.aload_n 0, 1) := by decide +kernel
theorem dX12_news_10 : decode cX12_news 10 = .ok (.getfield 162, 3) := by decide +kernel
theorem dX12_news_13 : decode cX12_news 13 = .ok (.lstore_n 1, 1) := by decide +kernel
theorem dX12_news_14 : decode cX12_news 14 = .ok (.aload_n 0, 1) := by decide +kernel
theorem dX12_news_15 : decode cX12_news 15 = .ok (.invokevirtual 236, 3) := by decide +kernel
theorem dX12_news_18 : decode cX12_news 18 = .ok (.aload_n 0, 1) := by decide +kernel
theorem dX12_news_19 : decode cX12_news 19 = .ok (.bipush 61, 2) := by decide +kernel
theorem dX12_news_21 : decode cX12_news 21 = .ok (.invokevirtual 278, 3) := by decide +kernel
theorem dX12_news_24 : decode cX12_news 24 = .ok (.ifCond .eq 10, 3) := by decide +kernel
theorem dX12_news_27 : decode cX12_news 27 = .ok (.aload_n 0, 1) := by decide +kernel
theorem dX12_news_28 : decode cX12_news 28 = .ok (.invokevirtual 374, 3) := by decide +kernel
theorem dX12_news_31 : decode cX12_news 31 = .ok (.ifCond .ne 5, 3) := by decide +kernel
theorem dX12_news_34 : decode cX12_news 34 = .ok (.iconst 0, 1) := by decide +kernel
theorem dX12_news_35 : decode cX12_news 35 = .ok (.ireturn, 1) := by decide +kernel
theorem dX12_news_36 : decode cX12_news 36 = .ok (.aload_n 0, 1) := by decide +kernel
theorem dX12_news_37 : decode cX12_news 37 = .ok (.getfield 368, 3) := by decide +kernel
theorem dX12_news_40 : decode cX12_news 40 = .ok (.istore_n 3, 1) := by decide +kernel
theorem dX12_news_41 : decode cX12_news 41 = .ok (.aload_n 0, 1) := by decide +kernel
theorem dX12_news_42 : decode cX12_news 42 = .ok (.getfield 371, 3) := by decide +kernel
theorem dX12_news_45 : decode cX12_news 45 = .ok (.istore 4, 2) := by decide +kernel
theorem dX12_news_47 : decode cX12_news 47 = .ok (.aload_n 0, 1) := by decide +kernel
theorem dX12_news_48 : decode cX12_news 48 = .ok (.aload_n 0, 1) := by decide +kernel
theorem dX12_news_49 : decode cX12_news 49 = .ok (.bipush 48, 2) := by decide +kernel
theorem dX12_news_51 : decode cX12_news 51 = .ok (.aload_n 0, 1) := by decide +kernel
theorem dX12_news_52 : decode cX12_news 52 = .ok (.lload_n 1, 1) := by decide +kernel
theorem dX12_news_53 : decode cX12_news 53 = .ok (.iconst 2, 1) := by decide +kernel
theorem dX12_news_54 : decode cX12_news 54 = .ok (.aload_n 0, 1) := by decide +kernel
theorem dX12_news_55 : decode cX12_news 55 = .ok (.getfield 54, 3) := by decide +kernel
theorem dX12_news_58 : decode cX12_news 58 = .ok (.bipush 12, 2) := by decide +kernel
theorem dX12_news_60 : decode cX12_news 60 = .ok (.aload_n 0, 1) := by decide +kernel
theorem dX12_news_61 : decode cX12_news 61 = .ok (.getfield 251, 3) := by decide +kernel
theorem dX12_news_64 : decode cX12_news 64 = .ok (.imul, 1) := by decide +kernel
theorem dX12_news_65 : decode cX12_news 65 = .ok (.iload_n 3, 1) := by decide +kernel
theorem dX12_news_66 : decode cX12_news 66 = .ok (.iadd, 1) := by decide +kernel
theorem dX12_news_67 : decode cX12_news 67 = .ok (.iaload, 1) := by decide +kernel
theorem dX12_news_68 : decode cX12_news 68 = .ok (.invokevirtual 349, 3) := by decide +kernel
theorem dX12_news_71 : decode cX12_news 71 = .ok (.iload 4, 2) := by decide +kernel
theorem dX12_news_73 : decode cX12_news 73 = .ok (.iload_n 3, 1) := by decide +kernel
theorem dX12_news_74 : decode cX12_news 74 = .ok (.i2l, 1) := by decide +kernel
theorem dX12_news_75 : decode cX12_news 75 = .ok (.invokevirtual 264, 3) := by decide +kernel
theorem dX12_news_78 : decode cX12_news 78 = .ok (.putfield 331, 3) := by decide +kernel
theorem dX12_news_81 : decode cX12_news 81 = .ok (.iconst 1, 1) := by decide +kernel
theorem dX12_news_82 : decode cX12_news 82 = .ok (.ireturn, 1) := by decide +kernel
def mX12_news (I : iT) (J : jT) : Option (Int32 × iT × jT) := (mX12_isFree I J).bind fun q1 => if q1.1 = 0 then some (0, q1.2, J) else (mX12_look0 q1.2 J).bind fun q2 => (mX12_need q2.1 q2.2 61).bind fun q3 => if q3.1 = 0 then some (0, q3.2.1, q3.2.2) else (mX12_call q3.2.1 q3.2.2).bind fun q4 => if q4.1 = 0 then some (0, q4.2.1, q4.2.2) else if inb ((12 * (q4.2.1 186 32)) + (q4.2.1 186 46)) 24 then (mX12_newSlot q4.2.1 q4.2.2 (J 186 6) 2 (q4.2.1 200 ((12 * (q4.2.1 186 32)) + (q4.2.1 186 46)).toNatClampNeg)).bind fun q5 => (mX12_node q5.2.1 q5.2.2 48 q5.1 (q4.2.1 186 50) ((q4.2.1 186 46).toInt64)).bind fun q6 => some (1, a_u2 q6.2.1 186 49 q6.1, q6.2.2) else none
set_option maxRecDepth 100000 in
set_option maxHeartbeats 4000000 in
theorem tX12_news {l : Launch} {K : a_KT} {g : a_GT} {IA : iT} (hko : a_kok K) (I : iT) (J : jT) (F : fT) (hF : FOK F) (q : Int32 × iT × jT) (hm : mX12_news I J = some q) : C l K g 457 0 0 yX12_news cX12_news 5 (some .boolean) [.ref 186] (hg IA I J F) (fun r2 h2 => r2 = some (.int q.1) ∧ h2 = hg IA q.2.1 q.2.2 F) := by
  unfold mX12_news at hm
  refine c_of [.ref 186, .null, .null, .null, .null] (by decide) (Nat.le_of_ble_eq_true rfl) rfl ?_
  refine e_aload_n (i := 0) rfl dX12_news_0 ?_
  obtain ⟨q1, eq1, hm⟩ := ob_some hm
  refine e_cV0 hko dX12_news_1 ml_RX12_346 iz_186 (by decide) rfl (by omega) (Nat.le_of_ble_eq_true rfl) (tX12_isFree hko I J F hF _ eq1) ?_
  rintro _ _ ⟨rfl, rfl⟩
  refine e_if_ne 9 dX12_news_4 (by decide) (fun c_4 => ?_) (fun c_4 => ?_)
  · have hm := it_n c_4 hm
    refine e_aload_n (i := 0) rfl dX12_news_9 ?_
    refine q_getJ 12 6 dX12_news_10 fl_RX12_162 rfl iz_186 ?_
    refine e_lstore_n (i := 1) (by decide) dX12_news_13 ?_
    refine e_aload_n (i := 0) rfl dX12_news_14 ?_
    obtain ⟨q2, eq2, hm⟩ := ob_some hm
    refine e_cV0 hko dX12_news_15 ml_RX12_236 iz_186 (by decide) rfl (by omega) (Nat.le_of_ble_eq_true rfl) (tX12_look0 hko q1.2 J F hF _ eq2) ?_
    rintro _ _ ⟨rfl, rfl⟩
    refine e_aload_n (i := 0) rfl dX12_news_18 ?_
    refine e_bipush (v := 61) (by decide) dX12_news_19 ?_
    obtain ⟨q3, eq3, hm⟩ := ob_some hm
    refine e_cV1 hko dX12_news_21 ml_RX12_278 iz_186 (by decide) rfl (by omega) (Nat.le_of_ble_eq_true rfl) (tX12_need hko q2.1 q2.2 F hF 61 _ eq3) ?_
    rintro _ _ ⟨rfl, rfl⟩
    refine e_if_eq 34 dX12_news_24 (by decide) (fun c_24 => ?_) (fun c_24 => ?_)
    · have hm := it_p c_24 hm
      refine e_iconst (v := 0) (by decide) dX12_news_34 ?_
      refine e_zret dX12_news_35 rfl rfl ?_
      have hm := some_in hm
      subst hm
      exact ⟨rfl, rfl⟩
    · have hm := it_n c_24 hm
      refine e_aload_n (i := 0) rfl dX12_news_27 ?_
      obtain ⟨q4, eq4, hm⟩ := ob_some hm
      refine e_cV0 hko dX12_news_28 ml_RX12_374 iz_186 (by decide) rfl (by omega) (Nat.le_of_ble_eq_true rfl) (tX12_call hko q3.2.1 q3.2.2 F hF _ eq4) ?_
      rintro _ _ ⟨rfl, rfl⟩
      refine e_if_ne 36 dX12_news_31 (by decide) (fun c_31 => ?_) (fun c_31 => ?_)
      · have hm := it_n c_31 hm
        refine e_aload_n (i := 0) rfl dX12_news_36 ?_
        refine l_getI 12 46 dX12_news_37 fl_RX12_368 rfl iz_186 (by decide) ?_
        refine q_istore_n (i := 3) (by decide) rfl dX12_news_40 ?_
        refine e_aload_n (i := 0) rfl dX12_news_41 ?_
        refine l_getI 12 50 dX12_news_42 fl_RX12_371 rfl iz_186 (by decide) ?_
        refine q_istore (i := 4) (by decide) rfl dX12_news_45 ?_
        refine e_aload_n (i := 0) rfl dX12_news_47 ?_
        refine e_aload_n (i := 0) rfl dX12_news_48 ?_
        refine e_bipush (v := 48) (by decide) dX12_news_49 ?_
        refine e_aload_n (i := 0) rfl dX12_news_51 ?_
        refine e_lload_n (i := 1) rfl dX12_news_52 ?_
        refine e_iconst (v := 2) (by decide) dX12_news_53 ?_
        refine e_aload_n (i := 0) rfl dX12_news_54 ?_
        refine q_getF 12 25 200 dX12_news_55 fl_RX12_54 rfl iz_186 (fr_186_25 hF) ?_
        refine e_bipush (v := 12) (by decide) dX12_news_58 ?_
        refine e_aload_n (i := 0) rfl dX12_news_60 ?_
        refine l_getI 12 32 dX12_news_61 fl_RX12_251 rfl iz_186 (by decide) ?_
        refine e_imul dX12_news_64 ?_
        refine e_iload_n (i := 3) rfl dX12_news_65 ?_
        refine e_iadd dX12_news_66 ?_
        obtain ⟨c_67, hm⟩ := gd_s hm
        refine l_iald dX12_news_67 iz_200 (inb_in ln_200 c_67) (by decide) ?_
        obtain ⟨q5, eq5, hm⟩ := ob_some hm
        refine e_cV3 hko dX12_news_68 ml_RX12_349 iz_186 (by decide) rfl (by omega) (Nat.le_of_ble_eq_true rfl) (tX12_newSlot hko q4.2.1 q4.2.2 F hF (J 186 6) 2 (q4.2.1 200 ((12 * (q4.2.1 186 32)) + (q4.2.1 186 46)).toNatClampNeg) _ eq5) ?_
        rintro _ _ ⟨rfl, rfl⟩
        refine e_iload (i := 4) rfl dX12_news_71 ?_
        refine e_iload_n (i := 3) rfl dX12_news_73 ?_
        refine e_i2l dX12_news_74 ?_
        obtain ⟨q6, eq6, hm⟩ := ob_some hm
        refine e_cV4 hko dX12_news_75 ml_RX12_264 iz_186 (by decide) rfl (by omega) (Nat.le_of_ble_eq_true rfl) (tX12_node hko q5.2.1 q5.2.2 F hF 48 q5.1 (q4.2.1 186 50) ((q4.2.1 186 46).toInt64) _ eq6) ?_
        rintro _ _ ⟨rfl, rfl⟩
        refine l_putI 12 49 dX12_news_78 fl_RX12_331 rfl rfl iz_186 (by decide) ?_
        refine e_iconst (v := 1) (by decide) dX12_news_81 ?_
        refine e_zret dX12_news_82 rfl rfl ?_
        have hm := some_in hm
        subst hm
        exact ⟨rfl, rfl⟩
      · have hm := it_p c_31 hm
        refine e_iconst (v := 0) (by decide) dX12_news_34 ?_
        refine e_zret dX12_news_35 rfl rfl ?_
        have hm := some_in hm
        subst hm
        exact ⟨rfl, rfl⟩
  · have hm := it_p c_4 hm
    refine e_iconst (v := 0) (by decide) dX12_news_7 ?_
    refine e_zret dX12_news_8 rfl rfl ?_
    have hm := some_in hm
    subst hm
    exact ⟨rfl, rfl⟩
