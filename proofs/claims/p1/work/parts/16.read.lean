/-! DECOMPILED: printed by wip/whole/gen_dec.py -/
theorem dX9_countParts_0 : decode cX9_countParts 0 = .ok (.aload_n 0, 1) := by decide +kernel
theorem dX9_countParts_1 : decode cX9_countParts 1 = .ok (.dup, 1) := by decide +kernel
theorem dX9_countParts_2 : decode cX9_countParts 2 = .ok (.getfield 34, 3) := by decide +kernel
theorem dX9_countParts_5 : decode cX9_countParts 5 = .ok (.iload_n 1, 1) := by decide +kernel
theorem dX9_countParts_6 : decode cX9_countParts 6 = .ok (.iadd, 1) := by decide +kernel
theorem dX9_countParts_7 : decode cX9_countParts 7 = .ok (.putfield 34, 3) := by decide +kernel
theorem dX9_countParts_10 : decode cX9_countParts 10 = .ok (.aload_n 0, 1) := by decide +kernel
theorem dX9_countParts_11 : decode cX9_countParts 11 = .ok (.getfield 34, 3) := by decide +kernel
theorem dX9_countParts_14 : decode cX9_countParts 14 = .ok (.sipush 200, 3) := by decide +kernel
theorem dX9_countParts_17 : decode cX9_countParts 17 = .ok (.if_icmp .le 12, 3) := by decide +kernel
theorem dX9_countParts_20 : decode cX9_countParts 20 = .ok (.aload_n 0, 1) := by decide +kernel
theorem dX9_countParts_21 : decode cX9_countParts 21 = .ok (.getfield 23, 3) := by decide +kernel
theorem dX9_countParts_24 : decode cX9_countParts 24 = .ok (.iconst 5, 1) := by decide +kernel
theorem dX9_countParts_25 : decode cX9_countParts 25 = .ok (.iload_n 2, 1) := by decide +kernel
theorem dX9_countParts_26 : decode cX9_countParts 26 = .ok (.invokevirtual 58, 3) := by decide +kernel
theorem dX9_countParts_29 : decode cX9_countParts 29 = .ok (.return_, 1) := by decide +kernel
def mX9_countParts (I : iT) (x1 : Int32) (x2 : Int32) : Option (iT) := if ((a_u2 I 142 4 ((I 142 4) + x1)) 142 4) ≤ 200 then some (a_u2 I 142 4 ((I 142 4) + x1)) else (mX2_refuse (a_u2 I 142 4 ((I 142 4) + x1)) 5 x2).bind fun q1 => some q1
set_option maxRecDepth 100000 in
set_option maxHeartbeats 4000000 in
theorem tX9_countParts {l : Launch} {K : a_KT} {g : a_GT} {IB : iT} (hko : a_kok K) (I : iT) (J : jT) (F : fT) (hF : FK F) (x1 : Int32) (x2 : Int32) (q : iT) (hm : mX9_countParts I x1 x2 = some q) : C l K g 1 0 0 yX9_countParts cX9_countParts 3 none [.ref 142, .int x1, .int x2] (hg I IB J F) (fun r2 h2 => r2 = none ∧ h2 = hg q IB J F) := by
  unfold mX9_countParts at hm
  refine c_of [.ref 142, .int x1, .int x2] (by decide) (Nat.le_of_ble_eq_true rfl) rfl ?_
  refine e_aload_n (i := 0) rfl dX9_countParts_0 ?_
  refine e_dup rfl dX9_countParts_1 ?_
  refine k_getI 9 4 dX9_countParts_2 fl_RX9_34 rfl iz_142 (by decide) ?_
  refine e_iload_n (i := 1) rfl dX9_countParts_5 ?_
  refine e_iadd dX9_countParts_6 ?_
  refine k_putI 9 4 dX9_countParts_7 fl_RX9_34 rfl rfl iz_142 (by decide) ?_
  refine e_aload_n (i := 0) rfl dX9_countParts_10 ?_
  refine k_getI 9 4 dX9_countParts_11 fl_RX9_34 rfl iz_142 (by decide) ?_
  refine e_sipush (v := 200) (by decide) dX9_countParts_14 ?_
  refine e_icmp_le 29 dX9_countParts_17 (by decide) (fun c_17 => ?_) (fun c_17 => ?_)
  · have hm := it_p c_17 hm
    refine e_vret dX9_countParts_29 rfl ?_
    have hm := some_in hm
    subst hm
    exact ⟨rfl, rfl⟩
  · have hm := it_n c_17 hm
    refine e_aload_n (i := 0) rfl dX9_countParts_20 ?_
    refine q_getF 9 0 6 dX9_countParts_21 fl_RX9_23 rfl iz_142 (fr_142_0 hF.1) ?_
    refine e_iconst (v := 5) (by decide) dX9_countParts_24 ?_
    refine e_iload_n (i := 2) rfl dX9_countParts_25 ?_
    obtain ⟨q1, eq1, hm⟩ := ob_some hm
    refine e_cV2 hko dX9_countParts_26 ml_RX9_58 iz_6 (by decide) rfl (by omega) (Nat.le_of_ble_eq_true rfl) (tX2_refuse hko (a_u2 I 142 4 ((I 142 4) + x1)) J F hF 5 x2 _ eq1) ?_
    rintro _ _ ⟨rfl, rfl⟩
    refine e_vret dX9_countParts_29 rfl ?_
    have hm := some_in hm
    subst hm
    exact ⟨rfl, rfl⟩
theorem dX9_isTalkSign_0 : decode cX9_isTalkSign 0 = .ok (.iload_n 0, 1) := by decide +kernel
theorem dX9_isTalkSign_1 : decode cX9_isTalkSign 1 = .ok (.bipush 33, 2) := by decide +kernel
theorem dX9_isTalkSign_3 : decode cX9_isTalkSign 3 = .ok (.if_icmp .eq 28, 3) := by decide +kernel
theorem dX9_isTalkSign_6 : decode cX9_isTalkSign 6 = .ok (.iload_n 0, 1) := by decide +kernel
theorem dX9_isTalkSign_7 : decode cX9_isTalkSign 7 = .ok (.bipush 63, 2) := by decide +kernel
theorem dX9_isTalkSign_9 : decode cX9_isTalkSign 9 = .ok (.if_icmp .eq 22, 3) := by decide +kernel
theorem dX9_isTalkSign_12 : decode cX9_isTalkSign 12 = .ok (.iload_n 0, 1) := by decide +kernel
theorem dX9_isTalkSign_13 : decode cX9_isTalkSign 13 = .ok (.bipush 62, 2) := by decide +kernel
theorem dX9_isTalkSign_15 : decode cX9_isTalkSign 15 = .ok (.if_icmp .eq 16, 3) := by decide +kernel
theorem dX9_isTalkSign_18 : decode cX9_isTalkSign 18 = .ok (.iload_n 0, 1) := by decide +kernel
theorem dX9_isTalkSign_19 : decode cX9_isTalkSign 19 = .ok (.bipush 60, 2) := by decide +kernel
theorem dX9_isTalkSign_21 : decode cX9_isTalkSign 21 = .ok (.if_icmp .eq 10, 3) := by decide +kernel
theorem dX9_isTalkSign_24 : decode cX9_isTalkSign 24 = .ok (.iload_n 0, 1) := by decide +kernel
theorem dX9_isTalkSign_25 : decode cX9_isTalkSign 25 = .ok (.invokestatic 84, 3) := by decide +kernel
theorem dX9_isTalkSign_28 : decode cX9_isTalkSign 28 = .ok (.ifCond .eq 7, 3) := by decide +kernel
theorem dX9_isTalkSign_31 : decode cX9_isTalkSign 31 = .ok (.iconst 1, 1) := by decide +kernel
theorem dX9_isTalkSign_32 : decode cX9_isTalkSign 32 = .ok (.goto 4, 3) := by decide +kernel
theorem dX9_isTalkSign_35 : decode cX9_isTalkSign 35 = .ok (.iconst 0, 1) := by decide +kernel
theorem dX9_isTalkSign_36 : decode cX9_isTalkSign 36 = .ok (.ireturn, 1) := by decide +kernel
def mX9_isTalkSign_31 (x0 : Int32) : Option (Int32) := some 1
def mX9_isTalkSign (x0 : Int32) : Option (Int32) := if x0 = 33 then mX9_isTalkSign_31 x0 else if x0 = 63 then mX9_isTalkSign_31 x0 else if x0 = 62 then mX9_isTalkSign_31 x0 else if x0 = 60 then mX9_isTalkSign_31 x0 else (mX10_isChoice x0).bind fun q1 => if q1 = 0 then some 0 else mX9_isTalkSign_31 x0
set_option maxRecDepth 100000 in
set_option maxHeartbeats 4000000 in
theorem tX9_isTalkSign_31 {l : Launch} {K : a_KT} {g : a_GT} {IB : iT} (hko : a_kok K) {I : iT} {J : jT} {F : fT} (x0 : Int32) (hF : FK F) (q : Int32) (hm : mX9_isTalkSign_31 x0 = some q) : E l K g 1 0 0 yX9_isTalkSign cX9_isTalkSign 1 (some .boolean) 31 [.int x0] [] (hg I IB J F) (fun r2 h2 => r2 = some (.int q) ∧ h2 = hg I IB J F) := by
  unfold mX9_isTalkSign_31 at hm
  refine e_iconst (v := 1) (by decide) dX9_isTalkSign_31 ?_
  refine e_goto 36 dX9_isTalkSign_32 (by decide) ?_
  refine e_zret dX9_isTalkSign_36 rfl rfl ?_
  have hm := some_in hm
  subst hm
  exact ⟨rfl, rfl⟩
set_option maxRecDepth 100000 in
set_option maxHeartbeats 4000000 in
theorem tX9_isTalkSign {l : Launch} {K : a_KT} {g : a_GT} {IB : iT} (hko : a_kok K) (I : iT) (J : jT) (F : fT) (hF : FK F) (x0 : Int32) (q : Int32) (hm : mX9_isTalkSign x0 = some q) : C l K g 1 0 0 yX9_isTalkSign cX9_isTalkSign 1 (some .boolean) [.int x0] (hg I IB J F) (fun r2 h2 => r2 = some (.int q) ∧ h2 = hg I IB J F) := by
  unfold mX9_isTalkSign at hm
  refine c_of [.int x0] (by decide) (Nat.le_of_ble_eq_true rfl) rfl ?_
  refine e_iload_n (i := 0) rfl dX9_isTalkSign_0 ?_
  refine e_bipush (v := 33) (by decide) dX9_isTalkSign_1 ?_
  refine e_icmp_eq 31 dX9_isTalkSign_3 (by decide) (fun c_3 => ?_) (fun c_3 => ?_)
  · have hm := it_p c_3 hm
    refine e_weak [.int x0] ⟨rfl, trivial⟩ ?_
    exact tX9_isTalkSign_31 hko x0 hF _ hm
  · have hm := it_n c_3 hm
    refine e_iload_n (i := 0) rfl dX9_isTalkSign_6 ?_
    refine e_bipush (v := 63) (by decide) dX9_isTalkSign_7 ?_
    refine e_icmp_eq 31 dX9_isTalkSign_9 (by decide) (fun c_9 => ?_) (fun c_9 => ?_)
    · have hm := it_p c_9 hm
      refine e_weak [.int x0] ⟨rfl, trivial⟩ ?_
      exact tX9_isTalkSign_31 hko x0 hF _ hm
    · have hm := it_n c_9 hm
      refine e_iload_n (i := 0) rfl dX9_isTalkSign_12 ?_
      refine e_bipush (v := 62) (by decide) dX9_isTalkSign_13 ?_
      refine e_icmp_eq 31 dX9_isTalkSign_15 (by decide) (fun c_15 => ?_) (fun c_15 => ?_)
      · have hm := it_p c_15 hm
        refine e_weak [.int x0] ⟨rfl, trivial⟩ ?_
        exact tX9_isTalkSign_31 hko x0 hF _ hm
      · have hm := it_n c_15 hm
        refine e_iload_n (i := 0) rfl dX9_isTalkSign_18 ?_
        refine e_bipush (v := 60) (by decide) dX9_isTalkSign_19 ?_
        refine e_icmp_eq 31 dX9_isTalkSign_21 (by decide) (fun c_21 => ?_) (fun c_21 => ?_)
        · have hm := it_p c_21 hm
          refine e_weak [.int x0] ⟨rfl, trivial⟩ ?_
          exact tX9_isTalkSign_31 hko x0 hF _ hm
        · have hm := it_n c_21 hm
          refine e_iload_n (i := 0) rfl dX9_isTalkSign_24 ?_
          obtain ⟨q1, eq1, hm⟩ := ob_some hm
          refine e_cS1 hko dX9_isTalkSign_25 ml_RX9_84 (by omega) (Nat.le_of_ble_eq_true rfl) (tX10_isChoice hko I J F hF x0 _ eq1) ?_
          rintro _ _ ⟨rfl, rfl⟩
          refine e_if_eq 35 dX9_isTalkSign_28 (by decide) (fun c_28 => ?_) (fun c_28 => ?_)
          · have hm := it_p c_28 hm
            refine e_iconst (v := 0) (by decide) dX9_isTalkSign_35 ?_
            refine e_zret dX9_isTalkSign_36 rfl rfl ?_
            have hm := some_in hm
            subst hm
            exact ⟨rfl, rfl⟩
          · have hm := it_n c_28 hm
            refine e_weak [.int x0] ⟨rfl, trivial⟩ ?_
            exact tX9_isTalkSign_31 hko x0 hF _ hm
theorem dX9_readBranchName_0 : decode cX9_readBranchName 0 = .ok (.aload_n 0, 1) := by decide +kernel
theorem dX9_readBranchName_1 : decode cX9_readBranchName 1 = .ok (.getfield 23, 3) := by decide +kernel
theorem dX9_readBranchName_4 : decode cX9_readBranchName 4 = .ok (.getfield 55, 3) := by decide +kernel
theorem dX9_readBranchName_7 : decode cX9_readBranchName 7 = .ok (.istore_n 2, 1) := by decide +kernel
theorem dX9_readBranchName_8 : decode cX9_readBranchName 8 = .ok (.aload_n 0, 1) := by decide +kernel
theorem dX9_readBranchName_9 : decode cX9_readBranchName 9 = .ok (.getfield 23, 3) := by decide +kernel
theorem dX9_readBranchName_12 : decode cX9_readBranchName 12 = .ok (.invokevirtual 97, 3) := by decide +kernel
theorem dX9_readBranchName_15 : decode cX9_readBranchName 15 = .ok (.istore_n 3, 1) := by decide +kernel
theorem dX9_readBranchName_16 : decode cX9_readBranchName 16 = .ok (.iload_n 1, 1) := by decide +kernel
theorem dX9_readBranchName_17 : decode cX9_readBranchName 17 = .ok (.istore 4, 2) := by decide +kernel
theorem dX9_readBranchName_19 : decode cX9_readBranchName 19 = .ok (.iload 4, 2) := by decide +kernel
theorem dX9_readBranchName_21 : decode cX9_readBranchName 21 = .ok (.aload_n 0, 1) := by decide +kernel
theorem dX9_readBranchName_22 : decode cX9_readBranchName 22 = .ok (.getfield 14, 3) := by decide +kernel
theorem dX9_readBranchName_25 : decode cX9_readBranchName 25 = .ok (.invokevirtual 114, 3) := by decide +kernel
theorem dX9_readBranchName_28 : decode cX9_readBranchName 28 = .ok (.if_icmp .ge 31, 3) := by decide +kernel
theorem dX9_readBranchName_31 : decode cX9_readBranchName 31 = .ok (.aload_n 0, 1) := by decide +kernel
theorem dX9_readBranchName_32 : decode cX9_readBranchName 32 = .ok (.getfield 14, 3) := by decide +kernel
theorem dX9_readBranchName_35 : decode cX9_readBranchName 35 = .ok (.iload 4, 2) := by decide +kernel
theorem dX9_readBranchName_37 : decode cX9_readBranchName 37 = .ok (.invokevirtual 106, 3) := by decide +kernel
theorem dX9_readBranchName_40 : decode cX9_readBranchName 40 = .ok (.iload_n 3, 1) := by decide +kernel
theorem dX9_readBranchName_41 : decode cX9_readBranchName 41 = .ok (.if_icmp .ne 12, 3) := by decide +kernel
theorem dX9_readBranchName_44 : decode cX9_readBranchName 44 = .ok (.aload_n 0, 1) := by decide +kernel
theorem dX9_readBranchName_45 : decode cX9_readBranchName 45 = .ok (.getfield 23, 3) := by decide +kernel
theorem dX9_readBranchName_48 : decode cX9_readBranchName 48 = .ok (.iconst 2, 1) := by decide +kernel
theorem dX9_readBranchName_49 : decode cX9_readBranchName 49 = .ok (.iload_n 2, 1) := by decide +kernel
theorem dX9_readBranchName_50 : decode cX9_readBranchName 50 = .ok (.invokevirtual 58, 3) := by decide +kernel
theorem dX9_readBranchName_53 : decode cX9_readBranchName 53 = .ok (.iinc 4 1, 3) := by decide +kernel
theorem dX9_readBranchName_56 : decode cX9_readBranchName 56 = .ok (.goto (-37), 3) := by decide +kernel
theorem dX9_readBranchName_59 : decode cX9_readBranchName 59 = .ok (.aload_n 0, 1) := by decide +kernel
theorem dX9_readBranchName_60 : decode cX9_readBranchName 60 = .ok (.getfield 14, 3) := by decide +kernel
theorem dX9_readBranchName_63 : decode cX9_readBranchName 63 = .ok (.invokevirtual 114, 3) := by decide +kernel
theorem dX9_readBranchName_66 : decode cX9_readBranchName 66 = .ok (.iload_n 1, 1) := by decide +kernel
theorem dX9_readBranchName_67 : decode cX9_readBranchName 67 = .ok (.isub, 1) := by decide +kernel
theorem dX9_readBranchName_68 : decode cX9_readBranchName 68 = .ok (.bipush 6, 2) := by decide +kernel
theorem dX9_readBranchName_70 : decode cX9_readBranchName 70 = .ok (.if_icmp .lt 12, 3) := by decide +kernel
theorem dX9_readBranchName_73 : decode cX9_readBranchName 73 = .ok (.aload_n 0, 1) := by decide +kernel
theorem dX9_readBranchName_74 : decode cX9_readBranchName 74 = .ok (.getfield 23, 3) := by decide +kernel
theorem dX9_readBranchName_77 : decode cX9_readBranchName 77 = .ok (.iconst 5, 1) := by decide +kernel
theorem dX9_readBranchName_78 : decode cX9_readBranchName 78 = .ok (.iload_n 2, 1) := by decide +kernel
theorem dX9_readBranchName_79 : decode cX9_readBranchName 79 = .ok (.invokevirtual 58, 3) := by decide +kernel
theorem dX9_readBranchName_82 : decode cX9_readBranchName 82 = .ok (.aload_n 0, 1) := by decide +kernel
theorem dX9_readBranchName_83 : decode cX9_readBranchName 83 = .ok (.getfield 20, 3) := by decide +kernel
theorem dX9_readBranchName_86 : decode cX9_readBranchName 86 = .ok (.iconst (-1), 1) := by decide +kernel
theorem dX9_readBranchName_87 : decode cX9_readBranchName 87 = .ok (.invokevirtual 136, 3) := by decide +kernel
theorem dX9_readBranchName_90 : decode cX9_readBranchName 90 = .ok (.pop, 1) := by decide +kernel
theorem dX9_readBranchName_91 : decode cX9_readBranchName 91 = .ok (.aload_n 0, 1) := by decide +kernel
theorem dX9_readBranchName_92 : decode cX9_readBranchName 92 = .ok (.getfield 14, 3) := by decide +kernel
theorem dX9_readBranchName_95 : decode cX9_readBranchName 95 = .ok (.iload_n 3, 1) := by decide +kernel
theorem dX9_readBranchName_96 : decode cX9_readBranchName 96 = .ok (.invokevirtual 136, 3) := by decide +kernel
theorem dX9_readBranchName_99 : decode cX9_readBranchName 99 = .ok (.ireturn, 1) := by decide +kernel
def mX9_readBranchName_53 (k19 : iT → Int32 → Int32 → Int32 → Int32 → Option (Int32 × iT)) (I : iT) (x1 : Int32) (x2 : Int32) (x3 : Int32) (x4 : Int32) : Option (Int32 × iT) := k19 I x1 x2 x3 (x4 + 1)
def mX9_readBranchName_82 (I : iT) (x1 : Int32) (x2 : Int32) (x3 : Int32) (x4 : Int32) : Option (Int32 × iT) := (mX4_add 145 I ((-1))).bind fun q1 => (mX4_add 143 q1.2 x3).bind fun q2 => some (q2.1, q2.2)
def mX9_readBranchName_19 : Nat → iT → Int32 → Int32 → Int32 → Int32 → Option (Int32 × iT)
  | 0, _, _, _, _, _ => none
  | n + 1, I, x1, x2, x3, x4 => (mX4_size 143 I).bind fun q3 => if q3 ≤ x4 then (mX4_size 143 I).bind fun q4 => if (q4 - x1) < 6 then mX9_readBranchName_82 I x1 x2 x3 x4 else (mX2_refuse I 5 x2).bind fun q5 => mX9_readBranchName_82 q5 x1 x2 x3 x4 else (mX4_at 143 I x4).bind fun q6 => if q6 = x3 then (mX2_refuse I 2 x2).bind fun q7 => mX9_readBranchName_53 (mX9_readBranchName_19 n) q7 x1 x2 x3 x4 else mX9_readBranchName_53 (mX9_readBranchName_19 n) I x1 x2 x3 x4
def mX9_readBranchName (I : iT) (x1 : Int32) : Option (Int32 × iT) := (mX2_takeName I).bind fun q8 => mX9_readBranchName_19 LF q8.2 x1 (I 6 8) q8.1 x1
set_option maxRecDepth 100000 in
set_option maxHeartbeats 4000000 in
theorem tX9_readBranchName_53 {l : Launch} {K : a_KT} {g : a_GT} {IB : iT} (hko : a_kok K) {J : jT} {F : fT} {k19 : iT → Int32 → Int32 → Int32 → Int32 → Option (Int32 × iT)} (hk19 : ∀ (I : iT) (x1 : Int32) (x2 : Int32) (x3 : Int32) (x4 : Int32) (_ : FK F) (q : Int32 × iT), k19 I x1 x2 x3 x4 = some q → E l K g 2 0 0 yX9_readBranchName cX9_readBranchName 5 (some .int) 19 [.ref 142, .int x1, .int x2, .int x3, .int x4] [] (hg I IB J F) (fun r2 h2 => r2 = some (.int q.1) ∧ h2 = hg q.2 IB J F)) (I : iT) (x1 : Int32) (x2 : Int32) (x3 : Int32) (x4 : Int32) (hF : FK F) (q : Int32 × iT) (hm : mX9_readBranchName_53 k19 I x1 x2 x3 x4 = some q) : E l K g 2 0 0 yX9_readBranchName cX9_readBranchName 5 (some .int) 53 [.ref 142, .int x1, .int x2, .int x3, .int x4] [] (hg I IB J F) (fun r2 h2 => r2 = some (.int q.1) ∧ h2 = hg q.2 IB J F) := by
  unfold mX9_readBranchName_53 at hm
  refine q_iinc (i := 4) (x4 + 1) rfl ic_1 rfl dX9_readBranchName_53 ?_
  refine e_goto 19 dX9_readBranchName_56 (by decide) ?_
  refine e_weak [.ref 142, .int x1, .int x2, .int x3, .int (x4 + 1)] ⟨rfl, ⟨rfl, ⟨rfl, ⟨rfl, ⟨rfl, trivial⟩⟩⟩⟩⟩ ?_
  exact hk19 I x1 x2 x3 (x4 + 1) hF _ hm
set_option maxRecDepth 100000 in
set_option maxHeartbeats 4000000 in
theorem tX9_readBranchName_82 {l : Launch} {K : a_KT} {g : a_GT} {IB : iT} (hko : a_kok K) {J : jT} {F : fT} (I : iT) (x1 : Int32) (x2 : Int32) (x3 : Int32) (x4 : Int32) (hF : FK F) (q : Int32 × iT) (hm : mX9_readBranchName_82 I x1 x2 x3 x4 = some q) : E l K g 2 0 0 yX9_readBranchName cX9_readBranchName 5 (some .int) 82 [.ref 142, .int x1, .int x2, .int x3, .int x4] [] (hg I IB J F) (fun r2 h2 => r2 = some (.int q.1) ∧ h2 = hg q.2 IB J F) := by
  unfold mX9_readBranchName_82 at hm
  refine e_aload_n (i := 0) rfl dX9_readBranchName_82 ?_
  refine q_getF 9 2 145 dX9_readBranchName_83 fl_RX9_20 rfl iz_142 (fr_142_2 hF.1) ?_
  refine e_iconst (v := (-1)) (by decide) dX9_readBranchName_86 ?_
  obtain ⟨q1, eq1, hm⟩ := ob_some hm
  refine e_cV1 hko dX9_readBranchName_87 ml_RX9_136 iz_145 (by decide) rfl (by omega) (Nat.le_of_ble_eq_true rfl) (tX4_add hko rw_145 I J F hF ((-1)) _ eq1) ?_
  rintro _ _ ⟨rfl, rfl⟩
  refine e_pop rfl dX9_readBranchName_90 ?_
  refine e_aload_n (i := 0) rfl dX9_readBranchName_91 ?_
  refine q_getF 9 1 143 dX9_readBranchName_92 fl_RX9_14 rfl iz_142 (fr_142_1 hF.1) ?_
  refine e_iload_n (i := 3) rfl dX9_readBranchName_95 ?_
  obtain ⟨q2, eq2, hm⟩ := ob_some hm
  refine e_cV1 hko dX9_readBranchName_96 ml_RX9_136 iz_143 (by decide) rfl (by omega) (Nat.le_of_ble_eq_true rfl) (tX4_add hko rw_143 q1.2 J F hF x3 _ eq2) ?_
  rintro _ _ ⟨rfl, rfl⟩
  refine e_iret dX9_readBranchName_99 rfl ?_
  have hm := some_in hm
  subst hm
  exact ⟨rfl, rfl⟩
set_option maxRecDepth 100000 in
set_option maxHeartbeats 4000000 in
theorem tX9_readBranchName_19 {l : Launch} {K : a_KT} {g : a_GT} {IB : iT} (hko : a_kok K) {J : jT} {F : fT} : ∀ (n : Nat) (I : iT) (x1 : Int32) (x2 : Int32) (x3 : Int32) (x4 : Int32) (hF : FK F) (q : Int32 × iT), mX9_readBranchName_19 n I x1 x2 x3 x4 = some q → E l K g 2 0 0 yX9_readBranchName cX9_readBranchName 5 (some .int) 19 [.ref 142, .int x1, .int x2, .int x3, .int x4] [] (hg I IB J F) (fun r2 h2 => r2 = some (.int q.1) ∧ h2 = hg q.2 IB J F) := by
  intro n
  induction n with
  | zero => intro I x1 x2 x3 x4 hF q hm; cases hm
  | succ n ih =>
    intro I x1 x2 x3 x4 hF q hm
    rw [mX9_readBranchName_19] at hm
    refine e_iload (i := 4) rfl dX9_readBranchName_19 ?_
    refine e_aload_n (i := 0) rfl dX9_readBranchName_21 ?_
    refine q_getF 9 1 143 dX9_readBranchName_22 fl_RX9_14 rfl iz_142 (fr_142_1 hF.1) ?_
    obtain ⟨q3, eq3, hm⟩ := ob_some hm
    refine e_cV0 hko dX9_readBranchName_25 ml_RX9_114 iz_143 (by decide) rfl (by omega) (Nat.le_of_ble_eq_true rfl) (tX4_size hko rw_143 I J F hF _ eq3) ?_
    rintro _ _ ⟨rfl, rfl⟩
    refine e_icmp_ge 59 dX9_readBranchName_28 (by decide) (fun c_28 => ?_) (fun c_28 => ?_)
    · have hm := it_p c_28 hm
      refine e_aload_n (i := 0) rfl dX9_readBranchName_59 ?_
      refine q_getF 9 1 143 dX9_readBranchName_60 fl_RX9_14 rfl iz_142 (fr_142_1 hF.1) ?_
      obtain ⟨q4, eq4, hm⟩ := ob_some hm
      refine e_cV0 hko dX9_readBranchName_63 ml_RX9_114 iz_143 (by decide) rfl (by omega) (Nat.le_of_ble_eq_true rfl) (tX4_size hko rw_143 I J F hF _ eq4) ?_
      rintro _ _ ⟨rfl, rfl⟩
      refine e_iload_n (i := 1) rfl dX9_readBranchName_66 ?_
      refine e_isub dX9_readBranchName_67 ?_
      refine e_bipush (v := 6) (by decide) dX9_readBranchName_68 ?_
      refine e_icmp_lt 82 dX9_readBranchName_70 (by decide) (fun c_70 => ?_) (fun c_70 => ?_)
      · have hm := it_p c_70 hm
        refine e_weak [.ref 142, .int x1, .int x2, .int x3, .int x4] ⟨rfl, ⟨rfl, ⟨rfl, ⟨rfl, ⟨rfl, trivial⟩⟩⟩⟩⟩ ?_
        exact tX9_readBranchName_82 hko I x1 x2 x3 x4 hF _ hm
      · have hm := it_n c_70 hm
        refine e_aload_n (i := 0) rfl dX9_readBranchName_73 ?_
        refine q_getF 9 0 6 dX9_readBranchName_74 fl_RX9_23 rfl iz_142 (fr_142_0 hF.1) ?_
        refine e_iconst (v := 5) (by decide) dX9_readBranchName_77 ?_
        refine e_iload_n (i := 2) rfl dX9_readBranchName_78 ?_
        obtain ⟨q5, eq5, hm⟩ := ob_some hm
        refine e_cV2 hko dX9_readBranchName_79 ml_RX9_58 iz_6 (by decide) rfl (by omega) (Nat.le_of_ble_eq_true rfl) (tX2_refuse hko I J F hF 5 x2 _ eq5) ?_
        rintro _ _ ⟨rfl, rfl⟩
        refine e_weak [.ref 142, .int x1, .int x2, .int x3, .int x4] ⟨rfl, ⟨rfl, ⟨rfl, ⟨rfl, ⟨rfl, trivial⟩⟩⟩⟩⟩ ?_
        exact tX9_readBranchName_82 hko q5 x1 x2 x3 x4 hF _ hm
    · have hm := it_n c_28 hm
      refine e_aload_n (i := 0) rfl dX9_readBranchName_31 ?_
      refine q_getF 9 1 143 dX9_readBranchName_32 fl_RX9_14 rfl iz_142 (fr_142_1 hF.1) ?_
      refine e_iload (i := 4) rfl dX9_readBranchName_35 ?_
      obtain ⟨q6, eq6, hm⟩ := ob_some hm
      refine e_cV1 hko dX9_readBranchName_37 ml_RX9_106 iz_143 (by decide) rfl (by omega) (Nat.le_of_ble_eq_true rfl) (tX4_at hko rw_143 I J F hF x4 _ eq6) ?_
      rintro _ _ ⟨rfl, rfl⟩
      refine e_iload_n (i := 3) rfl dX9_readBranchName_40 ?_
      refine e_icmp_ne 53 dX9_readBranchName_41 (by decide) (fun c_41 => ?_) (fun c_41 => ?_)
      · have hm := it_n c_41 hm
        refine e_weak [.ref 142, .int x1, .int x2, .int x3, .int x4] ⟨rfl, ⟨rfl, ⟨rfl, ⟨rfl, ⟨rfl, trivial⟩⟩⟩⟩⟩ ?_
        exact tX9_readBranchName_53 hko (ih) I x1 x2 x3 x4 hF _ hm
      · have hm := it_p c_41 hm
        refine e_aload_n (i := 0) rfl dX9_readBranchName_44 ?_
        refine q_getF 9 0 6 dX9_readBranchName_45 fl_RX9_23 rfl iz_142 (fr_142_0 hF.1) ?_
        refine e_iconst (v := 2) (by decide) dX9_readBranchName_48 ?_
        refine e_iload_n (i := 2) rfl dX9_readBranchName_49 ?_
        obtain ⟨q7, eq7, hm⟩ := ob_some hm
        refine e_cV2 hko dX9_readBranchName_50 ml_RX9_58 iz_6 (by decide) rfl (by omega) (Nat.le_of_ble_eq_true rfl) (tX2_refuse hko I J F hF 2 x2 _ eq7) ?_
        rintro _ _ ⟨rfl, rfl⟩
        refine e_weak [.ref 142, .int x1, .int x2, .int x3, .int x4] ⟨rfl, ⟨rfl, ⟨rfl, ⟨rfl, ⟨rfl, trivial⟩⟩⟩⟩⟩ ?_
        exact tX9_readBranchName_53 hko (ih) q7 x1 x2 x3 x4 hF _ hm
set_option maxRecDepth 100000 in
set_option maxHeartbeats 4000000 in
theorem tX9_readBranchName {l : Launch} {K : a_KT} {g : a_GT} {IB : iT} (hko : a_kok K) (I : iT) (J : jT) (F : fT) (hF : FK F) (x1 : Int32) (q : Int32 × iT) (hm : mX9_readBranchName I x1 = some q) : C l K g 2 0 0 yX9_readBranchName cX9_readBranchName 5 (some .int) [.ref 142, .int x1] (hg I IB J F) (fun r2 h2 => r2 = some (.int q.1) ∧ h2 = hg q.2 IB J F) := by
  unfold mX9_readBranchName at hm
  refine c_of [.ref 142, .int x1, .null, .null, .null] (by decide) (Nat.le_of_ble_eq_true rfl) rfl ?_
  refine e_aload_n (i := 0) rfl dX9_readBranchName_0 ?_
  refine q_getF 9 0 6 dX9_readBranchName_1 fl_RX9_23 rfl iz_142 (fr_142_0 hF.1) ?_
  refine k_getI 2 8 dX9_readBranchName_4 fl_RX9_55 rfl iz_6 (by decide) ?_
  refine q_istore_n (i := 2) (by decide) rfl dX9_readBranchName_7 ?_
  refine e_aload_n (i := 0) rfl dX9_readBranchName_8 ?_
  refine q_getF 9 0 6 dX9_readBranchName_9 fl_RX9_23 rfl iz_142 (fr_142_0 hF.1) ?_
  obtain ⟨q8, eq8, hm⟩ := ob_some hm
  refine e_cV0 hko dX9_readBranchName_12 ml_RX9_97 iz_6 (by decide) rfl (by omega) (Nat.le_of_ble_eq_true rfl) (tX2_takeName hko I J F hF _ eq8) ?_
  rintro _ _ ⟨rfl, rfl⟩
  refine q_istore_n (i := 3) (by decide) rfl dX9_readBranchName_15 ?_
  refine e_iload_n (i := 1) rfl dX9_readBranchName_16 ?_
  refine q_istore (i := 4) (by decide) rfl dX9_readBranchName_17 ?_
  refine e_weak [.ref 142, .int x1, .int (I 6 8), .int q8.1, .int x1] ⟨rfl, ⟨rfl, ⟨rfl, ⟨rfl, ⟨rfl, trivial⟩⟩⟩⟩⟩ ?_
  exact tX9_readBranchName_19 hko LF q8.2 x1 (I 6 8) q8.1 x1 hF _ hm
theorem dX9_sortLast_0 : decode cX9_sortLast 0 = .ok (.aload_n 0, 1) := by decide +kernel
theorem dX9_sortLast_1 : decode cX9_sortLast 1 = .ok (.getfield 14, 3) := by decide +kernel
theorem dX9_sortLast_4 : decode cX9_sortLast 4 = .ok (.invokevirtual 114, 3) := by decide +kernel
theorem dX9_sortLast_7 : decode cX9_sortLast 7 = .ok (.iconst 1, 1) := by decide +kernel
theorem dX9_sortLast_8 : decode cX9_sortLast 8 = .ok (.isub, 1) := by decide +kernel
theorem dX9_sortLast_9 : decode cX9_sortLast 9 = .ok (.istore_n 2, 1) := by decide +kernel
theorem dX9_sortLast_10 : decode cX9_sortLast 10 = .ok (.iload_n 2, 1) := by decide +kernel
theorem dX9_sortLast_11 : decode cX9_sortLast 11 = .ok (.iload_n 1, 1) := by decide +kernel
theorem dX9_sortLast_12 : decode cX9_sortLast 12 = .ok (.if_icmp .le 104, 3) := by decide +kernel
theorem dX9_sortLast_15 : decode cX9_sortLast 15 = .ok (.aload_n 0, 1) := by decide +kernel
theorem dX9_sortLast_16 : decode cX9_sortLast 16 = .ok (.getfield 14, 3) := by decide +kernel
theorem dX9_sortLast_19 : decode cX9_sortLast 19 = .ok (.iload_n 2, 1) := by decide +kernel
theorem dX9_sortLast_20 : decode cX9_sortLast 20 = .ok (.invokevirtual 106, 3) := by decide +kernel
theorem dX9_sortLast_23 : decode cX9_sortLast 23 = .ok (.istore_n 3, 1) := by decide +kernel
theorem dX9_sortLast_24 : decode cX9_sortLast 24 = .ok (.aload_n 0, 1) := by decide +kernel
theorem dX9_sortLast_25 : decode cX9_sortLast 25 = .ok (.getfield 20, 3) := by decide +kernel
theorem dX9_sortLast_28 : decode cX9_sortLast 28 = .ok (.iload_n 2, 1) := by decide +kernel
theorem dX9_sortLast_29 : decode cX9_sortLast 29 = .ok (.invokevirtual 106, 3) := by decide +kernel
theorem dX9_sortLast_32 : decode cX9_sortLast 32 = .ok (.istore 4, 2) := by decide +kernel
theorem dX9_sortLast_34 : decode cX9_sortLast 34 = .ok (.aload_n 0, 1) := by decide +kernel
theorem dX9_sortLast_35 : decode cX9_sortLast 35 = .ok (.getfield 14, 3) := by decide +kernel
theorem dX9_sortLast_38 : decode cX9_sortLast 38 = .ok (.iload_n 2, 1) := by decide +kernel
theorem dX9_sortLast_39 : decode cX9_sortLast 39 = .ok (.iconst 1, 1) := by decide +kernel
theorem dX9_sortLast_40 : decode cX9_sortLast 40 = .ok (.isub, 1) := by decide +kernel
theorem dX9_sortLast_41 : decode cX9_sortLast 41 = .ok (.invokevirtual 106, 3) := by decide +kernel
theorem dX9_sortLast_44 : decode cX9_sortLast 44 = .ok (.iload_n 3, 1) := by decide +kernel
theorem dX9_sortLast_45 : decode cX9_sortLast 45 = .ok (.if_icmp .ge 6, 3) := by decide +kernel
theorem dX9_sortLast_48 : decode cX9_sortLast 48 = .ok (.goto 68, 3) := by decide +kernel
theorem dX9_sortLast_51 : decode cX9_sortLast 51 = .ok (.aload_n 0, 1) := by decide +kernel
theorem dX9_sortLast_52 : decode cX9_sortLast 52 = .ok (.getfield 14, 3) := by decide +kernel
theorem dX9_sortLast_55 : decode cX9_sortLast 55 = .ok (.iload_n 2, 1) := by decide +kernel
theorem dX9_sortLast_56 : decode cX9_sortLast 56 = .ok (.aload_n 0, 1) := by decide +kernel
theorem dX9_sortLast_57 : decode cX9_sortLast 57 = .ok (.getfield 14, 3) := by decide +kernel
theorem dX9_sortLast_60 : decode cX9_sortLast 60 = .ok (.iload_n 2, 1) := by decide +kernel
theorem dX9_sortLast_61 : decode cX9_sortLast 61 = .ok (.iconst 1, 1) := by decide +kernel
theorem dX9_sortLast_62 : decode cX9_sortLast 62 = .ok (.isub, 1) := by decide +kernel
theorem dX9_sortLast_63 : decode cX9_sortLast 63 = .ok (.invokevirtual 106, 3) := by decide +kernel
theorem dX9_sortLast_66 : decode cX9_sortLast 66 = .ok (.invokevirtual 120, 3) := by decide +kernel
theorem dX9_sortLast_69 : decode cX9_sortLast 69 = .ok (.aload_n 0, 1) := by decide +kernel
theorem dX9_sortLast_70 : decode cX9_sortLast 70 = .ok (.getfield 20, 3) := by decide +kernel
theorem dX9_sortLast_73 : decode cX9_sortLast 73 = .ok (.iload_n 2, 1) := by decide +kernel
theorem dX9_sortLast_74 : decode cX9_sortLast 74 = .ok (.aload_n 0, 1) := by decide +kernel
theorem dX9_sortLast_75 : decode cX9_sortLast 75 = .ok (.getfield 20, 3) := by decide +kernel
theorem dX9_sortLast_78 : decode cX9_sortLast 78 = .ok (.iload_n 2, 1) := by decide +kernel
theorem dX9_sortLast_79 : decode cX9_sortLast 79 = .ok (.iconst 1, 1) := by decide +kernel
theorem dX9_sortLast_80 : decode cX9_sortLast 80 = .ok (.isub, 1) := by decide +kernel
theorem dX9_sortLast_81 : decode cX9_sortLast 81 = .ok (.invokevirtual 106, 3) := by decide +kernel
theorem dX9_sortLast_84 : decode cX9_sortLast 84 = .ok (.invokevirtual 120, 3) := by decide +kernel
theorem dX9_sortLast_87 : decode cX9_sortLast 87 = .ok (.aload_n 0, 1) := by decide +kernel
theorem dX9_sortLast_88 : decode cX9_sortLast 88 = .ok (.getfield 14, 3) := by decide +kernel
theorem dX9_sortLast_91 : decode cX9_sortLast 91 = .ok (.iload_n 2, 1) := by decide +kernel
theorem dX9_sortLast_92 : decode cX9_sortLast 92 = .ok (.iconst 1, 1) := by decide +kernel
theorem dX9_sortLast_93 : decode cX9_sortLast 93 = .ok (.isub, 1) := by decide +kernel
theorem dX9_sortLast_94 : decode cX9_sortLast 94 = .ok (.iload_n 3, 1) := by decide +kernel
theorem dX9_sortLast_95 : decode cX9_sortLast 95 = .ok (.invokevirtual 120, 3) := by decide +kernel
theorem dX9_sortLast_98 : decode cX9_sortLast 98 = .ok (.aload_n 0, 1) := by decide +kernel
theorem dX9_sortLast_99 : decode cX9_sortLast 99 = .ok (.getfield 20, 3) := by decide +kernel
theorem dX9_sortLast_102 : decode cX9_sortLast 102 = .ok (.iload_n 2, 1) := by decide +kernel
theorem dX9_sortLast_103 : decode cX9_sortLast 103 = .ok (.iconst 1, 1) := by decide +kernel
theorem dX9_sortLast_104 : decode cX9_sortLast 104 = .ok (.isub, 1) := by decide +kernel
theorem dX9_sortLast_105 : decode cX9_sortLast 105 = .ok (.iload 4, 2) := by decide +kernel
theorem dX9_sortLast_107 : decode cX9_sortLast 107 = .ok (.invokevirtual 120, 3) := by decide +kernel
theorem dX9_sortLast_110 : decode cX9_sortLast 110 = .ok (.iinc 2 (-1), 3) := by decide +kernel
theorem dX9_sortLast_113 : decode cX9_sortLast 113 = .ok (.goto (-103), 3) := by decide +kernel
theorem dX9_sortLast_116 : decode cX9_sortLast 116 = .ok (.return_, 1) := by decide +kernel
def mX9_sortLast_10 : Nat → iT → Int32 → Int32 → Option (iT)
  | 0, _, _, _ => none
  | n + 1, I, x1, x2 => if x2 ≤ x1 then some I else (mX4_at 143 I x2).bind fun q1 => (mX4_at 145 I x2).bind fun q2 => (mX4_at 143 I (x2 - 1)).bind fun q3 => if q1 ≤ q3 then (mX4_at 143 I (x2 - 1)).bind fun q4 => (mX4_put 143 I x2 q4).bind fun q5 => (mX4_at 145 q5 (x2 - 1)).bind fun q6 => (mX4_put 145 q5 x2 q6).bind fun q7 => (mX4_put 143 q7 (x2 - 1) q1).bind fun q8 => (mX4_put 145 q8 (x2 - 1) q2).bind fun q9 => mX9_sortLast_10 n q9 x1 (x2 + (-1)) else some I
def mX9_sortLast (I : iT) (x1 : Int32) : Option (iT) := (mX4_size 143 I).bind fun q10 => mX9_sortLast_10 LF I x1 (q10 - 1)
set_option maxRecDepth 100000 in
set_option maxHeartbeats 4000000 in
theorem tX9_sortLast_10 {l : Launch} {K : a_KT} {g : a_GT} {IB : iT} (hko : a_kok K) {J : jT} {F : fT} : ∀ (n : Nat) (I : iT) (x1 : Int32) (x2 : Int32) (hF : FK F) (q : iT), mX9_sortLast_10 n I x1 x2 = some q → E l K g 1 0 0 yX9_sortLast cX9_sortLast 5 none 10 [.ref 142, .int x1, .int x2, .null, .null] [] (hg I IB J F) (fun r2 h2 => r2 = none ∧ h2 = hg q IB J F) := by
  intro n
  induction n with
  | zero => intro I x1 x2 hF q hm; cases hm
  | succ n ih =>
    intro I x1 x2 hF q hm
    rw [mX9_sortLast_10] at hm
    refine e_iload_n (i := 2) rfl dX9_sortLast_10 ?_
    refine e_iload_n (i := 1) rfl dX9_sortLast_11 ?_
    refine e_icmp_le 116 dX9_sortLast_12 (by decide) (fun c_12 => ?_) (fun c_12 => ?_)
    · have hm := it_p c_12 hm
      refine e_vret dX9_sortLast_116 rfl ?_
      have hm := some_in hm
      subst hm
      exact ⟨rfl, rfl⟩
    · have hm := it_n c_12 hm
      refine e_aload_n (i := 0) rfl dX9_sortLast_15 ?_
      refine q_getF 9 1 143 dX9_sortLast_16 fl_RX9_14 rfl iz_142 (fr_142_1 hF.1) ?_
      refine e_iload_n (i := 2) rfl dX9_sortLast_19 ?_
      obtain ⟨q1, eq1, hm⟩ := ob_some hm
      refine e_cV1 hko dX9_sortLast_20 ml_RX9_106 iz_143 (by decide) rfl (by omega) (Nat.le_of_ble_eq_true rfl) (tX4_at hko rw_143 I J F hF x2 _ eq1) ?_
      rintro _ _ ⟨rfl, rfl⟩
      refine q_istore_n (i := 3) (by decide) rfl dX9_sortLast_23 ?_
      refine e_aload_n (i := 0) rfl dX9_sortLast_24 ?_
      refine q_getF 9 2 145 dX9_sortLast_25 fl_RX9_20 rfl iz_142 (fr_142_2 hF.1) ?_
      refine e_iload_n (i := 2) rfl dX9_sortLast_28 ?_
      obtain ⟨q2, eq2, hm⟩ := ob_some hm
      refine e_cV1 hko dX9_sortLast_29 ml_RX9_106 iz_145 (by decide) rfl (by omega) (Nat.le_of_ble_eq_true rfl) (tX4_at hko rw_145 I J F hF x2 _ eq2) ?_
      rintro _ _ ⟨rfl, rfl⟩
      refine q_istore (i := 4) (by decide) rfl dX9_sortLast_32 ?_
      refine e_aload_n (i := 0) rfl dX9_sortLast_34 ?_
      refine q_getF 9 1 143 dX9_sortLast_35 fl_RX9_14 rfl iz_142 (fr_142_1 hF.1) ?_
      refine e_iload_n (i := 2) rfl dX9_sortLast_38 ?_
      refine e_iconst (v := 1) (by decide) dX9_sortLast_39 ?_
      refine e_isub dX9_sortLast_40 ?_
      obtain ⟨q3, eq3, hm⟩ := ob_some hm
      refine e_cV1 hko dX9_sortLast_41 ml_RX9_106 iz_143 (by decide) rfl (by omega) (Nat.le_of_ble_eq_true rfl) (tX4_at hko rw_143 I J F hF (x2 - 1) _ eq3) ?_
      rintro _ _ ⟨rfl, rfl⟩
      refine e_iload_n (i := 3) rfl dX9_sortLast_44 ?_
      refine e_icmp_ge 51 dX9_sortLast_45 (by decide) (fun c_45 => ?_) (fun c_45 => ?_)
      · have hm := it_p c_45 hm
        refine e_aload_n (i := 0) rfl dX9_sortLast_51 ?_
        refine q_getF 9 1 143 dX9_sortLast_52 fl_RX9_14 rfl iz_142 (fr_142_1 hF.1) ?_
        refine e_iload_n (i := 2) rfl dX9_sortLast_55 ?_
        refine e_aload_n (i := 0) rfl dX9_sortLast_56 ?_
        refine q_getF 9 1 143 dX9_sortLast_57 fl_RX9_14 rfl iz_142 (fr_142_1 hF.1) ?_
        refine e_iload_n (i := 2) rfl dX9_sortLast_60 ?_
        refine e_iconst (v := 1) (by decide) dX9_sortLast_61 ?_
        refine e_isub dX9_sortLast_62 ?_
        obtain ⟨q4, eq4, hm⟩ := ob_some hm
        refine e_cV1 hko dX9_sortLast_63 ml_RX9_106 iz_143 (by decide) rfl (by omega) (Nat.le_of_ble_eq_true rfl) (tX4_at hko rw_143 I J F hF (x2 - 1) _ eq4) ?_
        rintro _ _ ⟨rfl, rfl⟩
        obtain ⟨q5, eq5, hm⟩ := ob_some hm
        refine e_cV2 hko dX9_sortLast_66 ml_RX9_120 iz_143 (by decide) rfl (by omega) (Nat.le_of_ble_eq_true rfl) (tX4_put hko rw_143 I J F hF x2 q4 _ eq5) ?_
        rintro _ _ ⟨rfl, rfl⟩
        refine e_aload_n (i := 0) rfl dX9_sortLast_69 ?_
        refine q_getF 9 2 145 dX9_sortLast_70 fl_RX9_20 rfl iz_142 (fr_142_2 hF.1) ?_
        refine e_iload_n (i := 2) rfl dX9_sortLast_73 ?_
        refine e_aload_n (i := 0) rfl dX9_sortLast_74 ?_
        refine q_getF 9 2 145 dX9_sortLast_75 fl_RX9_20 rfl iz_142 (fr_142_2 hF.1) ?_
        refine e_iload_n (i := 2) rfl dX9_sortLast_78 ?_
        refine e_iconst (v := 1) (by decide) dX9_sortLast_79 ?_
        refine e_isub dX9_sortLast_80 ?_
        obtain ⟨q6, eq6, hm⟩ := ob_some hm
        refine e_cV1 hko dX9_sortLast_81 ml_RX9_106 iz_145 (by decide) rfl (by omega) (Nat.le_of_ble_eq_true rfl) (tX4_at hko rw_145 q5 J F hF (x2 - 1) _ eq6) ?_
        rintro _ _ ⟨rfl, rfl⟩
        obtain ⟨q7, eq7, hm⟩ := ob_some hm
        refine e_cV2 hko dX9_sortLast_84 ml_RX9_120 iz_145 (by decide) rfl (by omega) (Nat.le_of_ble_eq_true rfl) (tX4_put hko rw_145 q5 J F hF x2 q6 _ eq7) ?_
        rintro _ _ ⟨rfl, rfl⟩
        refine e_aload_n (i := 0) rfl dX9_sortLast_87 ?_
        refine q_getF 9 1 143 dX9_sortLast_88 fl_RX9_14 rfl iz_142 (fr_142_1 hF.1) ?_
        refine e_iload_n (i := 2) rfl dX9_sortLast_91 ?_
        refine e_iconst (v := 1) (by decide) dX9_sortLast_92 ?_
        refine e_isub dX9_sortLast_93 ?_
        refine e_iload_n (i := 3) rfl dX9_sortLast_94 ?_
        obtain ⟨q8, eq8, hm⟩ := ob_some hm
        refine e_cV2 hko dX9_sortLast_95 ml_RX9_120 iz_143 (by decide) rfl (by omega) (Nat.le_of_ble_eq_true rfl) (tX4_put hko rw_143 q7 J F hF (x2 - 1) q1 _ eq8) ?_
        rintro _ _ ⟨rfl, rfl⟩
        refine e_aload_n (i := 0) rfl dX9_sortLast_98 ?_
        refine q_getF 9 2 145 dX9_sortLast_99 fl_RX9_20 rfl iz_142 (fr_142_2 hF.1) ?_
        refine e_iload_n (i := 2) rfl dX9_sortLast_102 ?_
        refine e_iconst (v := 1) (by decide) dX9_sortLast_103 ?_
        refine e_isub dX9_sortLast_104 ?_
        refine e_iload (i := 4) rfl dX9_sortLast_105 ?_
        obtain ⟨q9, eq9, hm⟩ := ob_some hm
        refine e_cV2 hko dX9_sortLast_107 ml_RX9_120 iz_145 (by decide) rfl (by omega) (Nat.le_of_ble_eq_true rfl) (tX4_put hko rw_145 q8 J F hF (x2 - 1) q2 _ eq9) ?_
        rintro _ _ ⟨rfl, rfl⟩
        refine q_iinc (i := 2) (x2 + (-1)) rfl ic_m1 rfl dX9_sortLast_110 ?_
        refine e_goto 10 dX9_sortLast_113 (by decide) ?_
        refine e_weak [.ref 142, .int x1, .int (x2 + (-1)), .null, .null] ⟨rfl, ⟨rfl, ⟨rfl, ⟨trivial, ⟨trivial, trivial⟩⟩⟩⟩⟩ ?_
        exact ih q9 x1 (x2 + (-1)) hF _ hm
      · have hm := it_n c_45 hm
        refine e_goto 116 dX9_sortLast_48 (by decide) ?_
        refine e_vret dX9_sortLast_116 rfl ?_
        have hm := some_in hm
        subst hm
        exact ⟨rfl, rfl⟩
set_option maxRecDepth 100000 in
set_option maxHeartbeats 4000000 in
theorem tX9_sortLast {l : Launch} {K : a_KT} {g : a_GT} {IB : iT} (hko : a_kok K) (I : iT) (J : jT) (F : fT) (hF : FK F) (x1 : Int32) (q : iT) (hm : mX9_sortLast I x1 = some q) : C l K g 1 0 0 yX9_sortLast cX9_sortLast 5 none [.ref 142, .int x1] (hg I IB J F) (fun r2 h2 => r2 = none ∧ h2 = hg q IB J F) := by
  unfold mX9_sortLast at hm
  refine c_of [.ref 142, .int x1, .null, .null, .null] (by decide) (Nat.le_of_ble_eq_true rfl) rfl ?_
  refine e_aload_n (i := 0) rfl dX9_sortLast_0 ?_
  refine q_getF 9 1 143 dX9_sortLast_1 fl_RX9_14 rfl iz_142 (fr_142_1 hF.1) ?_
  obtain ⟨q10, eq10, hm⟩ := ob_some hm
  refine e_cV0 hko dX9_sortLast_4 ml_RX9_114 iz_143 (by decide) rfl (by omega) (Nat.le_of_ble_eq_true rfl) (tX4_size hko rw_143 I J F hF _ eq10) ?_
  rintro _ _ ⟨rfl, rfl⟩
  refine e_iconst (v := 1) (by decide) dX9_sortLast_7 ?_
  refine e_isub dX9_sortLast_8 ?_
  refine q_istore_n (i := 2) (by decide) rfl dX9_sortLast_9 ?_
  refine e_weak [.ref 142, .int x1, .int (q10 - 1), .null, .null] ⟨rfl, ⟨rfl, ⟨rfl, ⟨trivial, ⟨trivial, trivial⟩⟩⟩⟩⟩ ?_
  exact tX9_sortLast_10 hko LF I x1 (q10 - 1) hF _ hm
theorem dX9_readKnown_0 : decode cX9_readKnown 0 = .ok (.aload_n 0, 1) := by decide +kernel
theorem dX9_readKnown_1 : decode cX9_readKnown 1 = .ok (.getfield 23, 3) := by decide +kernel
theorem dX9_readKnown_4 : decode cX9_readKnown 4 = .ok (.getfield 55, 3) := by decide +kernel
theorem dX9_readKnown_7 : decode cX9_readKnown 7 = .ok (.istore_n 1, 1) := by decide +kernel
theorem dX9_readKnown_8 : decode cX9_readKnown 8 = .ok (.aload_n 0, 1) := by decide +kernel
theorem dX9_readKnown_9 : decode cX9_readKnown 9 = .ok (.getfield 27, 3) := by decide +kernel
theorem dX9_readKnown_12 : decode cX9_readKnown 12 = .ok (.getfield 94, 3) := by decide +kernel
theorem dX9_readKnown_15 : decode cX9_readKnown 15 = .ok (.aload_n 0, 1) := by decide +kernel
theorem dX9_readKnown_16 : decode cX9_readKnown 16 = .ok (.getfield 23, 3) := by decide +kernel
theorem dX9_readKnown_19 : decode cX9_readKnown 19 = .ok (.invokevirtual 97, 3) := by decide +kernel
theorem dX9_readKnown_22 : decode cX9_readKnown 22 = .ok (.invokevirtual 100, 3) := by decide +kernel
theorem dX9_readKnown_25 : decode cX9_readKnown 25 = .ok (.istore_n 2, 1) := by decide +kernel
theorem dX9_readKnown_26 : decode cX9_readKnown 26 = .ok (.iload_n 2, 1) := by decide +kernel
theorem dX9_readKnown_27 : decode cX9_readKnown 27 = .ok (.iconst (-1), 1) := by decide +kernel
theorem dX9_readKnown_28 : decode cX9_readKnown 28 = .ok (.if_icmp .ne 14, 3) := by decide +kernel
theorem dX9_readKnown_31 : decode cX9_readKnown 31 = .ok (.aload_n 0, 1) := by decide +kernel
theorem dX9_readKnown_32 : decode cX9_readKnown 32 = .ok (.getfield 23, 3) := by decide +kernel
theorem dX9_readKnown_35 : decode cX9_readKnown 35 = .ok (.iconst 2, 1) := by decide +kernel
theorem dX9_readKnown_36 : decode cX9_readKnown 36 = .ok (.iload_n 1, 1) := by decide +kernel
theorem dX9_readKnown_37 : decode cX9_readKnown 37 = .ok (.invokevirtual 58, 3) := by decide +kernel
theorem dX9_readKnown_40 : decode cX9_readKnown 40 = .ok (.iconst (-1), 1) := by decide +kernel
theorem dX9_readKnown_41 : decode cX9_readKnown 41 = .ok (.ireturn, 1) := by decide +kernel
theorem dX9_readKnown_42 : decode cX9_readKnown 42 = .ok (.aload_n 0, 1) := by decide +kernel
theorem dX9_readKnown_43 : decode cX9_readKnown 43 = .ok (.getfield 27, 3) := by decide +kernel
theorem dX9_readKnown_46 : decode cX9_readKnown 46 = .ok (.getfield 103, 3) := by decide +kernel
theorem dX9_readKnown_49 : decode cX9_readKnown 49 = .ok (.iload_n 2, 1) := by decide +kernel
theorem dX9_readKnown_50 : decode cX9_readKnown 50 = .ok (.invokevirtual 106, 3) := by decide +kernel
theorem dX9_readKnown_53 : decode cX9_readKnown 53 = .ok (.istore_n 3, 1) := by decide +kernel
theorem dX9_readKnown_54 : decode cX9_readKnown 54 = .ok (.aload_n 0, 1) := by decide +kernel
theorem dX9_readKnown_55 : decode cX9_readKnown 55 = .ok (.aload_n 0, 1) := by decide +kernel
theorem dX9_readKnown_56 : decode cX9_readKnown 56 = .ok (.getfield 27, 3) := by decide +kernel
theorem dX9_readKnown_59 : decode cX9_readKnown 59 = .ok (.getfield 72, 3) := by decide +kernel
theorem dX9_readKnown_62 : decode cX9_readKnown 62 = .ok (.getfield 109, 3) := by decide +kernel
theorem dX9_readKnown_65 : decode cX9_readKnown 65 = .ok (.iload_n 3, 1) := by decide +kernel
theorem dX9_readKnown_66 : decode cX9_readKnown 66 = .ok (.invokevirtual 106, 3) := by decide +kernel
theorem dX9_readKnown_69 : decode cX9_readKnown 69 = .ok (.iload_n 1, 1) := by decide +kernel
theorem dX9_readKnown_70 : decode cX9_readKnown 70 = .ok (.invokevirtual 62, 3) := by decide +kernel
theorem dX9_readKnown_73 : decode cX9_readKnown 73 = .ok (.iload_n 3, 1) := by decide +kernel
theorem dX9_readKnown_74 : decode cX9_readKnown 74 = .ok (.ireturn, 1) := by decide +kernel
def mX9_readKnown (I : iT) (F : fT) : Option (Int32 × iT) := (mX2_takeName I).bind fun q1 => (mX4_find ((F 142 3) + 29) q1.2 q1.1).bind fun q2 => if q2 = ((-1)) then (mX2_refuse q1.2 2 (I 6 8)).bind fun q6 => some ((-1), q6) else (mX4_at ((F 142 3) + 31) q1.2 q2).bind fun q3 => (mX4_at (((F 142 3) + 1) + 7) q1.2 q3).bind fun q4 => (mX9_countParts q1.2 q4 (I 6 8)).bind fun q5 => some (q3, q5)
set_option maxRecDepth 100000 in
set_option maxHeartbeats 4000000 in
theorem tX9_readKnown {l : Launch} {K : a_KT} {g : a_GT} {IB : iT} (hko : a_kok K) (I : iT) (J : jT) (F : fT) (hF : FK F) (q : Int32 × iT) (hm : mX9_readKnown I F = some q) : C l K g 2 0 0 yX9_readKnown cX9_readKnown 4 (some .int) [.ref 142] (hg I IB J F) (fun r2 h2 => r2 = some (.int q.1) ∧ h2 = hg q.2 IB J F) := by
  unfold mX9_readKnown at hm
  refine c_of [.ref 142, .null, .null, .null] (by decide) (Nat.le_of_ble_eq_true rfl) rfl ?_
  refine e_aload_n (i := 0) rfl dX9_readKnown_0 ?_
  refine q_getF 9 0 6 dX9_readKnown_1 fl_RX9_23 rfl iz_142 (fr_142_0 hF.1) ?_
  refine k_getI 2 8 dX9_readKnown_4 fl_RX9_55 rfl iz_6 (by decide) ?_
  refine q_istore_n (i := 1) (by decide) rfl dX9_readKnown_7 ?_
  refine e_aload_n (i := 0) rfl dX9_readKnown_8 ?_
  refine q_getF 9 3 (F 142 3) dX9_readKnown_9 fl_RX9_27 rfl iz_142 rfl ?_
  refine q_getF 0 2 ((F 142 3) + 29) dX9_readKnown_12 fl_RX9_94 rfl (iz_bk hF.2.2.2.2.1) (frb_2 hF.1 hF.2.2.2.2.1) ?_
  refine e_aload_n (i := 0) rfl dX9_readKnown_15 ?_
  refine q_getF 9 0 6 dX9_readKnown_16 fl_RX9_23 rfl iz_142 (fr_142_0 hF.1) ?_
  obtain ⟨q1, eq1, hm⟩ := ob_some hm
  refine e_cV0 hko dX9_readKnown_19 ml_RX9_97 iz_6 (by decide) rfl (by omega) (Nat.le_of_ble_eq_true rfl) (tX2_takeName hko I J F hF _ eq1) ?_
  rintro _ _ ⟨rfl, rfl⟩
  obtain ⟨q2, eq2, hm⟩ := ob_some hm
  refine e_cV1 hko dX9_readKnown_22 ml_RX9_100 (iz_row (rwb_29 hF.2.2.2.2.1)) (by decide) rfl (by omega) (Nat.le_of_ble_eq_true rfl) (tX4_find hko (rwb_29 hF.2.2.2.2.1) q1.2 J F hF q1.1 _ eq2) ?_
  rintro _ _ ⟨rfl, rfl⟩
  refine q_istore_n (i := 2) (by decide) rfl dX9_readKnown_25 ?_
  refine e_iload_n (i := 2) rfl dX9_readKnown_26 ?_
  refine e_iconst (v := (-1)) (by decide) dX9_readKnown_27 ?_
  refine e_icmp_ne 42 dX9_readKnown_28 (by decide) (fun c_28 => ?_) (fun c_28 => ?_)
  · have hm := it_n c_28 hm
    refine e_aload_n (i := 0) rfl dX9_readKnown_42 ?_
    refine q_getF 9 3 (F 142 3) dX9_readKnown_43 fl_RX9_27 rfl iz_142 rfl ?_
    refine q_getF 0 3 ((F 142 3) + 31) dX9_readKnown_46 fl_RX9_103 rfl (iz_bk hF.2.2.2.2.1) (frb_3 hF.1 hF.2.2.2.2.1) ?_
    refine e_iload_n (i := 2) rfl dX9_readKnown_49 ?_
    obtain ⟨q3, eq3, hm⟩ := ob_some hm
    refine e_cV1 hko dX9_readKnown_50 ml_RX9_106 (iz_row (rwb_31 hF.2.2.2.2.1)) (by decide) rfl (by omega) (Nat.le_of_ble_eq_true rfl) (tX4_at hko (rwb_31 hF.2.2.2.2.1) q1.2 J F hF q2 _ eq3) ?_
    rintro _ _ ⟨rfl, rfl⟩
    refine q_istore_n (i := 3) (by decide) rfl dX9_readKnown_53 ?_
    refine e_aload_n (i := 0) rfl dX9_readKnown_54 ?_
    refine e_aload_n (i := 0) rfl dX9_readKnown_55 ?_
    refine q_getF 9 3 (F 142 3) dX9_readKnown_56 fl_RX9_27 rfl iz_142 rfl ?_
    refine q_getF 0 0 ((F 142 3) + 1) dX9_readKnown_59 fl_RX9_72 rfl (iz_bk hF.2.2.2.2.1) (frb_0 hF.1 hF.2.2.2.2.1) ?_
    refine q_getF 10 3 (((F 142 3) + 1) + 7) dX9_readKnown_62 fl_RX9_109 rfl (iz_ty (bk_ty hF.2.2.2.2.1)) (frt_3 hF.1 (bk_ty hF.2.2.2.2.1)) ?_
    refine e_iload_n (i := 3) rfl dX9_readKnown_65 ?_
    obtain ⟨q4, eq4, hm⟩ := ob_some hm
    refine e_cV1 hko dX9_readKnown_66 ml_RX9_106 (iz_row (rwt_7 (bk_ty hF.2.2.2.2.1))) (by decide) rfl (by omega) (Nat.le_of_ble_eq_true rfl) (tX4_at hko (rwt_7 (bk_ty hF.2.2.2.2.1)) q1.2 J F hF q3 _ eq4) ?_
    rintro _ _ ⟨rfl, rfl⟩
    refine e_iload_n (i := 1) rfl dX9_readKnown_69 ?_
    obtain ⟨q5, eq5, hm⟩ := ob_some hm
    refine e_cV2 hko dX9_readKnown_70 ml_RX9_62 iz_142 (by decide) rfl (by omega) (Nat.le_of_ble_eq_true rfl) (tX9_countParts hko q1.2 J F hF q4 (I 6 8) _ eq5) ?_
    rintro _ _ ⟨rfl, rfl⟩
    refine e_iload_n (i := 3) rfl dX9_readKnown_73 ?_
    refine e_iret dX9_readKnown_74 rfl ?_
    have hm := some_in hm
    subst hm
    exact ⟨rfl, rfl⟩
  · have hm := it_p c_28 hm
    refine e_aload_n (i := 0) rfl dX9_readKnown_31 ?_
    refine q_getF 9 0 6 dX9_readKnown_32 fl_RX9_23 rfl iz_142 (fr_142_0 hF.1) ?_
    refine e_iconst (v := 2) (by decide) dX9_readKnown_35 ?_
    refine e_iload_n (i := 1) rfl dX9_readKnown_36 ?_
    obtain ⟨q6, eq6, hm⟩ := ob_some hm
    refine e_cV2 hko dX9_readKnown_37 ml_RX9_58 iz_6 (by decide) rfl (by omega) (Nat.le_of_ble_eq_true rfl) (tX2_refuse hko q1.2 J F hF 2 (I 6 8) _ eq6) ?_
    rintro _ _ ⟨rfl, rfl⟩
    refine e_iconst (v := (-1)) (by decide) dX9_readKnown_40 ?_
    refine e_iret dX9_readKnown_41 rfl ?_
    have hm := some_in hm
    subst hm
    exact ⟨rfl, rfl⟩
theorem dX9_readChoice_0 : decode cX9_readChoice 0 = .ok (.aload_n 0, 1) := by decide +kernel
theorem dX9_readChoice_1 : decode cX9_readChoice 1 = .ok (.getfield 14, 3) := by decide +kernel
theorem dX9_readChoice_4 : decode cX9_readChoice 4 = .ok (.invokevirtual 114, 3) := by decide +kernel
theorem dX9_readChoice_7 : decode cX9_readChoice 7 = .ok (.istore_n 3, 1) := by decide +kernel
theorem dX9_readChoice_8 : decode cX9_readChoice 8 = .ok (.aload_n 0, 1) := by decide +kernel
theorem dX9_readChoice_9 : decode cX9_readChoice 9 = .ok (.getfield 23, 3) := by decide +kernel
theorem dX9_readChoice_12 : decode cX9_readChoice 12 = .ok (.bipush 123, 2) := by decide +kernel
theorem dX9_readChoice_14 : decode cX9_readChoice 14 = .ok (.invokevirtual 111, 3) := by decide +kernel
theorem dX9_readChoice_17 : decode cX9_readChoice 17 = .ok (.iconst 0, 1) := by decide +kernel
theorem dX9_readChoice_18 : decode cX9_readChoice 18 = .ok (.istore 4, 2) := by decide +kernel
theorem dX9_readChoice_20 : decode cX9_readChoice 20 = .ok (.iload 4, 2) := by decide +kernel
theorem dX9_readChoice_22 : decode cX9_readChoice 22 = .ok (.bipush 6, 2) := by decide +kernel
theorem dX9_readChoice_24 : decode cX9_readChoice 24 = .ok (.if_icmp .gt 69, 3) := by decide +kernel
theorem dX9_readChoice_27 : decode cX9_readChoice 27 = .ok (.aload_n 0, 1) := by decide +kernel
theorem dX9_readChoice_28 : decode cX9_readChoice 28 = .ok (.getfield 23, 3) := by decide +kernel
theorem dX9_readChoice_31 : decode cX9_readChoice 31 = .ok (.invokevirtual 68, 3) := by decide +kernel
theorem dX9_readChoice_34 : decode cX9_readChoice 34 = .ok (.ifCond .ne 59, 3) := by decide +kernel
theorem dX9_readChoice_37 : decode cX9_readChoice 37 = .ok (.aload_n 0, 1) := by decide +kernel
theorem dX9_readChoice_38 : decode cX9_readChoice 38 = .ok (.iload_n 3, 1) := by decide +kernel
theorem dX9_readChoice_39 : decode cX9_readChoice 39 = .ok (.invokevirtual 117, 3) := by decide +kernel
theorem dX9_readChoice_42 : decode cX9_readChoice 42 = .ok (.istore 5, 2) := by decide +kernel
theorem dX9_readChoice_44 : decode cX9_readChoice 44 = .ok (.aload_n 0, 1) := by decide +kernel
theorem dX9_readChoice_45 : decode cX9_readChoice 45 = .ok (.getfield 23, 3) := by decide +kernel
theorem dX9_readChoice_48 : decode cX9_readChoice 48 = .ok (.bipush 58, 2) := by decide +kernel
theorem dX9_readChoice_50 : decode cX9_readChoice 50 = .ok (.invokevirtual 111, 3) := by decide +kernel
theorem dX9_readChoice_53 : decode cX9_readChoice 53 = .ok (.aload_n 0, 1) := by decide +kernel
theorem dX9_readChoice_54 : decode cX9_readChoice 54 = .ok (.getfield 20, 3) := by decide +kernel
theorem dX9_readChoice_57 : decode cX9_readChoice 57 = .ok (.iload 5, 2) := by decide +kernel
theorem dX9_readChoice_59 : decode cX9_readChoice 59 = .ok (.aload_n 0, 1) := by decide +kernel
theorem dX9_readChoice_60 : decode cX9_readChoice 60 = .ok (.iload_n 2, 1) := by decide +kernel
theorem dX9_readChoice_61 : decode cX9_readChoice 61 = .ok (.invokevirtual 38, 3) := by decide +kernel
theorem dX9_readChoice_64 : decode cX9_readChoice 64 = .ok (.invokevirtual 120, 3) := by decide +kernel
theorem dX9_readChoice_67 : decode cX9_readChoice 67 = .ok (.aload_n 0, 1) := by decide +kernel
theorem dX9_readChoice_68 : decode cX9_readChoice 68 = .ok (.iload_n 3, 1) := by decide +kernel
theorem dX9_readChoice_69 : decode cX9_readChoice 69 = .ok (.invokevirtual 123, 3) := by decide +kernel
theorem dX9_readChoice_72 : decode cX9_readChoice 72 = .ok (.aload_n 0, 1) := by decide +kernel
theorem dX9_readChoice_73 : decode cX9_readChoice 73 = .ok (.getfield 23, 3) := by decide +kernel
theorem dX9_readChoice_76 : decode cX9_readChoice 76 = .ok (.bipush 44, 2) := by decide +kernel
theorem dX9_readChoice_78 : decode cX9_readChoice 78 = .ok (.invokevirtual 126, 3) := by decide +kernel
theorem dX9_readChoice_81 : decode cX9_readChoice 81 = .ok (.ifCond .ne 6, 3) := by decide +kernel
theorem dX9_readChoice_84 : decode cX9_readChoice 84 = .ok (.goto 9, 3) := by decide +kernel
theorem dX9_readChoice_87 : decode cX9_readChoice 87 = .ok (.iinc 4 1, 3) := by decide +kernel
theorem dX9_readChoice_90 : decode cX9_readChoice 90 = .ok (.goto (-70), 3) := by decide +kernel
theorem dX9_readChoice_93 : decode cX9_readChoice 93 = .ok (.aload_n 0, 1) := by decide +kernel
theorem dX9_readChoice_94 : decode cX9_readChoice 94 = .ok (.getfield 23, 3) := by decide +kernel
theorem dX9_readChoice_97 : decode cX9_readChoice 97 = .ok (.bipush 125, 2) := by decide +kernel
theorem dX9_readChoice_99 : decode cX9_readChoice 99 = .ok (.invokevirtual 111, 3) := by decide +kernel
theorem dX9_readChoice_102 : decode cX9_readChoice 102 = .ok (.aload_n 0, 1) := by decide +kernel
theorem dX9_readChoice_103 : decode cX9_readChoice 103 = .ok (.getfield 23, 3) := by decide +kernel
theorem dX9_readChoice_106 : decode cX9_readChoice 106 = .ok (.invokevirtual 68, 3) := by decide +kernel
theorem dX9_readChoice_109 : decode cX9_readChoice 109 = .ok (.ifCond .eq 5, 3) := by decide +kernel
theorem dX9_readChoice_112 : decode cX9_readChoice 112 = .ok (.iconst (-1), 1) := by decide +kernel
theorem dX9_readChoice_113 : decode cX9_readChoice 113 = .ok (.ireturn, 1) := by decide +kernel
theorem dX9_readChoice_114 : decode cX9_readChoice 114 = .ok (.aload_n 0, 1) := by decide +kernel
theorem dX9_readChoice_115 : decode cX9_readChoice 115 = .ok (.getfield 27, 3) := by decide +kernel
theorem dX9_readChoice_118 : decode cX9_readChoice 118 = .ok (.getfield 72, 3) := by decide +kernel
theorem dX9_readChoice_121 : decode cX9_readChoice 121 = .ok (.iload_n 1, 1) := by decide +kernel
theorem dX9_readChoice_122 : decode cX9_readChoice 122 = .ok (.aload_n 0, 1) := by decide +kernel
theorem dX9_readChoice_123 : decode cX9_readChoice 123 = .ok (.getfield 14, 3) := by decide +kernel
theorem dX9_readChoice_126 : decode cX9_readChoice 126 = .ok (.aload_n 0, 1) := by decide +kernel
theorem dX9_readChoice_127 : decode cX9_readChoice 127 = .ok (.getfield 20, 3) := by decide +kernel
theorem dX9_readChoice_130 : decode cX9_readChoice 130 = .ok (.iload_n 3, 1) := by decide +kernel
theorem dX9_readChoice_131 : decode cX9_readChoice 131 = .ok (.invokevirtual 129, 3) := by decide +kernel
theorem dX9_readChoice_134 : decode cX9_readChoice 134 = .ok (.istore 4, 2) := by decide +kernel
theorem dX9_readChoice_136 : decode cX9_readChoice 136 = .ok (.aload_n 0, 1) := by decide +kernel
theorem dX9_readChoice_137 : decode cX9_readChoice 137 = .ok (.getfield 14, 3) := by decide +kernel
theorem dX9_readChoice_140 : decode cX9_readChoice 140 = .ok (.iload_n 3, 1) := by decide +kernel
theorem dX9_readChoice_141 : decode cX9_readChoice 141 = .ok (.invokevirtual 133, 3) := by decide +kernel
theorem dX9_readChoice_144 : decode cX9_readChoice 144 = .ok (.aload_n 0, 1) := by decide +kernel
theorem dX9_readChoice_145 : decode cX9_readChoice 145 = .ok (.getfield 20, 3) := by decide +kernel
theorem dX9_readChoice_148 : decode cX9_readChoice 148 = .ok (.iload_n 3, 1) := by decide +kernel
theorem dX9_readChoice_149 : decode cX9_readChoice 149 = .ok (.invokevirtual 133, 3) := by decide +kernel
theorem dX9_readChoice_152 : decode cX9_readChoice 152 = .ok (.iload 4, 2) := by decide +kernel
theorem dX9_readChoice_154 : decode cX9_readChoice 154 = .ok (.ireturn, 1) := by decide +kernel
theorem dX9_readTalk_0 : decode cX9_readTalk 0 = .ok (.iconst (-1), 1) := by decide +kernel
theorem dX9_readTalk_1 : decode cX9_readTalk 1 = .ok (.istore_n 3, 1) := by decide +kernel
theorem dX9_readTalk_2 : decode cX9_readTalk 2 = .ok (.iload_n 1, 1) := by decide +kernel
theorem dX9_readTalk_3 : decode cX9_readTalk 3 = .ok (.bipush 62, 2) := by decide +kernel
theorem dX9_readTalk_5 : decode cX9_readTalk 5 = .ok (.if_icmp .eq 9, 3) := by decide +kernel
theorem dX9_readTalk_8 : decode cX9_readTalk 8 = .ok (.iload_n 1, 1) := by decide +kernel
theorem dX9_readTalk_9 : decode cX9_readTalk 9 = .ok (.bipush 60, 2) := by decide +kernel
theorem dX9_readTalk_11 : decode cX9_readTalk 11 = .ok (.if_icmp .ne 18, 3) := by decide +kernel
theorem dX9_readTalk_14 : decode cX9_readTalk 14 = .ok (.aload_n 0, 1) := by decide +kernel
theorem dX9_readTalk_15 : decode cX9_readTalk 15 = .ok (.iload_n 2, 1) := by decide +kernel
theorem dX9_readTalk_16 : decode cX9_readTalk 16 = .ok (.invokevirtual 38, 3) := by decide +kernel
theorem dX9_readTalk_19 : decode cX9_readTalk 19 = .ok (.istore_n 3, 1) := by decide +kernel
theorem dX9_readTalk_20 : decode cX9_readTalk 20 = .ok (.aload_n 0, 1) := by decide +kernel
theorem dX9_readTalk_21 : decode cX9_readTalk 21 = .ok (.getfield 23, 3) := by decide +kernel
theorem dX9_readTalk_24 : decode cX9_readTalk 24 = .ok (.bipush 46, 2) := by decide +kernel
theorem dX9_readTalk_26 : decode cX9_readTalk 26 = .ok (.invokevirtual 111, 3) := by decide +kernel
theorem dX9_readTalk_29 : decode cX9_readTalk 29 = .ok (.aload_n 0, 1) := by decide +kernel
theorem dX9_readTalk_30 : decode cX9_readTalk 30 = .ok (.iload_n 2, 1) := by decide +kernel
theorem dX9_readTalk_31 : decode cX9_readTalk 31 = .ok (.invokevirtual 38, 3) := by decide +kernel
theorem dX9_readTalk_34 : decode cX9_readTalk 34 = .ok (.istore 4, 2) := by decide +kernel
theorem dX9_readTalk_36 : decode cX9_readTalk 36 = .ok (.aload_n 0, 1) := by decide +kernel
theorem dX9_readTalk_37 : decode cX9_readTalk 37 = .ok (.getfield 23, 3) := by decide +kernel
theorem dX9_readTalk_40 : decode cX9_readTalk 40 = .ok (.invokevirtual 68, 3) := by decide +kernel
theorem dX9_readTalk_43 : decode cX9_readTalk 43 = .ok (.ifCond .eq 7, 3) := by decide +kernel
theorem dX9_readTalk_46 : decode cX9_readTalk 46 = .ok (.iconst (-1), 1) := by decide +kernel
theorem dX9_readTalk_47 : decode cX9_readTalk 47 = .ok (.goto 17, 3) := by decide +kernel
theorem dX9_readTalk_50 : decode cX9_readTalk 50 = .ok (.aload_n 0, 1) := by decide +kernel
theorem dX9_readTalk_51 : decode cX9_readTalk 51 = .ok (.getfield 27, 3) := by decide +kernel
theorem dX9_readTalk_54 : decode cX9_readTalk 54 = .ok (.getfield 72, 3) := by decide +kernel
theorem dX9_readTalk_57 : decode cX9_readTalk 57 = .ok (.iload_n 1, 1) := by decide +kernel
theorem dX9_readTalk_58 : decode cX9_readTalk 58 = .ok (.iload_n 3, 1) := by decide +kernel
theorem dX9_readTalk_59 : decode cX9_readTalk 59 = .ok (.iload 4, 2) := by decide +kernel
theorem dX9_readTalk_61 : decode cX9_readTalk 61 = .ok (.invokevirtual 78, 3) := by decide +kernel
theorem dX9_readTalk_64 : decode cX9_readTalk 64 = .ok (.ireturn, 1) := by decide +kernel
theorem dX9_readType_0 : decode cX9_readType 0 = .ok (.aload_n 0, 1) := by decide +kernel
theorem dX9_readType_1 : decode cX9_readType 1 = .ok (.getfield 23, 3) := by decide +kernel
theorem dX9_readType_4 : decode cX9_readType 4 = .ok (.getfield 42, 3) := by decide +kernel
theorem dX9_readType_7 : decode cX9_readType 7 = .ok (.istore_n 2, 1) := by decide +kernel
theorem dX9_readType_8 : decode cX9_readType 8 = .ok (.iload_n 2, 1) := by decide +kernel
theorem dX9_readType_9 : decode cX9_readType 9 = .ok (.sipush 256, 3) := by decide +kernel
theorem dX9_readType_12 : decode cX9_readType 12 = .ok (.if_icmp .ne 8, 3) := by decide +kernel
theorem dX9_readType_15 : decode cX9_readType 15 = .ok (.aload_n 0, 1) := by decide +kernel
theorem dX9_readType_16 : decode cX9_readType 16 = .ok (.invokevirtual 47, 3) := by decide +kernel
theorem dX9_readType_19 : decode cX9_readType 19 = .ok (.ireturn, 1) := by decide +kernel
theorem dX9_readType_20 : decode cX9_readType 20 = .ok (.iload_n 2, 1) := by decide +kernel
theorem dX9_readType_21 : decode cX9_readType 21 = .ok (.sipush 302, 3) := by decide +kernel
theorem dX9_readType_24 : decode cX9_readType 24 = .ok (.if_icmp .eq 25, 3) := by decide +kernel
theorem dX9_readType_27 : decode cX9_readType 27 = .ok (.iload_n 2, 1) := by decide +kernel
theorem dX9_readType_28 : decode cX9_readType 28 = .ok (.invokestatic 51, 3) := by decide +kernel
theorem dX9_readType_31 : decode cX9_readType 31 = .ok (.ifCond .ne 18, 3) := by decide +kernel
theorem dX9_readType_34 : decode cX9_readType 34 = .ok (.aload_n 0, 1) := by decide +kernel
theorem dX9_readType_35 : decode cX9_readType 35 = .ok (.getfield 23, 3) := by decide +kernel
theorem dX9_readType_38 : decode cX9_readType 38 = .ok (.iconst 1, 1) := by decide +kernel
theorem dX9_readType_39 : decode cX9_readType 39 = .ok (.aload_n 0, 1) := by decide +kernel
theorem dX9_readType_40 : decode cX9_readType 40 = .ok (.getfield 23, 3) := by decide +kernel
theorem dX9_readType_43 : decode cX9_readType 43 = .ok (.getfield 55, 3) := by decide +kernel
theorem dX9_readType_46 : decode cX9_readType 46 = .ok (.invokevirtual 58, 3) := by decide +kernel
theorem dX9_readType_49 : decode cX9_readType 49 = .ok (.iload_n 2, 1) := by decide +kernel
theorem dX9_readType_50 : decode cX9_readType 50 = .ok (.sipush 302, 3) := by decide +kernel
theorem dX9_readType_53 : decode cX9_readType 53 = .ok (.if_icmp .eq 24, 3) := by decide +kernel
theorem dX9_readType_56 : decode cX9_readType 56 = .ok (.iload_n 1, 1) := by decide +kernel
theorem dX9_readType_57 : decode cX9_readType 57 = .ok (.bipush 12, 2) := by decide +kernel
theorem dX9_readType_59 : decode cX9_readType 59 = .ok (.if_icmp .lt 18, 3) := by decide +kernel
theorem dX9_readType_62 : decode cX9_readType 62 = .ok (.aload_n 0, 1) := by decide +kernel
theorem dX9_readType_63 : decode cX9_readType 63 = .ok (.getfield 23, 3) := by decide +kernel
theorem dX9_readType_66 : decode cX9_readType 66 = .ok (.iconst 5, 1) := by decide +kernel
theorem dX9_readType_67 : decode cX9_readType 67 = .ok (.aload_n 0, 1) := by decide +kernel
theorem dX9_readType_68 : decode cX9_readType 68 = .ok (.getfield 23, 3) := by decide +kernel
theorem dX9_readType_71 : decode cX9_readType 71 = .ok (.getfield 55, 3) := by decide +kernel
theorem dX9_readType_74 : decode cX9_readType 74 = .ok (.invokevirtual 58, 3) := by decide +kernel
theorem dX9_readType_77 : decode cX9_readType 77 = .ok (.aload_n 0, 1) := by decide +kernel
theorem dX9_readType_78 : decode cX9_readType 78 = .ok (.iconst 1, 1) := by decide +kernel
theorem dX9_readType_79 : decode cX9_readType 79 = .ok (.aload_n 0, 1) := by decide +kernel
theorem dX9_readType_80 : decode cX9_readType 80 = .ok (.getfield 23, 3) := by decide +kernel
theorem dX9_readType_83 : decode cX9_readType 83 = .ok (.getfield 55, 3) := by decide +kernel
theorem dX9_readType_86 : decode cX9_readType 86 = .ok (.invokevirtual 62, 3) := by decide +kernel
theorem dX9_readType_89 : decode cX9_readType 89 = .ok (.aload_n 0, 1) := by decide +kernel
theorem dX9_readType_90 : decode cX9_readType 90 = .ok (.getfield 23, 3) := by decide +kernel
theorem dX9_readType_93 : decode cX9_readType 93 = .ok (.invokevirtual 65, 3) := by decide +kernel
theorem dX9_readType_96 : decode cX9_readType 96 = .ok (.aload_n 0, 1) := by decide +kernel
theorem dX9_readType_97 : decode cX9_readType 97 = .ok (.getfield 23, 3) := by decide +kernel
theorem dX9_readType_100 : decode cX9_readType 100 = .ok (.invokevirtual 68, 3) := by decide +kernel
theorem dX9_readType_103 : decode cX9_readType 103 = .ok (.ifCond .eq 5, 3) := by decide +kernel
theorem dX9_readType_106 : decode cX9_readType 106 = .ok (.iconst (-1), 1) := by decide +kernel
theorem dX9_readType_107 : decode cX9_readType 107 = .ok (.ireturn, 1) := by decide +kernel
theorem dX9_readType_108 : decode cX9_readType 108 = .ok (.iload_n 2, 1) := by decide +kernel
theorem dX9_readType_109 : decode cX9_readType 109 = .ok (.sipush 302, 3) := by decide +kernel
theorem dX9_readType_112 : decode cX9_readType 112 = .ok (.if_icmp .ne 19, 3) := by decide +kernel
theorem dX9_readType_115 : decode cX9_readType 115 = .ok (.aload_n 0, 1) := by decide +kernel
theorem dX9_readType_116 : decode cX9_readType 116 = .ok (.getfield 27, 3) := by decide +kernel
theorem dX9_readType_119 : decode cX9_readType 119 = .ok (.getfield 72, 3) := by decide +kernel
theorem dX9_readType_122 : decode cX9_readType 122 = .ok (.sipush 302, 3) := by decide +kernel
theorem dX9_readType_125 : decode cX9_readType 125 = .ok (.iconst (-1), 1) := by decide +kernel
theorem dX9_readType_126 : decode cX9_readType 126 = .ok (.iconst (-1), 1) := by decide +kernel
theorem dX9_readType_127 : decode cX9_readType 127 = .ok (.invokevirtual 78, 3) := by decide +kernel
theorem dX9_readType_130 : decode cX9_readType 130 = .ok (.ireturn, 1) := by decide +kernel
theorem dX9_readType_131 : decode cX9_readType 131 = .ok (.iload_n 2, 1) := by decide +kernel
theorem dX9_readType_132 : decode cX9_readType 132 = .ok (.invokestatic 84, 3) := by decide +kernel
theorem dX9_readType_135 : decode cX9_readType 135 = .ok (.ifCond .eq 14, 3) := by decide +kernel
theorem dX9_readType_138 : decode cX9_readType 138 = .ok (.aload_n 0, 1) := by decide +kernel
theorem dX9_readType_139 : decode cX9_readType 139 = .ok (.iload_n 2, 1) := by decide +kernel
theorem dX9_readType_140 : decode cX9_readType 140 = .ok (.iload_n 1, 1) := by decide +kernel
theorem dX9_readType_141 : decode cX9_readType 141 = .ok (.iconst 1, 1) := by decide +kernel
theorem dX9_readType_142 : decode cX9_readType 142 = .ok (.iadd, 1) := by decide +kernel
theorem dX9_readType_143 : decode cX9_readType 143 = .ok (.invokevirtual 87, 3) := by decide +kernel
theorem dX9_readType_146 : decode cX9_readType 146 = .ok (.goto 11, 3) := by decide +kernel
theorem dX9_readType_149 : decode cX9_readType 149 = .ok (.aload_n 0, 1) := by decide +kernel
theorem dX9_readType_150 : decode cX9_readType 150 = .ok (.iload_n 2, 1) := by decide +kernel
theorem dX9_readType_151 : decode cX9_readType 151 = .ok (.iload_n 1, 1) := by decide +kernel
theorem dX9_readType_152 : decode cX9_readType 152 = .ok (.iconst 1, 1) := by decide +kernel
theorem dX9_readType_153 : decode cX9_readType 153 = .ok (.iadd, 1) := by decide +kernel
theorem dX9_readType_154 : decode cX9_readType 154 = .ok (.invokevirtual 91, 3) := by decide +kernel
theorem dX9_readType_157 : decode cX9_readType 157 = .ok (.ireturn, 1) := by decide +kernel
abbrev sc_9readChoiceT : Type := (iT → fT → Int32 → Int32 → Option (Int32 × iT)) × (iT → fT → Int32 → Int32 → Option (Int32 × iT)) × (iT → fT → Int32 → Option (Int32 × iT))
def sc_9readChoice_ok (l : Launch) (K : a_KT) (g : a_GT) (D0 : Nat) (R : sc_9readChoiceT) : Prop := (∀ {IB : iT} (I : iT) (J : jT) (F : fT) (x1 : Int32) (x2 : Int32), FK F → ∀ q : Int32 × iT, R.1 I F x1 x2 = some q → C l K g D0 0 0 yX9_readChoice cX9_readChoice 6 (some .int) [.ref 142, .int x1, .int x2] (hg I IB J F) (fun r2 h2 => r2 = some (.int q.1) ∧ h2 = hg q.2 IB J F)) ∧ (∀ {IB : iT} (I : iT) (J : jT) (F : fT) (x1 : Int32) (x2 : Int32), FK F → ∀ q : Int32 × iT, R.2.1 I F x1 x2 = some q → C l K g D0 0 0 yX9_readTalk cX9_readTalk 5 (some .int) [.ref 142, .int x1, .int x2] (hg I IB J F) (fun r2 h2 => r2 = some (.int q.1) ∧ h2 = hg q.2 IB J F)) ∧ (∀ {IB : iT} (I : iT) (J : jT) (F : fT) (x1 : Int32), FK F → ∀ q : Int32 × iT, R.2.2 I F x1 = some q → C l K g D0 0 0 yX9_readType cX9_readType 3 (some .int) [.ref 142, .int x1] (hg I IB J F) (fun r2 h2 => r2 = some (.int q.1) ∧ h2 = hg q.2 IB J F))
def mX9_readChoice_93 (R : sc_9readChoiceT) (I : iT) (F : fT) (x1 : Int32) (x2 : Int32) (x3 : Int32) (x4 : Int32) : Option (Int32 × iT) := (mX2_want I 125).bind fun q1 => (mX2_failed q1).bind fun q2 => if q2 = 0 then (mX10_makeChoice ((F 142 3) + 1) 143 145 q1 x1 x3).bind fun q3 => (mX4_cut 143 q3.2 x3).bind fun q4 => (mX4_cut 145 q4 x3).bind fun q5 => some (q3.1, q5) else some ((-1), q1)
def mX9_readChoice_20 (R : sc_9readChoiceT) : Nat → iT → fT → Int32 → Int32 → Int32 → Int32 → Option (Int32 × iT)
  | 0, _, _, _, _, _, _ => none
  | n + 1, I, F, x1, x2, x3, x4 => if 6 < x4 then mX9_readChoice_93 R I F x1 x2 x3 x4 else (mX2_failed I).bind fun q6 => if q6 = 0 then (mX9_readBranchName I x3).bind fun q7 => (mX2_want q7.2 58).bind fun q8 => (R.2.2 q8 F x2).bind fun q9 => (mX4_put 145 q9.2 q7.1 q9.1).bind fun q10 => (mX9_sortLast q10 x3).bind fun q11 => (mX2_skip q11 44).bind fun q12 => if q12.1 = 0 then mX9_readChoice_93 R q12.2 F x1 x2 x3 x4 else mX9_readChoice_20 R n q12.2 F x1 x2 x3 (x4 + 1) else mX9_readChoice_93 R I F x1 x2 x3 x4
def bX9_readChoice (R : sc_9readChoiceT) (I : iT) (F : fT) (x1 : Int32) (x2 : Int32) : Option (Int32 × iT) := (mX4_size 143 I).bind fun q13 => (mX2_want I 123).bind fun q14 => mX9_readChoice_20 R LF q14 F x1 x2 q13 0
def mX9_readTalk_29 (R : sc_9readChoiceT) (I : iT) (F : fT) (x1 : Int32) (x2 : Int32) (x3 : Int32) : Option (Int32 × iT) := (R.2.2 I F x2).bind fun q1 => (mX2_failed q1.2).bind fun q2 => if q2 = 0 then (mX10_make ((F 142 3) + 1) q1.2 x1 x3 q1.1).bind fun q3 => some (q3.1, q3.2) else some ((-1), q1.2)
def mX9_readTalk_14 (R : sc_9readChoiceT) (I : iT) (F : fT) (x1 : Int32) (x2 : Int32) (x3 : Int32) : Option (Int32 × iT) := (R.2.2 I F x2).bind fun q4 => (mX2_want q4.2 46).bind fun q5 => mX9_readTalk_29 R q5 F x1 x2 q4.1
def bX9_readTalk (R : sc_9readChoiceT) (I : iT) (F : fT) (x1 : Int32) (x2 : Int32) : Option (Int32 × iT) := if x1 = 62 then mX9_readTalk_14 R I F x1 x2 ((-1)) else if x1 = 60 then mX9_readTalk_14 R I F x1 x2 ((-1)) else mX9_readTalk_29 R I F x1 x2 ((-1))
def mX9_readType_77 (R : sc_9readChoiceT) (I : iT) (F : fT) (x1 : Int32) (x2 : Int32) : Option (Int32 × iT) := (mX9_countParts I 1 (I 6 8)).bind fun q1 => (mX2_advance q1).bind fun q2 => (mX2_failed q2).bind fun q3 => if q3 = 0 then if x2 = 302 then (mX10_make ((F 142 3) + 1) q2 302 ((-1)) ((-1))).bind fun q7 => some (q7.1, q7.2) else (mX10_isChoice x2).bind fun q4 => if q4 = 0 then (R.2.1 q2 F x2 (x1 + 1)).bind fun q5 => some (q5.1, q5.2) else (R.1 q2 F x2 (x1 + 1)).bind fun q6 => some (q6.1, q6.2) else some ((-1), q2)
def mX9_readType_49 (R : sc_9readChoiceT) (I : iT) (F : fT) (x1 : Int32) (x2 : Int32) : Option (Int32 × iT) := if x2 = 302 then mX9_readType_77 R I F x1 x2 else if x1 < 12 then mX9_readType_77 R I F x1 x2 else (mX2_refuse I 5 (I 6 8)).bind fun q8 => mX9_readType_77 R q8 F x1 x2
def bX9_readType (R : sc_9readChoiceT) (I : iT) (F : fT) (x1 : Int32) : Option (Int32 × iT) := if (I 6 6) = 256 then (mX9_readKnown I F).bind fun q11 => some (q11.1, q11.2) else if (I 6 6) = 302 then mX9_readType_49 R I F x1 (I 6 6) else (mX9_isTalkSign (I 6 6)).bind fun q9 => if q9 = 0 then (mX2_refuse I 1 (I 6 8)).bind fun q10 => mX9_readType_49 R q10 F x1 (I 6 6) else mX9_readType_49 R I F x1 (I 6 6)
def sc_9readChoice : Nat → sc_9readChoiceT
  | 0 => (fun _ _ _ _ => none, fun _ _ _ _ => none, fun _ _ _ => none)
  | n + 1 => (bX9_readChoice (sc_9readChoice n), bX9_readTalk (sc_9readChoice n), bX9_readType (sc_9readChoice n))
def mX9_readChoice (n : Nat) : iT → fT → Int32 → Int32 → Option (Int32 × iT) := (sc_9readChoice n).1
def mX9_readTalk (n : Nat) : iT → fT → Int32 → Int32 → Option (Int32 × iT) := (sc_9readChoice n).2.1
def mX9_readType (n : Nat) : iT → fT → Int32 → Option (Int32 × iT) := (sc_9readChoice n).2.2
set_option maxRecDepth 100000 in
set_option maxHeartbeats 4000000 in
theorem tX9_readChoice_93 {l : Launch} {K : a_KT} {g : a_GT} {IB : iT} {D0 : Nat} {R : sc_9readChoiceT} (hko : a_kok K) (hB : 3 ≤ D0 + 1) (hR : sc_9readChoice_ok l K g D0 R) {J : jT} (I : iT) (F : fT) (x1 : Int32) (x2 : Int32) (x3 : Int32) (x4 : Int32) (hF : FK F) (q : Int32 × iT) (hm : mX9_readChoice_93 R I F x1 x2 x3 x4 = some q) : E l K g (D0 + 1) 0 0 yX9_readChoice cX9_readChoice 6 (some .int) 93 [.ref 142, .int x1, .int x2, .int x3, .int x4, .null] [] (hg I IB J F) (fun r2 h2 => r2 = some (.int q.1) ∧ h2 = hg q.2 IB J F) := by
  unfold mX9_readChoice_93 at hm
  refine e_aload_n (i := 0) rfl dX9_readChoice_93 ?_
  refine q_getF 9 0 6 dX9_readChoice_94 fl_RX9_23 rfl iz_142 (fr_142_0 hF.1) ?_
  refine e_bipush (v := 125) (by decide) dX9_readChoice_97 ?_
  obtain ⟨q1, eq1, hm⟩ := ob_some hm
  refine e_cV1 hko dX9_readChoice_99 ml_RX9_111 iz_6 (by decide) rfl (by omega) (Nat.le_of_ble_eq_true rfl) (tX2_want hko I J F hF 125 _ eq1) ?_
  rintro _ _ ⟨rfl, rfl⟩
  refine e_aload_n (i := 0) rfl dX9_readChoice_102 ?_
  refine q_getF 9 0 6 dX9_readChoice_103 fl_RX9_23 rfl iz_142 (fr_142_0 hF.1) ?_
  obtain ⟨q2, eq2, hm⟩ := ob_some hm
  refine e_cV0 hko dX9_readChoice_106 ml_RX9_68 iz_6 (by decide) rfl (by omega) (Nat.le_of_ble_eq_true rfl) (tX2_failed hko q1 J F hF _ eq2) ?_
  rintro _ _ ⟨rfl, rfl⟩
  refine e_if_eq 114 dX9_readChoice_109 (by decide) (fun c_109 => ?_) (fun c_109 => ?_)
  · have hm := it_p c_109 hm
    refine e_aload_n (i := 0) rfl dX9_readChoice_114 ?_
    refine q_getF 9 3 (F 142 3) dX9_readChoice_115 fl_RX9_27 rfl iz_142 rfl ?_
    refine q_getF 0 0 ((F 142 3) + 1) dX9_readChoice_118 fl_RX9_72 rfl (iz_bk hF.2.2.2.2.1) (frb_0 hF.1 hF.2.2.2.2.1) ?_
    refine e_iload_n (i := 1) rfl dX9_readChoice_121 ?_
    refine e_aload_n (i := 0) rfl dX9_readChoice_122 ?_
    refine q_getF 9 1 143 dX9_readChoice_123 fl_RX9_14 rfl iz_142 (fr_142_1 hF.1) ?_
    refine e_aload_n (i := 0) rfl dX9_readChoice_126 ?_
    refine q_getF 9 2 145 dX9_readChoice_127 fl_RX9_20 rfl iz_142 (fr_142_2 hF.1) ?_
    refine e_iload_n (i := 3) rfl dX9_readChoice_130 ?_
    obtain ⟨q3, eq3, hm⟩ := ob_some hm
    refine e_cV4 hko dX9_readChoice_131 ml_RX9_129 (iz_ty (bk_ty hF.2.2.2.2.1)) (by decide) rfl (by omega) (Nat.le_of_ble_eq_true rfl) (tX10_makeChoice hko (bk_ty hF.2.2.2.2.1) rw_143 rw_145 q1 J F hF x1 x3 _ eq3) ?_
    rintro _ _ ⟨rfl, rfl⟩
    refine q_istore (i := 4) (by decide) rfl dX9_readChoice_134 ?_
    refine e_aload_n (i := 0) rfl dX9_readChoice_136 ?_
    refine q_getF 9 1 143 dX9_readChoice_137 fl_RX9_14 rfl iz_142 (fr_142_1 hF.1) ?_
    refine e_iload_n (i := 3) rfl dX9_readChoice_140 ?_
    obtain ⟨q4, eq4, hm⟩ := ob_some hm
    refine e_cV1 hko dX9_readChoice_141 ml_RX9_133 iz_143 (by decide) rfl (by omega) (Nat.le_of_ble_eq_true rfl) (tX4_cut hko rw_143 q3.2 J F hF x3 _ eq4) ?_
    rintro _ _ ⟨rfl, rfl⟩
    refine e_aload_n (i := 0) rfl dX9_readChoice_144 ?_
    refine q_getF 9 2 145 dX9_readChoice_145 fl_RX9_20 rfl iz_142 (fr_142_2 hF.1) ?_
    refine e_iload_n (i := 3) rfl dX9_readChoice_148 ?_
    obtain ⟨q5, eq5, hm⟩ := ob_some hm
    refine e_cV1 hko dX9_readChoice_149 ml_RX9_133 iz_145 (by decide) rfl (by omega) (Nat.le_of_ble_eq_true rfl) (tX4_cut hko rw_145 q4 J F hF x3 _ eq5) ?_
    rintro _ _ ⟨rfl, rfl⟩
    refine e_iload (i := 4) rfl dX9_readChoice_152 ?_
    refine e_iret dX9_readChoice_154 rfl ?_
    have hm := some_in hm
    subst hm
    exact ⟨rfl, rfl⟩
  · have hm := it_n c_109 hm
    refine e_iconst (v := (-1)) (by decide) dX9_readChoice_112 ?_
    refine e_iret dX9_readChoice_113 rfl ?_
    have hm := some_in hm
    subst hm
    exact ⟨rfl, rfl⟩
set_option maxRecDepth 100000 in
set_option maxHeartbeats 4000000 in
theorem tX9_readChoice_20 {l : Launch} {K : a_KT} {g : a_GT} {IB : iT} {D0 : Nat} {R : sc_9readChoiceT} (hko : a_kok K) (hB : 3 ≤ D0 + 1) (hR : sc_9readChoice_ok l K g D0 R) {J : jT} : ∀ (n : Nat) (I : iT) (F : fT) (x1 : Int32) (x2 : Int32) (x3 : Int32) (x4 : Int32) (hF : FK F) (q : Int32 × iT), mX9_readChoice_20 R n I F x1 x2 x3 x4 = some q → E l K g (D0 + 1) 0 0 yX9_readChoice cX9_readChoice 6 (some .int) 20 [.ref 142, .int x1, .int x2, .int x3, .int x4, .null] [] (hg I IB J F) (fun r2 h2 => r2 = some (.int q.1) ∧ h2 = hg q.2 IB J F) := by
  intro n
  induction n with
  | zero => intro I F x1 x2 x3 x4 hF q hm; cases hm
  | succ n ih =>
    intro I F x1 x2 x3 x4 hF q hm
    rw [mX9_readChoice_20] at hm
    refine e_iload (i := 4) rfl dX9_readChoice_20 ?_
    refine e_bipush (v := 6) (by decide) dX9_readChoice_22 ?_
    refine e_icmp_gt 93 dX9_readChoice_24 (by decide) (fun c_24 => ?_) (fun c_24 => ?_)
    · have hm := it_p c_24 hm
      refine e_weak [.ref 142, .int x1, .int x2, .int x3, .int x4, .null] ⟨rfl, ⟨rfl, ⟨rfl, ⟨rfl, ⟨rfl, ⟨trivial, trivial⟩⟩⟩⟩⟩⟩ ?_
      exact tX9_readChoice_93 hko hB hR I F x1 x2 x3 x4 hF _ hm
    · have hm := it_n c_24 hm
      refine e_aload_n (i := 0) rfl dX9_readChoice_27 ?_
      refine q_getF 9 0 6 dX9_readChoice_28 fl_RX9_23 rfl iz_142 (fr_142_0 hF.1) ?_
      obtain ⟨q6, eq6, hm⟩ := ob_some hm
      refine e_cV0 hko dX9_readChoice_31 ml_RX9_68 iz_6 (by decide) rfl (by omega) (Nat.le_of_ble_eq_true rfl) (tX2_failed hko I J F hF _ eq6) ?_
      rintro _ _ ⟨rfl, rfl⟩
      refine e_if_ne 93 dX9_readChoice_34 (by decide) (fun c_34 => ?_) (fun c_34 => ?_)
      · have hm := it_n c_34 hm
        refine e_weak [.ref 142, .int x1, .int x2, .int x3, .int x4, .null] ⟨rfl, ⟨rfl, ⟨rfl, ⟨rfl, ⟨rfl, ⟨trivial, trivial⟩⟩⟩⟩⟩⟩ ?_
        exact tX9_readChoice_93 hko hB hR I F x1 x2 x3 x4 hF _ hm
      · have hm := it_p c_34 hm
        refine e_aload_n (i := 0) rfl dX9_readChoice_37 ?_
        refine e_iload_n (i := 3) rfl dX9_readChoice_38 ?_
        obtain ⟨q7, eq7, hm⟩ := ob_some hm
        refine e_cV1 hko dX9_readChoice_39 ml_RX9_117 iz_142 (by decide) rfl (by omega) (Nat.le_of_ble_eq_true rfl) (tX9_readBranchName hko I J F hF x3 _ eq7) ?_
        rintro _ _ ⟨rfl, rfl⟩
        refine q_istore (i := 5) (by decide) rfl dX9_readChoice_42 ?_
        refine e_aload_n (i := 0) rfl dX9_readChoice_44 ?_
        refine q_getF 9 0 6 dX9_readChoice_45 fl_RX9_23 rfl iz_142 (fr_142_0 hF.1) ?_
        refine e_bipush (v := 58) (by decide) dX9_readChoice_48 ?_
        obtain ⟨q8, eq8, hm⟩ := ob_some hm
        refine e_cV1 hko dX9_readChoice_50 ml_RX9_111 iz_6 (by decide) rfl (by omega) (Nat.le_of_ble_eq_true rfl) (tX2_want hko q7.2 J F hF 58 _ eq8) ?_
        rintro _ _ ⟨rfl, rfl⟩
        refine e_aload_n (i := 0) rfl dX9_readChoice_53 ?_
        refine q_getF 9 2 145 dX9_readChoice_54 fl_RX9_20 rfl iz_142 (fr_142_2 hF.1) ?_
        refine e_iload (i := 5) rfl dX9_readChoice_57 ?_
        refine e_aload_n (i := 0) rfl dX9_readChoice_59 ?_
        refine e_iload_n (i := 2) rfl dX9_readChoice_60 ?_
        obtain ⟨q9, eq9, hm⟩ := ob_some hm
        refine e_cV1 hko dX9_readChoice_61 ml_RX9_38 iz_142 (by decide) rfl (by omega) (Nat.le_of_ble_eq_true rfl) (hR.2.2 q8 J F x2 hF q9 eq9) ?_
        rintro _ _ ⟨rfl, rfl⟩
        obtain ⟨q10, eq10, hm⟩ := ob_some hm
        refine e_cV2 hko dX9_readChoice_64 ml_RX9_120 iz_145 (by decide) rfl (by omega) (Nat.le_of_ble_eq_true rfl) (tX4_put hko rw_145 q9.2 J F hF q7.1 q9.1 _ eq10) ?_
        rintro _ _ ⟨rfl, rfl⟩
        refine e_aload_n (i := 0) rfl dX9_readChoice_67 ?_
        refine e_iload_n (i := 3) rfl dX9_readChoice_68 ?_
        obtain ⟨q11, eq11, hm⟩ := ob_some hm
        refine e_cV1 hko dX9_readChoice_69 ml_RX9_123 iz_142 (by decide) rfl (by omega) (Nat.le_of_ble_eq_true rfl) (tX9_sortLast hko q10 J F hF x3 _ eq11) ?_
        rintro _ _ ⟨rfl, rfl⟩
        refine e_aload_n (i := 0) rfl dX9_readChoice_72 ?_
        refine q_getF 9 0 6 dX9_readChoice_73 fl_RX9_23 rfl iz_142 (fr_142_0 hF.1) ?_
        refine e_bipush (v := 44) (by decide) dX9_readChoice_76 ?_
        obtain ⟨q12, eq12, hm⟩ := ob_some hm
        refine e_cV1 hko dX9_readChoice_78 ml_RX9_126 iz_6 (by decide) rfl (by omega) (Nat.le_of_ble_eq_true rfl) (tX2_skip hko q11 J F hF 44 _ eq12) ?_
        rintro _ _ ⟨rfl, rfl⟩
        refine e_if_ne 87 dX9_readChoice_81 (by decide) (fun c_81 => ?_) (fun c_81 => ?_)
        · have hm := it_n c_81 hm
          refine q_iinc (i := 4) (x4 + 1) rfl ic_1 rfl dX9_readChoice_87 ?_
          refine e_goto 20 dX9_readChoice_90 (by decide) ?_
          refine e_weak [.ref 142, .int x1, .int x2, .int x3, .int (x4 + 1), .null] ⟨rfl, ⟨rfl, ⟨rfl, ⟨rfl, ⟨rfl, ⟨trivial, trivial⟩⟩⟩⟩⟩⟩ ?_
          exact ih q12.2 F x1 x2 x3 (x4 + 1) hF _ hm
        · have hm := it_p c_81 hm
          refine e_goto 93 dX9_readChoice_84 (by decide) ?_
          refine e_weak [.ref 142, .int x1, .int x2, .int x3, .int x4, .null] ⟨rfl, ⟨rfl, ⟨rfl, ⟨rfl, ⟨rfl, ⟨trivial, trivial⟩⟩⟩⟩⟩⟩ ?_
          exact tX9_readChoice_93 hko hB hR q12.2 F x1 x2 x3 x4 hF _ hm
set_option maxRecDepth 100000 in
set_option maxHeartbeats 4000000 in
theorem tbX9_readChoice {l : Launch} {K : a_KT} {g : a_GT} {IB : iT} {D0 : Nat} {R : sc_9readChoiceT} (hko : a_kok K) (hB : 3 ≤ D0 + 1) (hR : sc_9readChoice_ok l K g D0 R) (I : iT) (J : jT) (F : fT) (hF : FK F) (x1 : Int32) (x2 : Int32) (q : Int32 × iT) (hm : bX9_readChoice R I F x1 x2 = some q) : C l K g (D0 + 1) 0 0 yX9_readChoice cX9_readChoice 6 (some .int) [.ref 142, .int x1, .int x2] (hg I IB J F) (fun r2 h2 => r2 = some (.int q.1) ∧ h2 = hg q.2 IB J F) := by
  unfold bX9_readChoice at hm
  refine c_of [.ref 142, .int x1, .int x2, .null, .null, .null] (by decide) (Nat.le_of_ble_eq_true rfl) rfl ?_
  refine e_aload_n (i := 0) rfl dX9_readChoice_0 ?_
  refine q_getF 9 1 143 dX9_readChoice_1 fl_RX9_14 rfl iz_142 (fr_142_1 hF.1) ?_
  obtain ⟨q13, eq13, hm⟩ := ob_some hm
  refine e_cV0 hko dX9_readChoice_4 ml_RX9_114 iz_143 (by decide) rfl (by omega) (Nat.le_of_ble_eq_true rfl) (tX4_size hko rw_143 I J F hF _ eq13) ?_
  rintro _ _ ⟨rfl, rfl⟩
  refine q_istore_n (i := 3) (by decide) rfl dX9_readChoice_7 ?_
  refine e_aload_n (i := 0) rfl dX9_readChoice_8 ?_
  refine q_getF 9 0 6 dX9_readChoice_9 fl_RX9_23 rfl iz_142 (fr_142_0 hF.1) ?_
  refine e_bipush (v := 123) (by decide) dX9_readChoice_12 ?_
  obtain ⟨q14, eq14, hm⟩ := ob_some hm
  refine e_cV1 hko dX9_readChoice_14 ml_RX9_111 iz_6 (by decide) rfl (by omega) (Nat.le_of_ble_eq_true rfl) (tX2_want hko I J F hF 123 _ eq14) ?_
  rintro _ _ ⟨rfl, rfl⟩
  refine e_iconst (v := 0) (by decide) dX9_readChoice_17 ?_
  refine q_istore (i := 4) (by decide) rfl dX9_readChoice_18 ?_
  refine e_weak [.ref 142, .int x1, .int x2, .int q13, .int 0, .null] ⟨rfl, ⟨rfl, ⟨rfl, ⟨rfl, ⟨rfl, ⟨trivial, trivial⟩⟩⟩⟩⟩⟩ ?_
  exact tX9_readChoice_20 hko hB hR LF q14 F x1 x2 q13 0 hF _ hm
set_option maxRecDepth 100000 in
set_option maxHeartbeats 4000000 in
theorem tX9_readTalk_29 {l : Launch} {K : a_KT} {g : a_GT} {IB : iT} {D0 : Nat} {R : sc_9readChoiceT} (hko : a_kok K) (hB : 3 ≤ D0 + 1) (hR : sc_9readChoice_ok l K g D0 R) {J : jT} (I : iT) (F : fT) (x1 : Int32) (x2 : Int32) (x3 : Int32) (hF : FK F) (q : Int32 × iT) (hm : mX9_readTalk_29 R I F x1 x2 x3 = some q) : E l K g (D0 + 1) 0 0 yX9_readTalk cX9_readTalk 5 (some .int) 29 [.ref 142, .int x1, .int x2, .int x3, .null] [] (hg I IB J F) (fun r2 h2 => r2 = some (.int q.1) ∧ h2 = hg q.2 IB J F) := by
  unfold mX9_readTalk_29 at hm
  refine e_aload_n (i := 0) rfl dX9_readTalk_29 ?_
  refine e_iload_n (i := 2) rfl dX9_readTalk_30 ?_
  obtain ⟨q1, eq1, hm⟩ := ob_some hm
  refine e_cV1 hko dX9_readTalk_31 ml_RX9_38 iz_142 (by decide) rfl (by omega) (Nat.le_of_ble_eq_true rfl) (hR.2.2 I J F x2 hF q1 eq1) ?_
  rintro _ _ ⟨rfl, rfl⟩
  refine q_istore (i := 4) (by decide) rfl dX9_readTalk_34 ?_
  refine e_aload_n (i := 0) rfl dX9_readTalk_36 ?_
  refine q_getF 9 0 6 dX9_readTalk_37 fl_RX9_23 rfl iz_142 (fr_142_0 hF.1) ?_
  obtain ⟨q2, eq2, hm⟩ := ob_some hm
  refine e_cV0 hko dX9_readTalk_40 ml_RX9_68 iz_6 (by decide) rfl (by omega) (Nat.le_of_ble_eq_true rfl) (tX2_failed hko q1.2 J F hF _ eq2) ?_
  rintro _ _ ⟨rfl, rfl⟩
  refine e_if_eq 50 dX9_readTalk_43 (by decide) (fun c_43 => ?_) (fun c_43 => ?_)
  · have hm := it_p c_43 hm
    refine e_aload_n (i := 0) rfl dX9_readTalk_50 ?_
    refine q_getF 9 3 (F 142 3) dX9_readTalk_51 fl_RX9_27 rfl iz_142 rfl ?_
    refine q_getF 0 0 ((F 142 3) + 1) dX9_readTalk_54 fl_RX9_72 rfl (iz_bk hF.2.2.2.2.1) (frb_0 hF.1 hF.2.2.2.2.1) ?_
    refine e_iload_n (i := 1) rfl dX9_readTalk_57 ?_
    refine e_iload_n (i := 3) rfl dX9_readTalk_58 ?_
    refine e_iload (i := 4) rfl dX9_readTalk_59 ?_
    obtain ⟨q3, eq3, hm⟩ := ob_some hm
    refine e_cV3 hko dX9_readTalk_61 ml_RX9_78 (iz_ty (bk_ty hF.2.2.2.2.1)) (by decide) rfl (by omega) (Nat.le_of_ble_eq_true rfl) (tX10_make hko (bk_ty hF.2.2.2.2.1) q1.2 J F hF x1 x3 q1.1 _ eq3) ?_
    rintro _ _ ⟨rfl, rfl⟩
    refine e_iret dX9_readTalk_64 rfl ?_
    have hm := some_in hm
    subst hm
    exact ⟨rfl, rfl⟩
  · have hm := it_n c_43 hm
    refine e_iconst (v := (-1)) (by decide) dX9_readTalk_46 ?_
    refine e_goto 64 dX9_readTalk_47 (by decide) ?_
    refine e_iret dX9_readTalk_64 rfl ?_
    have hm := some_in hm
    subst hm
    exact ⟨rfl, rfl⟩
set_option maxRecDepth 100000 in
set_option maxHeartbeats 4000000 in
theorem tX9_readTalk_14 {l : Launch} {K : a_KT} {g : a_GT} {IB : iT} {D0 : Nat} {R : sc_9readChoiceT} (hko : a_kok K) (hB : 3 ≤ D0 + 1) (hR : sc_9readChoice_ok l K g D0 R) {J : jT} (I : iT) (F : fT) (x1 : Int32) (x2 : Int32) (x3 : Int32) (hF : FK F) (q : Int32 × iT) (hm : mX9_readTalk_14 R I F x1 x2 x3 = some q) : E l K g (D0 + 1) 0 0 yX9_readTalk cX9_readTalk 5 (some .int) 14 [.ref 142, .int x1, .int x2, .int x3, .null] [] (hg I IB J F) (fun r2 h2 => r2 = some (.int q.1) ∧ h2 = hg q.2 IB J F) := by
  unfold mX9_readTalk_14 at hm
  refine e_aload_n (i := 0) rfl dX9_readTalk_14 ?_
  refine e_iload_n (i := 2) rfl dX9_readTalk_15 ?_
  obtain ⟨q4, eq4, hm⟩ := ob_some hm
  refine e_cV1 hko dX9_readTalk_16 ml_RX9_38 iz_142 (by decide) rfl (by omega) (Nat.le_of_ble_eq_true rfl) (hR.2.2 I J F x2 hF q4 eq4) ?_
  rintro _ _ ⟨rfl, rfl⟩
  refine q_istore_n (i := 3) (by decide) rfl dX9_readTalk_19 ?_
  refine e_aload_n (i := 0) rfl dX9_readTalk_20 ?_
  refine q_getF 9 0 6 dX9_readTalk_21 fl_RX9_23 rfl iz_142 (fr_142_0 hF.1) ?_
  refine e_bipush (v := 46) (by decide) dX9_readTalk_24 ?_
  obtain ⟨q5, eq5, hm⟩ := ob_some hm
  refine e_cV1 hko dX9_readTalk_26 ml_RX9_111 iz_6 (by decide) rfl (by omega) (Nat.le_of_ble_eq_true rfl) (tX2_want hko q4.2 J F hF 46 _ eq5) ?_
  rintro _ _ ⟨rfl, rfl⟩
  refine e_weak [.ref 142, .int x1, .int x2, .int q4.1, .null] ⟨rfl, ⟨rfl, ⟨rfl, ⟨rfl, ⟨trivial, trivial⟩⟩⟩⟩⟩ ?_
  exact tX9_readTalk_29 hko hB hR q5 F x1 x2 q4.1 hF _ hm
set_option maxRecDepth 100000 in
set_option maxHeartbeats 4000000 in
theorem tbX9_readTalk {l : Launch} {K : a_KT} {g : a_GT} {IB : iT} {D0 : Nat} {R : sc_9readChoiceT} (hko : a_kok K) (hB : 3 ≤ D0 + 1) (hR : sc_9readChoice_ok l K g D0 R) (I : iT) (J : jT) (F : fT) (hF : FK F) (x1 : Int32) (x2 : Int32) (q : Int32 × iT) (hm : bX9_readTalk R I F x1 x2 = some q) : C l K g (D0 + 1) 0 0 yX9_readTalk cX9_readTalk 5 (some .int) [.ref 142, .int x1, .int x2] (hg I IB J F) (fun r2 h2 => r2 = some (.int q.1) ∧ h2 = hg q.2 IB J F) := by
  unfold bX9_readTalk at hm
  refine c_of [.ref 142, .int x1, .int x2, .null, .null] (by decide) (Nat.le_of_ble_eq_true rfl) rfl ?_
  refine e_iconst (v := (-1)) (by decide) dX9_readTalk_0 ?_
  refine q_istore_n (i := 3) (by decide) rfl dX9_readTalk_1 ?_
  refine e_iload_n (i := 1) rfl dX9_readTalk_2 ?_
  refine e_bipush (v := 62) (by decide) dX9_readTalk_3 ?_
  refine e_icmp_eq 14 dX9_readTalk_5 (by decide) (fun c_5 => ?_) (fun c_5 => ?_)
  · have hm := it_p c_5 hm
    refine e_weak [.ref 142, .int x1, .int x2, .int ((-1)), .null] ⟨rfl, ⟨rfl, ⟨rfl, ⟨rfl, ⟨trivial, trivial⟩⟩⟩⟩⟩ ?_
    exact tX9_readTalk_14 hko hB hR I F x1 x2 ((-1)) hF _ hm
  · have hm := it_n c_5 hm
    refine e_iload_n (i := 1) rfl dX9_readTalk_8 ?_
    refine e_bipush (v := 60) (by decide) dX9_readTalk_9 ?_
    refine e_icmp_ne 29 dX9_readTalk_11 (by decide) (fun c_11 => ?_) (fun c_11 => ?_)
    · have hm := it_n c_11 hm
      refine e_weak [.ref 142, .int x1, .int x2, .int ((-1)), .null] ⟨rfl, ⟨rfl, ⟨rfl, ⟨rfl, ⟨trivial, trivial⟩⟩⟩⟩⟩ ?_
      exact tX9_readTalk_29 hko hB hR I F x1 x2 ((-1)) hF _ hm
    · have hm := it_p c_11 hm
      refine e_weak [.ref 142, .int x1, .int x2, .int ((-1)), .null] ⟨rfl, ⟨rfl, ⟨rfl, ⟨rfl, ⟨trivial, trivial⟩⟩⟩⟩⟩ ?_
      exact tX9_readTalk_14 hko hB hR I F x1 x2 ((-1)) hF _ hm
set_option maxRecDepth 100000 in
set_option maxHeartbeats 4000000 in
theorem tX9_readType_77 {l : Launch} {K : a_KT} {g : a_GT} {IB : iT} {D0 : Nat} {R : sc_9readChoiceT} (hko : a_kok K) (hB : 3 ≤ D0 + 1) (hR : sc_9readChoice_ok l K g D0 R) {J : jT} (I : iT) (F : fT) (x1 : Int32) (x2 : Int32) (hF : FK F) (q : Int32 × iT) (hm : mX9_readType_77 R I F x1 x2 = some q) : E l K g (D0 + 1) 0 0 yX9_readType cX9_readType 3 (some .int) 77 [.ref 142, .int x1, .int x2] [] (hg I IB J F) (fun r2 h2 => r2 = some (.int q.1) ∧ h2 = hg q.2 IB J F) := by
  unfold mX9_readType_77 at hm
  refine e_aload_n (i := 0) rfl dX9_readType_77 ?_
  refine e_iconst (v := 1) (by decide) dX9_readType_78 ?_
  refine e_aload_n (i := 0) rfl dX9_readType_79 ?_
  refine q_getF 9 0 6 dX9_readType_80 fl_RX9_23 rfl iz_142 (fr_142_0 hF.1) ?_
  refine k_getI 2 8 dX9_readType_83 fl_RX9_55 rfl iz_6 (by decide) ?_
  obtain ⟨q1, eq1, hm⟩ := ob_some hm
  refine e_cV2 hko dX9_readType_86 ml_RX9_62 iz_142 (by decide) rfl (by omega) (Nat.le_of_ble_eq_true rfl) (tX9_countParts hko I J F hF 1 (I 6 8) _ eq1) ?_
  rintro _ _ ⟨rfl, rfl⟩
  refine e_aload_n (i := 0) rfl dX9_readType_89 ?_
  refine q_getF 9 0 6 dX9_readType_90 fl_RX9_23 rfl iz_142 (fr_142_0 hF.1) ?_
  obtain ⟨q2, eq2, hm⟩ := ob_some hm
  refine e_cV0 hko dX9_readType_93 ml_RX9_65 iz_6 (by decide) rfl (by omega) (Nat.le_of_ble_eq_true rfl) (tX2_advance hko q1 J F hF _ eq2) ?_
  rintro _ _ ⟨rfl, rfl⟩
  refine e_aload_n (i := 0) rfl dX9_readType_96 ?_
  refine q_getF 9 0 6 dX9_readType_97 fl_RX9_23 rfl iz_142 (fr_142_0 hF.1) ?_
  obtain ⟨q3, eq3, hm⟩ := ob_some hm
  refine e_cV0 hko dX9_readType_100 ml_RX9_68 iz_6 (by decide) rfl (by omega) (Nat.le_of_ble_eq_true rfl) (tX2_failed hko q2 J F hF _ eq3) ?_
  rintro _ _ ⟨rfl, rfl⟩
  refine e_if_eq 108 dX9_readType_103 (by decide) (fun c_103 => ?_) (fun c_103 => ?_)
  · have hm := it_p c_103 hm
    refine e_iload_n (i := 2) rfl dX9_readType_108 ?_
    refine e_sipush (v := 302) (by decide) dX9_readType_109 ?_
    refine e_icmp_ne 131 dX9_readType_112 (by decide) (fun c_112 => ?_) (fun c_112 => ?_)
    · have hm := it_n c_112 hm
      refine e_iload_n (i := 2) rfl dX9_readType_131 ?_
      obtain ⟨q4, eq4, hm⟩ := ob_some hm
      refine e_cS1 hko dX9_readType_132 ml_RX9_84 (by omega) (Nat.le_of_ble_eq_true rfl) (tX10_isChoice hko q2 J F hF x2 _ eq4) ?_
      rintro _ _ ⟨rfl, rfl⟩
      refine e_if_eq 149 dX9_readType_135 (by decide) (fun c_135 => ?_) (fun c_135 => ?_)
      · have hm := it_p c_135 hm
        refine e_aload_n (i := 0) rfl dX9_readType_149 ?_
        refine e_iload_n (i := 2) rfl dX9_readType_150 ?_
        refine e_iload_n (i := 1) rfl dX9_readType_151 ?_
        refine e_iconst (v := 1) (by decide) dX9_readType_152 ?_
        refine e_iadd dX9_readType_153 ?_
        obtain ⟨q5, eq5, hm⟩ := ob_some hm
        refine e_cV2 hko dX9_readType_154 ml_RX9_91 iz_142 (by decide) rfl (by omega) (Nat.le_of_ble_eq_true rfl) (hR.2.1 q2 J F x2 (x1 + 1) hF q5 eq5) ?_
        rintro _ _ ⟨rfl, rfl⟩
        refine e_iret dX9_readType_157 rfl ?_
        have hm := some_in hm
        subst hm
        exact ⟨rfl, rfl⟩
      · have hm := it_n c_135 hm
        refine e_aload_n (i := 0) rfl dX9_readType_138 ?_
        refine e_iload_n (i := 2) rfl dX9_readType_139 ?_
        refine e_iload_n (i := 1) rfl dX9_readType_140 ?_
        refine e_iconst (v := 1) (by decide) dX9_readType_141 ?_
        refine e_iadd dX9_readType_142 ?_
        obtain ⟨q6, eq6, hm⟩ := ob_some hm
        refine e_cV2 hko dX9_readType_143 ml_RX9_87 iz_142 (by decide) rfl (by omega) (Nat.le_of_ble_eq_true rfl) (hR.1 q2 J F x2 (x1 + 1) hF q6 eq6) ?_
        rintro _ _ ⟨rfl, rfl⟩
        refine e_goto 157 dX9_readType_146 (by decide) ?_
        refine e_iret dX9_readType_157 rfl ?_
        have hm := some_in hm
        subst hm
        exact ⟨rfl, rfl⟩
    · have hm := it_p c_112 hm
      refine e_aload_n (i := 0) rfl dX9_readType_115 ?_
      refine q_getF 9 3 (F 142 3) dX9_readType_116 fl_RX9_27 rfl iz_142 rfl ?_
      refine q_getF 0 0 ((F 142 3) + 1) dX9_readType_119 fl_RX9_72 rfl (iz_bk hF.2.2.2.2.1) (frb_0 hF.1 hF.2.2.2.2.1) ?_
      refine e_sipush (v := 302) (by decide) dX9_readType_122 ?_
      refine e_iconst (v := (-1)) (by decide) dX9_readType_125 ?_
      refine e_iconst (v := (-1)) (by decide) dX9_readType_126 ?_
      obtain ⟨q7, eq7, hm⟩ := ob_some hm
      refine e_cV3 hko dX9_readType_127 ml_RX9_78 (iz_ty (bk_ty hF.2.2.2.2.1)) (by decide) rfl (by omega) (Nat.le_of_ble_eq_true rfl) (tX10_make hko (bk_ty hF.2.2.2.2.1) q2 J F hF 302 ((-1)) ((-1)) _ eq7) ?_
      rintro _ _ ⟨rfl, rfl⟩
      refine e_iret dX9_readType_130 rfl ?_
      have hm := some_in hm
      subst hm
      exact ⟨rfl, rfl⟩
  · have hm := it_n c_103 hm
    refine e_iconst (v := (-1)) (by decide) dX9_readType_106 ?_
    refine e_iret dX9_readType_107 rfl ?_
    have hm := some_in hm
    subst hm
    exact ⟨rfl, rfl⟩
set_option maxRecDepth 100000 in
set_option maxHeartbeats 4000000 in
theorem tX9_readType_49 {l : Launch} {K : a_KT} {g : a_GT} {IB : iT} {D0 : Nat} {R : sc_9readChoiceT} (hko : a_kok K) (hB : 3 ≤ D0 + 1) (hR : sc_9readChoice_ok l K g D0 R) {J : jT} (I : iT) (F : fT) (x1 : Int32) (x2 : Int32) (hF : FK F) (q : Int32 × iT) (hm : mX9_readType_49 R I F x1 x2 = some q) : E l K g (D0 + 1) 0 0 yX9_readType cX9_readType 3 (some .int) 49 [.ref 142, .int x1, .int x2] [] (hg I IB J F) (fun r2 h2 => r2 = some (.int q.1) ∧ h2 = hg q.2 IB J F) := by
  unfold mX9_readType_49 at hm
  refine e_iload_n (i := 2) rfl dX9_readType_49 ?_
  refine e_sipush (v := 302) (by decide) dX9_readType_50 ?_
  refine e_icmp_eq 77 dX9_readType_53 (by decide) (fun c_53 => ?_) (fun c_53 => ?_)
  · have hm := it_p c_53 hm
    refine e_weak [.ref 142, .int x1, .int x2] ⟨rfl, ⟨rfl, ⟨rfl, trivial⟩⟩⟩ ?_
    exact tX9_readType_77 hko hB hR I F x1 x2 hF _ hm
  · have hm := it_n c_53 hm
    refine e_iload_n (i := 1) rfl dX9_readType_56 ?_
    refine e_bipush (v := 12) (by decide) dX9_readType_57 ?_
    refine e_icmp_lt 77 dX9_readType_59 (by decide) (fun c_59 => ?_) (fun c_59 => ?_)
    · have hm := it_p c_59 hm
      refine e_weak [.ref 142, .int x1, .int x2] ⟨rfl, ⟨rfl, ⟨rfl, trivial⟩⟩⟩ ?_
      exact tX9_readType_77 hko hB hR I F x1 x2 hF _ hm
    · have hm := it_n c_59 hm
      refine e_aload_n (i := 0) rfl dX9_readType_62 ?_
      refine q_getF 9 0 6 dX9_readType_63 fl_RX9_23 rfl iz_142 (fr_142_0 hF.1) ?_
      refine e_iconst (v := 5) (by decide) dX9_readType_66 ?_
      refine e_aload_n (i := 0) rfl dX9_readType_67 ?_
      refine q_getF 9 0 6 dX9_readType_68 fl_RX9_23 rfl iz_142 (fr_142_0 hF.1) ?_
      refine k_getI 2 8 dX9_readType_71 fl_RX9_55 rfl iz_6 (by decide) ?_
      obtain ⟨q8, eq8, hm⟩ := ob_some hm
      refine e_cV2 hko dX9_readType_74 ml_RX9_58 iz_6 (by decide) rfl (by omega) (Nat.le_of_ble_eq_true rfl) (tX2_refuse hko I J F hF 5 (I 6 8) _ eq8) ?_
      rintro _ _ ⟨rfl, rfl⟩
      refine e_weak [.ref 142, .int x1, .int x2] ⟨rfl, ⟨rfl, ⟨rfl, trivial⟩⟩⟩ ?_
      exact tX9_readType_77 hko hB hR q8 F x1 x2 hF _ hm
set_option maxRecDepth 100000 in
set_option maxHeartbeats 4000000 in
theorem tbX9_readType {l : Launch} {K : a_KT} {g : a_GT} {IB : iT} {D0 : Nat} {R : sc_9readChoiceT} (hko : a_kok K) (hB : 3 ≤ D0 + 1) (hR : sc_9readChoice_ok l K g D0 R) (I : iT) (J : jT) (F : fT) (hF : FK F) (x1 : Int32) (q : Int32 × iT) (hm : bX9_readType R I F x1 = some q) : C l K g (D0 + 1) 0 0 yX9_readType cX9_readType 3 (some .int) [.ref 142, .int x1] (hg I IB J F) (fun r2 h2 => r2 = some (.int q.1) ∧ h2 = hg q.2 IB J F) := by
  unfold bX9_readType at hm
  refine c_of [.ref 142, .int x1, .null] (by decide) (Nat.le_of_ble_eq_true rfl) rfl ?_
  refine e_aload_n (i := 0) rfl dX9_readType_0 ?_
  refine q_getF 9 0 6 dX9_readType_1 fl_RX9_23 rfl iz_142 (fr_142_0 hF.1) ?_
  refine k_getI 2 6 dX9_readType_4 fl_RX9_42 rfl iz_6 (by decide) ?_
  refine q_istore_n (i := 2) (by decide) rfl dX9_readType_7 ?_
  refine e_iload_n (i := 2) rfl dX9_readType_8 ?_
  refine e_sipush (v := 256) (by decide) dX9_readType_9 ?_
  refine e_icmp_ne 20 dX9_readType_12 (by decide) (fun c_12 => ?_) (fun c_12 => ?_)
  · have hm := it_n c_12 hm
    refine e_iload_n (i := 2) rfl dX9_readType_20 ?_
    refine e_sipush (v := 302) (by decide) dX9_readType_21 ?_
    refine e_icmp_eq 49 dX9_readType_24 (by decide) (fun c_24 => ?_) (fun c_24 => ?_)
    · have hm := it_p c_24 hm
      refine e_weak [.ref 142, .int x1, .int (I 6 6)] ⟨rfl, ⟨rfl, ⟨rfl, trivial⟩⟩⟩ ?_
      exact tX9_readType_49 hko hB hR I F x1 (I 6 6) hF _ hm
    · have hm := it_n c_24 hm
      refine e_iload_n (i := 2) rfl dX9_readType_27 ?_
      obtain ⟨q9, eq9, hm⟩ := ob_some hm
      refine e_cS1 hko dX9_readType_28 ml_RX9_51 (by omega) (Nat.le_of_ble_eq_true rfl) (tX9_isTalkSign hko I J F hF (I 6 6) _ eq9) ?_
      rintro _ _ ⟨rfl, rfl⟩
      refine e_if_ne 49 dX9_readType_31 (by decide) (fun c_31 => ?_) (fun c_31 => ?_)
      · have hm := it_n c_31 hm
        refine e_weak [.ref 142, .int x1, .int (I 6 6)] ⟨rfl, ⟨rfl, ⟨rfl, trivial⟩⟩⟩ ?_
        exact tX9_readType_49 hko hB hR I F x1 (I 6 6) hF _ hm
      · have hm := it_p c_31 hm
        refine e_aload_n (i := 0) rfl dX9_readType_34 ?_
        refine q_getF 9 0 6 dX9_readType_35 fl_RX9_23 rfl iz_142 (fr_142_0 hF.1) ?_
        refine e_iconst (v := 1) (by decide) dX9_readType_38 ?_
        refine e_aload_n (i := 0) rfl dX9_readType_39 ?_
        refine q_getF 9 0 6 dX9_readType_40 fl_RX9_23 rfl iz_142 (fr_142_0 hF.1) ?_
        refine k_getI 2 8 dX9_readType_43 fl_RX9_55 rfl iz_6 (by decide) ?_
        obtain ⟨q10, eq10, hm⟩ := ob_some hm
        refine e_cV2 hko dX9_readType_46 ml_RX9_58 iz_6 (by decide) rfl (by omega) (Nat.le_of_ble_eq_true rfl) (tX2_refuse hko I J F hF 1 (I 6 8) _ eq10) ?_
        rintro _ _ ⟨rfl, rfl⟩
        refine e_weak [.ref 142, .int x1, .int (I 6 6)] ⟨rfl, ⟨rfl, ⟨rfl, trivial⟩⟩⟩ ?_
        exact tX9_readType_49 hko hB hR q10 F x1 (I 6 6) hF _ hm
  · have hm := it_p c_12 hm
    refine e_aload_n (i := 0) rfl dX9_readType_15 ?_
    obtain ⟨q11, eq11, hm⟩ := ob_some hm
    refine e_cV0 hko dX9_readType_16 ml_RX9_47 iz_142 (by decide) rfl (by omega) (Nat.le_of_ble_eq_true rfl) (tX9_readKnown hko I J F hF _ eq11) ?_
    rintro _ _ ⟨rfl, rfl⟩
    refine e_iret dX9_readType_19 rfl ?_
    have hm := some_in hm
    subst hm
    exact ⟨rfl, rfl⟩
set_option maxRecDepth 100000 in
set_option maxHeartbeats 4000000 in
theorem sc_9readChoice_all {l : Launch} {K : a_KT} {g : a_GT} (hko : a_kok K) : ∀ n : Nat, sc_9readChoice_ok l K g (3 + n) (sc_9readChoice n) := by
  intro n
  induction n with
  | zero => exact ⟨(by intros; rename_i h; cases (show (none : Option _) = some _ from h)), (by intros; rename_i h; cases (show (none : Option _) = some _ from h)), (by intros; rename_i h; cases (show (none : Option _) = some _ from h))⟩
  | succ n ih =>
    exact ⟨fun I J F x1 x2 hF q hm => tbX9_readChoice hko (by omega) ih I J F hF x1 x2 q hm, fun I J F x1 x2 hF q hm => tbX9_readTalk hko (by omega) ih I J F hF x1 x2 q hm, fun I J F x1 hF q hm => tbX9_readType hko (by omega) ih I J F hF x1 q hm⟩
theorem tX9_readChoice {l : Launch} {K : a_KT} {g : a_GT} {IB : iT} (hko : a_kok K) (I : iT) (J : jT) (F : fT) (hF : FK F) (x1 : Int32) (x2 : Int32) (q : Int32 × iT) (hm : mX9_readChoice SF I F x1 x2 = some q) : C l K g 453 0 0 yX9_readChoice cX9_readChoice 6 (some .int) [.ref 142, .int x1, .int x2] (hg I IB J F) (fun r2 h2 => r2 = some (.int q.1) ∧ h2 = hg q.2 IB J F) := (sc_9readChoice_all hko SF).1 I J F x1 x2 hF q hm
theorem tX9_readTalk {l : Launch} {K : a_KT} {g : a_GT} {IB : iT} (hko : a_kok K) (I : iT) (J : jT) (F : fT) (hF : FK F) (x1 : Int32) (x2 : Int32) (q : Int32 × iT) (hm : mX9_readTalk SF I F x1 x2 = some q) : C l K g 453 0 0 yX9_readTalk cX9_readTalk 5 (some .int) [.ref 142, .int x1, .int x2] (hg I IB J F) (fun r2 h2 => r2 = some (.int q.1) ∧ h2 = hg q.2 IB J F) := (sc_9readChoice_all hko SF).2.1 I J F x1 x2 hF q hm
theorem tX9_readType {l : Launch} {K : a_KT} {g : a_GT} {IB : iT} (hko : a_kok K) (I : iT) (J : jT) (F : fT) (hF : FK F) (x1 : Int32) (q : Int32 × iT) (hm : mX9_readType SF I F x1 = some q) : C l K g 453 0 0 yX9_readType cX9_readType 3 (some .int) [.ref 142, .int x1] (hg I IB J F) (fun r2 h2 => r2 = some (.int q.1) ∧ h2 = hg q.2 IB J F) := (sc_9readChoice_all hko SF).2.2 I J F x1 hF q hm
theorem dX9_readWhole_0 : decode cX9_readWhole 0 = .ok (.aload_n 0, 1) := by decide +kernel
theorem dX9_readWhole_1 : decode cX9_readWhole 1 = .ok (.iconst 0, 1) := by decide +kernel
theorem dX9_readWhole_2 : decode cX9_readWhole 2 = .ok (.putfield 34, 3) := by decide +kernel
theorem dX9_readWhole_5 : decode cX9_readWhole 5 = .ok (.aload_n 0, 1) := by decide +kernel
theorem dX9_readWhole_6 : decode cX9_readWhole 6 = .ok (.iconst 0, 1) := by decide +kernel
theorem dX9_readWhole_7 : decode cX9_readWhole 7 = .ok (.invokevirtual 38, 3) := by decide +kernel
theorem dX9_readWhole_10 : decode cX9_readWhole 10 = .ok (.ireturn, 1) := by decide +kernel
def mX9_readWhole (I : iT) (F : fT) : Option (Int32 × iT) := (mX9_readType SF (a_u2 I 142 4 0) F 0).bind fun q1 => some (q1.1, q1.2)
set_option maxRecDepth 100000 in
set_option maxHeartbeats 4000000 in
theorem tX9_readWhole {l : Launch} {K : a_KT} {g : a_GT} {IB : iT} (hko : a_kok K) (I : iT) (J : jT) (F : fT) (hF : FK F) (q : Int32 × iT) (hm : mX9_readWhole I F = some q) : C l K g 454 0 0 yX9_readWhole cX9_readWhole 1 (some .int) [.ref 142] (hg I IB J F) (fun r2 h2 => r2 = some (.int q.1) ∧ h2 = hg q.2 IB J F) := by
  unfold mX9_readWhole at hm
  refine c_of [.ref 142] (by decide) (Nat.le_of_ble_eq_true rfl) rfl ?_
  refine e_aload_n (i := 0) rfl dX9_readWhole_0 ?_
  refine e_iconst (v := 0) (by decide) dX9_readWhole_1 ?_
  refine k_putI 9 4 dX9_readWhole_2 fl_RX9_34 rfl rfl iz_142 (by decide) ?_
  refine e_aload_n (i := 0) rfl dX9_readWhole_5 ?_
  refine e_iconst (v := 0) (by decide) dX9_readWhole_6 ?_
  obtain ⟨q1, eq1, hm⟩ := ob_some hm
  refine e_cV1 hko dX9_readWhole_7 ml_RX9_38 iz_142 (by decide) rfl (by omega) (Nat.le_of_ble_eq_true rfl) (tX9_readType hko (a_u2 I 142 4 0) J F hF 0 _ eq1) ?_
  rintro _ _ ⟨rfl, rfl⟩
  refine e_iret dX9_readWhole_10 rfl ?_
  have hm := some_in hm
  subst hm
  exact ⟨rfl, rfl⟩
theorem dX7_joins_0 : decode cX7_joins 0 = .ok (.iload_n 0, 1) := by decide +kernel
theorem dX7_joins_1 : decode cX7_joins 1 = .ok (.lookupswitch 64 #[(0, 27), (1, 46)], 27) := by decide +kernel
theorem dX7_joins_28 : decode cX7_joins 28 = .ok (.iload_n 1, 1) := by decide +kernel
theorem dX7_joins_29 : decode cX7_joins 29 = .ok (.bipush 60, 2) := by decide +kernel
theorem dX7_joins_31 : decode cX7_joins 31 = .ok (.if_icmp .eq 10, 3) := by decide +kernel
theorem dX7_joins_34 : decode cX7_joins 34 = .ok (.iload_n 1, 1) := by decide +kernel
theorem dX7_joins_35 : decode cX7_joins 35 = .ok (.sipush 258, 3) := by decide +kernel
theorem dX7_joins_38 : decode cX7_joins 38 = .ok (.if_icmp .ne 7, 3) := by decide +kernel
theorem dX7_joins_41 : decode cX7_joins 41 = .ok (.iconst 1, 1) := by decide +kernel
theorem dX7_joins_42 : decode cX7_joins 42 = .ok (.goto 4, 3) := by decide +kernel
theorem dX7_joins_45 : decode cX7_joins 45 = .ok (.iconst 0, 1) := by decide +kernel
theorem dX7_joins_46 : decode cX7_joins 46 = .ok (.ireturn, 1) := by decide +kernel
theorem dX7_joins_47 : decode cX7_joins 47 = .ok (.iload_n 1, 1) := by decide +kernel
theorem dX7_joins_48 : decode cX7_joins 48 = .ok (.bipush 43, 2) := by decide +kernel
theorem dX7_joins_50 : decode cX7_joins 50 = .ok (.if_icmp .eq 9, 3) := by decide +kernel
theorem dX7_joins_53 : decode cX7_joins 53 = .ok (.iload_n 1, 1) := by decide +kernel
theorem dX7_joins_54 : decode cX7_joins 54 = .ok (.bipush 45, 2) := by decide +kernel
theorem dX7_joins_56 : decode cX7_joins 56 = .ok (.if_icmp .ne 7, 3) := by decide +kernel
theorem dX7_joins_59 : decode cX7_joins 59 = .ok (.iconst 1, 1) := by decide +kernel
theorem dX7_joins_60 : decode cX7_joins 60 = .ok (.goto 4, 3) := by decide +kernel
theorem dX7_joins_63 : decode cX7_joins 63 = .ok (.iconst 0, 1) := by decide +kernel
theorem dX7_joins_64 : decode cX7_joins 64 = .ok (.ireturn, 1) := by decide +kernel
theorem dX7_joins_65 : decode cX7_joins 65 = .ok (.iload_n 1, 1) := by decide +kernel
theorem dX7_joins_66 : decode cX7_joins 66 = .ok (.bipush 42, 2) := by decide +kernel
theorem dX7_joins_68 : decode cX7_joins 68 = .ok (.if_icmp .ne 7, 3) := by decide +kernel
theorem dX7_joins_71 : decode cX7_joins 71 = .ok (.iconst 1, 1) := by decide +kernel
theorem dX7_joins_72 : decode cX7_joins 72 = .ok (.goto 4, 3) := by decide +kernel
theorem dX7_joins_75 : decode cX7_joins 75 = .ok (.iconst 0, 1) := by decide +kernel
theorem dX7_joins_76 : decode cX7_joins 76 = .ok (.ireturn, 1) := by decide +kernel
def mX7_joins_41 (x0 : Int32) (x1 : Int32) : Option (Int32) := some 1
def mX7_joins_59 (x0 : Int32) (x1 : Int32) : Option (Int32) := some 1
def mX7_joins (x0 : Int32) (x1 : Int32) : Option (Int32) := if x0 = 0 then if x1 = 60 then mX7_joins_41 x0 x1 else if x1 = 258 then mX7_joins_41 x0 x1 else some 0 else if x0 = 1 then if x1 = 43 then mX7_joins_59 x0 x1 else if x1 = 45 then mX7_joins_59 x0 x1 else some 0 else if x1 = 42 then some 1 else some 0
set_option maxRecDepth 100000 in
set_option maxHeartbeats 4000000 in
theorem tX7_joins_41 {l : Launch} {K : a_KT} {g : a_GT} {IB : iT} (hko : a_kok K) {I : iT} {J : jT} {F : fT} (x0 : Int32) (x1 : Int32) (hF : FK F) (q : Int32) (hm : mX7_joins_41 x0 x1 = some q) : E l K g 0 0 0 yX7_joins cX7_joins 2 (some .boolean) 41 [.int x0, .int x1] [] (hg I IB J F) (fun r2 h2 => r2 = some (.int q) ∧ h2 = hg I IB J F) := by
  unfold mX7_joins_41 at hm
  refine e_iconst (v := 1) (by decide) dX7_joins_41 ?_
  refine e_goto 46 dX7_joins_42 (by decide) ?_
  refine e_zret dX7_joins_46 rfl rfl ?_
  have hm := some_in hm
  subst hm
  exact ⟨rfl, rfl⟩
set_option maxRecDepth 100000 in
set_option maxHeartbeats 4000000 in
theorem tX7_joins_59 {l : Launch} {K : a_KT} {g : a_GT} {IB : iT} (hko : a_kok K) {I : iT} {J : jT} {F : fT} (x0 : Int32) (x1 : Int32) (hF : FK F) (q : Int32) (hm : mX7_joins_59 x0 x1 = some q) : E l K g 0 0 0 yX7_joins cX7_joins 2 (some .boolean) 59 [.int x0, .int x1] [] (hg I IB J F) (fun r2 h2 => r2 = some (.int q) ∧ h2 = hg I IB J F) := by
  unfold mX7_joins_59 at hm
  refine e_iconst (v := 1) (by decide) dX7_joins_59 ?_
  refine e_goto 64 dX7_joins_60 (by decide) ?_
  refine e_zret dX7_joins_64 rfl rfl ?_
  have hm := some_in hm
  subst hm
  exact ⟨rfl, rfl⟩
set_option maxRecDepth 100000 in
set_option maxHeartbeats 4000000 in
theorem tX7_joins {l : Launch} {K : a_KT} {g : a_GT} {IB : iT} (hko : a_kok K) (I : iT) (J : jT) (F : fT) (hF : FK F) (x0 : Int32) (x1 : Int32) (q : Int32) (hm : mX7_joins x0 x1 = some q) : C l K g 0 0 0 yX7_joins cX7_joins 2 (some .boolean) [.int x0, .int x1] (hg I IB J F) (fun r2 h2 => r2 = some (.int q) ∧ h2 = hg I IB J F) := by
  unfold mX7_joins at hm
  refine c_of [.int x0, .int x1] (by decide) (Nat.le_of_ble_eq_true rfl) rfl ?_
  refine e_iload_n (i := 0) rfl dX7_joins_0 ?_
  by_cases c_1_0 : x0 = 0
  · have hm := it_p c_1_0 hm
    refine e_lookup 28 dX7_joins_1 (by decide) (off := 27) (by rw [c_1_0]; decide) (by decide) ?_
    refine e_iload_n (i := 1) rfl dX7_joins_28 ?_
    refine e_bipush (v := 60) (by decide) dX7_joins_29 ?_
    refine e_icmp_eq 41 dX7_joins_31 (by decide) (fun c_31 => ?_) (fun c_31 => ?_)
    · have hm := it_p c_31 hm
      refine e_weak [.int x0, .int x1] ⟨rfl, ⟨rfl, trivial⟩⟩ ?_
      exact tX7_joins_41 hko x0 x1 hF _ hm
    · have hm := it_n c_31 hm
      refine e_iload_n (i := 1) rfl dX7_joins_34 ?_
      refine e_sipush (v := 258) (by decide) dX7_joins_35 ?_
      refine e_icmp_ne 45 dX7_joins_38 (by decide) (fun c_38 => ?_) (fun c_38 => ?_)
      · have hm := it_n c_38 hm
        refine e_iconst (v := 0) (by decide) dX7_joins_45 ?_
        refine e_zret dX7_joins_46 rfl rfl ?_
        have hm := some_in hm
        subst hm
        exact ⟨rfl, rfl⟩
      · have hm := it_p c_38 hm
        refine e_weak [.int x0, .int x1] ⟨rfl, ⟨rfl, trivial⟩⟩ ?_
        exact tX7_joins_41 hko x0 x1 hF _ hm
  have hm := it_n c_1_0 hm
  by_cases c_1_1 : x0 = 1
  · have hm := it_p c_1_1 hm
    refine e_lookup 47 dX7_joins_1 (by decide) (off := 46) (by rw [c_1_1]; decide) (by decide) ?_
    refine e_iload_n (i := 1) rfl dX7_joins_47 ?_
    refine e_bipush (v := 43) (by decide) dX7_joins_48 ?_
    refine e_icmp_eq 59 dX7_joins_50 (by decide) (fun c_50 => ?_) (fun c_50 => ?_)
    · have hm := it_p c_50 hm
      refine e_weak [.int x0, .int x1] ⟨rfl, ⟨rfl, trivial⟩⟩ ?_
      exact tX7_joins_59 hko x0 x1 hF _ hm
    · have hm := it_n c_50 hm
      refine e_iload_n (i := 1) rfl dX7_joins_53 ?_
      refine e_bipush (v := 45) (by decide) dX7_joins_54 ?_
      refine e_icmp_ne 63 dX7_joins_56 (by decide) (fun c_56 => ?_) (fun c_56 => ?_)
      · have hm := it_n c_56 hm
        refine e_iconst (v := 0) (by decide) dX7_joins_63 ?_
        refine e_zret dX7_joins_64 rfl rfl ?_
        have hm := some_in hm
        subst hm
        exact ⟨rfl, rfl⟩
      · have hm := it_p c_56 hm
        refine e_weak [.int x0, .int x1] ⟨rfl, ⟨rfl, trivial⟩⟩ ?_
        exact tX7_joins_59 hko x0 x1 hF _ hm
  have hm := it_n c_1_1 hm
  refine e_lookup 65 dX7_joins_1 (by decide) (off := 64) (by show Op.lookupswitch.offset [(0, 27), (1, 46)] 64 _ = _; rw [lv_osw c_1_0 (by decide), lv_osw c_1_1 (by decide)]; try rfl) (by decide) ?_
  refine e_iload_n (i := 1) rfl dX7_joins_65 ?_
  refine e_bipush (v := 42) (by decide) dX7_joins_66 ?_
  refine e_icmp_ne 75 dX7_joins_68 (by decide) (fun c_68 => ?_) (fun c_68 => ?_)
  · have hm := it_n c_68 hm
    refine e_iconst (v := 0) (by decide) dX7_joins_75 ?_
    refine e_zret dX7_joins_76 rfl rfl ?_
    have hm := some_in hm
    subst hm
    exact ⟨rfl, rfl⟩
  · have hm := it_p c_68 hm
    refine e_iconst (v := 1) (by decide) dX7_joins_71 ?_
    refine e_goto 76 dX7_joins_72 (by decide) ?_
    refine e_zret dX7_joins_76 rfl rfl ?_
    have hm := some_in hm
    subst hm
    exact ⟨rfl, rfl⟩
theorem dX7_readSum_0 : decode cX7_readSum 0 = .ok (.iload_n 1, 1) := by decide +kernel
theorem dX7_readSum_1 : decode cX7_readSum 1 = .ok (.iconst 2, 1) := by decide +kernel
theorem dX7_readSum_2 : decode cX7_readSum 2 = .ok (.if_icmp .le 9, 3) := by decide +kernel
theorem dX7_readSum_5 : decode cX7_readSum 5 = .ok (.aload_n 0, 1) := by decide +kernel
theorem dX7_readSum_6 : decode cX7_readSum 6 = .ok (.iload_n 2, 1) := by decide +kernel
theorem dX7_readSum_7 : decode cX7_readSum 7 = .ok (.invokevirtual 23, 3) := by decide +kernel
theorem dX7_readSum_10 : decode cX7_readSum 10 = .ok (.ireturn, 1) := by decide +kernel
theorem dX7_readSum_11 : decode cX7_readSum 11 = .ok (.aload_n 0, 1) := by decide +kernel
theorem dX7_readSum_12 : decode cX7_readSum 12 = .ok (.iload_n 1, 1) := by decide +kernel
theorem dX7_readSum_13 : decode cX7_readSum 13 = .ok (.iconst 1, 1) := by decide +kernel
theorem dX7_readSum_14 : decode cX7_readSum 14 = .ok (.iadd, 1) := by decide +kernel
theorem dX7_readSum_15 : decode cX7_readSum 15 = .ok (.iload_n 2, 1) := by decide +kernel
theorem dX7_readSum_16 : decode cX7_readSum 16 = .ok (.invokevirtual 27, 3) := by decide +kernel
theorem dX7_readSum_19 : decode cX7_readSum 19 = .ok (.istore_n 3, 1) := by decide +kernel
theorem dX7_readSum_20 : decode cX7_readSum 20 = .ok (.iload_n 1, 1) := by decide +kernel
theorem dX7_readSum_21 : decode cX7_readSum 21 = .ok (.ifCond .ne 7, 3) := by decide +kernel
theorem dX7_readSum_24 : decode cX7_readSum 24 = .ok (.iconst 1, 1) := by decide +kernel
theorem dX7_readSum_25 : decode cX7_readSum 25 = .ok (.goto 6, 3) := by decide +kernel
theorem dX7_readSum_28 : decode cX7_readSum 28 = .ok (.sipush 1000, 3) := by decide +kernel
theorem dX7_readSum_31 : decode cX7_readSum 31 = .ok (.istore 4, 2) := by decide +kernel
theorem dX7_readSum_33 : decode cX7_readSum 33 = .ok (.iconst 0, 1) := by decide +kernel
theorem dX7_readSum_34 : decode cX7_readSum 34 = .ok (.istore 5, 2) := by decide +kernel
theorem dX7_readSum_36 : decode cX7_readSum 36 = .ok (.iload 5, 2) := by decide +kernel
theorem dX7_readSum_38 : decode cX7_readSum 38 = .ok (.iload 4, 2) := by decide +kernel
theorem dX7_readSum_40 : decode cX7_readSum 40 = .ok (.if_icmp .ge 76, 3) := by decide +kernel
theorem dX7_readSum_43 : decode cX7_readSum 43 = .ok (.iload_n 1, 1) := by decide +kernel
theorem dX7_readSum_44 : decode cX7_readSum 44 = .ok (.aload_n 0, 1) := by decide +kernel
theorem dX7_readSum_45 : decode cX7_readSum 45 = .ok (.getfield 9, 3) := by decide +kernel
theorem dX7_readSum_48 : decode cX7_readSum 48 = .ok (.getfield 31, 3) := by decide +kernel
theorem dX7_readSum_51 : decode cX7_readSum 51 = .ok (.invokestatic 37, 3) := by decide +kernel
theorem dX7_readSum_54 : decode cX7_readSum 54 = .ok (.ifCond .eq 62, 3) := by decide +kernel
theorem dX7_readSum_57 : decode cX7_readSum 57 = .ok (.aload_n 0, 1) := by decide +kernel
theorem dX7_readSum_58 : decode cX7_readSum 58 = .ok (.getfield 9, 3) := by decide +kernel
theorem dX7_readSum_61 : decode cX7_readSum 61 = .ok (.getfield 31, 3) := by decide +kernel
theorem dX7_readSum_64 : decode cX7_readSum 64 = .ok (.istore 6, 2) := by decide +kernel
theorem dX7_readSum_66 : decode cX7_readSum 66 = .ok (.aload_n 0, 1) := by decide +kernel
theorem dX7_readSum_67 : decode cX7_readSum 67 = .ok (.getfield 9, 3) := by decide +kernel
theorem dX7_readSum_70 : decode cX7_readSum 70 = .ok (.invokevirtual 41, 3) := by decide +kernel
theorem dX7_readSum_73 : decode cX7_readSum 73 = .ok (.aload_n 0, 1) := by decide +kernel
theorem dX7_readSum_74 : decode cX7_readSum 74 = .ok (.iload_n 1, 1) := by decide +kernel
theorem dX7_readSum_75 : decode cX7_readSum 75 = .ok (.iconst 1, 1) := by decide +kernel
theorem dX7_readSum_76 : decode cX7_readSum 76 = .ok (.iadd, 1) := by decide +kernel
theorem dX7_readSum_77 : decode cX7_readSum 77 = .ok (.iload_n 2, 1) := by decide +kernel
theorem dX7_readSum_78 : decode cX7_readSum 78 = .ok (.invokevirtual 27, 3) := by decide +kernel
theorem dX7_readSum_81 : decode cX7_readSum 81 = .ok (.istore 7, 2) := by decide +kernel
theorem dX7_readSum_83 : decode cX7_readSum 83 = .ok (.aload_n 0, 1) := by decide +kernel
theorem dX7_readSum_84 : decode cX7_readSum 84 = .ok (.getfield 9, 3) := by decide +kernel
theorem dX7_readSum_87 : decode cX7_readSum 87 = .ok (.invokevirtual 44, 3) := by decide +kernel
theorem dX7_readSum_90 : decode cX7_readSum 90 = .ok (.ifCond .eq 7, 3) := by decide +kernel
theorem dX7_readSum_93 : decode cX7_readSum 93 = .ok (.iconst (-1), 1) := by decide +kernel
theorem dX7_readSum_94 : decode cX7_readSum 94 = .ok (.goto 15, 3) := by decide +kernel
theorem dX7_readSum_97 : decode cX7_readSum 97 = .ok (.aload_n 0, 1) := by decide +kernel
theorem dX7_readSum_98 : decode cX7_readSum 98 = .ok (.getfield 19, 3) := by decide +kernel
theorem dX7_readSum_101 : decode cX7_readSum 101 = .ok (.iload 6, 2) := by decide +kernel
theorem dX7_readSum_103 : decode cX7_readSum 103 = .ok (.iload_n 3, 1) := by decide +kernel
theorem dX7_readSum_104 : decode cX7_readSum 104 = .ok (.iload 7, 2) := by decide +kernel
theorem dX7_readSum_106 : decode cX7_readSum 106 = .ok (.invokevirtual 48, 3) := by decide +kernel
theorem dX7_readSum_109 : decode cX7_readSum 109 = .ok (.istore_n 3, 1) := by decide +kernel
theorem dX7_readSum_110 : decode cX7_readSum 110 = .ok (.iinc 5 1, 3) := by decide +kernel
theorem dX7_readSum_113 : decode cX7_readSum 113 = .ok (.goto (-77), 3) := by decide +kernel
theorem dX7_readSum_116 : decode cX7_readSum 116 = .ok (.iload_n 3, 1) := by decide +kernel
theorem dX7_readSum_117 : decode cX7_readSum 117 = .ok (.ireturn, 1) := by decide +kernel
theorem dX7_readUnit_0 : decode cX7_readUnit 0 = .ok (.aload_n 0, 1) := by decide +kernel
theorem dX7_readUnit_1 : decode cX7_readUnit 1 = .ok (.getfield 9, 3) := by decide +kernel
theorem dX7_readUnit_4 : decode cX7_readUnit 4 = .ok (.getfield 31, 3) := by decide +kernel
theorem dX7_readUnit_7 : decode cX7_readUnit 7 = .ok (.istore_n 2, 1) := by decide +kernel
theorem dX7_readUnit_8 : decode cX7_readUnit 8 = .ok (.iload_n 2, 1) := by decide +kernel
theorem dX7_readUnit_9 : decode cX7_readUnit 9 = .ok (.sipush 257, 3) := by decide +kernel
theorem dX7_readUnit_12 : decode cX7_readUnit 12 = .ok (.if_icmp .eq 10, 3) := by decide +kernel
theorem dX7_readUnit_15 : decode cX7_readUnit 15 = .ok (.iload_n 2, 1) := by decide +kernel
theorem dX7_readUnit_16 : decode cX7_readUnit 16 = .ok (.sipush 256, 3) := by decide +kernel
theorem dX7_readUnit_19 : decode cX7_readUnit 19 = .ok (.if_icmp .ne 91, 3) := by decide +kernel
theorem dX7_readUnit_22 : decode cX7_readUnit 22 = .ok (.iload_n 2, 1) := by decide +kernel
theorem dX7_readUnit_23 : decode cX7_readUnit 23 = .ok (.sipush 257, 3) := by decide +kernel
theorem dX7_readUnit_26 : decode cX7_readUnit 26 = .ok (.if_icmp .ne 13, 3) := by decide +kernel
theorem dX7_readUnit_29 : decode cX7_readUnit 29 = .ok (.aload_n 0, 1) := by decide +kernel
theorem dX7_readUnit_30 : decode cX7_readUnit 30 = .ok (.getfield 9, 3) := by decide +kernel
theorem dX7_readUnit_33 : decode cX7_readUnit 33 = .ok (.getfield 54, 3) := by decide +kernel
theorem dX7_readUnit_36 : decode cX7_readUnit 36 = .ok (.goto 17, 3) := by decide +kernel
theorem dX7_readUnit_39 : decode cX7_readUnit 39 = .ok (.aload_n 0, 1) := by decide +kernel
theorem dX7_readUnit_40 : decode cX7_readUnit 40 = .ok (.getfield 15, 3) := by decide +kernel
theorem dX7_readUnit_43 : decode cX7_readUnit 43 = .ok (.aload_n 0, 1) := by decide +kernel
theorem dX7_readUnit_44 : decode cX7_readUnit 44 = .ok (.getfield 9, 3) := by decide +kernel
theorem dX7_readUnit_47 : decode cX7_readUnit 47 = .ok (.getfield 54, 3) := by decide +kernel
theorem dX7_readUnit_50 : decode cX7_readUnit 50 = .ok (.invokevirtual 57, 3) := by decide +kernel
theorem dX7_readUnit_53 : decode cX7_readUnit 53 = .ok (.istore_n 3, 1) := by decide +kernel
theorem dX7_readUnit_54 : decode cX7_readUnit 54 = .ok (.iload_n 2, 1) := by decide +kernel
theorem dX7_readUnit_55 : decode cX7_readUnit 55 = .ok (.sipush 256, 3) := by decide +kernel
theorem dX7_readUnit_58 : decode cX7_readUnit 58 = .ok (.if_icmp .ne 35, 3) := by decide +kernel
theorem dX7_readUnit_61 : decode cX7_readUnit 61 = .ok (.iload_n 3, 1) := by decide +kernel
theorem dX7_readUnit_62 : decode cX7_readUnit 62 = .ok (.iconst (-1), 1) := by decide +kernel
theorem dX7_readUnit_63 : decode cX7_readUnit 63 = .ok (.if_icmp .eq 15, 3) := by decide +kernel
theorem dX7_readUnit_66 : decode cX7_readUnit 66 = .ok (.aload_n 0, 1) := by decide +kernel
theorem dX7_readUnit_67 : decode cX7_readUnit 67 = .ok (.getfield 15, 3) := by decide +kernel
theorem dX7_readUnit_70 : decode cX7_readUnit 70 = .ok (.iload_n 3, 1) := by decide +kernel
theorem dX7_readUnit_71 : decode cX7_readUnit 71 = .ok (.invokevirtual 62, 3) := by decide +kernel
theorem dX7_readUnit_74 : decode cX7_readUnit 74 = .ok (.iconst (-1), 1) := by decide +kernel
theorem dX7_readUnit_75 : decode cX7_readUnit 75 = .ok (.if_icmp .eq 18, 3) := by decide +kernel
theorem dX7_readUnit_78 : decode cX7_readUnit 78 = .ok (.aload_n 0, 1) := by decide +kernel
theorem dX7_readUnit_79 : decode cX7_readUnit 79 = .ok (.getfield 9, 3) := by decide +kernel
theorem dX7_readUnit_82 : decode cX7_readUnit 82 = .ok (.iconst 2, 1) := by decide +kernel
theorem dX7_readUnit_83 : decode cX7_readUnit 83 = .ok (.aload_n 0, 1) := by decide +kernel
theorem dX7_readUnit_84 : decode cX7_readUnit 84 = .ok (.getfield 9, 3) := by decide +kernel
theorem dX7_readUnit_87 : decode cX7_readUnit 87 = .ok (.getfield 65, 3) := by decide +kernel
theorem dX7_readUnit_90 : decode cX7_readUnit 90 = .ok (.invokevirtual 68, 3) := by decide +kernel
theorem dX7_readUnit_93 : decode cX7_readUnit 93 = .ok (.aload_n 0, 1) := by decide +kernel
theorem dX7_readUnit_94 : decode cX7_readUnit 94 = .ok (.getfield 9, 3) := by decide +kernel
theorem dX7_readUnit_97 : decode cX7_readUnit 97 = .ok (.invokevirtual 41, 3) := by decide +kernel
theorem dX7_readUnit_100 : decode cX7_readUnit 100 = .ok (.aload_n 0, 1) := by decide +kernel
theorem dX7_readUnit_101 : decode cX7_readUnit 101 = .ok (.getfield 19, 3) := by decide +kernel
theorem dX7_readUnit_104 : decode cX7_readUnit 104 = .ok (.iload_n 2, 1) := by decide +kernel
theorem dX7_readUnit_105 : decode cX7_readUnit 105 = .ok (.iload_n 3, 1) := by decide +kernel
theorem dX7_readUnit_106 : decode cX7_readUnit 106 = .ok (.invokevirtual 72, 3) := by decide +kernel
theorem dX7_readUnit_109 : decode cX7_readUnit 109 = .ok (.ireturn, 1) := by decide +kernel
theorem dX7_readUnit_110 : decode cX7_readUnit 110 = .ok (.iload_n 2, 1) := by decide +kernel
theorem dX7_readUnit_111 : decode cX7_readUnit 111 = .ok (.bipush 45, 2) := by decide +kernel
theorem dX7_readUnit_113 : decode cX7_readUnit 113 = .ok (.if_icmp .eq 26, 3) := by decide +kernel
theorem dX7_readUnit_116 : decode cX7_readUnit 116 = .ok (.iload_n 2, 1) := by decide +kernel
theorem dX7_readUnit_117 : decode cX7_readUnit 117 = .ok (.bipush 40, 2) := by decide +kernel
theorem dX7_readUnit_119 : decode cX7_readUnit 119 = .ok (.if_icmp .eq 20, 3) := by decide +kernel
theorem dX7_readUnit_122 : decode cX7_readUnit 122 = .ok (.aload_n 0, 1) := by decide +kernel
theorem dX7_readUnit_123 : decode cX7_readUnit 123 = .ok (.getfield 9, 3) := by decide +kernel
theorem dX7_readUnit_126 : decode cX7_readUnit 126 = .ok (.iconst 1, 1) := by decide +kernel
theorem dX7_readUnit_127 : decode cX7_readUnit 127 = .ok (.aload_n 0, 1) := by decide +kernel
theorem dX7_readUnit_128 : decode cX7_readUnit 128 = .ok (.getfield 9, 3) := by decide +kernel
theorem dX7_readUnit_131 : decode cX7_readUnit 131 = .ok (.getfield 65, 3) := by decide +kernel
theorem dX7_readUnit_134 : decode cX7_readUnit 134 = .ok (.invokevirtual 68, 3) := by decide +kernel
theorem dX7_readUnit_137 : decode cX7_readUnit 137 = .ok (.iconst (-1), 1) := by decide +kernel
theorem dX7_readUnit_138 : decode cX7_readUnit 138 = .ok (.ireturn, 1) := by decide +kernel
theorem dX7_readUnit_139 : decode cX7_readUnit 139 = .ok (.iload_n 1, 1) := by decide +kernel
theorem dX7_readUnit_140 : decode cX7_readUnit 140 = .ok (.bipush 8, 2) := by decide +kernel
theorem dX7_readUnit_142 : decode cX7_readUnit 142 = .ok (.if_icmp .lt 20, 3) := by decide +kernel
theorem dX7_readUnit_145 : decode cX7_readUnit 145 = .ok (.aload_n 0, 1) := by decide +kernel
theorem dX7_readUnit_146 : decode cX7_readUnit 146 = .ok (.getfield 9, 3) := by decide +kernel
theorem dX7_readUnit_149 : decode cX7_readUnit 149 = .ok (.iconst 5, 1) := by decide +kernel
theorem dX7_readUnit_150 : decode cX7_readUnit 150 = .ok (.aload_n 0, 1) := by decide +kernel
theorem dX7_readUnit_151 : decode cX7_readUnit 151 = .ok (.getfield 9, 3) := by decide +kernel
theorem dX7_readUnit_154 : decode cX7_readUnit 154 = .ok (.getfield 65, 3) := by decide +kernel
theorem dX7_readUnit_157 : decode cX7_readUnit 157 = .ok (.invokevirtual 68, 3) := by decide +kernel
theorem dX7_readUnit_160 : decode cX7_readUnit 160 = .ok (.iconst (-1), 1) := by decide +kernel
theorem dX7_readUnit_161 : decode cX7_readUnit 161 = .ok (.ireturn, 1) := by decide +kernel
theorem dX7_readUnit_162 : decode cX7_readUnit 162 = .ok (.aload_n 0, 1) := by decide +kernel
theorem dX7_readUnit_163 : decode cX7_readUnit 163 = .ok (.getfield 9, 3) := by decide +kernel
theorem dX7_readUnit_166 : decode cX7_readUnit 166 = .ok (.invokevirtual 41, 3) := by decide +kernel
theorem dX7_readUnit_169 : decode cX7_readUnit 169 = .ok (.iload_n 2, 1) := by decide +kernel
theorem dX7_readUnit_170 : decode cX7_readUnit 170 = .ok (.bipush 45, 2) := by decide +kernel
theorem dX7_readUnit_172 : decode cX7_readUnit 172 = .ok (.if_icmp .ne 38, 3) := by decide +kernel
theorem dX7_readUnit_175 : decode cX7_readUnit 175 = .ok (.aload_n 0, 1) := by decide +kernel
theorem dX7_readUnit_176 : decode cX7_readUnit 176 = .ok (.iload_n 1, 1) := by decide +kernel
theorem dX7_readUnit_177 : decode cX7_readUnit 177 = .ok (.iconst 1, 1) := by decide +kernel
theorem dX7_readUnit_178 : decode cX7_readUnit 178 = .ok (.iadd, 1) := by decide +kernel
theorem dX7_readUnit_179 : decode cX7_readUnit 179 = .ok (.invokevirtual 23, 3) := by decide +kernel
theorem dX7_readUnit_182 : decode cX7_readUnit 182 = .ok (.istore_n 3, 1) := by decide +kernel
theorem dX7_readUnit_183 : decode cX7_readUnit 183 = .ok (.aload_n 0, 1) := by decide +kernel
theorem dX7_readUnit_184 : decode cX7_readUnit 184 = .ok (.getfield 9, 3) := by decide +kernel
theorem dX7_readUnit_187 : decode cX7_readUnit 187 = .ok (.invokevirtual 44, 3) := by decide +kernel
theorem dX7_readUnit_190 : decode cX7_readUnit 190 = .ok (.ifCond .eq 7, 3) := by decide +kernel
theorem dX7_readUnit_193 : decode cX7_readUnit 193 = .ok (.iconst (-1), 1) := by decide +kernel
theorem dX7_readUnit_194 : decode cX7_readUnit 194 = .ok (.goto 15, 3) := by decide +kernel
theorem dX7_readUnit_197 : decode cX7_readUnit 197 = .ok (.aload_n 0, 1) := by decide +kernel
theorem dX7_readUnit_198 : decode cX7_readUnit 198 = .ok (.getfield 19, 3) := by decide +kernel
theorem dX7_readUnit_201 : decode cX7_readUnit 201 = .ok (.sipush 261, 3) := by decide +kernel
theorem dX7_readUnit_204 : decode cX7_readUnit 204 = .ok (.iload_n 3, 1) := by decide +kernel
theorem dX7_readUnit_205 : decode cX7_readUnit 205 = .ok (.iconst (-1), 1) := by decide +kernel
theorem dX7_readUnit_206 : decode cX7_readUnit 206 = .ok (.invokevirtual 48, 3) := by decide +kernel
theorem dX7_readUnit_209 : decode cX7_readUnit 209 = .ok (.ireturn, 1) := by decide +kernel
theorem dX7_readUnit_210 : decode cX7_readUnit 210 = .ok (.aload_n 0, 1) := by decide +kernel
theorem dX7_readUnit_211 : decode cX7_readUnit 211 = .ok (.iconst 0, 1) := by decide +kernel
theorem dX7_readUnit_212 : decode cX7_readUnit 212 = .ok (.iload_n 1, 1) := by decide +kernel
theorem dX7_readUnit_213 : decode cX7_readUnit 213 = .ok (.iconst 1, 1) := by decide +kernel
theorem dX7_readUnit_214 : decode cX7_readUnit 214 = .ok (.iadd, 1) := by decide +kernel
theorem dX7_readUnit_215 : decode cX7_readUnit 215 = .ok (.invokevirtual 27, 3) := by decide +kernel
theorem dX7_readUnit_218 : decode cX7_readUnit 218 = .ok (.istore_n 3, 1) := by decide +kernel
theorem dX7_readUnit_219 : decode cX7_readUnit 219 = .ok (.aload_n 0, 1) := by decide +kernel
theorem dX7_readUnit_220 : decode cX7_readUnit 220 = .ok (.getfield 9, 3) := by decide +kernel
theorem dX7_readUnit_223 : decode cX7_readUnit 223 = .ok (.bipush 41, 2) := by decide +kernel
theorem dX7_readUnit_225 : decode cX7_readUnit 225 = .ok (.invokevirtual 75, 3) := by decide +kernel
theorem dX7_readUnit_228 : decode cX7_readUnit 228 = .ok (.iload_n 3, 1) := by decide +kernel
theorem dX7_readUnit_229 : decode cX7_readUnit 229 = .ok (.ireturn, 1) := by decide +kernel
abbrev sc_7readSumT : Type := (iT → fT → Int32 → Int32 → Option (Int32 × iT)) × (iT → fT → Int32 → Option (Int32 × iT))
def sc_7readSum_ok (l : Launch) (K : a_KT) (g : a_GT) (D0 : Nat) (R : sc_7readSumT) : Prop := (∀ {IB : iT} (I : iT) (J : jT) (F : fT) (x1 : Int32) (x2 : Int32), FK F → ∀ q : Int32 × iT, R.1 I F x1 x2 = some q → C l K g D0 0 0 yX7_readSum cX7_readSum 8 (some .int) [.ref 147, .int x1, .int x2] (hg I IB J F) (fun r2 h2 => r2 = some (.int q.1) ∧ h2 = hg q.2 IB J F)) ∧ (∀ {IB : iT} (I : iT) (J : jT) (F : fT) (x1 : Int32), FK F → ∀ q : Int32 × iT, R.2 I F x1 = some q → C l K g D0 0 0 yX7_readUnit cX7_readUnit 4 (some .int) [.ref 147, .int x1] (hg I IB J F) (fun r2 h2 => r2 = some (.int q.1) ∧ h2 = hg q.2 IB J F))
def mX7_readSum_109 (R : sc_7readSumT) (k36 : iT → fT → Int32 → Int32 → Int32 → Int32 → Int32 → Option (Int32 × iT)) (I : iT) (F : fT) (x1 : Int32) (x2 : Int32) (x3 : Int32) (x4 : Int32) (x5 : Int32) (x6 : Int32) (x7 : Int32) (s0 : Int32) : Option (Int32 × iT) := k36 I F x1 x2 s0 x4 (x5 + 1)
def mX7_readSum_36 (R : sc_7readSumT) : Nat → iT → fT → Int32 → Int32 → Int32 → Int32 → Int32 → Option (Int32 × iT)
  | 0, _, _, _, _, _, _, _ => none
  | n + 1, I, F, x1, x2, x3, x4, x5 => if x4 ≤ x5 then some (x3, I) else (mX7_joins x1 (I 6 6)).bind fun q1 => if q1 = 0 then some (x3, I) else (mX2_advance I).bind fun q2 => (R.1 q2 F (x1 + 1) x2).bind fun q3 => (mX2_failed q3.2).bind fun q4 => if q4 = 0 then (mX8_addNode (F 147 2) q3.2 (I 6 6) x3 q3.1).bind fun q5 => mX7_readSum_109 R (mX7_readSum_36 R n) q5.2 F x1 x2 x3 x4 x5 (I 6 6) q3.1 q5.1 else mX7_readSum_109 R (mX7_readSum_36 R n) q3.2 F x1 x2 x3 x4 x5 (I 6 6) q3.1 ((-1))
def mX7_readSum_31 (R : sc_7readSumT) (I : iT) (F : fT) (x1 : Int32) (x2 : Int32) (x3 : Int32) (s0 : Int32) : Option (Int32 × iT) := mX7_readSum_36 R LF I F x1 x2 x3 s0 0
def bX7_readSum (R : sc_7readSumT) (I : iT) (F : fT) (x1 : Int32) (x2 : Int32) : Option (Int32 × iT) := if x1 ≤ 2 then (R.1 I F (x1 + 1) x2).bind fun q6 => if x1 = 0 then mX7_readSum_31 R q6.2 F x1 x2 q6.1 1 else mX7_readSum_31 R q6.2 F x1 x2 q6.1 1000 else (R.2 I F x2).bind fun q7 => some (q7.1, q7.2)
def mX7_readUnit_139 (R : sc_7readSumT) (I : iT) (F : fT) (x1 : Int32) (x2 : Int32) : Option (Int32 × iT) := if x1 < 8 then (mX2_advance I).bind fun q1 => if x2 = 45 then (R.2 q1 F (x1 + 1)).bind fun q4 => (mX2_failed q4.2).bind fun q5 => if q5 = 0 then (mX8_addNode (F 147 2) q4.2 261 q4.1 ((-1))).bind fun q6 => some (q6.1, q6.2) else some ((-1), q4.2) else (R.1 q1 F 0 (x1 + 1)).bind fun q2 => (mX2_want q2.2 41).bind fun q3 => some (q2.1, q3) else (mX2_refuse I 5 (I 6 8)).bind fun q7 => some ((-1), q7)
def mX7_readUnit_93 (R : sc_7readSumT) (I : iT) (F : fT) (x1 : Int32) (x2 : Int32) (x3 : Int32) : Option (Int32 × iT) := (mX2_advance I).bind fun q8 => (mX8_addLeaf (F 147 2) q8 x2 x3).bind fun q9 => some (q9.1, q9.2)
def mX7_readUnit_78 (R : sc_7readSumT) (I : iT) (F : fT) (x1 : Int32) (x2 : Int32) (x3 : Int32) : Option (Int32 × iT) := (mX2_refuse I 2 (I 6 8)).bind fun q10 => mX7_readUnit_93 R q10 F x1 x2 x3
def mX7_readUnit_53 (R : sc_7readSumT) (I : iT) (F : fT) (x1 : Int32) (x2 : Int32) (s0 : Int32) : Option (Int32 × iT) := if x2 = 256 then if s0 = ((-1)) then mX7_readUnit_78 R I F x1 x2 s0 else (mX5_talkAt I s0).bind fun q11 => if q11 = ((-1)) then mX7_readUnit_93 R I F x1 x2 s0 else mX7_readUnit_78 R I F x1 x2 s0 else mX7_readUnit_93 R I F x1 x2 s0
def mX7_readUnit_22 (R : sc_7readSumT) (I : iT) (F : fT) (x1 : Int32) (x2 : Int32) : Option (Int32 × iT) := if x2 = 257 then mX7_readUnit_53 R I F x1 x2 (I 6 7) else (mX5_find I (I 6 7)).bind fun q12 => mX7_readUnit_53 R I F x1 x2 q12
def bX7_readUnit (R : sc_7readSumT) (I : iT) (F : fT) (x1 : Int32) : Option (Int32 × iT) := if (I 6 6) = 257 then mX7_readUnit_22 R I F x1 (I 6 6) else if (I 6 6) = 256 then mX7_readUnit_22 R I F x1 (I 6 6) else if (I 6 6) = 45 then mX7_readUnit_139 R I F x1 (I 6 6) else if (I 6 6) = 40 then mX7_readUnit_139 R I F x1 (I 6 6) else (mX2_refuse I 1 (I 6 8)).bind fun q13 => some ((-1), q13)
def sc_7readSum : Nat → sc_7readSumT
  | 0 => (fun _ _ _ _ => none, fun _ _ _ => none)
  | n + 1 => (bX7_readSum (sc_7readSum n), bX7_readUnit (sc_7readSum n))
def mX7_readSum (n : Nat) : iT → fT → Int32 → Int32 → Option (Int32 × iT) := (sc_7readSum n).1
def mX7_readUnit (n : Nat) : iT → fT → Int32 → Option (Int32 × iT) := (sc_7readSum n).2
set_option maxRecDepth 100000 in
set_option maxHeartbeats 4000000 in
theorem tX7_readSum_109 {l : Launch} {K : a_KT} {g : a_GT} {IB : iT} {D0 : Nat} {R : sc_7readSumT} (hko : a_kok K) (hB : 2 ≤ D0 + 1) (hR : sc_7readSum_ok l K g D0 R) {J : jT} {k36 : iT → fT → Int32 → Int32 → Int32 → Int32 → Int32 → Option (Int32 × iT)} (hk36 : ∀ (I : iT) (F : fT) (x1 : Int32) (x2 : Int32) (x3 : Int32) (x4 : Int32) (x5 : Int32) (_ : FK F) (q : Int32 × iT), k36 I F x1 x2 x3 x4 x5 = some q → E l K g (D0 + 1) 0 0 yX7_readSum cX7_readSum 8 (some .int) 36 [.ref 147, .int x1, .int x2, .int x3, .int x4, .int x5, .null, .null] [] (hg I IB J F) (fun r2 h2 => r2 = some (.int q.1) ∧ h2 = hg q.2 IB J F)) (I : iT) (F : fT) (x1 : Int32) (x2 : Int32) (x3 : Int32) (x4 : Int32) (x5 : Int32) (x6 : Int32) (x7 : Int32) (s0 : Int32) (hF : FK F) (q : Int32 × iT) (hm : mX7_readSum_109 R k36 I F x1 x2 x3 x4 x5 x6 x7 s0 = some q) : E l K g (D0 + 1) 0 0 yX7_readSum cX7_readSum 8 (some .int) 109 [.ref 147, .int x1, .int x2, .int x3, .int x4, .int x5, .int x6, .int x7] [.int s0] (hg I IB J F) (fun r2 h2 => r2 = some (.int q.1) ∧ h2 = hg q.2 IB J F) := by
  unfold mX7_readSum_109 at hm
  refine q_istore_n (i := 3) (by decide) rfl dX7_readSum_109 ?_
  refine q_iinc (i := 5) (x5 + 1) rfl ic_1 rfl dX7_readSum_110 ?_
  refine e_goto 36 dX7_readSum_113 (by decide) ?_
  refine e_weak [.ref 147, .int x1, .int x2, .int s0, .int x4, .int (x5 + 1), .null, .null] ⟨rfl, ⟨rfl, ⟨rfl, ⟨rfl, ⟨rfl, ⟨rfl, ⟨trivial, ⟨trivial, trivial⟩⟩⟩⟩⟩⟩⟩⟩ ?_
  exact hk36 I F x1 x2 s0 x4 (x5 + 1) hF _ hm
set_option maxRecDepth 100000 in
set_option maxHeartbeats 4000000 in
theorem tX7_readSum_36 {l : Launch} {K : a_KT} {g : a_GT} {IB : iT} {D0 : Nat} {R : sc_7readSumT} (hko : a_kok K) (hB : 2 ≤ D0 + 1) (hR : sc_7readSum_ok l K g D0 R) {J : jT} : ∀ (n : Nat) (I : iT) (F : fT) (x1 : Int32) (x2 : Int32) (x3 : Int32) (x4 : Int32) (x5 : Int32) (hF : FK F) (q : Int32 × iT), mX7_readSum_36 R n I F x1 x2 x3 x4 x5 = some q → E l K g (D0 + 1) 0 0 yX7_readSum cX7_readSum 8 (some .int) 36 [.ref 147, .int x1, .int x2, .int x3, .int x4, .int x5, .null, .null] [] (hg I IB J F) (fun r2 h2 => r2 = some (.int q.1) ∧ h2 = hg q.2 IB J F) := by
  intro n
  induction n with
  | zero => intro I F x1 x2 x3 x4 x5 hF q hm; cases hm
  | succ n ih =>
    intro I F x1 x2 x3 x4 x5 hF q hm
    rw [mX7_readSum_36] at hm
    refine e_iload (i := 5) rfl dX7_readSum_36 ?_
    refine e_iload (i := 4) rfl dX7_readSum_38 ?_
    refine e_icmp_ge 116 dX7_readSum_40 (by decide) (fun c_40 => ?_) (fun c_40 => ?_)
    · have hm := it_p c_40 hm
      refine e_iload_n (i := 3) rfl dX7_readSum_116 ?_
      refine e_iret dX7_readSum_117 rfl ?_
      have hm := some_in hm
      subst hm
      exact ⟨rfl, rfl⟩
    · have hm := it_n c_40 hm
      refine e_iload_n (i := 1) rfl dX7_readSum_43 ?_
      refine e_aload_n (i := 0) rfl dX7_readSum_44 ?_
      refine q_getF 7 0 6 dX7_readSum_45 fl_RX7_9 rfl iz_147 (fr_147_0 hF.1) ?_
      refine k_getI 2 6 dX7_readSum_48 fl_RX7_31 rfl iz_6 (by decide) ?_
      obtain ⟨q1, eq1, hm⟩ := ob_some hm
      refine e_cS2 hko dX7_readSum_51 ml_RX7_37 (by omega) (Nat.le_of_ble_eq_true rfl) (tX7_joins hko I J F hF x1 (I 6 6) _ eq1) ?_
      rintro _ _ ⟨rfl, rfl⟩
      refine e_if_eq 116 dX7_readSum_54 (by decide) (fun c_54 => ?_) (fun c_54 => ?_)
      · have hm := it_p c_54 hm
        refine e_iload_n (i := 3) rfl dX7_readSum_116 ?_
        refine e_iret dX7_readSum_117 rfl ?_
        have hm := some_in hm
        subst hm
        exact ⟨rfl, rfl⟩
      · have hm := it_n c_54 hm
        refine e_aload_n (i := 0) rfl dX7_readSum_57 ?_
        refine q_getF 7 0 6 dX7_readSum_58 fl_RX7_9 rfl iz_147 (fr_147_0 hF.1) ?_
        refine k_getI 2 6 dX7_readSum_61 fl_RX7_31 rfl iz_6 (by decide) ?_
        refine q_istore (i := 6) (by decide) rfl dX7_readSum_64 ?_
        refine e_aload_n (i := 0) rfl dX7_readSum_66 ?_
        refine q_getF 7 0 6 dX7_readSum_67 fl_RX7_9 rfl iz_147 (fr_147_0 hF.1) ?_
        obtain ⟨q2, eq2, hm⟩ := ob_some hm
        refine e_cV0 hko dX7_readSum_70 ml_RX7_41 iz_6 (by decide) rfl (by omega) (Nat.le_of_ble_eq_true rfl) (tX2_advance hko I J F hF _ eq2) ?_
        rintro _ _ ⟨rfl, rfl⟩
        refine e_aload_n (i := 0) rfl dX7_readSum_73 ?_
        refine e_iload_n (i := 1) rfl dX7_readSum_74 ?_
        refine e_iconst (v := 1) (by decide) dX7_readSum_75 ?_
        refine e_iadd dX7_readSum_76 ?_
        refine e_iload_n (i := 2) rfl dX7_readSum_77 ?_
        obtain ⟨q3, eq3, hm⟩ := ob_some hm
        refine e_cV2 hko dX7_readSum_78 ml_RX7_27 iz_147 (by decide) rfl (by omega) (Nat.le_of_ble_eq_true rfl) (hR.1 q2 J F (x1 + 1) x2 hF q3 eq3) ?_
        rintro _ _ ⟨rfl, rfl⟩
        refine q_istore (i := 7) (by decide) rfl dX7_readSum_81 ?_
        refine e_aload_n (i := 0) rfl dX7_readSum_83 ?_
        refine q_getF 7 0 6 dX7_readSum_84 fl_RX7_9 rfl iz_147 (fr_147_0 hF.1) ?_
        obtain ⟨q4, eq4, hm⟩ := ob_some hm
        refine e_cV0 hko dX7_readSum_87 ml_RX7_44 iz_6 (by decide) rfl (by omega) (Nat.le_of_ble_eq_true rfl) (tX2_failed hko q3.2 J F hF _ eq4) ?_
        rintro _ _ ⟨rfl, rfl⟩
        refine e_if_eq 97 dX7_readSum_90 (by decide) (fun c_90 => ?_) (fun c_90 => ?_)
        · have hm := it_p c_90 hm
          refine e_aload_n (i := 0) rfl dX7_readSum_97 ?_
          refine q_getF 7 2 (F 147 2) dX7_readSum_98 fl_RX7_19 rfl iz_147 rfl ?_
          refine e_iload (i := 6) rfl dX7_readSum_101 ?_
          refine e_iload_n (i := 3) rfl dX7_readSum_103 ?_
          refine e_iload (i := 7) rfl dX7_readSum_104 ?_
          obtain ⟨q5, eq5, hm⟩ := ob_some hm
          refine e_cV3 hko dX7_readSum_106 ml_RX7_48 (iz_su hF.2.2.2.2.2.1) (by decide) rfl (by omega) (Nat.le_of_ble_eq_true rfl) (tX8_addNode hko hF.2.2.2.2.2.1 q3.2 J F hF (I 6 6) x3 q3.1 _ eq5) ?_
          rintro _ _ ⟨rfl, rfl⟩
          refine e_weak [.ref 147, .int x1, .int x2, .int x3, .int x4, .int x5, .int (I 6 6), .int q3.1] ⟨rfl, ⟨rfl, ⟨rfl, ⟨rfl, ⟨rfl, ⟨rfl, ⟨rfl, ⟨rfl, trivial⟩⟩⟩⟩⟩⟩⟩⟩ ?_
          exact tX7_readSum_109 hko hB hR (ih) q5.2 F x1 x2 x3 x4 x5 (I 6 6) q3.1 q5.1 hF _ hm
        · have hm := it_n c_90 hm
          refine e_iconst (v := (-1)) (by decide) dX7_readSum_93 ?_
          refine e_goto 109 dX7_readSum_94 (by decide) ?_
          refine e_weak [.ref 147, .int x1, .int x2, .int x3, .int x4, .int x5, .int (I 6 6), .int q3.1] ⟨rfl, ⟨rfl, ⟨rfl, ⟨rfl, ⟨rfl, ⟨rfl, ⟨rfl, ⟨rfl, trivial⟩⟩⟩⟩⟩⟩⟩⟩ ?_
          exact tX7_readSum_109 hko hB hR (ih) q3.2 F x1 x2 x3 x4 x5 (I 6 6) q3.1 ((-1)) hF _ hm
set_option maxRecDepth 100000 in
set_option maxHeartbeats 4000000 in
theorem tX7_readSum_31 {l : Launch} {K : a_KT} {g : a_GT} {IB : iT} {D0 : Nat} {R : sc_7readSumT} (hko : a_kok K) (hB : 2 ≤ D0 + 1) (hR : sc_7readSum_ok l K g D0 R) {J : jT} (I : iT) (F : fT) (x1 : Int32) (x2 : Int32) (x3 : Int32) (s0 : Int32) (hF : FK F) (q : Int32 × iT) (hm : mX7_readSum_31 R I F x1 x2 x3 s0 = some q) : E l K g (D0 + 1) 0 0 yX7_readSum cX7_readSum 8 (some .int) 31 [.ref 147, .int x1, .int x2, .int x3, .null, .null, .null, .null] [.int s0] (hg I IB J F) (fun r2 h2 => r2 = some (.int q.1) ∧ h2 = hg q.2 IB J F) := by
  unfold mX7_readSum_31 at hm
  refine q_istore (i := 4) (by decide) rfl dX7_readSum_31 ?_
  refine e_iconst (v := 0) (by decide) dX7_readSum_33 ?_
  refine q_istore (i := 5) (by decide) rfl dX7_readSum_34 ?_
  refine e_weak [.ref 147, .int x1, .int x2, .int x3, .int s0, .int 0, .null, .null] ⟨rfl, ⟨rfl, ⟨rfl, ⟨rfl, ⟨rfl, ⟨rfl, ⟨trivial, ⟨trivial, trivial⟩⟩⟩⟩⟩⟩⟩⟩ ?_
  exact tX7_readSum_36 hko hB hR LF I F x1 x2 x3 s0 0 hF _ hm
set_option maxRecDepth 100000 in
set_option maxHeartbeats 4000000 in
theorem tbX7_readSum {l : Launch} {K : a_KT} {g : a_GT} {IB : iT} {D0 : Nat} {R : sc_7readSumT} (hko : a_kok K) (hB : 2 ≤ D0 + 1) (hR : sc_7readSum_ok l K g D0 R) (I : iT) (J : jT) (F : fT) (hF : FK F) (x1 : Int32) (x2 : Int32) (q : Int32 × iT) (hm : bX7_readSum R I F x1 x2 = some q) : C l K g (D0 + 1) 0 0 yX7_readSum cX7_readSum 8 (some .int) [.ref 147, .int x1, .int x2] (hg I IB J F) (fun r2 h2 => r2 = some (.int q.1) ∧ h2 = hg q.2 IB J F) := by
  unfold bX7_readSum at hm
  refine c_of [.ref 147, .int x1, .int x2, .null, .null, .null, .null, .null] (by decide) (Nat.le_of_ble_eq_true rfl) rfl ?_
  refine e_iload_n (i := 1) rfl dX7_readSum_0 ?_
  refine e_iconst (v := 2) (by decide) dX7_readSum_1 ?_
  refine e_icmp_le 11 dX7_readSum_2 (by decide) (fun c_2 => ?_) (fun c_2 => ?_)
  · have hm := it_p c_2 hm
    refine e_aload_n (i := 0) rfl dX7_readSum_11 ?_
    refine e_iload_n (i := 1) rfl dX7_readSum_12 ?_
    refine e_iconst (v := 1) (by decide) dX7_readSum_13 ?_
    refine e_iadd dX7_readSum_14 ?_
    refine e_iload_n (i := 2) rfl dX7_readSum_15 ?_
    obtain ⟨q6, eq6, hm⟩ := ob_some hm
    refine e_cV2 hko dX7_readSum_16 ml_RX7_27 iz_147 (by decide) rfl (by omega) (Nat.le_of_ble_eq_true rfl) (hR.1 I J F (x1 + 1) x2 hF q6 eq6) ?_
    rintro _ _ ⟨rfl, rfl⟩
    refine q_istore_n (i := 3) (by decide) rfl dX7_readSum_19 ?_
    refine e_iload_n (i := 1) rfl dX7_readSum_20 ?_
    refine e_if_ne 28 dX7_readSum_21 (by decide) (fun c_21 => ?_) (fun c_21 => ?_)
    · have hm := it_n c_21 hm
      refine e_sipush (v := 1000) (by decide) dX7_readSum_28 ?_
      refine e_weak [.ref 147, .int x1, .int x2, .int q6.1, .null, .null, .null, .null] ⟨rfl, ⟨rfl, ⟨rfl, ⟨rfl, ⟨trivial, ⟨trivial, ⟨trivial, ⟨trivial, trivial⟩⟩⟩⟩⟩⟩⟩⟩ ?_
      exact tX7_readSum_31 hko hB hR q6.2 F x1 x2 q6.1 1000 hF _ hm
    · have hm := it_p c_21 hm
      refine e_iconst (v := 1) (by decide) dX7_readSum_24 ?_
      refine e_goto 31 dX7_readSum_25 (by decide) ?_
      refine e_weak [.ref 147, .int x1, .int x2, .int q6.1, .null, .null, .null, .null] ⟨rfl, ⟨rfl, ⟨rfl, ⟨rfl, ⟨trivial, ⟨trivial, ⟨trivial, ⟨trivial, trivial⟩⟩⟩⟩⟩⟩⟩⟩ ?_
      exact tX7_readSum_31 hko hB hR q6.2 F x1 x2 q6.1 1 hF _ hm
  · have hm := it_n c_2 hm
    refine e_aload_n (i := 0) rfl dX7_readSum_5 ?_
    refine e_iload_n (i := 2) rfl dX7_readSum_6 ?_
    obtain ⟨q7, eq7, hm⟩ := ob_some hm
    refine e_cV1 hko dX7_readSum_7 ml_RX7_23 iz_147 (by decide) rfl (by omega) (Nat.le_of_ble_eq_true rfl) (hR.2 I J F x2 hF q7 eq7) ?_
    rintro _ _ ⟨rfl, rfl⟩
    refine e_iret dX7_readSum_10 rfl ?_
    have hm := some_in hm
    subst hm
    exact ⟨rfl, rfl⟩
set_option maxRecDepth 100000 in
set_option maxHeartbeats 4000000 in
theorem tX7_readUnit_139 {l : Launch} {K : a_KT} {g : a_GT} {IB : iT} {D0 : Nat} {R : sc_7readSumT} (hko : a_kok K) (hB : 2 ≤ D0 + 1) (hR : sc_7readSum_ok l K g D0 R) {J : jT} (I : iT) (F : fT) (x1 : Int32) (x2 : Int32) (hF : FK F) (q : Int32 × iT) (hm : mX7_readUnit_139 R I F x1 x2 = some q) : E l K g (D0 + 1) 0 0 yX7_readUnit cX7_readUnit 4 (some .int) 139 [.ref 147, .int x1, .int x2, .null] [] (hg I IB J F) (fun r2 h2 => r2 = some (.int q.1) ∧ h2 = hg q.2 IB J F) := by
  unfold mX7_readUnit_139 at hm
  refine e_iload_n (i := 1) rfl dX7_readUnit_139 ?_
  refine e_bipush (v := 8) (by decide) dX7_readUnit_140 ?_
  refine e_icmp_lt 162 dX7_readUnit_142 (by decide) (fun c_142 => ?_) (fun c_142 => ?_)
  · have hm := it_p c_142 hm
    refine e_aload_n (i := 0) rfl dX7_readUnit_162 ?_
    refine q_getF 7 0 6 dX7_readUnit_163 fl_RX7_9 rfl iz_147 (fr_147_0 hF.1) ?_
    obtain ⟨q1, eq1, hm⟩ := ob_some hm
    refine e_cV0 hko dX7_readUnit_166 ml_RX7_41 iz_6 (by decide) rfl (by omega) (Nat.le_of_ble_eq_true rfl) (tX2_advance hko I J F hF _ eq1) ?_
    rintro _ _ ⟨rfl, rfl⟩
    refine e_iload_n (i := 2) rfl dX7_readUnit_169 ?_
    refine e_bipush (v := 45) (by decide) dX7_readUnit_170 ?_
    refine e_icmp_ne 210 dX7_readUnit_172 (by decide) (fun c_172 => ?_) (fun c_172 => ?_)
    · have hm := it_n c_172 hm
      refine e_aload_n (i := 0) rfl dX7_readUnit_210 ?_
      refine e_iconst (v := 0) (by decide) dX7_readUnit_211 ?_
      refine e_iload_n (i := 1) rfl dX7_readUnit_212 ?_
      refine e_iconst (v := 1) (by decide) dX7_readUnit_213 ?_
      refine e_iadd dX7_readUnit_214 ?_
      obtain ⟨q2, eq2, hm⟩ := ob_some hm
      refine e_cV2 hko dX7_readUnit_215 ml_RX7_27 iz_147 (by decide) rfl (by omega) (Nat.le_of_ble_eq_true rfl) (hR.1 q1 J F 0 (x1 + 1) hF q2 eq2) ?_
      rintro _ _ ⟨rfl, rfl⟩
      refine q_istore_n (i := 3) (by decide) rfl dX7_readUnit_218 ?_
      refine e_aload_n (i := 0) rfl dX7_readUnit_219 ?_
      refine q_getF 7 0 6 dX7_readUnit_220 fl_RX7_9 rfl iz_147 (fr_147_0 hF.1) ?_
      refine e_bipush (v := 41) (by decide) dX7_readUnit_223 ?_
      obtain ⟨q3, eq3, hm⟩ := ob_some hm
      refine e_cV1 hko dX7_readUnit_225 ml_RX7_75 iz_6 (by decide) rfl (by omega) (Nat.le_of_ble_eq_true rfl) (tX2_want hko q2.2 J F hF 41 _ eq3) ?_
      rintro _ _ ⟨rfl, rfl⟩
      refine e_iload_n (i := 3) rfl dX7_readUnit_228 ?_
      refine e_iret dX7_readUnit_229 rfl ?_
      have hm := some_in hm
      subst hm
      exact ⟨rfl, rfl⟩
    · have hm := it_p c_172 hm
      refine e_aload_n (i := 0) rfl dX7_readUnit_175 ?_
      refine e_iload_n (i := 1) rfl dX7_readUnit_176 ?_
      refine e_iconst (v := 1) (by decide) dX7_readUnit_177 ?_
      refine e_iadd dX7_readUnit_178 ?_
      obtain ⟨q4, eq4, hm⟩ := ob_some hm
      refine e_cV1 hko dX7_readUnit_179 ml_RX7_23 iz_147 (by decide) rfl (by omega) (Nat.le_of_ble_eq_true rfl) (hR.2 q1 J F (x1 + 1) hF q4 eq4) ?_
      rintro _ _ ⟨rfl, rfl⟩
      refine q_istore_n (i := 3) (by decide) rfl dX7_readUnit_182 ?_
      refine e_aload_n (i := 0) rfl dX7_readUnit_183 ?_
      refine q_getF 7 0 6 dX7_readUnit_184 fl_RX7_9 rfl iz_147 (fr_147_0 hF.1) ?_
      obtain ⟨q5, eq5, hm⟩ := ob_some hm
      refine e_cV0 hko dX7_readUnit_187 ml_RX7_44 iz_6 (by decide) rfl (by omega) (Nat.le_of_ble_eq_true rfl) (tX2_failed hko q4.2 J F hF _ eq5) ?_
      rintro _ _ ⟨rfl, rfl⟩
      refine e_if_eq 197 dX7_readUnit_190 (by decide) (fun c_190 => ?_) (fun c_190 => ?_)
      · have hm := it_p c_190 hm
        refine e_aload_n (i := 0) rfl dX7_readUnit_197 ?_
        refine q_getF 7 2 (F 147 2) dX7_readUnit_198 fl_RX7_19 rfl iz_147 rfl ?_
        refine e_sipush (v := 261) (by decide) dX7_readUnit_201 ?_
        refine e_iload_n (i := 3) rfl dX7_readUnit_204 ?_
        refine e_iconst (v := (-1)) (by decide) dX7_readUnit_205 ?_
        obtain ⟨q6, eq6, hm⟩ := ob_some hm
        refine e_cV3 hko dX7_readUnit_206 ml_RX7_48 (iz_su hF.2.2.2.2.2.1) (by decide) rfl (by omega) (Nat.le_of_ble_eq_true rfl) (tX8_addNode hko hF.2.2.2.2.2.1 q4.2 J F hF 261 q4.1 ((-1)) _ eq6) ?_
        rintro _ _ ⟨rfl, rfl⟩
        refine e_iret dX7_readUnit_209 rfl ?_
        have hm := some_in hm
        subst hm
        exact ⟨rfl, rfl⟩
      · have hm := it_n c_190 hm
        refine e_iconst (v := (-1)) (by decide) dX7_readUnit_193 ?_
        refine e_goto 209 dX7_readUnit_194 (by decide) ?_
        refine e_iret dX7_readUnit_209 rfl ?_
        have hm := some_in hm
        subst hm
        exact ⟨rfl, rfl⟩
  · have hm := it_n c_142 hm
    refine e_aload_n (i := 0) rfl dX7_readUnit_145 ?_
    refine q_getF 7 0 6 dX7_readUnit_146 fl_RX7_9 rfl iz_147 (fr_147_0 hF.1) ?_
    refine e_iconst (v := 5) (by decide) dX7_readUnit_149 ?_
    refine e_aload_n (i := 0) rfl dX7_readUnit_150 ?_
    refine q_getF 7 0 6 dX7_readUnit_151 fl_RX7_9 rfl iz_147 (fr_147_0 hF.1) ?_
    refine k_getI 2 8 dX7_readUnit_154 fl_RX7_65 rfl iz_6 (by decide) ?_
    obtain ⟨q7, eq7, hm⟩ := ob_some hm
    refine e_cV2 hko dX7_readUnit_157 ml_RX7_68 iz_6 (by decide) rfl (by omega) (Nat.le_of_ble_eq_true rfl) (tX2_refuse hko I J F hF 5 (I 6 8) _ eq7) ?_
    rintro _ _ ⟨rfl, rfl⟩
    refine e_iconst (v := (-1)) (by decide) dX7_readUnit_160 ?_
    refine e_iret dX7_readUnit_161 rfl ?_
    have hm := some_in hm
    subst hm
    exact ⟨rfl, rfl⟩
set_option maxRecDepth 100000 in
set_option maxHeartbeats 4000000 in
theorem tX7_readUnit_93 {l : Launch} {K : a_KT} {g : a_GT} {IB : iT} {D0 : Nat} {R : sc_7readSumT} (hko : a_kok K) (hB : 2 ≤ D0 + 1) (hR : sc_7readSum_ok l K g D0 R) {J : jT} (I : iT) (F : fT) (x1 : Int32) (x2 : Int32) (x3 : Int32) (hF : FK F) (q : Int32 × iT) (hm : mX7_readUnit_93 R I F x1 x2 x3 = some q) : E l K g (D0 + 1) 0 0 yX7_readUnit cX7_readUnit 4 (some .int) 93 [.ref 147, .int x1, .int x2, .int x3] [] (hg I IB J F) (fun r2 h2 => r2 = some (.int q.1) ∧ h2 = hg q.2 IB J F) := by
  unfold mX7_readUnit_93 at hm
  refine e_aload_n (i := 0) rfl dX7_readUnit_93 ?_
  refine q_getF 7 0 6 dX7_readUnit_94 fl_RX7_9 rfl iz_147 (fr_147_0 hF.1) ?_
  obtain ⟨q8, eq8, hm⟩ := ob_some hm
  refine e_cV0 hko dX7_readUnit_97 ml_RX7_41 iz_6 (by decide) rfl (by omega) (Nat.le_of_ble_eq_true rfl) (tX2_advance hko I J F hF _ eq8) ?_
  rintro _ _ ⟨rfl, rfl⟩
  refine e_aload_n (i := 0) rfl dX7_readUnit_100 ?_
  refine q_getF 7 2 (F 147 2) dX7_readUnit_101 fl_RX7_19 rfl iz_147 rfl ?_
  refine e_iload_n (i := 2) rfl dX7_readUnit_104 ?_
  refine e_iload_n (i := 3) rfl dX7_readUnit_105 ?_
  obtain ⟨q9, eq9, hm⟩ := ob_some hm
  refine e_cV2 hko dX7_readUnit_106 ml_RX7_72 (iz_su hF.2.2.2.2.2.1) (by decide) rfl (by omega) (Nat.le_of_ble_eq_true rfl) (tX8_addLeaf hko hF.2.2.2.2.2.1 q8 J F hF x2 x3 _ eq9) ?_
  rintro _ _ ⟨rfl, rfl⟩
  refine e_iret dX7_readUnit_109 rfl ?_
  have hm := some_in hm
  subst hm
  exact ⟨rfl, rfl⟩
set_option maxRecDepth 100000 in
set_option maxHeartbeats 4000000 in
theorem tX7_readUnit_78 {l : Launch} {K : a_KT} {g : a_GT} {IB : iT} {D0 : Nat} {R : sc_7readSumT} (hko : a_kok K) (hB : 2 ≤ D0 + 1) (hR : sc_7readSum_ok l K g D0 R) {J : jT} (I : iT) (F : fT) (x1 : Int32) (x2 : Int32) (x3 : Int32) (hF : FK F) (q : Int32 × iT) (hm : mX7_readUnit_78 R I F x1 x2 x3 = some q) : E l K g (D0 + 1) 0 0 yX7_readUnit cX7_readUnit 4 (some .int) 78 [.ref 147, .int x1, .int x2, .int x3] [] (hg I IB J F) (fun r2 h2 => r2 = some (.int q.1) ∧ h2 = hg q.2 IB J F) := by
  unfold mX7_readUnit_78 at hm
  refine e_aload_n (i := 0) rfl dX7_readUnit_78 ?_
  refine q_getF 7 0 6 dX7_readUnit_79 fl_RX7_9 rfl iz_147 (fr_147_0 hF.1) ?_
  refine e_iconst (v := 2) (by decide) dX7_readUnit_82 ?_
  refine e_aload_n (i := 0) rfl dX7_readUnit_83 ?_
  refine q_getF 7 0 6 dX7_readUnit_84 fl_RX7_9 rfl iz_147 (fr_147_0 hF.1) ?_
  refine k_getI 2 8 dX7_readUnit_87 fl_RX7_65 rfl iz_6 (by decide) ?_
  obtain ⟨q10, eq10, hm⟩ := ob_some hm
  refine e_cV2 hko dX7_readUnit_90 ml_RX7_68 iz_6 (by decide) rfl (by omega) (Nat.le_of_ble_eq_true rfl) (tX2_refuse hko I J F hF 2 (I 6 8) _ eq10) ?_
  rintro _ _ ⟨rfl, rfl⟩
  refine e_weak [.ref 147, .int x1, .int x2, .int x3] ⟨rfl, ⟨rfl, ⟨rfl, ⟨rfl, trivial⟩⟩⟩⟩ ?_
  exact tX7_readUnit_93 hko hB hR q10 F x1 x2 x3 hF _ hm
set_option maxRecDepth 100000 in
set_option maxHeartbeats 4000000 in
theorem tX7_readUnit_53 {l : Launch} {K : a_KT} {g : a_GT} {IB : iT} {D0 : Nat} {R : sc_7readSumT} (hko : a_kok K) (hB : 2 ≤ D0 + 1) (hR : sc_7readSum_ok l K g D0 R) {J : jT} (I : iT) (F : fT) (x1 : Int32) (x2 : Int32) (s0 : Int32) (hF : FK F) (q : Int32 × iT) (hm : mX7_readUnit_53 R I F x1 x2 s0 = some q) : E l K g (D0 + 1) 0 0 yX7_readUnit cX7_readUnit 4 (some .int) 53 [.ref 147, .int x1, .int x2, .null] [.int s0] (hg I IB J F) (fun r2 h2 => r2 = some (.int q.1) ∧ h2 = hg q.2 IB J F) := by
  unfold mX7_readUnit_53 at hm
  refine q_istore_n (i := 3) (by decide) rfl dX7_readUnit_53 ?_
  refine e_iload_n (i := 2) rfl dX7_readUnit_54 ?_
  refine e_sipush (v := 256) (by decide) dX7_readUnit_55 ?_
  refine e_icmp_ne 93 dX7_readUnit_58 (by decide) (fun c_58 => ?_) (fun c_58 => ?_)
  · have hm := it_n c_58 hm
    refine e_weak [.ref 147, .int x1, .int x2, .int s0] ⟨rfl, ⟨rfl, ⟨rfl, ⟨rfl, trivial⟩⟩⟩⟩ ?_
    exact tX7_readUnit_93 hko hB hR I F x1 x2 s0 hF _ hm
  · have hm := it_p c_58 hm
    refine e_iload_n (i := 3) rfl dX7_readUnit_61 ?_
    refine e_iconst (v := (-1)) (by decide) dX7_readUnit_62 ?_
    refine e_icmp_eq 78 dX7_readUnit_63 (by decide) (fun c_63 => ?_) (fun c_63 => ?_)
    · have hm := it_p c_63 hm
      refine e_weak [.ref 147, .int x1, .int x2, .int s0] ⟨rfl, ⟨rfl, ⟨rfl, ⟨rfl, trivial⟩⟩⟩⟩ ?_
      exact tX7_readUnit_78 hko hB hR I F x1 x2 s0 hF _ hm
    · have hm := it_n c_63 hm
      refine e_aload_n (i := 0) rfl dX7_readUnit_66 ?_
      refine q_getF 7 1 135 dX7_readUnit_67 fl_RX7_15 rfl iz_147 (fr_147_1 hF.1) ?_
      refine e_iload_n (i := 3) rfl dX7_readUnit_70 ?_
      obtain ⟨q11, eq11, hm⟩ := ob_some hm
      refine e_cV1 hko dX7_readUnit_71 ml_RX7_62 iz_135 (by decide) rfl (by omega) (Nat.le_of_ble_eq_true rfl) (tX5_talkAt hko I J F hF s0 _ eq11) ?_
      rintro _ _ ⟨rfl, rfl⟩
      refine e_iconst (v := (-1)) (by decide) dX7_readUnit_74 ?_
      refine e_icmp_eq 93 dX7_readUnit_75 (by decide) (fun c_75 => ?_) (fun c_75 => ?_)
      · have hm := it_p c_75 hm
        refine e_weak [.ref 147, .int x1, .int x2, .int s0] ⟨rfl, ⟨rfl, ⟨rfl, ⟨rfl, trivial⟩⟩⟩⟩ ?_
        exact tX7_readUnit_93 hko hB hR I F x1 x2 s0 hF _ hm
      · have hm := it_n c_75 hm
        refine e_weak [.ref 147, .int x1, .int x2, .int s0] ⟨rfl, ⟨rfl, ⟨rfl, ⟨rfl, trivial⟩⟩⟩⟩ ?_
        exact tX7_readUnit_78 hko hB hR I F x1 x2 s0 hF _ hm
set_option maxRecDepth 100000 in
set_option maxHeartbeats 4000000 in
theorem tX7_readUnit_22 {l : Launch} {K : a_KT} {g : a_GT} {IB : iT} {D0 : Nat} {R : sc_7readSumT} (hko : a_kok K) (hB : 2 ≤ D0 + 1) (hR : sc_7readSum_ok l K g D0 R) {J : jT} (I : iT) (F : fT) (x1 : Int32) (x2 : Int32) (hF : FK F) (q : Int32 × iT) (hm : mX7_readUnit_22 R I F x1 x2 = some q) : E l K g (D0 + 1) 0 0 yX7_readUnit cX7_readUnit 4 (some .int) 22 [.ref 147, .int x1, .int x2, .null] [] (hg I IB J F) (fun r2 h2 => r2 = some (.int q.1) ∧ h2 = hg q.2 IB J F) := by
  unfold mX7_readUnit_22 at hm
  refine e_iload_n (i := 2) rfl dX7_readUnit_22 ?_
  refine e_sipush (v := 257) (by decide) dX7_readUnit_23 ?_
  refine e_icmp_ne 39 dX7_readUnit_26 (by decide) (fun c_26 => ?_) (fun c_26 => ?_)
  · have hm := it_n c_26 hm
    refine e_aload_n (i := 0) rfl dX7_readUnit_39 ?_
    refine q_getF 7 1 135 dX7_readUnit_40 fl_RX7_15 rfl iz_147 (fr_147_1 hF.1) ?_
    refine e_aload_n (i := 0) rfl dX7_readUnit_43 ?_
    refine q_getF 7 0 6 dX7_readUnit_44 fl_RX7_9 rfl iz_147 (fr_147_0 hF.1) ?_
    refine k_getI 2 7 dX7_readUnit_47 fl_RX7_54 rfl iz_6 (by decide) ?_
    obtain ⟨q12, eq12, hm⟩ := ob_some hm
    refine e_cV1 hko dX7_readUnit_50 ml_RX7_57 iz_135 (by decide) rfl (by omega) (Nat.le_of_ble_eq_true rfl) (tX5_find hko I J F hF (I 6 7) _ eq12) ?_
    rintro _ _ ⟨rfl, rfl⟩
    refine e_weak [.ref 147, .int x1, .int x2, .null] ⟨rfl, ⟨rfl, ⟨rfl, ⟨trivial, trivial⟩⟩⟩⟩ ?_
    exact tX7_readUnit_53 hko hB hR I F x1 x2 q12 hF _ hm
  · have hm := it_p c_26 hm
    refine e_aload_n (i := 0) rfl dX7_readUnit_29 ?_
    refine q_getF 7 0 6 dX7_readUnit_30 fl_RX7_9 rfl iz_147 (fr_147_0 hF.1) ?_
    refine k_getI 2 7 dX7_readUnit_33 fl_RX7_54 rfl iz_6 (by decide) ?_
    refine e_goto 53 dX7_readUnit_36 (by decide) ?_
    refine e_weak [.ref 147, .int x1, .int x2, .null] ⟨rfl, ⟨rfl, ⟨rfl, ⟨trivial, trivial⟩⟩⟩⟩ ?_
    exact tX7_readUnit_53 hko hB hR I F x1 x2 (I 6 7) hF _ hm
set_option maxRecDepth 100000 in
set_option maxHeartbeats 4000000 in
theorem tbX7_readUnit {l : Launch} {K : a_KT} {g : a_GT} {IB : iT} {D0 : Nat} {R : sc_7readSumT} (hko : a_kok K) (hB : 2 ≤ D0 + 1) (hR : sc_7readSum_ok l K g D0 R) (I : iT) (J : jT) (F : fT) (hF : FK F) (x1 : Int32) (q : Int32 × iT) (hm : bX7_readUnit R I F x1 = some q) : C l K g (D0 + 1) 0 0 yX7_readUnit cX7_readUnit 4 (some .int) [.ref 147, .int x1] (hg I IB J F) (fun r2 h2 => r2 = some (.int q.1) ∧ h2 = hg q.2 IB J F) := by
  unfold bX7_readUnit at hm
  refine c_of [.ref 147, .int x1, .null, .null] (by decide) (Nat.le_of_ble_eq_true rfl) rfl ?_
  refine e_aload_n (i := 0) rfl dX7_readUnit_0 ?_
  refine q_getF 7 0 6 dX7_readUnit_1 fl_RX7_9 rfl iz_147 (fr_147_0 hF.1) ?_
  refine k_getI 2 6 dX7_readUnit_4 fl_RX7_31 rfl iz_6 (by decide) ?_
  refine q_istore_n (i := 2) (by decide) rfl dX7_readUnit_7 ?_
  refine e_iload_n (i := 2) rfl dX7_readUnit_8 ?_
  refine e_sipush (v := 257) (by decide) dX7_readUnit_9 ?_
  refine e_icmp_eq 22 dX7_readUnit_12 (by decide) (fun c_12 => ?_) (fun c_12 => ?_)
  · have hm := it_p c_12 hm
    refine e_weak [.ref 147, .int x1, .int (I 6 6), .null] ⟨rfl, ⟨rfl, ⟨rfl, ⟨trivial, trivial⟩⟩⟩⟩ ?_
    exact tX7_readUnit_22 hko hB hR I F x1 (I 6 6) hF _ hm
  · have hm := it_n c_12 hm
    refine e_iload_n (i := 2) rfl dX7_readUnit_15 ?_
    refine e_sipush (v := 256) (by decide) dX7_readUnit_16 ?_
    refine e_icmp_ne 110 dX7_readUnit_19 (by decide) (fun c_19 => ?_) (fun c_19 => ?_)
    · have hm := it_n c_19 hm
      refine e_iload_n (i := 2) rfl dX7_readUnit_110 ?_
      refine e_bipush (v := 45) (by decide) dX7_readUnit_111 ?_
      refine e_icmp_eq 139 dX7_readUnit_113 (by decide) (fun c_113 => ?_) (fun c_113 => ?_)
      · have hm := it_p c_113 hm
        refine e_weak [.ref 147, .int x1, .int (I 6 6), .null] ⟨rfl, ⟨rfl, ⟨rfl, ⟨trivial, trivial⟩⟩⟩⟩ ?_
        exact tX7_readUnit_139 hko hB hR I F x1 (I 6 6) hF _ hm
      · have hm := it_n c_113 hm
        refine e_iload_n (i := 2) rfl dX7_readUnit_116 ?_
        refine e_bipush (v := 40) (by decide) dX7_readUnit_117 ?_
        refine e_icmp_eq 139 dX7_readUnit_119 (by decide) (fun c_119 => ?_) (fun c_119 => ?_)
        · have hm := it_p c_119 hm
          refine e_weak [.ref 147, .int x1, .int (I 6 6), .null] ⟨rfl, ⟨rfl, ⟨rfl, ⟨trivial, trivial⟩⟩⟩⟩ ?_
          exact tX7_readUnit_139 hko hB hR I F x1 (I 6 6) hF _ hm
        · have hm := it_n c_119 hm
          refine e_aload_n (i := 0) rfl dX7_readUnit_122 ?_
          refine q_getF 7 0 6 dX7_readUnit_123 fl_RX7_9 rfl iz_147 (fr_147_0 hF.1) ?_
          refine e_iconst (v := 1) (by decide) dX7_readUnit_126 ?_
          refine e_aload_n (i := 0) rfl dX7_readUnit_127 ?_
          refine q_getF 7 0 6 dX7_readUnit_128 fl_RX7_9 rfl iz_147 (fr_147_0 hF.1) ?_
          refine k_getI 2 8 dX7_readUnit_131 fl_RX7_65 rfl iz_6 (by decide) ?_
          obtain ⟨q13, eq13, hm⟩ := ob_some hm
          refine e_cV2 hko dX7_readUnit_134 ml_RX7_68 iz_6 (by decide) rfl (by omega) (Nat.le_of_ble_eq_true rfl) (tX2_refuse hko I J F hF 1 (I 6 8) _ eq13) ?_
          rintro _ _ ⟨rfl, rfl⟩
          refine e_iconst (v := (-1)) (by decide) dX7_readUnit_137 ?_
          refine e_iret dX7_readUnit_138 rfl ?_
          have hm := some_in hm
          subst hm
          exact ⟨rfl, rfl⟩
    · have hm := it_p c_19 hm
      refine e_weak [.ref 147, .int x1, .int (I 6 6), .null] ⟨rfl, ⟨rfl, ⟨rfl, ⟨trivial, trivial⟩⟩⟩⟩ ?_
      exact tX7_readUnit_22 hko hB hR I F x1 (I 6 6) hF _ hm
set_option maxRecDepth 100000 in
set_option maxHeartbeats 4000000 in
theorem sc_7readSum_all {l : Launch} {K : a_KT} {g : a_GT} (hko : a_kok K) : ∀ n : Nat, sc_7readSum_ok l K g (2 + n) (sc_7readSum n) := by
  intro n
  induction n with
  | zero => exact ⟨(by intros; rename_i h; cases (show (none : Option _) = some _ from h)), (by intros; rename_i h; cases (show (none : Option _) = some _ from h))⟩
  | succ n ih =>
    exact ⟨fun I J F x1 x2 hF q hm => tbX7_readSum hko (by omega) ih I J F hF x1 x2 q hm, fun I J F x1 hF q hm => tbX7_readUnit hko (by omega) ih I J F hF x1 q hm⟩
theorem tX7_readSum {l : Launch} {K : a_KT} {g : a_GT} {IB : iT} (hko : a_kok K) (I : iT) (J : jT) (F : fT) (hF : FK F) (x1 : Int32) (x2 : Int32) (q : Int32 × iT) (hm : mX7_readSum SF I F x1 x2 = some q) : C l K g 452 0 0 yX7_readSum cX7_readSum 8 (some .int) [.ref 147, .int x1, .int x2] (hg I IB J F) (fun r2 h2 => r2 = some (.int q.1) ∧ h2 = hg q.2 IB J F) := (sc_7readSum_all hko SF).1 I J F x1 x2 hF q hm
theorem tX7_readUnit {l : Launch} {K : a_KT} {g : a_GT} {IB : iT} (hko : a_kok K) (I : iT) (J : jT) (F : fT) (hF : FK F) (x1 : Int32) (q : Int32 × iT) (hm : mX7_readUnit SF I F x1 = some q) : C l K g 452 0 0 yX7_readUnit cX7_readUnit 4 (some .int) [.ref 147, .int x1] (hg I IB J F) (fun r2 h2 => r2 = some (.int q.1) ∧ h2 = hg q.2 IB J F) := (sc_7readSum_all hko SF).2 I J F x1 hF q hm
theorem dX7_use_0 : decode cX7_use 0 = .ok (.aload_n 0, 1) := by decide +kernel
theorem dX7_use_1 : decode cX7_use 1 = .ok (.aload_n 1, 1) := by decide +kernel
theorem dX7_use_2 : decode cX7_use 2 = .ok (.putfield 19, 3) := by decide +kernel
theorem dX7_use_5 : decode cX7_use 5 = .ok (.return_, 1) := by decide +kernel
def mX7_use (a1 : Nat) (F : fT) : Option (fT) := some (a_u2 F 147 2 a1)
set_option maxRecDepth 100000 in
set_option maxHeartbeats 4000000 in
theorem tX7_use {l : Launch} {K : a_KT} {g : a_GT} {IB : iT} (hko : a_kok K) {a1 : Nat} (ha1 : isSums a1) (I : iT) (J : jT) (F : fT) (hF : FK F) (q : fT) (hm : mX7_use a1 F = some q) : C l K g 0 0 0 yX7_use cX7_use 2 none [.ref 147, .ref a1] (hg I IB J F) (fun r2 h2 => r2 = none ∧ h2 = hg I IB J q ∧ FK q) := by
  unfold mX7_use at hm
  refine c_of [.ref 147, .ref a1] (by decide) (Nat.le_of_ble_eq_true rfl) rfl ?_
  refine e_aload_n (i := 0) rfl dX7_use_0 ?_
  refine e_aload_n (i := 1) rfl dX7_use_1 ?_
  refine q_putF 7 2 dX7_use_2 fl_RX7_19 (Or.inl rfl) rfl iz_147 ?_
  have hF1 := fk_147_2 hF ha1
  refine e_vret dX7_use_5 rfl ?_
  have hm := some_in hm
  subst hm
  exact ⟨rfl, rfl, hF1⟩
theorem dX9_use_0 : decode cX9_use 0 = .ok (.aload_n 0, 1) := by decide +kernel
theorem dX9_use_1 : decode cX9_use 1 = .ok (.aload_n 1, 1) := by decide +kernel
theorem dX9_use_2 : decode cX9_use 2 = .ok (.putfield 27, 3) := by decide +kernel
theorem dX9_use_5 : decode cX9_use 5 = .ok (.aload_n 0, 1) := by decide +kernel
theorem dX9_use_6 : decode cX9_use 6 = .ok (.getfield 14, 3) := by decide +kernel
theorem dX9_use_9 : decode cX9_use 9 = .ok (.invokevirtual 31, 3) := by decide +kernel
theorem dX9_use_12 : decode cX9_use 12 = .ok (.aload_n 0, 1) := by decide +kernel
theorem dX9_use_13 : decode cX9_use 13 = .ok (.getfield 20, 3) := by decide +kernel
theorem dX9_use_16 : decode cX9_use 16 = .ok (.invokevirtual 31, 3) := by decide +kernel
theorem dX9_use_19 : decode cX9_use 19 = .ok (.return_, 1) := by decide +kernel
def mX9_use (a1 : Nat) (I : iT) (F : fT) : Option (iT × fT) := (mX4_clear 143 I).bind fun q2 => (mX4_clear 145 q2).bind fun q3 => some (q3, a_u2 F 142 3 a1)
set_option maxRecDepth 100000 in
set_option maxHeartbeats 4000000 in
theorem tX9_use {l : Launch} {K : a_KT} {g : a_GT} {IB : iT} (hko : a_kok K) {a1 : Nat} (ha1 : isBook a1) (I : iT) (J : jT) (F : fT) (hF : FK F) (q : iT × fT) (hm : mX9_use a1 I F = some q) : C l K g 1 0 0 yX9_use cX9_use 2 none [.ref 142, .ref a1] (hg I IB J F) (fun r2 h2 => r2 = none ∧ h2 = hg q.1 IB J q.2 ∧ FK q.2) := by
  unfold mX9_use at hm
  refine c_of [.ref 142, .ref a1] (by decide) (Nat.le_of_ble_eq_true rfl) rfl ?_
  refine e_aload_n (i := 0) rfl dX9_use_0 ?_
  refine e_aload_n (i := 1) rfl dX9_use_1 ?_
  refine q_putF 9 3 dX9_use_2 fl_RX9_27 (Or.inl rfl) rfl iz_142 ?_
  have hF1 := fk_142_3 hF ha1
  refine e_aload_n (i := 0) rfl dX9_use_5 ?_
  refine q_getF 9 1 143 dX9_use_6 fl_RX9_14 rfl iz_142 (fr_142_1 hF1.1) ?_
  obtain ⟨q2, eq2, hm⟩ := ob_some hm
  refine e_cV0 hko dX9_use_9 ml_RX9_31 iz_143 (by decide) rfl (by omega) (Nat.le_of_ble_eq_true rfl) (tX4_clear hko rw_143 I J (a_u2 F 142 3 a1) hF1 _ eq2) ?_
  rintro _ _ ⟨rfl, rfl⟩
  refine e_aload_n (i := 0) rfl dX9_use_12 ?_
  refine q_getF 9 2 145 dX9_use_13 fl_RX9_20 rfl iz_142 (fr_142_2 hF1.1) ?_
  obtain ⟨q3, eq3, hm⟩ := ob_some hm
  refine e_cV0 hko dX9_use_16 ml_RX9_31 iz_145 (by decide) rfl (by omega) (Nat.le_of_ble_eq_true rfl) (tX4_clear hko rw_145 q2 J (a_u2 F 142 3 a1) hF1 _ eq3) ?_
  rintro _ _ ⟨rfl, rfl⟩
  refine e_vret dX9_use_19 rfl ?_
  have hm := some_in hm
  subst hm
  exact ⟨rfl, rfl, hF1⟩
