/-! DECOMPILED: printed by wip/whole/gen_dec.py -/
theorem dX10_branchName_0 : decode cX10_branchName 0 = .ok (.aload_n 0, 1) := by decide +kernel
theorem dX10_branchName_1 : decode cX10_branchName 1 = .ok (.getfield 29, 3) := by decide +kernel
theorem dX10_branchName_4 : decode cX10_branchName 4 = .ok (.aload_n 0, 1) := by decide +kernel
theorem dX10_branchName_5 : decode cX10_branchName 5 = .ok (.getfield 20, 3) := by decide +kernel
theorem dX10_branchName_8 : decode cX10_branchName 8 = .ok (.iload_n 1, 1) := by decide +kernel
theorem dX10_branchName_9 : decode cX10_branchName 9 = .ok (.invokevirtual 48, 3) := by decide +kernel
theorem dX10_branchName_12 : decode cX10_branchName 12 = .ok (.iload_n 2, 1) := by decide +kernel
theorem dX10_branchName_13 : decode cX10_branchName 13 = .ok (.iadd, 1) := by decide +kernel
theorem dX10_branchName_14 : decode cX10_branchName 14 = .ok (.invokevirtual 48, 3) := by decide +kernel
theorem dX10_branchName_17 : decode cX10_branchName 17 = .ok (.ireturn, 1) := by decide +kernel
def mX10_branchName (a0 : Nat) (I : iT) (x1 : Int32) (x2 : Int32) : Option (Int32) := (mX4_at (a0 + 3) I x1).bind fun q1 => (mX4_at (a0 + 9) I (q1 + x2)).bind fun q2 => some q2
set_option maxRecDepth 100000 in
set_option maxHeartbeats 4000000 in
theorem tX10_branchName {l : Launch} {K : a_KT} {g : a_GT} {IB : iT} (hko : a_kok K) {a0 : Nat} (ha0 : isTypes a0) (I : iT) (J : jT) (F : fT) (hF : FK F) (x1 : Int32) (x2 : Int32) (q : Int32) (hm : mX10_branchName a0 I x1 x2 = some q) : C l K g 1 0 0 yX10_branchName cX10_branchName 3 (some .int) [.ref a0, .int x1, .int x2] (hg I IB J F) (fun r2 h2 => r2 = some (.int q) ∧ h2 = hg I IB J F) := by
  unfold mX10_branchName at hm
  refine c_of [.ref a0, .int x1, .int x2] (by decide) (Nat.le_of_ble_eq_true rfl) rfl ?_
  refine e_aload_n (i := 0) rfl dX10_branchName_0 ?_
  refine q_getF 10 4 (a0 + 9) dX10_branchName_1 fl_RX10_29 rfl (iz_ty ha0) (frt_4 hF.1 ha0) ?_
  refine e_aload_n (i := 0) rfl dX10_branchName_4 ?_
  refine q_getF 10 1 (a0 + 3) dX10_branchName_5 fl_RX10_20 rfl (iz_ty ha0) (frt_1 hF.1 ha0) ?_
  refine e_iload_n (i := 1) rfl dX10_branchName_8 ?_
  obtain ⟨q1, eq1, hm⟩ := ob_some hm
  refine e_cV1 hko dX10_branchName_9 ml_RX10_48 (iz_row (rwt_3 ha0)) (by decide) rfl (by omega) (Nat.le_of_ble_eq_true rfl) (tX4_at hko (rwt_3 ha0) I J F hF x1 _ eq1) ?_
  rintro _ _ ⟨rfl, rfl⟩
  refine e_iload_n (i := 2) rfl dX10_branchName_12 ?_
  refine e_iadd dX10_branchName_13 ?_
  obtain ⟨q2, eq2, hm⟩ := ob_some hm
  refine e_cV1 hko dX10_branchName_14 ml_RX10_48 (iz_row (rwt_9 ha0)) (by decide) rfl (by omega) (Nat.le_of_ble_eq_true rfl) (tX4_at hko (rwt_9 ha0) I J F hF (q1 + x2) _ eq2) ?_
  rintro _ _ ⟨rfl, rfl⟩
  refine e_iret dX10_branchName_17 rfl ?_
  have hm := some_in hm
  subst hm
  exact ⟨rfl, rfl⟩
theorem dX10_isChoice_0 : decode cX10_isChoice 0 = .ok (.iload_n 0, 1) := by decide +kernel
theorem dX10_isChoice_1 : decode cX10_isChoice 1 = .ok (.bipush 43, 2) := by decide +kernel
theorem dX10_isChoice_3 : decode cX10_isChoice 3 = .ok (.if_icmp .eq 9, 3) := by decide +kernel
theorem dX10_isChoice_6 : decode cX10_isChoice 6 = .ok (.iload_n 0, 1) := by decide +kernel
theorem dX10_isChoice_7 : decode cX10_isChoice 7 = .ok (.bipush 38, 2) := by decide +kernel
theorem dX10_isChoice_9 : decode cX10_isChoice 9 = .ok (.if_icmp .ne 7, 3) := by decide +kernel
theorem dX10_isChoice_12 : decode cX10_isChoice 12 = .ok (.iconst 1, 1) := by decide +kernel
theorem dX10_isChoice_13 : decode cX10_isChoice 13 = .ok (.goto 4, 3) := by decide +kernel
theorem dX10_isChoice_16 : decode cX10_isChoice 16 = .ok (.iconst 0, 1) := by decide +kernel
theorem dX10_isChoice_17 : decode cX10_isChoice 17 = .ok (.ireturn, 1) := by decide +kernel
def mX10_isChoice_12 (x0 : Int32) : Option (Int32) := some 1
def mX10_isChoice (x0 : Int32) : Option (Int32) := if x0 = 43 then mX10_isChoice_12 x0 else if x0 = 38 then mX10_isChoice_12 x0 else some 0
set_option maxRecDepth 100000 in
set_option maxHeartbeats 4000000 in
theorem tX10_isChoice_12 {l : Launch} {K : a_KT} {g : a_GT} {IB : iT} (hko : a_kok K) {I : iT} {J : jT} {F : fT} (x0 : Int32) (hF : FK F) (q : Int32) (hm : mX10_isChoice_12 x0 = some q) : E l K g 0 0 0 yX10_isChoice cX10_isChoice 1 (some .boolean) 12 [.int x0] [] (hg I IB J F) (fun r2 h2 => r2 = some (.int q) ∧ h2 = hg I IB J F) := by
  unfold mX10_isChoice_12 at hm
  refine e_iconst (v := 1) (by decide) dX10_isChoice_12 ?_
  refine e_goto 17 dX10_isChoice_13 (by decide) ?_
  refine e_zret dX10_isChoice_17 rfl rfl ?_
  have hm := some_in hm
  subst hm
  exact ⟨rfl, rfl⟩
set_option maxRecDepth 100000 in
set_option maxHeartbeats 4000000 in
theorem tX10_isChoice {l : Launch} {K : a_KT} {g : a_GT} {IB : iT} (hko : a_kok K) (I : iT) (J : jT) (F : fT) (hF : FK F) (x0 : Int32) (q : Int32) (hm : mX10_isChoice x0 = some q) : C l K g 0 0 0 yX10_isChoice cX10_isChoice 1 (some .boolean) [.int x0] (hg I IB J F) (fun r2 h2 => r2 = some (.int q) ∧ h2 = hg I IB J F) := by
  unfold mX10_isChoice at hm
  refine c_of [.int x0] (by decide) (Nat.le_of_ble_eq_true rfl) rfl ?_
  refine e_iload_n (i := 0) rfl dX10_isChoice_0 ?_
  refine e_bipush (v := 43) (by decide) dX10_isChoice_1 ?_
  refine e_icmp_eq 12 dX10_isChoice_3 (by decide) (fun c_3 => ?_) (fun c_3 => ?_)
  · have hm := it_p c_3 hm
    refine e_weak [.int x0] ⟨rfl, trivial⟩ ?_
    exact tX10_isChoice_12 hko x0 hF _ hm
  · have hm := it_n c_3 hm
    refine e_iload_n (i := 0) rfl dX10_isChoice_6 ?_
    refine e_bipush (v := 38) (by decide) dX10_isChoice_7 ?_
    refine e_icmp_ne 16 dX10_isChoice_9 (by decide) (fun c_9 => ?_) (fun c_9 => ?_)
    · have hm := it_n c_9 hm
      refine e_iconst (v := 0) (by decide) dX10_isChoice_16 ?_
      refine e_zret dX10_isChoice_17 rfl rfl ?_
      have hm := some_in hm
      subst hm
      exact ⟨rfl, rfl⟩
    · have hm := it_p c_9 hm
      refine e_weak [.int x0] ⟨rfl, trivial⟩ ?_
      exact tX10_isChoice_12 hko x0 hF _ hm
theorem dX10_branches_0 : decode cX10_branches 0 = .ok (.aload_n 0, 1) := by decide +kernel
theorem dX10_branches_1 : decode cX10_branches 1 = .ok (.getfield 14, 3) := by decide +kernel
theorem dX10_branches_4 : decode cX10_branches 4 = .ok (.iload_n 1, 1) := by decide +kernel
theorem dX10_branches_5 : decode cX10_branches 5 = .ok (.invokevirtual 48, 3) := by decide +kernel
theorem dX10_branches_8 : decode cX10_branches 8 = .ok (.invokestatic 63, 3) := by decide +kernel
theorem dX10_branches_11 : decode cX10_branches 11 = .ok (.ifCond .eq 14, 3) := by decide +kernel
theorem dX10_branches_14 : decode cX10_branches 14 = .ok (.aload_n 0, 1) := by decide +kernel
theorem dX10_branches_15 : decode cX10_branches 15 = .ok (.getfield 23, 3) := by decide +kernel
theorem dX10_branches_18 : decode cX10_branches 18 = .ok (.iload_n 1, 1) := by decide +kernel
theorem dX10_branches_19 : decode cX10_branches 19 = .ok (.invokevirtual 48, 3) := by decide +kernel
theorem dX10_branches_22 : decode cX10_branches 22 = .ok (.goto 4, 3) := by decide +kernel
theorem dX10_branches_25 : decode cX10_branches 25 = .ok (.iconst 0, 1) := by decide +kernel
theorem dX10_branches_26 : decode cX10_branches 26 = .ok (.ireturn, 1) := by decide +kernel
def mX10_branches (a0 : Nat) (I : iT) (x1 : Int32) : Option (Int32) := (mX4_at (a0 + 1) I x1).bind fun q1 => (mX10_isChoice q1).bind fun q2 => if q2 = 0 then some 0 else (mX4_at (a0 + 5) I x1).bind fun q3 => some q3
set_option maxRecDepth 100000 in
set_option maxHeartbeats 4000000 in
theorem tX10_branches {l : Launch} {K : a_KT} {g : a_GT} {IB : iT} (hko : a_kok K) {a0 : Nat} (ha0 : isTypes a0) (I : iT) (J : jT) (F : fT) (hF : FK F) (x1 : Int32) (q : Int32) (hm : mX10_branches a0 I x1 = some q) : C l K g 1 0 0 yX10_branches cX10_branches 2 (some .int) [.ref a0, .int x1] (hg I IB J F) (fun r2 h2 => r2 = some (.int q) ∧ h2 = hg I IB J F) := by
  unfold mX10_branches at hm
  refine c_of [.ref a0, .int x1] (by decide) (Nat.le_of_ble_eq_true rfl) rfl ?_
  refine e_aload_n (i := 0) rfl dX10_branches_0 ?_
  refine q_getF 10 0 (a0 + 1) dX10_branches_1 fl_RX10_14 rfl (iz_ty ha0) (frt_0 hF.1 ha0) ?_
  refine e_iload_n (i := 1) rfl dX10_branches_4 ?_
  obtain ⟨q1, eq1, hm⟩ := ob_some hm
  refine e_cV1 hko dX10_branches_5 ml_RX10_48 (iz_row (rwt_1 ha0)) (by decide) rfl (by omega) (Nat.le_of_ble_eq_true rfl) (tX4_at hko (rwt_1 ha0) I J F hF x1 _ eq1) ?_
  rintro _ _ ⟨rfl, rfl⟩
  obtain ⟨q2, eq2, hm⟩ := ob_some hm
  refine e_cS1 hko dX10_branches_8 ml_RX10_63 (by omega) (Nat.le_of_ble_eq_true rfl) (tX10_isChoice hko I J F hF q1 _ eq2) ?_
  rintro _ _ ⟨rfl, rfl⟩
  refine e_if_eq 25 dX10_branches_11 (by decide) (fun c_11 => ?_) (fun c_11 => ?_)
  · have hm := it_p c_11 hm
    refine e_iconst (v := 0) (by decide) dX10_branches_25 ?_
    refine e_iret dX10_branches_26 rfl ?_
    have hm := some_in hm
    subst hm
    exact ⟨rfl, rfl⟩
  · have hm := it_n c_11 hm
    refine e_aload_n (i := 0) rfl dX10_branches_14 ?_
    refine q_getF 10 2 (a0 + 5) dX10_branches_15 fl_RX10_23 rfl (iz_ty ha0) (frt_2 hF.1 ha0) ?_
    refine e_iload_n (i := 1) rfl dX10_branches_18 ?_
    obtain ⟨q3, eq3, hm⟩ := ob_some hm
    refine e_cV1 hko dX10_branches_19 ml_RX10_48 (iz_row (rwt_5 ha0)) (by decide) rfl (by omega) (Nat.le_of_ble_eq_true rfl) (tX4_at hko (rwt_5 ha0) I J F hF x1 _ eq3) ?_
    rintro _ _ ⟨rfl, rfl⟩
    refine e_goto 26 dX10_branches_22 (by decide) ?_
    refine e_iret dX10_branches_26 rfl ?_
    have hm := some_in hm
    subst hm
    exact ⟨rfl, rfl⟩
theorem dX0_addAlternatives_0 : decode cX0_addAlternatives 0 = .ok (.aload_n 0, 1) := by decide +kernel
theorem dX0_addAlternatives_1 : decode cX0_addAlternatives 1 = .ok (.getfield 70, 3) := by decide +kernel
theorem dX0_addAlternatives_4 : decode cX0_addAlternatives 4 = .ok (.invokevirtual 84, 3) := by decide +kernel
theorem dX0_addAlternatives_7 : decode cX0_addAlternatives 7 = .ok (.istore_n 2, 1) := by decide +kernel
theorem dX0_addAlternatives_8 : decode cX0_addAlternatives 8 = .ok (.iconst 0, 1) := by decide +kernel
theorem dX0_addAlternatives_9 : decode cX0_addAlternatives 9 = .ok (.istore_n 3, 1) := by decide +kernel
theorem dX0_addAlternatives_10 : decode cX0_addAlternatives 10 = .ok (.iload_n 3, 1) := by decide +kernel
theorem dX0_addAlternatives_11 : decode cX0_addAlternatives 11 = .ok (.aload_n 0, 1) := by decide +kernel
theorem dX0_addAlternatives_12 : decode cX0_addAlternatives 12 = .ok (.getfield 12, 3) := by decide +kernel
theorem dX0_addAlternatives_15 : decode cX0_addAlternatives 15 = .ok (.iload_n 1, 1) := by decide +kernel
theorem dX0_addAlternatives_16 : decode cX0_addAlternatives 16 = .ok (.invokevirtual 99, 3) := by decide +kernel
theorem dX0_addAlternatives_19 : decode cX0_addAlternatives 19 = .ok (.if_icmp .ge 35, 3) := by decide +kernel
theorem dX0_addAlternatives_22 : decode cX0_addAlternatives 22 = .ok (.aload_n 0, 1) := by decide +kernel
theorem dX0_addAlternatives_23 : decode cX0_addAlternatives 23 = .ok (.getfield 70, 3) := by decide +kernel
theorem dX0_addAlternatives_26 : decode cX0_addAlternatives 26 = .ok (.aload_n 0, 1) := by decide +kernel
theorem dX0_addAlternatives_27 : decode cX0_addAlternatives 27 = .ok (.getfield 12, 3) := by decide +kernel
theorem dX0_addAlternatives_30 : decode cX0_addAlternatives 30 = .ok (.iload_n 1, 1) := by decide +kernel
theorem dX0_addAlternatives_31 : decode cX0_addAlternatives 31 = .ok (.iload_n 3, 1) := by decide +kernel
theorem dX0_addAlternatives_32 : decode cX0_addAlternatives 32 = .ok (.invokevirtual 102, 3) := by decide +kernel
theorem dX0_addAlternatives_35 : decode cX0_addAlternatives 35 = .ok (.invokevirtual 96, 3) := by decide +kernel
theorem dX0_addAlternatives_38 : decode cX0_addAlternatives 38 = .ok (.pop, 1) := by decide +kernel
theorem dX0_addAlternatives_39 : decode cX0_addAlternatives 39 = .ok (.aload_n 0, 1) := by decide +kernel
theorem dX0_addAlternatives_40 : decode cX0_addAlternatives 40 = .ok (.getfield 73, 3) := by decide +kernel
theorem dX0_addAlternatives_43 : decode cX0_addAlternatives 43 = .ok (.iconst (-1), 1) := by decide +kernel
theorem dX0_addAlternatives_44 : decode cX0_addAlternatives 44 = .ok (.invokevirtual 96, 3) := by decide +kernel
theorem dX0_addAlternatives_47 : decode cX0_addAlternatives 47 = .ok (.pop, 1) := by decide +kernel
theorem dX0_addAlternatives_48 : decode cX0_addAlternatives 48 = .ok (.iinc 3 1, 3) := by decide +kernel
theorem dX0_addAlternatives_51 : decode cX0_addAlternatives 51 = .ok (.goto (-41), 3) := by decide +kernel
theorem dX0_addAlternatives_54 : decode cX0_addAlternatives 54 = .ok (.iload_n 2, 1) := by decide +kernel
theorem dX0_addAlternatives_55 : decode cX0_addAlternatives 55 = .ok (.ireturn, 1) := by decide +kernel
def mX0_addAlternatives_10 (a0 : Nat) : Nat → iT → Int32 → Int32 → Int32 → Option (Int32 × iT)
  | 0, _, _, _, _ => none
  | n + 1, I, x1, x2, x3 => (mX10_branches (a0 + 1) I x1).bind fun q1 => if q1 ≤ x3 then some (x2, I) else (mX10_branchName (a0 + 1) I x1 x3).bind fun q2 => (mX4_add (a0 + 55) I q2).bind fun q3 => (mX4_add (a0 + 57) q3.2 ((-1))).bind fun q4 => mX0_addAlternatives_10 a0 n q4.2 x1 x2 (x3 + 1)
def mX0_addAlternatives (a0 : Nat) (I : iT) (x1 : Int32) : Option (Int32 × iT) := (mX4_size (a0 + 55) I).bind fun q5 => mX0_addAlternatives_10 a0 LF I x1 q5 0
set_option maxRecDepth 100000 in
set_option maxHeartbeats 4000000 in
theorem tX0_addAlternatives_10 {l : Launch} {K : a_KT} {g : a_GT} {IB : iT} (hko : a_kok K) {a0 : Nat} (ha0 : isBook a0) {J : jT} {F : fT} : ∀ (n : Nat) (I : iT) (x1 : Int32) (x2 : Int32) (x3 : Int32) (hF : FK F) (q : Int32 × iT), mX0_addAlternatives_10 a0 n I x1 x2 x3 = some q → E l K g 2 0 0 yX0_addAlternatives cX0_addAlternatives 4 (some .int) 10 [.ref a0, .int x1, .int x2, .int x3] [] (hg I IB J F) (fun r2 h2 => r2 = some (.int q.1) ∧ h2 = hg q.2 IB J F) := by
  intro n
  induction n with
  | zero => intro I x1 x2 x3 hF q hm; cases hm
  | succ n ih =>
    intro I x1 x2 x3 hF q hm
    rw [mX0_addAlternatives_10] at hm
    refine e_iload_n (i := 3) rfl dX0_addAlternatives_10 ?_
    refine e_aload_n (i := 0) rfl dX0_addAlternatives_11 ?_
    refine q_getF 0 0 (a0 + 1) dX0_addAlternatives_12 fl_RX0_12 rfl (iz_bk ha0) (frb_0 hF.1 ha0) ?_
    refine e_iload_n (i := 1) rfl dX0_addAlternatives_15 ?_
    obtain ⟨q1, eq1, hm⟩ := ob_some hm
    refine e_cV1 hko dX0_addAlternatives_16 ml_RX0_99 (iz_ty (bk_ty ha0)) (by decide) rfl (by omega) (Nat.le_of_ble_eq_true rfl) (tX10_branches hko (bk_ty ha0) I J F hF x1 _ eq1) ?_
    rintro _ _ ⟨rfl, rfl⟩
    refine e_icmp_ge 54 dX0_addAlternatives_19 (by decide) (fun c_19 => ?_) (fun c_19 => ?_)
    · have hm := it_p c_19 hm
      refine e_iload_n (i := 2) rfl dX0_addAlternatives_54 ?_
      refine e_iret dX0_addAlternatives_55 rfl ?_
      have hm := some_in hm
      subst hm
      exact ⟨rfl, rfl⟩
    · have hm := it_n c_19 hm
      refine e_aload_n (i := 0) rfl dX0_addAlternatives_22 ?_
      refine q_getF 0 15 (a0 + 55) dX0_addAlternatives_23 fl_RX0_70 rfl (iz_bk ha0) (frb_15 hF.1 ha0) ?_
      refine e_aload_n (i := 0) rfl dX0_addAlternatives_26 ?_
      refine q_getF 0 0 (a0 + 1) dX0_addAlternatives_27 fl_RX0_12 rfl (iz_bk ha0) (frb_0 hF.1 ha0) ?_
      refine e_iload_n (i := 1) rfl dX0_addAlternatives_30 ?_
      refine e_iload_n (i := 3) rfl dX0_addAlternatives_31 ?_
      obtain ⟨q2, eq2, hm⟩ := ob_some hm
      refine e_cV2 hko dX0_addAlternatives_32 ml_RX0_102 (iz_ty (bk_ty ha0)) (by decide) rfl (by omega) (Nat.le_of_ble_eq_true rfl) (tX10_branchName hko (bk_ty ha0) I J F hF x1 x3 _ eq2) ?_
      rintro _ _ ⟨rfl, rfl⟩
      obtain ⟨q3, eq3, hm⟩ := ob_some hm
      refine e_cV1 hko dX0_addAlternatives_35 ml_RX0_96 (iz_row (rwb_55 ha0)) (by decide) rfl (by omega) (Nat.le_of_ble_eq_true rfl) (tX4_add hko (rwb_55 ha0) I J F hF q2 _ eq3) ?_
      rintro _ _ ⟨rfl, rfl⟩
      refine e_pop rfl dX0_addAlternatives_38 ?_
      refine e_aload_n (i := 0) rfl dX0_addAlternatives_39 ?_
      refine q_getF 0 16 (a0 + 57) dX0_addAlternatives_40 fl_RX0_73 rfl (iz_bk ha0) (frb_16 hF.1 ha0) ?_
      refine e_iconst (v := (-1)) (by decide) dX0_addAlternatives_43 ?_
      obtain ⟨q4, eq4, hm⟩ := ob_some hm
      refine e_cV1 hko dX0_addAlternatives_44 ml_RX0_96 (iz_row (rwb_57 ha0)) (by decide) rfl (by omega) (Nat.le_of_ble_eq_true rfl) (tX4_add hko (rwb_57 ha0) q3.2 J F hF ((-1)) _ eq4) ?_
      rintro _ _ ⟨rfl, rfl⟩
      refine e_pop rfl dX0_addAlternatives_47 ?_
      refine q_iinc (i := 3) (x3 + 1) rfl ic_1 rfl dX0_addAlternatives_48 ?_
      refine e_goto 10 dX0_addAlternatives_51 (by decide) ?_
      refine e_weak [.ref a0, .int x1, .int x2, .int (x3 + 1)] ⟨rfl, ⟨rfl, ⟨rfl, ⟨rfl, trivial⟩⟩⟩⟩ ?_
      exact ih q4.2 x1 x2 (x3 + 1) hF _ hm
set_option maxRecDepth 100000 in
set_option maxHeartbeats 4000000 in
theorem tX0_addAlternatives {l : Launch} {K : a_KT} {g : a_GT} {IB : iT} (hko : a_kok K) {a0 : Nat} (ha0 : isBook a0) (I : iT) (J : jT) (F : fT) (hF : FK F) (x1 : Int32) (q : Int32 × iT) (hm : mX0_addAlternatives a0 I x1 = some q) : C l K g 2 0 0 yX0_addAlternatives cX0_addAlternatives 4 (some .int) [.ref a0, .int x1] (hg I IB J F) (fun r2 h2 => r2 = some (.int q.1) ∧ h2 = hg q.2 IB J F) := by
  unfold mX0_addAlternatives at hm
  refine c_of [.ref a0, .int x1, .null, .null] (by decide) (Nat.le_of_ble_eq_true rfl) rfl ?_
  refine e_aload_n (i := 0) rfl dX0_addAlternatives_0 ?_
  refine q_getF 0 15 (a0 + 55) dX0_addAlternatives_1 fl_RX0_70 rfl (iz_bk ha0) (frb_15 hF.1 ha0) ?_
  obtain ⟨q5, eq5, hm⟩ := ob_some hm
  refine e_cV0 hko dX0_addAlternatives_4 ml_RX0_84 (iz_row (rwb_55 ha0)) (by decide) rfl (by omega) (Nat.le_of_ble_eq_true rfl) (tX4_size hko (rwb_55 ha0) I J F hF _ eq5) ?_
  rintro _ _ ⟨rfl, rfl⟩
  refine q_istore_n (i := 2) (by decide) rfl dX0_addAlternatives_7 ?_
  refine e_iconst (v := 0) (by decide) dX0_addAlternatives_8 ?_
  refine q_istore_n (i := 3) (by decide) rfl dX0_addAlternatives_9 ?_
  refine e_weak [.ref a0, .int x1, .int q5, .int 0] ⟨rfl, ⟨rfl, ⟨rfl, ⟨rfl, trivial⟩⟩⟩⟩ ?_
  exact tX0_addAlternatives_10 hko ha0 LF I x1 q5 0 hF _ hm
theorem dX0_addNode_0 : decode cX0_addNode 0 = .ok (.aload_n 0, 1) := by decide +kernel
theorem dX0_addNode_1 : decode cX0_addNode 1 = .ok (.getfield 61, 3) := by decide +kernel
theorem dX0_addNode_4 : decode cX0_addNode 4 = .ok (.iconst (-1), 1) := by decide +kernel
theorem dX0_addNode_5 : decode cX0_addNode 5 = .ok (.invokevirtual 96, 3) := by decide +kernel
theorem dX0_addNode_8 : decode cX0_addNode 8 = .ok (.pop, 1) := by decide +kernel
theorem dX0_addNode_9 : decode cX0_addNode 9 = .ok (.aload_n 0, 1) := by decide +kernel
theorem dX0_addNode_10 : decode cX0_addNode 10 = .ok (.getfield 64, 3) := by decide +kernel
theorem dX0_addNode_13 : decode cX0_addNode 13 = .ok (.iconst (-1), 1) := by decide +kernel
theorem dX0_addNode_14 : decode cX0_addNode 14 = .ok (.invokevirtual 96, 3) := by decide +kernel
theorem dX0_addNode_17 : decode cX0_addNode 17 = .ok (.pop, 1) := by decide +kernel
theorem dX0_addNode_18 : decode cX0_addNode 18 = .ok (.aload_n 0, 1) := by decide +kernel
theorem dX0_addNode_19 : decode cX0_addNode 19 = .ok (.getfield 67, 3) := by decide +kernel
theorem dX0_addNode_22 : decode cX0_addNode 22 = .ok (.iconst (-1), 1) := by decide +kernel
theorem dX0_addNode_23 : decode cX0_addNode 23 = .ok (.invokevirtual 96, 3) := by decide +kernel
theorem dX0_addNode_26 : decode cX0_addNode 26 = .ok (.pop, 1) := by decide +kernel
theorem dX0_addNode_27 : decode cX0_addNode 27 = .ok (.aload_n 0, 1) := by decide +kernel
theorem dX0_addNode_28 : decode cX0_addNode 28 = .ok (.getfield 58, 3) := by decide +kernel
theorem dX0_addNode_31 : decode cX0_addNode 31 = .ok (.iload_n 1, 1) := by decide +kernel
theorem dX0_addNode_32 : decode cX0_addNode 32 = .ok (.invokevirtual 96, 3) := by decide +kernel
theorem dX0_addNode_35 : decode cX0_addNode 35 = .ok (.ireturn, 1) := by decide +kernel
def mX0_addNode (a0 : Nat) (I : iT) (x1 : Int32) : Option (Int32 × iT) := (mX4_add (a0 + 49) I ((-1))).bind fun q1 => (mX4_add (a0 + 51) q1.2 ((-1))).bind fun q2 => (mX4_add (a0 + 53) q2.2 ((-1))).bind fun q3 => (mX4_add (a0 + 47) q3.2 x1).bind fun q4 => some (q4.1, q4.2)
set_option maxRecDepth 100000 in
set_option maxHeartbeats 4000000 in
theorem tX0_addNode {l : Launch} {K : a_KT} {g : a_GT} {IB : iT} (hko : a_kok K) {a0 : Nat} (ha0 : isBook a0) (I : iT) (J : jT) (F : fT) (hF : FK F) (x1 : Int32) (q : Int32 × iT) (hm : mX0_addNode a0 I x1 = some q) : C l K g 1 0 0 yX0_addNode cX0_addNode 2 (some .int) [.ref a0, .int x1] (hg I IB J F) (fun r2 h2 => r2 = some (.int q.1) ∧ h2 = hg q.2 IB J F) := by
  unfold mX0_addNode at hm
  refine c_of [.ref a0, .int x1] (by decide) (Nat.le_of_ble_eq_true rfl) rfl ?_
  refine e_aload_n (i := 0) rfl dX0_addNode_0 ?_
  refine q_getF 0 12 (a0 + 49) dX0_addNode_1 fl_RX0_61 rfl (iz_bk ha0) (frb_12 hF.1 ha0) ?_
  refine e_iconst (v := (-1)) (by decide) dX0_addNode_4 ?_
  obtain ⟨q1, eq1, hm⟩ := ob_some hm
  refine e_cV1 hko dX0_addNode_5 ml_RX0_96 (iz_row (rwb_49 ha0)) (by decide) rfl (by omega) (Nat.le_of_ble_eq_true rfl) (tX4_add hko (rwb_49 ha0) I J F hF ((-1)) _ eq1) ?_
  rintro _ _ ⟨rfl, rfl⟩
  refine e_pop rfl dX0_addNode_8 ?_
  refine e_aload_n (i := 0) rfl dX0_addNode_9 ?_
  refine q_getF 0 13 (a0 + 51) dX0_addNode_10 fl_RX0_64 rfl (iz_bk ha0) (frb_13 hF.1 ha0) ?_
  refine e_iconst (v := (-1)) (by decide) dX0_addNode_13 ?_
  obtain ⟨q2, eq2, hm⟩ := ob_some hm
  refine e_cV1 hko dX0_addNode_14 ml_RX0_96 (iz_row (rwb_51 ha0)) (by decide) rfl (by omega) (Nat.le_of_ble_eq_true rfl) (tX4_add hko (rwb_51 ha0) q1.2 J F hF ((-1)) _ eq2) ?_
  rintro _ _ ⟨rfl, rfl⟩
  refine e_pop rfl dX0_addNode_17 ?_
  refine e_aload_n (i := 0) rfl dX0_addNode_18 ?_
  refine q_getF 0 14 (a0 + 53) dX0_addNode_19 fl_RX0_67 rfl (iz_bk ha0) (frb_14 hF.1 ha0) ?_
  refine e_iconst (v := (-1)) (by decide) dX0_addNode_22 ?_
  obtain ⟨q3, eq3, hm⟩ := ob_some hm
  refine e_cV1 hko dX0_addNode_23 ml_RX0_96 (iz_row (rwb_53 ha0)) (by decide) rfl (by omega) (Nat.le_of_ble_eq_true rfl) (tX4_add hko (rwb_53 ha0) q2.2 J F hF ((-1)) _ eq3) ?_
  rintro _ _ ⟨rfl, rfl⟩
  refine e_pop rfl dX0_addNode_26 ?_
  refine e_aload_n (i := 0) rfl dX0_addNode_27 ?_
  refine q_getF 0 11 (a0 + 47) dX0_addNode_28 fl_RX0_58 rfl (iz_bk ha0) (frb_11 hF.1 ha0) ?_
  refine e_iload_n (i := 1) rfl dX0_addNode_31 ?_
  obtain ⟨q4, eq4, hm⟩ := ob_some hm
  refine e_cV1 hko dX0_addNode_32 ml_RX0_96 (iz_row (rwb_47 ha0)) (by decide) rfl (by omega) (Nat.le_of_ble_eq_true rfl) (tX4_add hko (rwb_47 ha0) q3.2 J F hF x1 _ eq4) ?_
  rintro _ _ ⟨rfl, rfl⟩
  refine e_iret dX0_addNode_35 rfl ?_
  have hm := some_in hm
  subst hm
  exact ⟨rfl, rfl⟩
theorem dX0_alternative_0 : decode cX0_alternative 0 = .ok (.aload_n 0, 1) := by decide +kernel
theorem dX0_alternative_1 : decode cX0_alternative 1 = .ok (.getfield 64, 3) := by decide +kernel
theorem dX0_alternative_4 : decode cX0_alternative 4 = .ok (.iload_n 1, 1) := by decide +kernel
theorem dX0_alternative_5 : decode cX0_alternative 5 = .ok (.invokevirtual 88, 3) := by decide +kernel
theorem dX0_alternative_8 : decode cX0_alternative 8 = .ok (.istore_n 3, 1) := by decide +kernel
theorem dX0_alternative_9 : decode cX0_alternative 9 = .ok (.iconst 0, 1) := by decide +kernel
theorem dX0_alternative_10 : decode cX0_alternative 10 = .ok (.istore 4, 2) := by decide +kernel
theorem dX0_alternative_12 : decode cX0_alternative 12 = .ok (.iload 4, 2) := by decide +kernel
theorem dX0_alternative_14 : decode cX0_alternative 14 = .ok (.aload_n 0, 1) := by decide +kernel
theorem dX0_alternative_15 : decode cX0_alternative 15 = .ok (.getfield 67, 3) := by decide +kernel
theorem dX0_alternative_18 : decode cX0_alternative 18 = .ok (.iload_n 1, 1) := by decide +kernel
theorem dX0_alternative_19 : decode cX0_alternative 19 = .ok (.invokevirtual 88, 3) := by decide +kernel
theorem dX0_alternative_22 : decode cX0_alternative 22 = .ok (.if_icmp .ge 36, 3) := by decide +kernel
theorem dX0_alternative_25 : decode cX0_alternative 25 = .ok (.aload_n 0, 1) := by decide +kernel
theorem dX0_alternative_26 : decode cX0_alternative 26 = .ok (.getfield 70, 3) := by decide +kernel
theorem dX0_alternative_29 : decode cX0_alternative 29 = .ok (.iload_n 3, 1) := by decide +kernel
theorem dX0_alternative_30 : decode cX0_alternative 30 = .ok (.iload 4, 2) := by decide +kernel
theorem dX0_alternative_32 : decode cX0_alternative 32 = .ok (.iadd, 1) := by decide +kernel
theorem dX0_alternative_33 : decode cX0_alternative 33 = .ok (.invokevirtual 88, 3) := by decide +kernel
theorem dX0_alternative_36 : decode cX0_alternative 36 = .ok (.iload_n 2, 1) := by decide +kernel
theorem dX0_alternative_37 : decode cX0_alternative 37 = .ok (.if_icmp .ne 15, 3) := by decide +kernel
theorem dX0_alternative_40 : decode cX0_alternative 40 = .ok (.aload_n 0, 1) := by decide +kernel
theorem dX0_alternative_41 : decode cX0_alternative 41 = .ok (.getfield 73, 3) := by decide +kernel
theorem dX0_alternative_44 : decode cX0_alternative 44 = .ok (.iload_n 3, 1) := by decide +kernel
theorem dX0_alternative_45 : decode cX0_alternative 45 = .ok (.iload 4, 2) := by decide +kernel
theorem dX0_alternative_47 : decode cX0_alternative 47 = .ok (.iadd, 1) := by decide +kernel
theorem dX0_alternative_48 : decode cX0_alternative 48 = .ok (.invokevirtual 88, 3) := by decide +kernel
theorem dX0_alternative_51 : decode cX0_alternative 51 = .ok (.ireturn, 1) := by decide +kernel
theorem dX0_alternative_52 : decode cX0_alternative 52 = .ok (.iinc 4 1, 3) := by decide +kernel
theorem dX0_alternative_55 : decode cX0_alternative 55 = .ok (.goto (-43), 3) := by decide +kernel
theorem dX0_alternative_58 : decode cX0_alternative 58 = .ok (.iconst (-1), 1) := by decide +kernel
theorem dX0_alternative_59 : decode cX0_alternative 59 = .ok (.ireturn, 1) := by decide +kernel
def mX0_alternative_12 (a0 : Nat) : Nat → iT → Int32 → Int32 → Int32 → Int32 → Option (Int32)
  | 0, _, _, _, _, _ => none
  | n + 1, I, x1, x2, x3, x4 => (mX4_at (a0 + 53) I x1).bind fun q1 => if q1 ≤ x4 then some ((-1)) else (mX4_at (a0 + 55) I (x3 + x4)).bind fun q2 => if q2 = x2 then (mX4_at (a0 + 57) I (x3 + x4)).bind fun q3 => some q3 else mX0_alternative_12 a0 n I x1 x2 x3 (x4 + 1)
def mX0_alternative (a0 : Nat) (I : iT) (x1 : Int32) (x2 : Int32) : Option (Int32) := (mX4_at (a0 + 51) I x1).bind fun q4 => mX0_alternative_12 a0 LF I x1 x2 q4 0
set_option maxRecDepth 100000 in
set_option maxHeartbeats 4000000 in
theorem tX0_alternative_12 {l : Launch} {K : a_KT} {g : a_GT} {IB : iT} (hko : a_kok K) {a0 : Nat} (ha0 : isBook a0) {J : jT} {F : fT} : ∀ (n : Nat) (I : iT) (x1 : Int32) (x2 : Int32) (x3 : Int32) (x4 : Int32) (hF : FK F) (q : Int32), mX0_alternative_12 a0 n I x1 x2 x3 x4 = some q → E l K g 1 0 0 yX0_alternative cX0_alternative 5 (some .int) 12 [.ref a0, .int x1, .int x2, .int x3, .int x4] [] (hg I IB J F) (fun r2 h2 => r2 = some (.int q) ∧ h2 = hg I IB J F) := by
  intro n
  induction n with
  | zero => intro I x1 x2 x3 x4 hF q hm; cases hm
  | succ n ih =>
    intro I x1 x2 x3 x4 hF q hm
    rw [mX0_alternative_12] at hm
    refine e_iload (i := 4) rfl dX0_alternative_12 ?_
    refine e_aload_n (i := 0) rfl dX0_alternative_14 ?_
    refine q_getF 0 14 (a0 + 53) dX0_alternative_15 fl_RX0_67 rfl (iz_bk ha0) (frb_14 hF.1 ha0) ?_
    refine e_iload_n (i := 1) rfl dX0_alternative_18 ?_
    obtain ⟨q1, eq1, hm⟩ := ob_some hm
    refine e_cV1 hko dX0_alternative_19 ml_RX0_88 (iz_row (rwb_53 ha0)) (by decide) rfl (by omega) (Nat.le_of_ble_eq_true rfl) (tX4_at hko (rwb_53 ha0) I J F hF x1 _ eq1) ?_
    rintro _ _ ⟨rfl, rfl⟩
    refine e_icmp_ge 58 dX0_alternative_22 (by decide) (fun c_22 => ?_) (fun c_22 => ?_)
    · have hm := it_p c_22 hm
      refine e_iconst (v := (-1)) (by decide) dX0_alternative_58 ?_
      refine e_iret dX0_alternative_59 rfl ?_
      have hm := some_in hm
      subst hm
      exact ⟨rfl, rfl⟩
    · have hm := it_n c_22 hm
      refine e_aload_n (i := 0) rfl dX0_alternative_25 ?_
      refine q_getF 0 15 (a0 + 55) dX0_alternative_26 fl_RX0_70 rfl (iz_bk ha0) (frb_15 hF.1 ha0) ?_
      refine e_iload_n (i := 3) rfl dX0_alternative_29 ?_
      refine e_iload (i := 4) rfl dX0_alternative_30 ?_
      refine e_iadd dX0_alternative_32 ?_
      obtain ⟨q2, eq2, hm⟩ := ob_some hm
      refine e_cV1 hko dX0_alternative_33 ml_RX0_88 (iz_row (rwb_55 ha0)) (by decide) rfl (by omega) (Nat.le_of_ble_eq_true rfl) (tX4_at hko (rwb_55 ha0) I J F hF (x3 + x4) _ eq2) ?_
      rintro _ _ ⟨rfl, rfl⟩
      refine e_iload_n (i := 2) rfl dX0_alternative_36 ?_
      refine e_icmp_ne 52 dX0_alternative_37 (by decide) (fun c_37 => ?_) (fun c_37 => ?_)
      · have hm := it_n c_37 hm
        refine q_iinc (i := 4) (x4 + 1) rfl ic_1 rfl dX0_alternative_52 ?_
        refine e_goto 12 dX0_alternative_55 (by decide) ?_
        refine e_weak [.ref a0, .int x1, .int x2, .int x3, .int (x4 + 1)] ⟨rfl, ⟨rfl, ⟨rfl, ⟨rfl, ⟨rfl, trivial⟩⟩⟩⟩⟩ ?_
        exact ih I x1 x2 x3 (x4 + 1) hF _ hm
      · have hm := it_p c_37 hm
        refine e_aload_n (i := 0) rfl dX0_alternative_40 ?_
        refine q_getF 0 16 (a0 + 57) dX0_alternative_41 fl_RX0_73 rfl (iz_bk ha0) (frb_16 hF.1 ha0) ?_
        refine e_iload_n (i := 3) rfl dX0_alternative_44 ?_
        refine e_iload (i := 4) rfl dX0_alternative_45 ?_
        refine e_iadd dX0_alternative_47 ?_
        obtain ⟨q3, eq3, hm⟩ := ob_some hm
        refine e_cV1 hko dX0_alternative_48 ml_RX0_88 (iz_row (rwb_57 ha0)) (by decide) rfl (by omega) (Nat.le_of_ble_eq_true rfl) (tX4_at hko (rwb_57 ha0) I J F hF (x3 + x4) _ eq3) ?_
        rintro _ _ ⟨rfl, rfl⟩
        refine e_iret dX0_alternative_51 rfl ?_
        have hm := some_in hm
        subst hm
        exact ⟨rfl, rfl⟩
set_option maxRecDepth 100000 in
set_option maxHeartbeats 4000000 in
theorem tX0_alternative {l : Launch} {K : a_KT} {g : a_GT} {IB : iT} (hko : a_kok K) {a0 : Nat} (ha0 : isBook a0) (I : iT) (J : jT) (F : fT) (hF : FK F) (x1 : Int32) (x2 : Int32) (q : Int32) (hm : mX0_alternative a0 I x1 x2 = some q) : C l K g 1 0 0 yX0_alternative cX0_alternative 5 (some .int) [.ref a0, .int x1, .int x2] (hg I IB J F) (fun r2 h2 => r2 = some (.int q) ∧ h2 = hg I IB J F) := by
  unfold mX0_alternative at hm
  refine c_of [.ref a0, .int x1, .int x2, .null, .null] (by decide) (Nat.le_of_ble_eq_true rfl) rfl ?_
  refine e_aload_n (i := 0) rfl dX0_alternative_0 ?_
  refine q_getF 0 13 (a0 + 51) dX0_alternative_1 fl_RX0_64 rfl (iz_bk ha0) (frb_13 hF.1 ha0) ?_
  refine e_iload_n (i := 1) rfl dX0_alternative_4 ?_
  obtain ⟨q4, eq4, hm⟩ := ob_some hm
  refine e_cV1 hko dX0_alternative_5 ml_RX0_88 (iz_row (rwb_51 ha0)) (by decide) rfl (by omega) (Nat.le_of_ble_eq_true rfl) (tX4_at hko (rwb_51 ha0) I J F hF x1 _ eq4) ?_
  rintro _ _ ⟨rfl, rfl⟩
  refine q_istore_n (i := 3) (by decide) rfl dX0_alternative_8 ?_
  refine e_iconst (v := 0) (by decide) dX0_alternative_9 ?_
  refine q_istore (i := 4) (by decide) rfl dX0_alternative_10 ?_
  refine e_weak [.ref a0, .int x1, .int x2, .int q4, .int 0] ⟨rfl, ⟨rfl, ⟨rfl, ⟨rfl, ⟨rfl, trivial⟩⟩⟩⟩⟩ ?_
  exact tX0_alternative_12 hko ha0 LF I x1 x2 q4 0 hF _ hm
theorem dX0_paramT_0 : decode cX0_paramT 0 = .ok (.iload_n 1, 1) := by decide +kernel
theorem dX0_paramT_1 : decode cX0_paramT 1 = .ok (.ifCond .lt 22, 3) := by decide +kernel
theorem dX0_paramT_4 : decode cX0_paramT 4 = .ok (.iload_n 1, 1) := by decide +kernel
theorem dX0_paramT_5 : decode cX0_paramT 5 = .ok (.bipush 12, 2) := by decide +kernel
theorem dX0_paramT_7 : decode cX0_paramT 7 = .ok (.if_icmp .ge 16, 3) := by decide +kernel
theorem dX0_paramT_10 : decode cX0_paramT 10 = .ok (.iload_n 2, 1) := by decide +kernel
theorem dX0_paramT_11 : decode cX0_paramT 11 = .ok (.ifCond .lt 12, 3) := by decide +kernel
theorem dX0_paramT_14 : decode cX0_paramT 14 = .ok (.iload_n 2, 1) := by decide +kernel
theorem dX0_paramT_15 : decode cX0_paramT 15 = .ok (.iconst 4, 1) := by decide +kernel
theorem dX0_paramT_16 : decode cX0_paramT 16 = .ok (.if_icmp .ge 7, 3) := by decide +kernel
theorem dX0_paramT_19 : decode cX0_paramT 19 = .ok (.iconst 1, 1) := by decide +kernel
theorem dX0_paramT_20 : decode cX0_paramT 20 = .ok (.goto 4, 3) := by decide +kernel
theorem dX0_paramT_23 : decode cX0_paramT 23 = .ok (.iconst 0, 1) := by decide +kernel
theorem dX0_paramT_24 : decode cX0_paramT 24 = .ok (.istore_n 3, 1) := by decide +kernel
theorem dX0_paramT_25 : decode cX0_paramT 25 = .ok (.iload_n 3, 1) := by decide +kernel
theorem dX0_paramT_26 : decode cX0_paramT 26 = .ok (.ifCond .eq 18, 3) := by decide +kernel
theorem dX0_paramT_29 : decode cX0_paramT 29 = .ok (.aload_n 0, 1) := by decide +kernel
theorem dX0_paramT_30 : decode cX0_paramT 30 = .ok (.getfield 55, 3) := by decide +kernel
theorem dX0_paramT_33 : decode cX0_paramT 33 = .ok (.iload_n 1, 1) := by decide +kernel
theorem dX0_paramT_34 : decode cX0_paramT 34 = .ok (.iconst 4, 1) := by decide +kernel
theorem dX0_paramT_35 : decode cX0_paramT 35 = .ok (.imul, 1) := by decide +kernel
theorem dX0_paramT_36 : decode cX0_paramT 36 = .ok (.iload_n 2, 1) := by decide +kernel
theorem dX0_paramT_37 : decode cX0_paramT 37 = .ok (.iadd, 1) := by decide +kernel
theorem dX0_paramT_38 : decode cX0_paramT 38 = .ok (.invokevirtual 88, 3) := by decide +kernel
theorem dX0_paramT_41 : decode cX0_paramT 41 = .ok (.goto 4, 3) := by decide +kernel
theorem dX0_paramT_44 : decode cX0_paramT 44 = .ok (.iconst (-1), 1) := by decide +kernel
theorem dX0_paramT_45 : decode cX0_paramT 45 = .ok (.ireturn, 1) := by decide +kernel
def mX0_paramT_24 (a0 : Nat) (I : iT) (x1 : Int32) (x2 : Int32) (s0 : Int32) : Option (Int32) := if s0 = 0 then some ((-1)) else (mX4_at (a0 + 45) I ((x1 * 4) + x2)).bind fun q1 => some q1
def mX0_paramT_23 (a0 : Nat) (I : iT) (x1 : Int32) (x2 : Int32) : Option (Int32) := mX0_paramT_24 a0 I x1 x2 0
def mX0_paramT (a0 : Nat) (I : iT) (x1 : Int32) (x2 : Int32) : Option (Int32) := if x1 < 0 then mX0_paramT_23 a0 I x1 x2 else if 12 ≤ x1 then mX0_paramT_23 a0 I x1 x2 else if x2 < 0 then mX0_paramT_23 a0 I x1 x2 else if 4 ≤ x2 then mX0_paramT_23 a0 I x1 x2 else mX0_paramT_24 a0 I x1 x2 1
set_option maxRecDepth 100000 in
set_option maxHeartbeats 4000000 in
theorem tX0_paramT_24 {l : Launch} {K : a_KT} {g : a_GT} {IB : iT} (hko : a_kok K) {a0 : Nat} (ha0 : isBook a0) {J : jT} {F : fT} (I : iT) (x1 : Int32) (x2 : Int32) (s0 : Int32) (hF : FK F) (q : Int32) (hm : mX0_paramT_24 a0 I x1 x2 s0 = some q) : E l K g 1 0 0 yX0_paramT cX0_paramT 4 (some .int) 24 [.ref a0, .int x1, .int x2, .null] [.int s0] (hg I IB J F) (fun r2 h2 => r2 = some (.int q) ∧ h2 = hg I IB J F) := by
  unfold mX0_paramT_24 at hm
  refine q_istore_n (i := 3) (by decide) rfl dX0_paramT_24 ?_
  refine e_iload_n (i := 3) rfl dX0_paramT_25 ?_
  refine e_if_eq 44 dX0_paramT_26 (by decide) (fun c_26 => ?_) (fun c_26 => ?_)
  · have hm := it_p c_26 hm
    refine e_iconst (v := (-1)) (by decide) dX0_paramT_44 ?_
    refine e_iret dX0_paramT_45 rfl ?_
    have hm := some_in hm
    subst hm
    exact ⟨rfl, rfl⟩
  · have hm := it_n c_26 hm
    refine e_aload_n (i := 0) rfl dX0_paramT_29 ?_
    refine q_getF 0 10 (a0 + 45) dX0_paramT_30 fl_RX0_55 rfl (iz_bk ha0) (frb_10 hF.1 ha0) ?_
    refine e_iload_n (i := 1) rfl dX0_paramT_33 ?_
    refine e_iconst (v := 4) (by decide) dX0_paramT_34 ?_
    refine e_imul dX0_paramT_35 ?_
    refine e_iload_n (i := 2) rfl dX0_paramT_36 ?_
    refine e_iadd dX0_paramT_37 ?_
    obtain ⟨q1, eq1, hm⟩ := ob_some hm
    refine e_cV1 hko dX0_paramT_38 ml_RX0_88 (iz_row (rwb_45 ha0)) (by decide) rfl (by omega) (Nat.le_of_ble_eq_true rfl) (tX4_at hko (rwb_45 ha0) I J F hF ((x1 * 4) + x2) _ eq1) ?_
    rintro _ _ ⟨rfl, rfl⟩
    refine e_goto 45 dX0_paramT_41 (by decide) ?_
    refine e_iret dX0_paramT_45 rfl ?_
    have hm := some_in hm
    subst hm
    exact ⟨rfl, rfl⟩
set_option maxRecDepth 100000 in
set_option maxHeartbeats 4000000 in
theorem tX0_paramT_23 {l : Launch} {K : a_KT} {g : a_GT} {IB : iT} (hko : a_kok K) {a0 : Nat} (ha0 : isBook a0) {J : jT} {F : fT} (I : iT) (x1 : Int32) (x2 : Int32) (hF : FK F) (q : Int32) (hm : mX0_paramT_23 a0 I x1 x2 = some q) : E l K g 1 0 0 yX0_paramT cX0_paramT 4 (some .int) 23 [.ref a0, .int x1, .int x2, .null] [] (hg I IB J F) (fun r2 h2 => r2 = some (.int q) ∧ h2 = hg I IB J F) := by
  unfold mX0_paramT_23 at hm
  refine e_iconst (v := 0) (by decide) dX0_paramT_23 ?_
  refine e_weak [.ref a0, .int x1, .int x2, .null] ⟨rfl, ⟨rfl, ⟨rfl, ⟨trivial, trivial⟩⟩⟩⟩ ?_
  exact tX0_paramT_24 hko ha0 I x1 x2 0 hF _ hm
set_option maxRecDepth 100000 in
set_option maxHeartbeats 4000000 in
theorem tX0_paramT {l : Launch} {K : a_KT} {g : a_GT} {IB : iT} (hko : a_kok K) {a0 : Nat} (ha0 : isBook a0) (I : iT) (J : jT) (F : fT) (hF : FK F) (x1 : Int32) (x2 : Int32) (q : Int32) (hm : mX0_paramT a0 I x1 x2 = some q) : C l K g 1 0 0 yX0_paramT cX0_paramT 4 (some .int) [.ref a0, .int x1, .int x2] (hg I IB J F) (fun r2 h2 => r2 = some (.int q) ∧ h2 = hg I IB J F) := by
  unfold mX0_paramT at hm
  refine c_of [.ref a0, .int x1, .int x2, .null] (by decide) (Nat.le_of_ble_eq_true rfl) rfl ?_
  refine e_iload_n (i := 1) rfl dX0_paramT_0 ?_
  refine e_if_lt 23 dX0_paramT_1 (by decide) (fun c_1 => ?_) (fun c_1 => ?_)
  · have hm := it_p c_1 hm
    refine e_weak [.ref a0, .int x1, .int x2, .null] ⟨rfl, ⟨rfl, ⟨rfl, ⟨trivial, trivial⟩⟩⟩⟩ ?_
    exact tX0_paramT_23 hko ha0 I x1 x2 hF _ hm
  · have hm := it_n c_1 hm
    refine e_iload_n (i := 1) rfl dX0_paramT_4 ?_
    refine e_bipush (v := 12) (by decide) dX0_paramT_5 ?_
    refine e_icmp_ge 23 dX0_paramT_7 (by decide) (fun c_7 => ?_) (fun c_7 => ?_)
    · have hm := it_p c_7 hm
      refine e_weak [.ref a0, .int x1, .int x2, .null] ⟨rfl, ⟨rfl, ⟨rfl, ⟨trivial, trivial⟩⟩⟩⟩ ?_
      exact tX0_paramT_23 hko ha0 I x1 x2 hF _ hm
    · have hm := it_n c_7 hm
      refine e_iload_n (i := 2) rfl dX0_paramT_10 ?_
      refine e_if_lt 23 dX0_paramT_11 (by decide) (fun c_11 => ?_) (fun c_11 => ?_)
      · have hm := it_p c_11 hm
        refine e_weak [.ref a0, .int x1, .int x2, .null] ⟨rfl, ⟨rfl, ⟨rfl, ⟨trivial, trivial⟩⟩⟩⟩ ?_
        exact tX0_paramT_23 hko ha0 I x1 x2 hF _ hm
      · have hm := it_n c_11 hm
        refine e_iload_n (i := 2) rfl dX0_paramT_14 ?_
        refine e_iconst (v := 4) (by decide) dX0_paramT_15 ?_
        refine e_icmp_ge 23 dX0_paramT_16 (by decide) (fun c_16 => ?_) (fun c_16 => ?_)
        · have hm := it_p c_16 hm
          refine e_weak [.ref a0, .int x1, .int x2, .null] ⟨rfl, ⟨rfl, ⟨rfl, ⟨trivial, trivial⟩⟩⟩⟩ ?_
          exact tX0_paramT_23 hko ha0 I x1 x2 hF _ hm
        · have hm := it_n c_16 hm
          refine e_iconst (v := 1) (by decide) dX0_paramT_19 ?_
          refine e_goto 24 dX0_paramT_20 (by decide) ?_
          refine e_weak [.ref a0, .int x1, .int x2, .null] ⟨rfl, ⟨rfl, ⟨rfl, ⟨trivial, trivial⟩⟩⟩⟩ ?_
          exact tX0_paramT_24 hko ha0 I x1 x2 1 hF _ hm
theorem dX0_channelParams_0 : decode cX0_channelParams 0 = .ok (.iconst 0, 1) := by decide +kernel
theorem dX0_channelParams_1 : decode cX0_channelParams 1 = .ok (.istore_n 2, 1) := by decide +kernel
theorem dX0_channelParams_2 : decode cX0_channelParams 2 = .ok (.iconst 0, 1) := by decide +kernel
theorem dX0_channelParams_3 : decode cX0_channelParams 3 = .ok (.istore_n 3, 1) := by decide +kernel
theorem dX0_channelParams_4 : decode cX0_channelParams 4 = .ok (.iload_n 3, 1) := by decide +kernel
theorem dX0_channelParams_5 : decode cX0_channelParams 5 = .ok (.iconst 4, 1) := by decide +kernel
theorem dX0_channelParams_6 : decode cX0_channelParams 6 = .ok (.if_icmp .ge 22, 3) := by decide +kernel
theorem dX0_channelParams_9 : decode cX0_channelParams 9 = .ok (.aload_n 0, 1) := by decide +kernel
theorem dX0_channelParams_10 : decode cX0_channelParams 10 = .ok (.iload_n 1, 1) := by decide +kernel
theorem dX0_channelParams_11 : decode cX0_channelParams 11 = .ok (.iload_n 3, 1) := by decide +kernel
theorem dX0_channelParams_12 : decode cX0_channelParams 12 = .ok (.invokevirtual 92, 3) := by decide +kernel
theorem dX0_channelParams_15 : decode cX0_channelParams 15 = .ok (.iconst (-1), 1) := by decide +kernel
theorem dX0_channelParams_16 : decode cX0_channelParams 16 = .ok (.if_icmp .eq 6, 3) := by decide +kernel
theorem dX0_channelParams_19 : decode cX0_channelParams 19 = .ok (.iinc 2 1, 3) := by decide +kernel
theorem dX0_channelParams_22 : decode cX0_channelParams 22 = .ok (.iinc 3 1, 3) := by decide +kernel
theorem dX0_channelParams_25 : decode cX0_channelParams 25 = .ok (.goto (-21), 3) := by decide +kernel
theorem dX0_channelParams_28 : decode cX0_channelParams 28 = .ok (.iload_n 2, 1) := by decide +kernel
theorem dX0_channelParams_29 : decode cX0_channelParams 29 = .ok (.ireturn, 1) := by decide +kernel
def mX0_channelParams_22 (a0 : Nat) (k4 : iT → Int32 → Int32 → Int32 → Option (Int32)) (I : iT) (x1 : Int32) (x2 : Int32) (x3 : Int32) : Option (Int32) := k4 I x1 x2 (x3 + 1)
def mX0_channelParams_4 (a0 : Nat) : Nat → iT → Int32 → Int32 → Int32 → Option (Int32)
  | 0, _, _, _, _ => none
  | n + 1, I, x1, x2, x3 => if 4 ≤ x3 then some x2 else (mX0_paramT a0 I x1 x3).bind fun q1 => if q1 = ((-1)) then mX0_channelParams_22 a0 (mX0_channelParams_4 a0 n) I x1 x2 x3 else mX0_channelParams_22 a0 (mX0_channelParams_4 a0 n) I x1 (x2 + 1) x3
def mX0_channelParams (a0 : Nat) (I : iT) (x1 : Int32) : Option (Int32) := mX0_channelParams_4 a0 LF I x1 0 0
set_option maxRecDepth 100000 in
set_option maxHeartbeats 4000000 in
theorem tX0_channelParams_22 {l : Launch} {K : a_KT} {g : a_GT} {IB : iT} (hko : a_kok K) {a0 : Nat} (ha0 : isBook a0) {J : jT} {F : fT} {k4 : iT → Int32 → Int32 → Int32 → Option (Int32)} (hk4 : ∀ (I : iT) (x1 : Int32) (x2 : Int32) (x3 : Int32) (_ : FK F) (q : Int32), k4 I x1 x2 x3 = some q → E l K g 2 0 0 yX0_channelParams cX0_channelParams 4 (some .int) 4 [.ref a0, .int x1, .int x2, .int x3] [] (hg I IB J F) (fun r2 h2 => r2 = some (.int q) ∧ h2 = hg I IB J F)) (I : iT) (x1 : Int32) (x2 : Int32) (x3 : Int32) (hF : FK F) (q : Int32) (hm : mX0_channelParams_22 a0 k4 I x1 x2 x3 = some q) : E l K g 2 0 0 yX0_channelParams cX0_channelParams 4 (some .int) 22 [.ref a0, .int x1, .int x2, .int x3] [] (hg I IB J F) (fun r2 h2 => r2 = some (.int q) ∧ h2 = hg I IB J F) := by
  unfold mX0_channelParams_22 at hm
  refine q_iinc (i := 3) (x3 + 1) rfl ic_1 rfl dX0_channelParams_22 ?_
  refine e_goto 4 dX0_channelParams_25 (by decide) ?_
  refine e_weak [.ref a0, .int x1, .int x2, .int (x3 + 1)] ⟨rfl, ⟨rfl, ⟨rfl, ⟨rfl, trivial⟩⟩⟩⟩ ?_
  exact hk4 I x1 x2 (x3 + 1) hF _ hm
set_option maxRecDepth 100000 in
set_option maxHeartbeats 4000000 in
theorem tX0_channelParams_4 {l : Launch} {K : a_KT} {g : a_GT} {IB : iT} (hko : a_kok K) {a0 : Nat} (ha0 : isBook a0) {J : jT} {F : fT} : ∀ (n : Nat) (I : iT) (x1 : Int32) (x2 : Int32) (x3 : Int32) (hF : FK F) (q : Int32), mX0_channelParams_4 a0 n I x1 x2 x3 = some q → E l K g 2 0 0 yX0_channelParams cX0_channelParams 4 (some .int) 4 [.ref a0, .int x1, .int x2, .int x3] [] (hg I IB J F) (fun r2 h2 => r2 = some (.int q) ∧ h2 = hg I IB J F) := by
  intro n
  induction n with
  | zero => intro I x1 x2 x3 hF q hm; cases hm
  | succ n ih =>
    intro I x1 x2 x3 hF q hm
    rw [mX0_channelParams_4] at hm
    refine e_iload_n (i := 3) rfl dX0_channelParams_4 ?_
    refine e_iconst (v := 4) (by decide) dX0_channelParams_5 ?_
    refine e_icmp_ge 28 dX0_channelParams_6 (by decide) (fun c_6 => ?_) (fun c_6 => ?_)
    · have hm := it_p c_6 hm
      refine e_iload_n (i := 2) rfl dX0_channelParams_28 ?_
      refine e_iret dX0_channelParams_29 rfl ?_
      have hm := some_in hm
      subst hm
      exact ⟨rfl, rfl⟩
    · have hm := it_n c_6 hm
      refine e_aload_n (i := 0) rfl dX0_channelParams_9 ?_
      refine e_iload_n (i := 1) rfl dX0_channelParams_10 ?_
      refine e_iload_n (i := 3) rfl dX0_channelParams_11 ?_
      obtain ⟨q1, eq1, hm⟩ := ob_some hm
      refine e_cV2 hko dX0_channelParams_12 ml_RX0_92 (iz_bk ha0) (by decide) rfl (by omega) (Nat.le_of_ble_eq_true rfl) (tX0_paramT hko ha0 I J F hF x1 x3 _ eq1) ?_
      rintro _ _ ⟨rfl, rfl⟩
      refine e_iconst (v := (-1)) (by decide) dX0_channelParams_15 ?_
      refine e_icmp_eq 22 dX0_channelParams_16 (by decide) (fun c_16 => ?_) (fun c_16 => ?_)
      · have hm := it_p c_16 hm
        refine e_weak [.ref a0, .int x1, .int x2, .int x3] ⟨rfl, ⟨rfl, ⟨rfl, ⟨rfl, trivial⟩⟩⟩⟩ ?_
        exact tX0_channelParams_22 hko ha0 (ih) I x1 x2 x3 hF _ hm
      · have hm := it_n c_16 hm
        refine q_iinc (i := 2) (x2 + 1) rfl ic_1 rfl dX0_channelParams_19 ?_
        refine e_weak [.ref a0, .int x1, .int (x2 + 1), .int x3] ⟨rfl, ⟨rfl, ⟨rfl, ⟨rfl, trivial⟩⟩⟩⟩ ?_
        exact tX0_channelParams_22 hko ha0 (ih) I x1 (x2 + 1) x3 hF _ hm
set_option maxRecDepth 100000 in
set_option maxHeartbeats 4000000 in
theorem tX0_channelParams {l : Launch} {K : a_KT} {g : a_GT} {IB : iT} (hko : a_kok K) {a0 : Nat} (ha0 : isBook a0) (I : iT) (J : jT) (F : fT) (hF : FK F) (x1 : Int32) (q : Int32) (hm : mX0_channelParams a0 I x1 = some q) : C l K g 2 0 0 yX0_channelParams cX0_channelParams 4 (some .int) [.ref a0, .int x1] (hg I IB J F) (fun r2 h2 => r2 = some (.int q) ∧ h2 = hg I IB J F) := by
  unfold mX0_channelParams at hm
  refine c_of [.ref a0, .int x1, .null, .null] (by decide) (Nat.le_of_ble_eq_true rfl) rfl ?_
  refine e_iconst (v := 0) (by decide) dX0_channelParams_0 ?_
  refine q_istore_n (i := 2) (by decide) rfl dX0_channelParams_1 ?_
  refine e_iconst (v := 0) (by decide) dX0_channelParams_2 ?_
  refine q_istore_n (i := 3) (by decide) rfl dX0_channelParams_3 ?_
  refine e_weak [.ref a0, .int x1, .int 0, .int 0] ⟨rfl, ⟨rfl, ⟨rfl, ⟨rfl, trivial⟩⟩⟩⟩ ?_
  exact tX0_channelParams_4 hko ha0 LF I x1 0 0 hF _ hm
theorem dX10_clear_0 : decode cX10_clear 0 = .ok (.aload_n 0, 1) := by decide +kernel
theorem dX10_clear_1 : decode cX10_clear 1 = .ok (.getfield 14, 3) := by decide +kernel
theorem dX10_clear_4 : decode cX10_clear 4 = .ok (.invokevirtual 41, 3) := by decide +kernel
theorem dX10_clear_7 : decode cX10_clear 7 = .ok (.aload_n 0, 1) := by decide +kernel
theorem dX10_clear_8 : decode cX10_clear 8 = .ok (.getfield 20, 3) := by decide +kernel
theorem dX10_clear_11 : decode cX10_clear 11 = .ok (.invokevirtual 41, 3) := by decide +kernel
theorem dX10_clear_14 : decode cX10_clear 14 = .ok (.aload_n 0, 1) := by decide +kernel
theorem dX10_clear_15 : decode cX10_clear 15 = .ok (.getfield 23, 3) := by decide +kernel
theorem dX10_clear_18 : decode cX10_clear 18 = .ok (.invokevirtual 41, 3) := by decide +kernel
theorem dX10_clear_21 : decode cX10_clear 21 = .ok (.aload_n 0, 1) := by decide +kernel
theorem dX10_clear_22 : decode cX10_clear 22 = .ok (.getfield 26, 3) := by decide +kernel
theorem dX10_clear_25 : decode cX10_clear 25 = .ok (.invokevirtual 41, 3) := by decide +kernel
theorem dX10_clear_28 : decode cX10_clear 28 = .ok (.aload_n 0, 1) := by decide +kernel
theorem dX10_clear_29 : decode cX10_clear 29 = .ok (.getfield 29, 3) := by decide +kernel
theorem dX10_clear_32 : decode cX10_clear 32 = .ok (.invokevirtual 41, 3) := by decide +kernel
theorem dX10_clear_35 : decode cX10_clear 35 = .ok (.aload_n 0, 1) := by decide +kernel
theorem dX10_clear_36 : decode cX10_clear 36 = .ok (.getfield 32, 3) := by decide +kernel
theorem dX10_clear_39 : decode cX10_clear 39 = .ok (.invokevirtual 41, 3) := by decide +kernel
theorem dX10_clear_42 : decode cX10_clear 42 = .ok (.return_, 1) := by decide +kernel
def mX10_clear (a0 : Nat) (I : iT) : Option (iT) := (mX4_clear (a0 + 1) I).bind fun q1 => (mX4_clear (a0 + 3) q1).bind fun q2 => (mX4_clear (a0 + 5) q2).bind fun q3 => (mX4_clear (a0 + 7) q3).bind fun q4 => (mX4_clear (a0 + 9) q4).bind fun q5 => (mX4_clear (a0 + 11) q5).bind fun q6 => some q6
set_option maxRecDepth 100000 in
set_option maxHeartbeats 4000000 in
theorem tX10_clear {l : Launch} {K : a_KT} {g : a_GT} {IB : iT} (hko : a_kok K) {a0 : Nat} (ha0 : isTypes a0) (I : iT) (J : jT) (F : fT) (hF : FK F) (q : iT) (hm : mX10_clear a0 I = some q) : C l K g 1 0 0 yX10_clear cX10_clear 1 none [.ref a0] (hg I IB J F) (fun r2 h2 => r2 = none ∧ h2 = hg q IB J F) := by
  unfold mX10_clear at hm
  refine c_of [.ref a0] (by decide) (Nat.le_of_ble_eq_true rfl) rfl ?_
  refine e_aload_n (i := 0) rfl dX10_clear_0 ?_
  refine q_getF 10 0 (a0 + 1) dX10_clear_1 fl_RX10_14 rfl (iz_ty ha0) (frt_0 hF.1 ha0) ?_
  obtain ⟨q1, eq1, hm⟩ := ob_some hm
  refine e_cV0 hko dX10_clear_4 ml_RX10_41 (iz_row (rwt_1 ha0)) (by decide) rfl (by omega) (Nat.le_of_ble_eq_true rfl) (tX4_clear hko (rwt_1 ha0) I J F hF _ eq1) ?_
  rintro _ _ ⟨rfl, rfl⟩
  refine e_aload_n (i := 0) rfl dX10_clear_7 ?_
  refine q_getF 10 1 (a0 + 3) dX10_clear_8 fl_RX10_20 rfl (iz_ty ha0) (frt_1 hF.1 ha0) ?_
  obtain ⟨q2, eq2, hm⟩ := ob_some hm
  refine e_cV0 hko dX10_clear_11 ml_RX10_41 (iz_row (rwt_3 ha0)) (by decide) rfl (by omega) (Nat.le_of_ble_eq_true rfl) (tX4_clear hko (rwt_3 ha0) q1 J F hF _ eq2) ?_
  rintro _ _ ⟨rfl, rfl⟩
  refine e_aload_n (i := 0) rfl dX10_clear_14 ?_
  refine q_getF 10 2 (a0 + 5) dX10_clear_15 fl_RX10_23 rfl (iz_ty ha0) (frt_2 hF.1 ha0) ?_
  obtain ⟨q3, eq3, hm⟩ := ob_some hm
  refine e_cV0 hko dX10_clear_18 ml_RX10_41 (iz_row (rwt_5 ha0)) (by decide) rfl (by omega) (Nat.le_of_ble_eq_true rfl) (tX4_clear hko (rwt_5 ha0) q2 J F hF _ eq3) ?_
  rintro _ _ ⟨rfl, rfl⟩
  refine e_aload_n (i := 0) rfl dX10_clear_21 ?_
  refine q_getF 10 3 (a0 + 7) dX10_clear_22 fl_RX10_26 rfl (iz_ty ha0) (frt_3 hF.1 ha0) ?_
  obtain ⟨q4, eq4, hm⟩ := ob_some hm
  refine e_cV0 hko dX10_clear_25 ml_RX10_41 (iz_row (rwt_7 ha0)) (by decide) rfl (by omega) (Nat.le_of_ble_eq_true rfl) (tX4_clear hko (rwt_7 ha0) q3 J F hF _ eq4) ?_
  rintro _ _ ⟨rfl, rfl⟩
  refine e_aload_n (i := 0) rfl dX10_clear_28 ?_
  refine q_getF 10 4 (a0 + 9) dX10_clear_29 fl_RX10_29 rfl (iz_ty ha0) (frt_4 hF.1 ha0) ?_
  obtain ⟨q5, eq5, hm⟩ := ob_some hm
  refine e_cV0 hko dX10_clear_32 ml_RX10_41 (iz_row (rwt_9 ha0)) (by decide) rfl (by omega) (Nat.le_of_ble_eq_true rfl) (tX4_clear hko (rwt_9 ha0) q4 J F hF _ eq5) ?_
  rintro _ _ ⟨rfl, rfl⟩
  refine e_aload_n (i := 0) rfl dX10_clear_35 ?_
  refine q_getF 10 5 (a0 + 11) dX10_clear_36 fl_RX10_32 rfl (iz_ty ha0) (frt_5 hF.1 ha0) ?_
  obtain ⟨q6, eq6, hm⟩ := ob_some hm
  refine e_cV0 hko dX10_clear_39 ml_RX10_41 (iz_row (rwt_11 ha0)) (by decide) rfl (by omega) (Nat.le_of_ble_eq_true rfl) (tX4_clear hko (rwt_11 ha0) q5 J F hF _ eq6) ?_
  rintro _ _ ⟨rfl, rfl⟩
  refine e_vret dX10_clear_42 rfl ?_
  have hm := some_in hm
  subst hm
  exact ⟨rfl, rfl⟩
theorem dX0_clear_0 : decode cX0_clear 0 = .ok (.aload_n 0, 1) := by decide +kernel
theorem dX0_clear_1 : decode cX0_clear 1 = .ok (.getfield 12, 3) := by decide +kernel
theorem dX0_clear_4 : decode cX0_clear 4 = .ok (.invokevirtual 79, 3) := by decide +kernel
theorem dX0_clear_7 : decode cX0_clear 7 = .ok (.aload_n 0, 1) := by decide +kernel
theorem dX0_clear_8 : decode cX0_clear 8 = .ok (.getfield 21, 3) := by decide +kernel
theorem dX0_clear_11 : decode cX0_clear 11 = .ok (.invokevirtual 82, 3) := by decide +kernel
theorem dX0_clear_14 : decode cX0_clear 14 = .ok (.aload_n 0, 1) := by decide +kernel
theorem dX0_clear_15 : decode cX0_clear 15 = .ok (.getfield 30, 3) := by decide +kernel
theorem dX0_clear_18 : decode cX0_clear 18 = .ok (.invokevirtual 83, 3) := by decide +kernel
theorem dX0_clear_21 : decode cX0_clear 21 = .ok (.aload_n 0, 1) := by decide +kernel
theorem dX0_clear_22 : decode cX0_clear 22 = .ok (.getfield 34, 3) := by decide +kernel
theorem dX0_clear_25 : decode cX0_clear 25 = .ok (.invokevirtual 83, 3) := by decide +kernel
theorem dX0_clear_28 : decode cX0_clear 28 = .ok (.aload_n 0, 1) := by decide +kernel
theorem dX0_clear_29 : decode cX0_clear 29 = .ok (.getfield 37, 3) := by decide +kernel
theorem dX0_clear_32 : decode cX0_clear 32 = .ok (.invokevirtual 83, 3) := by decide +kernel
theorem dX0_clear_35 : decode cX0_clear 35 = .ok (.aload_n 0, 1) := by decide +kernel
theorem dX0_clear_36 : decode cX0_clear 36 = .ok (.getfield 40, 3) := by decide +kernel
theorem dX0_clear_39 : decode cX0_clear 39 = .ok (.invokevirtual 83, 3) := by decide +kernel
theorem dX0_clear_42 : decode cX0_clear 42 = .ok (.aload_n 0, 1) := by decide +kernel
theorem dX0_clear_43 : decode cX0_clear 43 = .ok (.getfield 43, 3) := by decide +kernel
theorem dX0_clear_46 : decode cX0_clear 46 = .ok (.invokevirtual 83, 3) := by decide +kernel
theorem dX0_clear_49 : decode cX0_clear 49 = .ok (.aload_n 0, 1) := by decide +kernel
theorem dX0_clear_50 : decode cX0_clear 50 = .ok (.getfield 46, 3) := by decide +kernel
theorem dX0_clear_53 : decode cX0_clear 53 = .ok (.invokevirtual 83, 3) := by decide +kernel
theorem dX0_clear_56 : decode cX0_clear 56 = .ok (.aload_n 0, 1) := by decide +kernel
theorem dX0_clear_57 : decode cX0_clear 57 = .ok (.getfield 49, 3) := by decide +kernel
theorem dX0_clear_60 : decode cX0_clear 60 = .ok (.invokevirtual 83, 3) := by decide +kernel
theorem dX0_clear_63 : decode cX0_clear 63 = .ok (.aload_n 0, 1) := by decide +kernel
theorem dX0_clear_64 : decode cX0_clear 64 = .ok (.getfield 52, 3) := by decide +kernel
theorem dX0_clear_67 : decode cX0_clear 67 = .ok (.invokevirtual 83, 3) := by decide +kernel
theorem dX0_clear_70 : decode cX0_clear 70 = .ok (.aload_n 0, 1) := by decide +kernel
theorem dX0_clear_71 : decode cX0_clear 71 = .ok (.getfield 55, 3) := by decide +kernel
theorem dX0_clear_74 : decode cX0_clear 74 = .ok (.invokevirtual 83, 3) := by decide +kernel
theorem dX0_clear_77 : decode cX0_clear 77 = .ok (.aload_n 0, 1) := by decide +kernel
theorem dX0_clear_78 : decode cX0_clear 78 = .ok (.getfield 58, 3) := by decide +kernel
theorem dX0_clear_81 : decode cX0_clear 81 = .ok (.invokevirtual 83, 3) := by decide +kernel
theorem dX0_clear_84 : decode cX0_clear 84 = .ok (.aload_n 0, 1) := by decide +kernel
theorem dX0_clear_85 : decode cX0_clear 85 = .ok (.getfield 61, 3) := by decide +kernel
theorem dX0_clear_88 : decode cX0_clear 88 = .ok (.invokevirtual 83, 3) := by decide +kernel
theorem dX0_clear_91 : decode cX0_clear 91 = .ok (.aload_n 0, 1) := by decide +kernel
theorem dX0_clear_92 : decode cX0_clear 92 = .ok (.getfield 64, 3) := by decide +kernel
theorem dX0_clear_95 : decode cX0_clear 95 = .ok (.invokevirtual 83, 3) := by decide +kernel
theorem dX0_clear_98 : decode cX0_clear 98 = .ok (.aload_n 0, 1) := by decide +kernel
theorem dX0_clear_99 : decode cX0_clear 99 = .ok (.getfield 67, 3) := by decide +kernel
theorem dX0_clear_102 : decode cX0_clear 102 = .ok (.invokevirtual 83, 3) := by decide +kernel
theorem dX0_clear_105 : decode cX0_clear 105 = .ok (.aload_n 0, 1) := by decide +kernel
theorem dX0_clear_106 : decode cX0_clear 106 = .ok (.getfield 70, 3) := by decide +kernel
theorem dX0_clear_109 : decode cX0_clear 109 = .ok (.invokevirtual 83, 3) := by decide +kernel
theorem dX0_clear_112 : decode cX0_clear 112 = .ok (.aload_n 0, 1) := by decide +kernel
theorem dX0_clear_113 : decode cX0_clear 113 = .ok (.getfield 73, 3) := by decide +kernel
theorem dX0_clear_116 : decode cX0_clear 116 = .ok (.invokevirtual 83, 3) := by decide +kernel
theorem dX0_clear_119 : decode cX0_clear 119 = .ok (.aload_n 0, 1) := by decide +kernel
theorem dX0_clear_120 : decode cX0_clear 120 = .ok (.getfield 76, 3) := by decide +kernel
theorem dX0_clear_123 : decode cX0_clear 123 = .ok (.invokevirtual 83, 3) := by decide +kernel
theorem dX0_clear_126 : decode cX0_clear 126 = .ok (.return_, 1) := by decide +kernel
def mX0_clear (a0 : Nat) (I : iT) : Option (iT) := (mX10_clear (a0 + 1) I).bind fun q1 => (mX8_clear (a0 + 18) q1).bind fun q2 => (mX4_clear (a0 + 29) q2).bind fun q3 => (mX4_clear (a0 + 31) q3).bind fun q4 => (mX4_clear (a0 + 33) q4).bind fun q5 => (mX4_clear (a0 + 35) q5).bind fun q6 => (mX4_clear (a0 + 37) q6).bind fun q7 => (mX4_clear (a0 + 39) q7).bind fun q8 => (mX4_clear (a0 + 41) q8).bind fun q9 => (mX4_clear (a0 + 43) q9).bind fun q10 => (mX4_clear (a0 + 45) q10).bind fun q11 => (mX4_clear (a0 + 47) q11).bind fun q12 => (mX4_clear (a0 + 49) q12).bind fun q13 => (mX4_clear (a0 + 51) q13).bind fun q14 => (mX4_clear (a0 + 53) q14).bind fun q15 => (mX4_clear (a0 + 55) q15).bind fun q16 => (mX4_clear (a0 + 57) q16).bind fun q17 => (mX4_clear (a0 + 59) q17).bind fun q18 => some q18
set_option maxRecDepth 100000 in
set_option maxHeartbeats 4000000 in
theorem tX0_clear {l : Launch} {K : a_KT} {g : a_GT} {IB : iT} (hko : a_kok K) {a0 : Nat} (ha0 : isBook a0) (I : iT) (J : jT) (F : fT) (hF : FK F) (q : iT) (hm : mX0_clear a0 I = some q) : C l K g 2 0 0 yX0_clear cX0_clear 1 none [.ref a0] (hg I IB J F) (fun r2 h2 => r2 = none ∧ h2 = hg q IB J F) := by
  unfold mX0_clear at hm
  refine c_of [.ref a0] (by decide) (Nat.le_of_ble_eq_true rfl) rfl ?_
  refine e_aload_n (i := 0) rfl dX0_clear_0 ?_
  refine q_getF 0 0 (a0 + 1) dX0_clear_1 fl_RX0_12 rfl (iz_bk ha0) (frb_0 hF.1 ha0) ?_
  obtain ⟨q1, eq1, hm⟩ := ob_some hm
  refine e_cV0 hko dX0_clear_4 ml_RX0_79 (iz_ty (bk_ty ha0)) (by decide) rfl (by omega) (Nat.le_of_ble_eq_true rfl) (tX10_clear hko (bk_ty ha0) I J F hF _ eq1) ?_
  rintro _ _ ⟨rfl, rfl⟩
  refine e_aload_n (i := 0) rfl dX0_clear_7 ?_
  refine q_getF 0 1 (a0 + 18) dX0_clear_8 fl_RX0_21 rfl (iz_bk ha0) (frb_1 hF.1 ha0) ?_
  obtain ⟨q2, eq2, hm⟩ := ob_some hm
  refine e_cV0 hko dX0_clear_11 ml_RX0_82 (iz_su (bk_su ha0)) (by decide) rfl (by omega) (Nat.le_of_ble_eq_true rfl) (tX8_clear hko (bk_su ha0) q1 J F hF _ eq2) ?_
  rintro _ _ ⟨rfl, rfl⟩
  refine e_aload_n (i := 0) rfl dX0_clear_14 ?_
  refine q_getF 0 2 (a0 + 29) dX0_clear_15 fl_RX0_30 rfl (iz_bk ha0) (frb_2 hF.1 ha0) ?_
  obtain ⟨q3, eq3, hm⟩ := ob_some hm
  refine e_cV0 hko dX0_clear_18 ml_RX0_83 (iz_row (rwb_29 ha0)) (by decide) rfl (by omega) (Nat.le_of_ble_eq_true rfl) (tX4_clear hko (rwb_29 ha0) q2 J F hF _ eq3) ?_
  rintro _ _ ⟨rfl, rfl⟩
  refine e_aload_n (i := 0) rfl dX0_clear_21 ?_
  refine q_getF 0 3 (a0 + 31) dX0_clear_22 fl_RX0_34 rfl (iz_bk ha0) (frb_3 hF.1 ha0) ?_
  obtain ⟨q4, eq4, hm⟩ := ob_some hm
  refine e_cV0 hko dX0_clear_25 ml_RX0_83 (iz_row (rwb_31 ha0)) (by decide) rfl (by omega) (Nat.le_of_ble_eq_true rfl) (tX4_clear hko (rwb_31 ha0) q3 J F hF _ eq4) ?_
  rintro _ _ ⟨rfl, rfl⟩
  refine e_aload_n (i := 0) rfl dX0_clear_28 ?_
  refine q_getF 0 4 (a0 + 33) dX0_clear_29 fl_RX0_37 rfl (iz_bk ha0) (frb_4 hF.1 ha0) ?_
  obtain ⟨q5, eq5, hm⟩ := ob_some hm
  refine e_cV0 hko dX0_clear_32 ml_RX0_83 (iz_row (rwb_33 ha0)) (by decide) rfl (by omega) (Nat.le_of_ble_eq_true rfl) (tX4_clear hko (rwb_33 ha0) q4 J F hF _ eq5) ?_
  rintro _ _ ⟨rfl, rfl⟩
  refine e_aload_n (i := 0) rfl dX0_clear_35 ?_
  refine q_getF 0 5 (a0 + 35) dX0_clear_36 fl_RX0_40 rfl (iz_bk ha0) (frb_5 hF.1 ha0) ?_
  obtain ⟨q6, eq6, hm⟩ := ob_some hm
  refine e_cV0 hko dX0_clear_39 ml_RX0_83 (iz_row (rwb_35 ha0)) (by decide) rfl (by omega) (Nat.le_of_ble_eq_true rfl) (tX4_clear hko (rwb_35 ha0) q5 J F hF _ eq6) ?_
  rintro _ _ ⟨rfl, rfl⟩
  refine e_aload_n (i := 0) rfl dX0_clear_42 ?_
  refine q_getF 0 6 (a0 + 37) dX0_clear_43 fl_RX0_43 rfl (iz_bk ha0) (frb_6 hF.1 ha0) ?_
  obtain ⟨q7, eq7, hm⟩ := ob_some hm
  refine e_cV0 hko dX0_clear_46 ml_RX0_83 (iz_row (rwb_37 ha0)) (by decide) rfl (by omega) (Nat.le_of_ble_eq_true rfl) (tX4_clear hko (rwb_37 ha0) q6 J F hF _ eq7) ?_
  rintro _ _ ⟨rfl, rfl⟩
  refine e_aload_n (i := 0) rfl dX0_clear_49 ?_
  refine q_getF 0 7 (a0 + 39) dX0_clear_50 fl_RX0_46 rfl (iz_bk ha0) (frb_7 hF.1 ha0) ?_
  obtain ⟨q8, eq8, hm⟩ := ob_some hm
  refine e_cV0 hko dX0_clear_53 ml_RX0_83 (iz_row (rwb_39 ha0)) (by decide) rfl (by omega) (Nat.le_of_ble_eq_true rfl) (tX4_clear hko (rwb_39 ha0) q7 J F hF _ eq8) ?_
  rintro _ _ ⟨rfl, rfl⟩
  refine e_aload_n (i := 0) rfl dX0_clear_56 ?_
  refine q_getF 0 8 (a0 + 41) dX0_clear_57 fl_RX0_49 rfl (iz_bk ha0) (frb_8 hF.1 ha0) ?_
  obtain ⟨q9, eq9, hm⟩ := ob_some hm
  refine e_cV0 hko dX0_clear_60 ml_RX0_83 (iz_row (rwb_41 ha0)) (by decide) rfl (by omega) (Nat.le_of_ble_eq_true rfl) (tX4_clear hko (rwb_41 ha0) q8 J F hF _ eq9) ?_
  rintro _ _ ⟨rfl, rfl⟩
  refine e_aload_n (i := 0) rfl dX0_clear_63 ?_
  refine q_getF 0 9 (a0 + 43) dX0_clear_64 fl_RX0_52 rfl (iz_bk ha0) (frb_9 hF.1 ha0) ?_
  obtain ⟨q10, eq10, hm⟩ := ob_some hm
  refine e_cV0 hko dX0_clear_67 ml_RX0_83 (iz_row (rwb_43 ha0)) (by decide) rfl (by omega) (Nat.le_of_ble_eq_true rfl) (tX4_clear hko (rwb_43 ha0) q9 J F hF _ eq10) ?_
  rintro _ _ ⟨rfl, rfl⟩
  refine e_aload_n (i := 0) rfl dX0_clear_70 ?_
  refine q_getF 0 10 (a0 + 45) dX0_clear_71 fl_RX0_55 rfl (iz_bk ha0) (frb_10 hF.1 ha0) ?_
  obtain ⟨q11, eq11, hm⟩ := ob_some hm
  refine e_cV0 hko dX0_clear_74 ml_RX0_83 (iz_row (rwb_45 ha0)) (by decide) rfl (by omega) (Nat.le_of_ble_eq_true rfl) (tX4_clear hko (rwb_45 ha0) q10 J F hF _ eq11) ?_
  rintro _ _ ⟨rfl, rfl⟩
  refine e_aload_n (i := 0) rfl dX0_clear_77 ?_
  refine q_getF 0 11 (a0 + 47) dX0_clear_78 fl_RX0_58 rfl (iz_bk ha0) (frb_11 hF.1 ha0) ?_
  obtain ⟨q12, eq12, hm⟩ := ob_some hm
  refine e_cV0 hko dX0_clear_81 ml_RX0_83 (iz_row (rwb_47 ha0)) (by decide) rfl (by omega) (Nat.le_of_ble_eq_true rfl) (tX4_clear hko (rwb_47 ha0) q11 J F hF _ eq12) ?_
  rintro _ _ ⟨rfl, rfl⟩
  refine e_aload_n (i := 0) rfl dX0_clear_84 ?_
  refine q_getF 0 12 (a0 + 49) dX0_clear_85 fl_RX0_61 rfl (iz_bk ha0) (frb_12 hF.1 ha0) ?_
  obtain ⟨q13, eq13, hm⟩ := ob_some hm
  refine e_cV0 hko dX0_clear_88 ml_RX0_83 (iz_row (rwb_49 ha0)) (by decide) rfl (by omega) (Nat.le_of_ble_eq_true rfl) (tX4_clear hko (rwb_49 ha0) q12 J F hF _ eq13) ?_
  rintro _ _ ⟨rfl, rfl⟩
  refine e_aload_n (i := 0) rfl dX0_clear_91 ?_
  refine q_getF 0 13 (a0 + 51) dX0_clear_92 fl_RX0_64 rfl (iz_bk ha0) (frb_13 hF.1 ha0) ?_
  obtain ⟨q14, eq14, hm⟩ := ob_some hm
  refine e_cV0 hko dX0_clear_95 ml_RX0_83 (iz_row (rwb_51 ha0)) (by decide) rfl (by omega) (Nat.le_of_ble_eq_true rfl) (tX4_clear hko (rwb_51 ha0) q13 J F hF _ eq14) ?_
  rintro _ _ ⟨rfl, rfl⟩
  refine e_aload_n (i := 0) rfl dX0_clear_98 ?_
  refine q_getF 0 14 (a0 + 53) dX0_clear_99 fl_RX0_67 rfl (iz_bk ha0) (frb_14 hF.1 ha0) ?_
  obtain ⟨q15, eq15, hm⟩ := ob_some hm
  refine e_cV0 hko dX0_clear_102 ml_RX0_83 (iz_row (rwb_53 ha0)) (by decide) rfl (by omega) (Nat.le_of_ble_eq_true rfl) (tX4_clear hko (rwb_53 ha0) q14 J F hF _ eq15) ?_
  rintro _ _ ⟨rfl, rfl⟩
  refine e_aload_n (i := 0) rfl dX0_clear_105 ?_
  refine q_getF 0 15 (a0 + 55) dX0_clear_106 fl_RX0_70 rfl (iz_bk ha0) (frb_15 hF.1 ha0) ?_
  obtain ⟨q16, eq16, hm⟩ := ob_some hm
  refine e_cV0 hko dX0_clear_109 ml_RX0_83 (iz_row (rwb_55 ha0)) (by decide) rfl (by omega) (Nat.le_of_ble_eq_true rfl) (tX4_clear hko (rwb_55 ha0) q15 J F hF _ eq16) ?_
  rintro _ _ ⟨rfl, rfl⟩
  refine e_aload_n (i := 0) rfl dX0_clear_112 ?_
  refine q_getF 0 16 (a0 + 57) dX0_clear_113 fl_RX0_73 rfl (iz_bk ha0) (frb_16 hF.1 ha0) ?_
  obtain ⟨q17, eq17, hm⟩ := ob_some hm
  refine e_cV0 hko dX0_clear_116 ml_RX0_83 (iz_row (rwb_57 ha0)) (by decide) rfl (by omega) (Nat.le_of_ble_eq_true rfl) (tX4_clear hko (rwb_57 ha0) q16 J F hF _ eq17) ?_
  rintro _ _ ⟨rfl, rfl⟩
  refine e_aload_n (i := 0) rfl dX0_clear_119 ?_
  refine q_getF 0 17 (a0 + 59) dX0_clear_120 fl_RX0_76 rfl (iz_bk ha0) (frb_17 hF.1 ha0) ?_
  obtain ⟨q18, eq18, hm⟩ := ob_some hm
  refine e_cV0 hko dX0_clear_123 ml_RX0_83 (iz_row (rwb_59 ha0)) (by decide) rfl (by omega) (Nat.le_of_ble_eq_true rfl) (tX4_clear hko (rwb_59 ha0) q17 J F hF _ eq18) ?_
  rintro _ _ ⟨rfl, rfl⟩
  refine e_vret dX0_clear_126 rfl ?_
  have hm := some_in hm
  subst hm
  exact ⟨rfl, rfl⟩
theorem dX0_isDef_0 : decode cX0_isDef 0 = .ok (.iload_n 1, 1) := by decide +kernel
theorem dX0_isDef_1 : decode cX0_isDef 1 = .ok (.ifCond .lt 18, 3) := by decide +kernel
theorem dX0_isDef_4 : decode cX0_isDef 4 = .ok (.iload_n 1, 1) := by decide +kernel
theorem dX0_isDef_5 : decode cX0_isDef 5 = .ok (.aload_n 0, 1) := by decide +kernel
theorem dX0_isDef_6 : decode cX0_isDef 6 = .ok (.getfield 37, 3) := by decide +kernel
theorem dX0_isDef_9 : decode cX0_isDef 9 = .ok (.invokevirtual 84, 3) := by decide +kernel
theorem dX0_isDef_12 : decode cX0_isDef 12 = .ok (.if_icmp .ge 7, 3) := by decide +kernel
theorem dX0_isDef_15 : decode cX0_isDef 15 = .ok (.iconst 1, 1) := by decide +kernel
theorem dX0_isDef_16 : decode cX0_isDef 16 = .ok (.goto 4, 3) := by decide +kernel
theorem dX0_isDef_19 : decode cX0_isDef 19 = .ok (.iconst 0, 1) := by decide +kernel
theorem dX0_isDef_20 : decode cX0_isDef 20 = .ok (.ireturn, 1) := by decide +kernel
def mX0_isDef (a0 : Nat) (I : iT) (x1 : Int32) : Option (Int32) := if x1 < 0 then some 0 else (mX4_size (a0 + 33) I).bind fun q1 => if q1 ≤ x1 then some 0 else some 1
set_option maxRecDepth 100000 in
set_option maxHeartbeats 4000000 in
theorem tX0_isDef {l : Launch} {K : a_KT} {g : a_GT} {IB : iT} (hko : a_kok K) {a0 : Nat} (ha0 : isBook a0) (I : iT) (J : jT) (F : fT) (hF : FK F) (x1 : Int32) (q : Int32) (hm : mX0_isDef a0 I x1 = some q) : C l K g 1 0 0 yX0_isDef cX0_isDef 2 (some .boolean) [.ref a0, .int x1] (hg I IB J F) (fun r2 h2 => r2 = some (.int q) ∧ h2 = hg I IB J F) := by
  unfold mX0_isDef at hm
  refine c_of [.ref a0, .int x1] (by decide) (Nat.le_of_ble_eq_true rfl) rfl ?_
  refine e_iload_n (i := 1) rfl dX0_isDef_0 ?_
  refine e_if_lt 19 dX0_isDef_1 (by decide) (fun c_1 => ?_) (fun c_1 => ?_)
  · have hm := it_p c_1 hm
    refine e_iconst (v := 0) (by decide) dX0_isDef_19 ?_
    refine e_zret dX0_isDef_20 rfl rfl ?_
    have hm := some_in hm
    subst hm
    exact ⟨rfl, rfl⟩
  · have hm := it_n c_1 hm
    refine e_iload_n (i := 1) rfl dX0_isDef_4 ?_
    refine e_aload_n (i := 0) rfl dX0_isDef_5 ?_
    refine q_getF 0 4 (a0 + 33) dX0_isDef_6 fl_RX0_37 rfl (iz_bk ha0) (frb_4 hF.1 ha0) ?_
    obtain ⟨q1, eq1, hm⟩ := ob_some hm
    refine e_cV0 hko dX0_isDef_9 ml_RX0_84 (iz_row (rwb_33 ha0)) (by decide) rfl (by omega) (Nat.le_of_ble_eq_true rfl) (tX4_size hko (rwb_33 ha0) I J F hF _ eq1) ?_
    rintro _ _ ⟨rfl, rfl⟩
    refine e_icmp_ge 19 dX0_isDef_12 (by decide) (fun c_12 => ?_) (fun c_12 => ?_)
    · have hm := it_p c_12 hm
      refine e_iconst (v := 0) (by decide) dX0_isDef_19 ?_
      refine e_zret dX0_isDef_20 rfl rfl ?_
      have hm := some_in hm
      subst hm
      exact ⟨rfl, rfl⟩
    · have hm := it_n c_12 hm
      refine e_iconst (v := 1) (by decide) dX0_isDef_15 ?_
      refine e_goto 20 dX0_isDef_16 (by decide) ?_
      refine e_zret dX0_isDef_20 rfl rfl ?_
      have hm := some_in hm
      subst hm
      exact ⟨rfl, rfl⟩
theorem dX10_addT_0 : decode cX10_addT 0 = .ok (.aload_n 0, 1) := by decide +kernel
theorem dX10_addT_1 : decode cX10_addT 1 = .ok (.getfield 20, 3) := by decide +kernel
theorem dX10_addT_4 : decode cX10_addT 4 = .ok (.iload_n 2, 1) := by decide +kernel
theorem dX10_addT_5 : decode cX10_addT 5 = .ok (.invokevirtual 60, 3) := by decide +kernel
theorem dX10_addT_8 : decode cX10_addT 8 = .ok (.pop, 1) := by decide +kernel
theorem dX10_addT_9 : decode cX10_addT 9 = .ok (.aload_n 0, 1) := by decide +kernel
theorem dX10_addT_10 : decode cX10_addT 10 = .ok (.getfield 23, 3) := by decide +kernel
theorem dX10_addT_13 : decode cX10_addT 13 = .ok (.iload_n 3, 1) := by decide +kernel
theorem dX10_addT_14 : decode cX10_addT 14 = .ok (.invokevirtual 60, 3) := by decide +kernel
theorem dX10_addT_17 : decode cX10_addT 17 = .ok (.pop, 1) := by decide +kernel
theorem dX10_addT_18 : decode cX10_addT 18 = .ok (.aload_n 0, 1) := by decide +kernel
theorem dX10_addT_19 : decode cX10_addT 19 = .ok (.getfield 26, 3) := by decide +kernel
theorem dX10_addT_22 : decode cX10_addT 22 = .ok (.iload 4, 2) := by decide +kernel
theorem dX10_addT_24 : decode cX10_addT 24 = .ok (.invokevirtual 60, 3) := by decide +kernel
theorem dX10_addT_27 : decode cX10_addT 27 = .ok (.pop, 1) := by decide +kernel
theorem dX10_addT_28 : decode cX10_addT 28 = .ok (.aload_n 0, 1) := by decide +kernel
theorem dX10_addT_29 : decode cX10_addT 29 = .ok (.getfield 14, 3) := by decide +kernel
theorem dX10_addT_32 : decode cX10_addT 32 = .ok (.iload_n 1, 1) := by decide +kernel
theorem dX10_addT_33 : decode cX10_addT 33 = .ok (.invokevirtual 60, 3) := by decide +kernel
theorem dX10_addT_36 : decode cX10_addT 36 = .ok (.ireturn, 1) := by decide +kernel
def mX10_addT (a0 : Nat) (I : iT) (x1 : Int32) (x2 : Int32) (x3 : Int32) (x4 : Int32) : Option (Int32 × iT) := (mX4_add (a0 + 3) I x2).bind fun q1 => (mX4_add (a0 + 5) q1.2 x3).bind fun q2 => (mX4_add (a0 + 7) q2.2 x4).bind fun q3 => (mX4_add (a0 + 1) q3.2 x1).bind fun q4 => some (q4.1, q4.2)
set_option maxRecDepth 100000 in
set_option maxHeartbeats 4000000 in
theorem tX10_addT {l : Launch} {K : a_KT} {g : a_GT} {IB : iT} (hko : a_kok K) {a0 : Nat} (ha0 : isTypes a0) (I : iT) (J : jT) (F : fT) (hF : FK F) (x1 : Int32) (x2 : Int32) (x3 : Int32) (x4 : Int32) (q : Int32 × iT) (hm : mX10_addT a0 I x1 x2 x3 x4 = some q) : C l K g 1 0 0 yX10_addT cX10_addT 5 (some .int) [.ref a0, .int x1, .int x2, .int x3, .int x4] (hg I IB J F) (fun r2 h2 => r2 = some (.int q.1) ∧ h2 = hg q.2 IB J F) := by
  unfold mX10_addT at hm
  refine c_of [.ref a0, .int x1, .int x2, .int x3, .int x4] (by decide) (Nat.le_of_ble_eq_true rfl) rfl ?_
  refine e_aload_n (i := 0) rfl dX10_addT_0 ?_
  refine q_getF 10 1 (a0 + 3) dX10_addT_1 fl_RX10_20 rfl (iz_ty ha0) (frt_1 hF.1 ha0) ?_
  refine e_iload_n (i := 2) rfl dX10_addT_4 ?_
  obtain ⟨q1, eq1, hm⟩ := ob_some hm
  refine e_cV1 hko dX10_addT_5 ml_RX10_60 (iz_row (rwt_3 ha0)) (by decide) rfl (by omega) (Nat.le_of_ble_eq_true rfl) (tX4_add hko (rwt_3 ha0) I J F hF x2 _ eq1) ?_
  rintro _ _ ⟨rfl, rfl⟩
  refine e_pop rfl dX10_addT_8 ?_
  refine e_aload_n (i := 0) rfl dX10_addT_9 ?_
  refine q_getF 10 2 (a0 + 5) dX10_addT_10 fl_RX10_23 rfl (iz_ty ha0) (frt_2 hF.1 ha0) ?_
  refine e_iload_n (i := 3) rfl dX10_addT_13 ?_
  obtain ⟨q2, eq2, hm⟩ := ob_some hm
  refine e_cV1 hko dX10_addT_14 ml_RX10_60 (iz_row (rwt_5 ha0)) (by decide) rfl (by omega) (Nat.le_of_ble_eq_true rfl) (tX4_add hko (rwt_5 ha0) q1.2 J F hF x3 _ eq2) ?_
  rintro _ _ ⟨rfl, rfl⟩
  refine e_pop rfl dX10_addT_17 ?_
  refine e_aload_n (i := 0) rfl dX10_addT_18 ?_
  refine q_getF 10 3 (a0 + 7) dX10_addT_19 fl_RX10_26 rfl (iz_ty ha0) (frt_3 hF.1 ha0) ?_
  refine e_iload (i := 4) rfl dX10_addT_22 ?_
  obtain ⟨q3, eq3, hm⟩ := ob_some hm
  refine e_cV1 hko dX10_addT_24 ml_RX10_60 (iz_row (rwt_7 ha0)) (by decide) rfl (by omega) (Nat.le_of_ble_eq_true rfl) (tX4_add hko (rwt_7 ha0) q2.2 J F hF x4 _ eq3) ?_
  rintro _ _ ⟨rfl, rfl⟩
  refine e_pop rfl dX10_addT_27 ?_
  refine e_aload_n (i := 0) rfl dX10_addT_28 ?_
  refine q_getF 10 0 (a0 + 1) dX10_addT_29 fl_RX10_14 rfl (iz_ty ha0) (frt_0 hF.1 ha0) ?_
  refine e_iload_n (i := 1) rfl dX10_addT_32 ?_
  obtain ⟨q4, eq4, hm⟩ := ob_some hm
  refine e_cV1 hko dX10_addT_33 ml_RX10_60 (iz_row (rwt_1 ha0)) (by decide) rfl (by omega) (Nat.le_of_ble_eq_true rfl) (tX4_add hko (rwt_1 ha0) q3.2 J F hF x1 _ eq4) ?_
  rintro _ _ ⟨rfl, rfl⟩
  refine e_iret dX10_addT_36 rfl ?_
  have hm := some_in hm
  subst hm
  exact ⟨rfl, rfl⟩
theorem dX10_branchT_0 : decode cX10_branchT 0 = .ok (.aload_n 0, 1) := by decide +kernel
theorem dX10_branchT_1 : decode cX10_branchT 1 = .ok (.getfield 32, 3) := by decide +kernel
theorem dX10_branchT_4 : decode cX10_branchT 4 = .ok (.aload_n 0, 1) := by decide +kernel
theorem dX10_branchT_5 : decode cX10_branchT 5 = .ok (.getfield 20, 3) := by decide +kernel
theorem dX10_branchT_8 : decode cX10_branchT 8 = .ok (.iload_n 1, 1) := by decide +kernel
theorem dX10_branchT_9 : decode cX10_branchT 9 = .ok (.invokevirtual 48, 3) := by decide +kernel
theorem dX10_branchT_12 : decode cX10_branchT 12 = .ok (.iload_n 2, 1) := by decide +kernel
theorem dX10_branchT_13 : decode cX10_branchT 13 = .ok (.iadd, 1) := by decide +kernel
theorem dX10_branchT_14 : decode cX10_branchT 14 = .ok (.invokevirtual 48, 3) := by decide +kernel
theorem dX10_branchT_17 : decode cX10_branchT 17 = .ok (.ireturn, 1) := by decide +kernel
def mX10_branchT (a0 : Nat) (I : iT) (x1 : Int32) (x2 : Int32) : Option (Int32) := (mX4_at (a0 + 3) I x1).bind fun q1 => (mX4_at (a0 + 11) I (q1 + x2)).bind fun q2 => some q2
set_option maxRecDepth 100000 in
set_option maxHeartbeats 4000000 in
theorem tX10_branchT {l : Launch} {K : a_KT} {g : a_GT} {IB : iT} (hko : a_kok K) {a0 : Nat} (ha0 : isTypes a0) (I : iT) (J : jT) (F : fT) (hF : FK F) (x1 : Int32) (x2 : Int32) (q : Int32) (hm : mX10_branchT a0 I x1 x2 = some q) : C l K g 1 0 0 yX10_branchT cX10_branchT 3 (some .int) [.ref a0, .int x1, .int x2] (hg I IB J F) (fun r2 h2 => r2 = some (.int q) ∧ h2 = hg I IB J F) := by
  unfold mX10_branchT at hm
  refine c_of [.ref a0, .int x1, .int x2] (by decide) (Nat.le_of_ble_eq_true rfl) rfl ?_
  refine e_aload_n (i := 0) rfl dX10_branchT_0 ?_
  refine q_getF 10 5 (a0 + 11) dX10_branchT_1 fl_RX10_32 rfl (iz_ty ha0) (frt_5 hF.1 ha0) ?_
  refine e_aload_n (i := 0) rfl dX10_branchT_4 ?_
  refine q_getF 10 1 (a0 + 3) dX10_branchT_5 fl_RX10_20 rfl (iz_ty ha0) (frt_1 hF.1 ha0) ?_
  refine e_iload_n (i := 1) rfl dX10_branchT_8 ?_
  obtain ⟨q1, eq1, hm⟩ := ob_some hm
  refine e_cV1 hko dX10_branchT_9 ml_RX10_48 (iz_row (rwt_3 ha0)) (by decide) rfl (by omega) (Nat.le_of_ble_eq_true rfl) (tX4_at hko (rwt_3 ha0) I J F hF x1 _ eq1) ?_
  rintro _ _ ⟨rfl, rfl⟩
  refine e_iload_n (i := 2) rfl dX10_branchT_12 ?_
  refine e_iadd dX10_branchT_13 ?_
  obtain ⟨q2, eq2, hm⟩ := ob_some hm
  refine e_cV1 hko dX10_branchT_14 ml_RX10_48 (iz_row (rwt_11 ha0)) (by decide) rfl (by omega) (Nat.le_of_ble_eq_true rfl) (tX4_at hko (rwt_11 ha0) I J F hF (q1 + x2) _ eq2) ?_
  rintro _ _ ⟨rfl, rfl⟩
  refine e_iret dX10_branchT_17 rfl ?_
  have hm := some_in hm
  subst hm
  exact ⟨rfl, rfl⟩
theorem dX10_findBranch_0 : decode cX10_findBranch 0 = .ok (.iconst 0, 1) := by decide +kernel
theorem dX10_findBranch_1 : decode cX10_findBranch 1 = .ok (.istore_n 3, 1) := by decide +kernel
theorem dX10_findBranch_2 : decode cX10_findBranch 2 = .ok (.iload_n 3, 1) := by decide +kernel
theorem dX10_findBranch_3 : decode cX10_findBranch 3 = .ok (.aload_n 0, 1) := by decide +kernel
theorem dX10_findBranch_4 : decode cX10_findBranch 4 = .ok (.iload_n 1, 1) := by decide +kernel
theorem dX10_findBranch_5 : decode cX10_findBranch 5 = .ok (.invokevirtual 67, 3) := by decide +kernel
theorem dX10_findBranch_8 : decode cX10_findBranch 8 = .ok (.if_icmp .ge 21, 3) := by decide +kernel
theorem dX10_findBranch_11 : decode cX10_findBranch 11 = .ok (.aload_n 0, 1) := by decide +kernel
theorem dX10_findBranch_12 : decode cX10_findBranch 12 = .ok (.iload_n 1, 1) := by decide +kernel
theorem dX10_findBranch_13 : decode cX10_findBranch 13 = .ok (.iload_n 3, 1) := by decide +kernel
theorem dX10_findBranch_14 : decode cX10_findBranch 14 = .ok (.invokevirtual 70, 3) := by decide +kernel
theorem dX10_findBranch_17 : decode cX10_findBranch 17 = .ok (.iload_n 2, 1) := by decide +kernel
theorem dX10_findBranch_18 : decode cX10_findBranch 18 = .ok (.if_icmp .ne 5, 3) := by decide +kernel
theorem dX10_findBranch_21 : decode cX10_findBranch 21 = .ok (.iload_n 3, 1) := by decide +kernel
theorem dX10_findBranch_22 : decode cX10_findBranch 22 = .ok (.ireturn, 1) := by decide +kernel
theorem dX10_findBranch_23 : decode cX10_findBranch 23 = .ok (.iinc 3 1, 3) := by decide +kernel
theorem dX10_findBranch_26 : decode cX10_findBranch 26 = .ok (.goto (-24), 3) := by decide +kernel
theorem dX10_findBranch_29 : decode cX10_findBranch 29 = .ok (.iconst (-1), 1) := by decide +kernel
theorem dX10_findBranch_30 : decode cX10_findBranch 30 = .ok (.ireturn, 1) := by decide +kernel
def mX10_findBranch_2 (a0 : Nat) : Nat → iT → Int32 → Int32 → Int32 → Option (Int32)
  | 0, _, _, _, _ => none
  | n + 1, I, x1, x2, x3 => (mX10_branches a0 I x1).bind fun q1 => if q1 ≤ x3 then some ((-1)) else (mX10_branchName a0 I x1 x3).bind fun q2 => if q2 = x2 then some x3 else mX10_findBranch_2 a0 n I x1 x2 (x3 + 1)
def mX10_findBranch (a0 : Nat) (I : iT) (x1 : Int32) (x2 : Int32) : Option (Int32) := mX10_findBranch_2 a0 LF I x1 x2 0
set_option maxRecDepth 100000 in
set_option maxHeartbeats 4000000 in
theorem tX10_findBranch_2 {l : Launch} {K : a_KT} {g : a_GT} {IB : iT} (hko : a_kok K) {a0 : Nat} (ha0 : isTypes a0) {J : jT} {F : fT} : ∀ (n : Nat) (I : iT) (x1 : Int32) (x2 : Int32) (x3 : Int32) (hF : FK F) (q : Int32), mX10_findBranch_2 a0 n I x1 x2 x3 = some q → E l K g 2 0 0 yX10_findBranch cX10_findBranch 4 (some .int) 2 [.ref a0, .int x1, .int x2, .int x3] [] (hg I IB J F) (fun r2 h2 => r2 = some (.int q) ∧ h2 = hg I IB J F) := by
  intro n
  induction n with
  | zero => intro I x1 x2 x3 hF q hm; cases hm
  | succ n ih =>
    intro I x1 x2 x3 hF q hm
    rw [mX10_findBranch_2] at hm
    refine e_iload_n (i := 3) rfl dX10_findBranch_2 ?_
    refine e_aload_n (i := 0) rfl dX10_findBranch_3 ?_
    refine e_iload_n (i := 1) rfl dX10_findBranch_4 ?_
    obtain ⟨q1, eq1, hm⟩ := ob_some hm
    refine e_cV1 hko dX10_findBranch_5 ml_RX10_67 (iz_ty ha0) (by decide) rfl (by omega) (Nat.le_of_ble_eq_true rfl) (tX10_branches hko ha0 I J F hF x1 _ eq1) ?_
    rintro _ _ ⟨rfl, rfl⟩
    refine e_icmp_ge 29 dX10_findBranch_8 (by decide) (fun c_8 => ?_) (fun c_8 => ?_)
    · have hm := it_p c_8 hm
      refine e_iconst (v := (-1)) (by decide) dX10_findBranch_29 ?_
      refine e_iret dX10_findBranch_30 rfl ?_
      have hm := some_in hm
      subst hm
      exact ⟨rfl, rfl⟩
    · have hm := it_n c_8 hm
      refine e_aload_n (i := 0) rfl dX10_findBranch_11 ?_
      refine e_iload_n (i := 1) rfl dX10_findBranch_12 ?_
      refine e_iload_n (i := 3) rfl dX10_findBranch_13 ?_
      obtain ⟨q2, eq2, hm⟩ := ob_some hm
      refine e_cV2 hko dX10_findBranch_14 ml_RX10_70 (iz_ty ha0) (by decide) rfl (by omega) (Nat.le_of_ble_eq_true rfl) (tX10_branchName hko ha0 I J F hF x1 x3 _ eq2) ?_
      rintro _ _ ⟨rfl, rfl⟩
      refine e_iload_n (i := 2) rfl dX10_findBranch_17 ?_
      refine e_icmp_ne 23 dX10_findBranch_18 (by decide) (fun c_18 => ?_) (fun c_18 => ?_)
      · have hm := it_n c_18 hm
        refine q_iinc (i := 3) (x3 + 1) rfl ic_1 rfl dX10_findBranch_23 ?_
        refine e_goto 2 dX10_findBranch_26 (by decide) ?_
        refine e_weak [.ref a0, .int x1, .int x2, .int (x3 + 1)] ⟨rfl, ⟨rfl, ⟨rfl, ⟨rfl, trivial⟩⟩⟩⟩ ?_
        exact ih I x1 x2 (x3 + 1) hF _ hm
      · have hm := it_p c_18 hm
        refine e_iload_n (i := 3) rfl dX10_findBranch_21 ?_
        refine e_iret dX10_findBranch_22 rfl ?_
        have hm := some_in hm
        subst hm
        exact ⟨rfl, rfl⟩
set_option maxRecDepth 100000 in
set_option maxHeartbeats 4000000 in
theorem tX10_findBranch {l : Launch} {K : a_KT} {g : a_GT} {IB : iT} (hko : a_kok K) {a0 : Nat} (ha0 : isTypes a0) (I : iT) (J : jT) (F : fT) (hF : FK F) (x1 : Int32) (x2 : Int32) (q : Int32) (hm : mX10_findBranch a0 I x1 x2 = some q) : C l K g 2 0 0 yX10_findBranch cX10_findBranch 4 (some .int) [.ref a0, .int x1, .int x2] (hg I IB J F) (fun r2 h2 => r2 = some (.int q) ∧ h2 = hg I IB J F) := by
  unfold mX10_findBranch at hm
  refine c_of [.ref a0, .int x1, .int x2, .null] (by decide) (Nat.le_of_ble_eq_true rfl) rfl ?_
  refine e_iconst (v := 0) (by decide) dX10_findBranch_0 ?_
  refine q_istore_n (i := 3) (by decide) rfl dX10_findBranch_1 ?_
  refine e_weak [.ref a0, .int x1, .int x2, .int 0] ⟨rfl, ⟨rfl, ⟨rfl, ⟨rfl, trivial⟩⟩⟩⟩ ?_
  exact tX10_findBranch_2 hko ha0 LF I x1 x2 0 hF _ hm
theorem dX10_isLike_0 : decode cX10_isLike 0 = .ok (.aload_n 0, 1) := by decide +kernel
theorem dX10_isLike_1 : decode cX10_isLike 1 = .ok (.getfield 20, 3) := by decide +kernel
theorem dX10_isLike_4 : decode cX10_isLike 4 = .ok (.iload_n 1, 1) := by decide +kernel
theorem dX10_isLike_5 : decode cX10_isLike 5 = .ok (.invokevirtual 48, 3) := by decide +kernel
theorem dX10_isLike_8 : decode cX10_isLike 8 = .ok (.istore 5, 2) := by decide +kernel
theorem dX10_isLike_10 : decode cX10_isLike 10 = .ok (.iconst 0, 1) := by decide +kernel
theorem dX10_isLike_11 : decode cX10_isLike 11 = .ok (.istore 6, 2) := by decide +kernel
theorem dX10_isLike_13 : decode cX10_isLike 13 = .ok (.iload 6, 2) := by decide +kernel
theorem dX10_isLike_15 : decode cX10_isLike 15 = .ok (.aload_n 0, 1) := by decide +kernel
theorem dX10_isLike_16 : decode cX10_isLike 16 = .ok (.getfield 23, 3) := by decide +kernel
theorem dX10_isLike_19 : decode cX10_isLike 19 = .ok (.iload_n 1, 1) := by decide +kernel
theorem dX10_isLike_20 : decode cX10_isLike 20 = .ok (.invokevirtual 48, 3) := by decide +kernel
theorem dX10_isLike_23 : decode cX10_isLike 23 = .ok (.if_icmp .ge 59, 3) := by decide +kernel
theorem dX10_isLike_26 : decode cX10_isLike 26 = .ok (.aload_n 0, 1) := by decide +kernel
theorem dX10_isLike_27 : decode cX10_isLike 27 = .ok (.getfield 29, 3) := by decide +kernel
theorem dX10_isLike_30 : decode cX10_isLike 30 = .ok (.iload 5, 2) := by decide +kernel
theorem dX10_isLike_32 : decode cX10_isLike 32 = .ok (.iload 6, 2) := by decide +kernel
theorem dX10_isLike_34 : decode cX10_isLike 34 = .ok (.iadd, 1) := by decide +kernel
theorem dX10_isLike_35 : decode cX10_isLike 35 = .ok (.invokevirtual 48, 3) := by decide +kernel
theorem dX10_isLike_38 : decode cX10_isLike 38 = .ok (.aload_n 2, 1) := by decide +kernel
theorem dX10_isLike_39 : decode cX10_isLike 39 = .ok (.iload 4, 2) := by decide +kernel
theorem dX10_isLike_41 : decode cX10_isLike 41 = .ok (.iload 6, 2) := by decide +kernel
theorem dX10_isLike_43 : decode cX10_isLike 43 = .ok (.iadd, 1) := by decide +kernel
theorem dX10_isLike_44 : decode cX10_isLike 44 = .ok (.invokevirtual 48, 3) := by decide +kernel
theorem dX10_isLike_47 : decode cX10_isLike 47 = .ok (.if_icmp .ne 27, 3) := by decide +kernel
theorem dX10_isLike_50 : decode cX10_isLike 50 = .ok (.aload_n 0, 1) := by decide +kernel
theorem dX10_isLike_51 : decode cX10_isLike 51 = .ok (.getfield 32, 3) := by decide +kernel
theorem dX10_isLike_54 : decode cX10_isLike 54 = .ok (.iload 5, 2) := by decide +kernel
theorem dX10_isLike_56 : decode cX10_isLike 56 = .ok (.iload 6, 2) := by decide +kernel
theorem dX10_isLike_58 : decode cX10_isLike 58 = .ok (.iadd, 1) := by decide +kernel
theorem dX10_isLike_59 : decode cX10_isLike 59 = .ok (.invokevirtual 48, 3) := by decide +kernel
theorem dX10_isLike_62 : decode cX10_isLike 62 = .ok (.aload_n 3, 1) := by decide +kernel
theorem dX10_isLike_63 : decode cX10_isLike 63 = .ok (.iload 4, 2) := by decide +kernel
theorem dX10_isLike_65 : decode cX10_isLike 65 = .ok (.iload 6, 2) := by decide +kernel
theorem dX10_isLike_67 : decode cX10_isLike 67 = .ok (.iadd, 1) := by decide +kernel
theorem dX10_isLike_68 : decode cX10_isLike 68 = .ok (.invokevirtual 48, 3) := by decide +kernel
theorem dX10_isLike_71 : decode cX10_isLike 71 = .ok (.if_icmp .eq 5, 3) := by decide +kernel
theorem dX10_isLike_74 : decode cX10_isLike 74 = .ok (.iconst 0, 1) := by decide +kernel
theorem dX10_isLike_75 : decode cX10_isLike 75 = .ok (.ireturn, 1) := by decide +kernel
theorem dX10_isLike_76 : decode cX10_isLike 76 = .ok (.iinc 6 1, 3) := by decide +kernel
theorem dX10_isLike_79 : decode cX10_isLike 79 = .ok (.goto (-66), 3) := by decide +kernel
theorem dX10_isLike_82 : decode cX10_isLike 82 = .ok (.iconst 1, 1) := by decide +kernel
theorem dX10_isLike_83 : decode cX10_isLike 83 = .ok (.ireturn, 1) := by decide +kernel
def mX10_isLike_13 (a0 : Nat) (a2 : Nat) (a3 : Nat) : Nat → iT → Int32 → Int32 → Int32 → Int32 → Option (Int32)
  | 0, _, _, _, _, _ => none
  | n + 1, I, x1, x4, x5, x6 => (mX4_at (a0 + 5) I x1).bind fun q1 => if q1 ≤ x6 then some 1 else (mX4_at (a0 + 9) I (x5 + x6)).bind fun q2 => (mX4_at a2 I (x4 + x6)).bind fun q3 => if q2 = q3 then (mX4_at (a0 + 11) I (x5 + x6)).bind fun q4 => (mX4_at a3 I (x4 + x6)).bind fun q5 => if q4 = q5 then mX10_isLike_13 a0 a2 a3 n I x1 x4 x5 (x6 + 1) else some 0 else some 0
def mX10_isLike (a0 : Nat) (a2 : Nat) (a3 : Nat) (I : iT) (x1 : Int32) (x4 : Int32) : Option (Int32) := (mX4_at (a0 + 3) I x1).bind fun q6 => mX10_isLike_13 a0 a2 a3 LF I x1 x4 q6 0
set_option maxRecDepth 100000 in
set_option maxHeartbeats 4000000 in
theorem tX10_isLike_13 {l : Launch} {K : a_KT} {g : a_GT} {IB : iT} (hko : a_kok K) {a0 : Nat} (ha0 : isTypes a0) {a2 : Nat} (ha2 : isRow a2) {a3 : Nat} (ha3 : isRow a3) {J : jT} {F : fT} : ∀ (n : Nat) (I : iT) (x1 : Int32) (x4 : Int32) (x5 : Int32) (x6 : Int32) (hF : FK F) (q : Int32), mX10_isLike_13 a0 a2 a3 n I x1 x4 x5 x6 = some q → E l K g 1 0 0 yX10_isLike cX10_isLike 7 (some .boolean) 13 [.ref a0, .int x1, .ref a2, .ref a3, .int x4, .int x5, .int x6] [] (hg I IB J F) (fun r2 h2 => r2 = some (.int q) ∧ h2 = hg I IB J F) := by
  intro n
  induction n with
  | zero => intro I x1 x4 x5 x6 hF q hm; cases hm
  | succ n ih =>
    intro I x1 x4 x5 x6 hF q hm
    rw [mX10_isLike_13] at hm
    refine e_iload (i := 6) rfl dX10_isLike_13 ?_
    refine e_aload_n (i := 0) rfl dX10_isLike_15 ?_
    refine q_getF 10 2 (a0 + 5) dX10_isLike_16 fl_RX10_23 rfl (iz_ty ha0) (frt_2 hF.1 ha0) ?_
    refine e_iload_n (i := 1) rfl dX10_isLike_19 ?_
    obtain ⟨q1, eq1, hm⟩ := ob_some hm
    refine e_cV1 hko dX10_isLike_20 ml_RX10_48 (iz_row (rwt_5 ha0)) (by decide) rfl (by omega) (Nat.le_of_ble_eq_true rfl) (tX4_at hko (rwt_5 ha0) I J F hF x1 _ eq1) ?_
    rintro _ _ ⟨rfl, rfl⟩
    refine e_icmp_ge 82 dX10_isLike_23 (by decide) (fun c_23 => ?_) (fun c_23 => ?_)
    · have hm := it_p c_23 hm
      refine e_iconst (v := 1) (by decide) dX10_isLike_82 ?_
      refine e_zret dX10_isLike_83 rfl rfl ?_
      have hm := some_in hm
      subst hm
      exact ⟨rfl, rfl⟩
    · have hm := it_n c_23 hm
      refine e_aload_n (i := 0) rfl dX10_isLike_26 ?_
      refine q_getF 10 4 (a0 + 9) dX10_isLike_27 fl_RX10_29 rfl (iz_ty ha0) (frt_4 hF.1 ha0) ?_
      refine e_iload (i := 5) rfl dX10_isLike_30 ?_
      refine e_iload (i := 6) rfl dX10_isLike_32 ?_
      refine e_iadd dX10_isLike_34 ?_
      obtain ⟨q2, eq2, hm⟩ := ob_some hm
      refine e_cV1 hko dX10_isLike_35 ml_RX10_48 (iz_row (rwt_9 ha0)) (by decide) rfl (by omega) (Nat.le_of_ble_eq_true rfl) (tX4_at hko (rwt_9 ha0) I J F hF (x5 + x6) _ eq2) ?_
      rintro _ _ ⟨rfl, rfl⟩
      refine e_aload_n (i := 2) rfl dX10_isLike_38 ?_
      refine e_iload (i := 4) rfl dX10_isLike_39 ?_
      refine e_iload (i := 6) rfl dX10_isLike_41 ?_
      refine e_iadd dX10_isLike_43 ?_
      obtain ⟨q3, eq3, hm⟩ := ob_some hm
      refine e_cV1 hko dX10_isLike_44 ml_RX10_48 (iz_row ha2) (by decide) rfl (by omega) (Nat.le_of_ble_eq_true rfl) (tX4_at hko ha2 I J F hF (x4 + x6) _ eq3) ?_
      rintro _ _ ⟨rfl, rfl⟩
      refine e_icmp_ne 74 dX10_isLike_47 (by decide) (fun c_47 => ?_) (fun c_47 => ?_)
      · have hm := it_n c_47 hm
        refine e_iconst (v := 0) (by decide) dX10_isLike_74 ?_
        refine e_zret dX10_isLike_75 rfl rfl ?_
        have hm := some_in hm
        subst hm
        exact ⟨rfl, rfl⟩
      · have hm := it_p c_47 hm
        refine e_aload_n (i := 0) rfl dX10_isLike_50 ?_
        refine q_getF 10 5 (a0 + 11) dX10_isLike_51 fl_RX10_32 rfl (iz_ty ha0) (frt_5 hF.1 ha0) ?_
        refine e_iload (i := 5) rfl dX10_isLike_54 ?_
        refine e_iload (i := 6) rfl dX10_isLike_56 ?_
        refine e_iadd dX10_isLike_58 ?_
        obtain ⟨q4, eq4, hm⟩ := ob_some hm
        refine e_cV1 hko dX10_isLike_59 ml_RX10_48 (iz_row (rwt_11 ha0)) (by decide) rfl (by omega) (Nat.le_of_ble_eq_true rfl) (tX4_at hko (rwt_11 ha0) I J F hF (x5 + x6) _ eq4) ?_
        rintro _ _ ⟨rfl, rfl⟩
        refine e_aload_n (i := 3) rfl dX10_isLike_62 ?_
        refine e_iload (i := 4) rfl dX10_isLike_63 ?_
        refine e_iload (i := 6) rfl dX10_isLike_65 ?_
        refine e_iadd dX10_isLike_67 ?_
        obtain ⟨q5, eq5, hm⟩ := ob_some hm
        refine e_cV1 hko dX10_isLike_68 ml_RX10_48 (iz_row ha3) (by decide) rfl (by omega) (Nat.le_of_ble_eq_true rfl) (tX4_at hko ha3 I J F hF (x4 + x6) _ eq5) ?_
        rintro _ _ ⟨rfl, rfl⟩
        refine e_icmp_eq 76 dX10_isLike_71 (by decide) (fun c_71 => ?_) (fun c_71 => ?_)
        · have hm := it_p c_71 hm
          refine q_iinc (i := 6) (x6 + 1) rfl ic_1 rfl dX10_isLike_76 ?_
          refine e_goto 13 dX10_isLike_79 (by decide) ?_
          refine e_weak [.ref a0, .int x1, .ref a2, .ref a3, .int x4, .int x5, .int (x6 + 1)] ⟨rfl, ⟨rfl, ⟨rfl, ⟨rfl, ⟨rfl, ⟨rfl, ⟨rfl, trivial⟩⟩⟩⟩⟩⟩⟩ ?_
          exact ih I x1 x4 x5 (x6 + 1) hF _ hm
        · have hm := it_n c_71 hm
          refine e_iconst (v := 0) (by decide) dX10_isLike_74 ?_
          refine e_zret dX10_isLike_75 rfl rfl ?_
          have hm := some_in hm
          subst hm
          exact ⟨rfl, rfl⟩
set_option maxRecDepth 100000 in
set_option maxHeartbeats 4000000 in
theorem tX10_isLike {l : Launch} {K : a_KT} {g : a_GT} {IB : iT} (hko : a_kok K) {a0 : Nat} (ha0 : isTypes a0) {a2 : Nat} (ha2 : isRow a2) {a3 : Nat} (ha3 : isRow a3) (I : iT) (J : jT) (F : fT) (hF : FK F) (x1 : Int32) (x4 : Int32) (q : Int32) (hm : mX10_isLike a0 a2 a3 I x1 x4 = some q) : C l K g 1 0 0 yX10_isLike cX10_isLike 7 (some .boolean) [.ref a0, .int x1, .ref a2, .ref a3, .int x4] (hg I IB J F) (fun r2 h2 => r2 = some (.int q) ∧ h2 = hg I IB J F) := by
  unfold mX10_isLike at hm
  refine c_of [.ref a0, .int x1, .ref a2, .ref a3, .int x4, .null, .null] (by decide) (Nat.le_of_ble_eq_true rfl) rfl ?_
  refine e_aload_n (i := 0) rfl dX10_isLike_0 ?_
  refine q_getF 10 1 (a0 + 3) dX10_isLike_1 fl_RX10_20 rfl (iz_ty ha0) (frt_1 hF.1 ha0) ?_
  refine e_iload_n (i := 1) rfl dX10_isLike_4 ?_
  obtain ⟨q6, eq6, hm⟩ := ob_some hm
  refine e_cV1 hko dX10_isLike_5 ml_RX10_48 (iz_row (rwt_3 ha0)) (by decide) rfl (by omega) (Nat.le_of_ble_eq_true rfl) (tX4_at hko (rwt_3 ha0) I J F hF x1 _ eq6) ?_
  rintro _ _ ⟨rfl, rfl⟩
  refine q_istore (i := 5) (by decide) rfl dX10_isLike_8 ?_
  refine e_iconst (v := 0) (by decide) dX10_isLike_10 ?_
  refine q_istore (i := 6) (by decide) rfl dX10_isLike_11 ?_
  refine e_weak [.ref a0, .int x1, .ref a2, .ref a3, .int x4, .int q6, .int 0] ⟨rfl, ⟨rfl, ⟨rfl, ⟨rfl, ⟨rfl, ⟨rfl, ⟨rfl, trivial⟩⟩⟩⟩⟩⟩⟩ ?_
  exact tX10_isLike_13 hko ha0 ha2 ha3 LF I x1 x4 q6 0 hF _ hm
theorem dX10_make_0 : decode cX10_make 0 = .ok (.iconst 0, 1) := by decide +kernel
theorem dX10_make_1 : decode cX10_make 1 = .ok (.istore 4, 2) := by decide +kernel
theorem dX10_make_3 : decode cX10_make 3 = .ok (.iload 4, 2) := by decide +kernel
theorem dX10_make_5 : decode cX10_make 5 = .ok (.aload_n 0, 1) := by decide +kernel
theorem dX10_make_6 : decode cX10_make 6 = .ok (.getfield 14, 3) := by decide +kernel
theorem dX10_make_9 : decode cX10_make 9 = .ok (.invokevirtual 44, 3) := by decide +kernel
theorem dX10_make_12 : decode cX10_make 12 = .ok (.if_icmp .ge 51, 3) := by decide +kernel
theorem dX10_make_15 : decode cX10_make 15 = .ok (.aload_n 0, 1) := by decide +kernel
theorem dX10_make_16 : decode cX10_make 16 = .ok (.getfield 14, 3) := by decide +kernel
theorem dX10_make_19 : decode cX10_make 19 = .ok (.iload 4, 2) := by decide +kernel
theorem dX10_make_21 : decode cX10_make 21 = .ok (.invokevirtual 48, 3) := by decide +kernel
theorem dX10_make_24 : decode cX10_make 24 = .ok (.iload_n 1, 1) := by decide +kernel
theorem dX10_make_25 : decode cX10_make 25 = .ok (.if_icmp .ne 32, 3) := by decide +kernel
theorem dX10_make_28 : decode cX10_make 28 = .ok (.aload_n 0, 1) := by decide +kernel
theorem dX10_make_29 : decode cX10_make 29 = .ok (.getfield 20, 3) := by decide +kernel
theorem dX10_make_32 : decode cX10_make 32 = .ok (.iload 4, 2) := by decide +kernel
theorem dX10_make_34 : decode cX10_make 34 = .ok (.invokevirtual 48, 3) := by decide +kernel
theorem dX10_make_37 : decode cX10_make 37 = .ok (.iload_n 2, 1) := by decide +kernel
theorem dX10_make_38 : decode cX10_make 38 = .ok (.if_icmp .ne 19, 3) := by decide +kernel
theorem dX10_make_41 : decode cX10_make 41 = .ok (.aload_n 0, 1) := by decide +kernel
theorem dX10_make_42 : decode cX10_make 42 = .ok (.getfield 23, 3) := by decide +kernel
theorem dX10_make_45 : decode cX10_make 45 = .ok (.iload 4, 2) := by decide +kernel
theorem dX10_make_47 : decode cX10_make 47 = .ok (.invokevirtual 48, 3) := by decide +kernel
theorem dX10_make_50 : decode cX10_make 50 = .ok (.iload_n 3, 1) := by decide +kernel
theorem dX10_make_51 : decode cX10_make 51 = .ok (.if_icmp .ne 6, 3) := by decide +kernel
theorem dX10_make_54 : decode cX10_make 54 = .ok (.iload 4, 2) := by decide +kernel
theorem dX10_make_56 : decode cX10_make 56 = .ok (.ireturn, 1) := by decide +kernel
theorem dX10_make_57 : decode cX10_make 57 = .ok (.iinc 4 1, 3) := by decide +kernel
theorem dX10_make_60 : decode cX10_make 60 = .ok (.goto (-57), 3) := by decide +kernel
theorem dX10_make_63 : decode cX10_make 63 = .ok (.iconst 1, 1) := by decide +kernel
theorem dX10_make_64 : decode cX10_make 64 = .ok (.istore 4, 2) := by decide +kernel
theorem dX10_make_66 : decode cX10_make 66 = .ok (.iload_n 2, 1) := by decide +kernel
theorem dX10_make_67 : decode cX10_make 67 = .ok (.iconst (-1), 1) := by decide +kernel
theorem dX10_make_68 : decode cX10_make 68 = .ok (.if_icmp .eq 16, 3) := by decide +kernel
theorem dX10_make_71 : decode cX10_make 71 = .ok (.iload 4, 2) := by decide +kernel
theorem dX10_make_73 : decode cX10_make 73 = .ok (.aload_n 0, 1) := by decide +kernel
theorem dX10_make_74 : decode cX10_make 74 = .ok (.getfield 26, 3) := by decide +kernel
theorem dX10_make_77 : decode cX10_make 77 = .ok (.iload_n 2, 1) := by decide +kernel
theorem dX10_make_78 : decode cX10_make 78 = .ok (.invokevirtual 48, 3) := by decide +kernel
theorem dX10_make_81 : decode cX10_make 81 = .ok (.iadd, 1) := by decide +kernel
theorem dX10_make_82 : decode cX10_make 82 = .ok (.istore 4, 2) := by decide +kernel
theorem dX10_make_84 : decode cX10_make 84 = .ok (.iload_n 3, 1) := by decide +kernel
theorem dX10_make_85 : decode cX10_make 85 = .ok (.iconst (-1), 1) := by decide +kernel
theorem dX10_make_86 : decode cX10_make 86 = .ok (.if_icmp .eq 16, 3) := by decide +kernel
theorem dX10_make_89 : decode cX10_make 89 = .ok (.iload 4, 2) := by decide +kernel
theorem dX10_make_91 : decode cX10_make 91 = .ok (.aload_n 0, 1) := by decide +kernel
theorem dX10_make_92 : decode cX10_make 92 = .ok (.getfield 26, 3) := by decide +kernel
theorem dX10_make_95 : decode cX10_make 95 = .ok (.iload_n 3, 1) := by decide +kernel
theorem dX10_make_96 : decode cX10_make 96 = .ok (.invokevirtual 48, 3) := by decide +kernel
theorem dX10_make_99 : decode cX10_make 99 = .ok (.iadd, 1) := by decide +kernel
theorem dX10_make_100 : decode cX10_make 100 = .ok (.istore 4, 2) := by decide +kernel
theorem dX10_make_102 : decode cX10_make 102 = .ok (.aload_n 0, 1) := by decide +kernel
theorem dX10_make_103 : decode cX10_make 103 = .ok (.iload_n 1, 1) := by decide +kernel
theorem dX10_make_104 : decode cX10_make 104 = .ok (.iload_n 2, 1) := by decide +kernel
theorem dX10_make_105 : decode cX10_make 105 = .ok (.iload_n 3, 1) := by decide +kernel
theorem dX10_make_106 : decode cX10_make 106 = .ok (.iload 4, 2) := by decide +kernel
theorem dX10_make_108 : decode cX10_make 108 = .ok (.invokevirtual 52, 3) := by decide +kernel
theorem dX10_make_111 : decode cX10_make 111 = .ok (.ireturn, 1) := by decide +kernel
def mX10_make_57 (a0 : Nat) (k3 : iT → Int32 → Int32 → Int32 → Int32 → Option (Int32 × iT)) (I : iT) (x1 : Int32) (x2 : Int32) (x3 : Int32) (x4 : Int32) : Option (Int32 × iT) := k3 I x1 x2 x3 (x4 + 1)
def mX10_make_102 (a0 : Nat) (I : iT) (x1 : Int32) (x2 : Int32) (x3 : Int32) (x4 : Int32) : Option (Int32 × iT) := (mX10_addT a0 I x1 x2 x3 x4).bind fun q1 => some (q1.1, q1.2)
def mX10_make_84 (a0 : Nat) (I : iT) (x1 : Int32) (x2 : Int32) (x3 : Int32) (x4 : Int32) : Option (Int32 × iT) := if x3 = ((-1)) then mX10_make_102 a0 I x1 x2 x3 x4 else (mX4_at (a0 + 7) I x3).bind fun q2 => mX10_make_102 a0 I x1 x2 x3 (x4 + q2)
def mX10_make_3 (a0 : Nat) : Nat → iT → Int32 → Int32 → Int32 → Int32 → Option (Int32 × iT)
  | 0, _, _, _, _, _ => none
  | n + 1, I, x1, x2, x3, x4 => (mX4_size (a0 + 1) I).bind fun q3 => if q3 ≤ x4 then if x2 = ((-1)) then mX10_make_84 a0 I x1 x2 x3 1 else (mX4_at (a0 + 7) I x2).bind fun q4 => mX10_make_84 a0 I x1 x2 x3 (1 + q4) else (mX4_at (a0 + 1) I x4).bind fun q5 => if q5 = x1 then (mX4_at (a0 + 3) I x4).bind fun q6 => if q6 = x2 then (mX4_at (a0 + 5) I x4).bind fun q7 => if q7 = x3 then some (x4, I) else mX10_make_57 a0 (mX10_make_3 a0 n) I x1 x2 x3 x4 else mX10_make_57 a0 (mX10_make_3 a0 n) I x1 x2 x3 x4 else mX10_make_57 a0 (mX10_make_3 a0 n) I x1 x2 x3 x4
def mX10_make (a0 : Nat) (I : iT) (x1 : Int32) (x2 : Int32) (x3 : Int32) : Option (Int32 × iT) := mX10_make_3 a0 LF I x1 x2 x3 0
set_option maxRecDepth 100000 in
set_option maxHeartbeats 4000000 in
theorem tX10_make_57 {l : Launch} {K : a_KT} {g : a_GT} {IB : iT} (hko : a_kok K) {a0 : Nat} (ha0 : isTypes a0) {J : jT} {F : fT} {k3 : iT → Int32 → Int32 → Int32 → Int32 → Option (Int32 × iT)} (hk3 : ∀ (I : iT) (x1 : Int32) (x2 : Int32) (x3 : Int32) (x4 : Int32) (_ : FK F) (q : Int32 × iT), k3 I x1 x2 x3 x4 = some q → E l K g 2 0 0 yX10_make cX10_make 5 (some .int) 3 [.ref a0, .int x1, .int x2, .int x3, .int x4] [] (hg I IB J F) (fun r2 h2 => r2 = some (.int q.1) ∧ h2 = hg q.2 IB J F)) (I : iT) (x1 : Int32) (x2 : Int32) (x3 : Int32) (x4 : Int32) (hF : FK F) (q : Int32 × iT) (hm : mX10_make_57 a0 k3 I x1 x2 x3 x4 = some q) : E l K g 2 0 0 yX10_make cX10_make 5 (some .int) 57 [.ref a0, .int x1, .int x2, .int x3, .int x4] [] (hg I IB J F) (fun r2 h2 => r2 = some (.int q.1) ∧ h2 = hg q.2 IB J F) := by
  unfold mX10_make_57 at hm
  refine q_iinc (i := 4) (x4 + 1) rfl ic_1 rfl dX10_make_57 ?_
  refine e_goto 3 dX10_make_60 (by decide) ?_
  refine e_weak [.ref a0, .int x1, .int x2, .int x3, .int (x4 + 1)] ⟨rfl, ⟨rfl, ⟨rfl, ⟨rfl, ⟨rfl, trivial⟩⟩⟩⟩⟩ ?_
  exact hk3 I x1 x2 x3 (x4 + 1) hF _ hm
set_option maxRecDepth 100000 in
set_option maxHeartbeats 4000000 in
theorem tX10_make_102 {l : Launch} {K : a_KT} {g : a_GT} {IB : iT} (hko : a_kok K) {a0 : Nat} (ha0 : isTypes a0) {J : jT} {F : fT} (I : iT) (x1 : Int32) (x2 : Int32) (x3 : Int32) (x4 : Int32) (hF : FK F) (q : Int32 × iT) (hm : mX10_make_102 a0 I x1 x2 x3 x4 = some q) : E l K g 2 0 0 yX10_make cX10_make 5 (some .int) 102 [.ref a0, .int x1, .int x2, .int x3, .int x4] [] (hg I IB J F) (fun r2 h2 => r2 = some (.int q.1) ∧ h2 = hg q.2 IB J F) := by
  unfold mX10_make_102 at hm
  refine e_aload_n (i := 0) rfl dX10_make_102 ?_
  refine e_iload_n (i := 1) rfl dX10_make_103 ?_
  refine e_iload_n (i := 2) rfl dX10_make_104 ?_
  refine e_iload_n (i := 3) rfl dX10_make_105 ?_
  refine e_iload (i := 4) rfl dX10_make_106 ?_
  obtain ⟨q1, eq1, hm⟩ := ob_some hm
  refine e_cV4 hko dX10_make_108 ml_RX10_52 (iz_ty ha0) (by decide) rfl (by omega) (Nat.le_of_ble_eq_true rfl) (tX10_addT hko ha0 I J F hF x1 x2 x3 x4 _ eq1) ?_
  rintro _ _ ⟨rfl, rfl⟩
  refine e_iret dX10_make_111 rfl ?_
  have hm := some_in hm
  subst hm
  exact ⟨rfl, rfl⟩
set_option maxRecDepth 100000 in
set_option maxHeartbeats 4000000 in
theorem tX10_make_84 {l : Launch} {K : a_KT} {g : a_GT} {IB : iT} (hko : a_kok K) {a0 : Nat} (ha0 : isTypes a0) {J : jT} {F : fT} (I : iT) (x1 : Int32) (x2 : Int32) (x3 : Int32) (x4 : Int32) (hF : FK F) (q : Int32 × iT) (hm : mX10_make_84 a0 I x1 x2 x3 x4 = some q) : E l K g 2 0 0 yX10_make cX10_make 5 (some .int) 84 [.ref a0, .int x1, .int x2, .int x3, .int x4] [] (hg I IB J F) (fun r2 h2 => r2 = some (.int q.1) ∧ h2 = hg q.2 IB J F) := by
  unfold mX10_make_84 at hm
  refine e_iload_n (i := 3) rfl dX10_make_84 ?_
  refine e_iconst (v := (-1)) (by decide) dX10_make_85 ?_
  refine e_icmp_eq 102 dX10_make_86 (by decide) (fun c_86 => ?_) (fun c_86 => ?_)
  · have hm := it_p c_86 hm
    refine e_weak [.ref a0, .int x1, .int x2, .int x3, .int x4] ⟨rfl, ⟨rfl, ⟨rfl, ⟨rfl, ⟨rfl, trivial⟩⟩⟩⟩⟩ ?_
    exact tX10_make_102 hko ha0 I x1 x2 x3 x4 hF _ hm
  · have hm := it_n c_86 hm
    refine e_iload (i := 4) rfl dX10_make_89 ?_
    refine e_aload_n (i := 0) rfl dX10_make_91 ?_
    refine q_getF 10 3 (a0 + 7) dX10_make_92 fl_RX10_26 rfl (iz_ty ha0) (frt_3 hF.1 ha0) ?_
    refine e_iload_n (i := 3) rfl dX10_make_95 ?_
    obtain ⟨q2, eq2, hm⟩ := ob_some hm
    refine e_cV1 hko dX10_make_96 ml_RX10_48 (iz_row (rwt_7 ha0)) (by decide) rfl (by omega) (Nat.le_of_ble_eq_true rfl) (tX4_at hko (rwt_7 ha0) I J F hF x3 _ eq2) ?_
    rintro _ _ ⟨rfl, rfl⟩
    refine e_iadd dX10_make_99 ?_
    refine q_istore (i := 4) (by decide) rfl dX10_make_100 ?_
    refine e_weak [.ref a0, .int x1, .int x2, .int x3, .int (x4 + q2)] ⟨rfl, ⟨rfl, ⟨rfl, ⟨rfl, ⟨rfl, trivial⟩⟩⟩⟩⟩ ?_
    exact tX10_make_102 hko ha0 I x1 x2 x3 (x4 + q2) hF _ hm
set_option maxRecDepth 100000 in
set_option maxHeartbeats 4000000 in
theorem tX10_make_3 {l : Launch} {K : a_KT} {g : a_GT} {IB : iT} (hko : a_kok K) {a0 : Nat} (ha0 : isTypes a0) {J : jT} {F : fT} : ∀ (n : Nat) (I : iT) (x1 : Int32) (x2 : Int32) (x3 : Int32) (x4 : Int32) (hF : FK F) (q : Int32 × iT), mX10_make_3 a0 n I x1 x2 x3 x4 = some q → E l K g 2 0 0 yX10_make cX10_make 5 (some .int) 3 [.ref a0, .int x1, .int x2, .int x3, .int x4] [] (hg I IB J F) (fun r2 h2 => r2 = some (.int q.1) ∧ h2 = hg q.2 IB J F) := by
  intro n
  induction n with
  | zero => intro I x1 x2 x3 x4 hF q hm; cases hm
  | succ n ih =>
    intro I x1 x2 x3 x4 hF q hm
    rw [mX10_make_3] at hm
    refine e_iload (i := 4) rfl dX10_make_3 ?_
    refine e_aload_n (i := 0) rfl dX10_make_5 ?_
    refine q_getF 10 0 (a0 + 1) dX10_make_6 fl_RX10_14 rfl (iz_ty ha0) (frt_0 hF.1 ha0) ?_
    obtain ⟨q3, eq3, hm⟩ := ob_some hm
    refine e_cV0 hko dX10_make_9 ml_RX10_44 (iz_row (rwt_1 ha0)) (by decide) rfl (by omega) (Nat.le_of_ble_eq_true rfl) (tX4_size hko (rwt_1 ha0) I J F hF _ eq3) ?_
    rintro _ _ ⟨rfl, rfl⟩
    refine e_icmp_ge 63 dX10_make_12 (by decide) (fun c_12 => ?_) (fun c_12 => ?_)
    · have hm := it_p c_12 hm
      refine e_iconst (v := 1) (by decide) dX10_make_63 ?_
      refine q_istore (i := 4) (by decide) rfl dX10_make_64 ?_
      refine e_iload_n (i := 2) rfl dX10_make_66 ?_
      refine e_iconst (v := (-1)) (by decide) dX10_make_67 ?_
      refine e_icmp_eq 84 dX10_make_68 (by decide) (fun c_68 => ?_) (fun c_68 => ?_)
      · have hm := it_p c_68 hm
        refine e_weak [.ref a0, .int x1, .int x2, .int x3, .int 1] ⟨rfl, ⟨rfl, ⟨rfl, ⟨rfl, ⟨rfl, trivial⟩⟩⟩⟩⟩ ?_
        exact tX10_make_84 hko ha0 I x1 x2 x3 1 hF _ hm
      · have hm := it_n c_68 hm
        refine e_iload (i := 4) rfl dX10_make_71 ?_
        refine e_aload_n (i := 0) rfl dX10_make_73 ?_
        refine q_getF 10 3 (a0 + 7) dX10_make_74 fl_RX10_26 rfl (iz_ty ha0) (frt_3 hF.1 ha0) ?_
        refine e_iload_n (i := 2) rfl dX10_make_77 ?_
        obtain ⟨q4, eq4, hm⟩ := ob_some hm
        refine e_cV1 hko dX10_make_78 ml_RX10_48 (iz_row (rwt_7 ha0)) (by decide) rfl (by omega) (Nat.le_of_ble_eq_true rfl) (tX4_at hko (rwt_7 ha0) I J F hF x2 _ eq4) ?_
        rintro _ _ ⟨rfl, rfl⟩
        refine e_iadd dX10_make_81 ?_
        refine q_istore (i := 4) (by decide) rfl dX10_make_82 ?_
        refine e_weak [.ref a0, .int x1, .int x2, .int x3, .int (1 + q4)] ⟨rfl, ⟨rfl, ⟨rfl, ⟨rfl, ⟨rfl, trivial⟩⟩⟩⟩⟩ ?_
        exact tX10_make_84 hko ha0 I x1 x2 x3 (1 + q4) hF _ hm
    · have hm := it_n c_12 hm
      refine e_aload_n (i := 0) rfl dX10_make_15 ?_
      refine q_getF 10 0 (a0 + 1) dX10_make_16 fl_RX10_14 rfl (iz_ty ha0) (frt_0 hF.1 ha0) ?_
      refine e_iload (i := 4) rfl dX10_make_19 ?_
      obtain ⟨q5, eq5, hm⟩ := ob_some hm
      refine e_cV1 hko dX10_make_21 ml_RX10_48 (iz_row (rwt_1 ha0)) (by decide) rfl (by omega) (Nat.le_of_ble_eq_true rfl) (tX4_at hko (rwt_1 ha0) I J F hF x4 _ eq5) ?_
      rintro _ _ ⟨rfl, rfl⟩
      refine e_iload_n (i := 1) rfl dX10_make_24 ?_
      refine e_icmp_ne 57 dX10_make_25 (by decide) (fun c_25 => ?_) (fun c_25 => ?_)
      · have hm := it_n c_25 hm
        refine e_weak [.ref a0, .int x1, .int x2, .int x3, .int x4] ⟨rfl, ⟨rfl, ⟨rfl, ⟨rfl, ⟨rfl, trivial⟩⟩⟩⟩⟩ ?_
        exact tX10_make_57 hko ha0 (ih) I x1 x2 x3 x4 hF _ hm
      · have hm := it_p c_25 hm
        refine e_aload_n (i := 0) rfl dX10_make_28 ?_
        refine q_getF 10 1 (a0 + 3) dX10_make_29 fl_RX10_20 rfl (iz_ty ha0) (frt_1 hF.1 ha0) ?_
        refine e_iload (i := 4) rfl dX10_make_32 ?_
        obtain ⟨q6, eq6, hm⟩ := ob_some hm
        refine e_cV1 hko dX10_make_34 ml_RX10_48 (iz_row (rwt_3 ha0)) (by decide) rfl (by omega) (Nat.le_of_ble_eq_true rfl) (tX4_at hko (rwt_3 ha0) I J F hF x4 _ eq6) ?_
        rintro _ _ ⟨rfl, rfl⟩
        refine e_iload_n (i := 2) rfl dX10_make_37 ?_
        refine e_icmp_ne 57 dX10_make_38 (by decide) (fun c_38 => ?_) (fun c_38 => ?_)
        · have hm := it_n c_38 hm
          refine e_weak [.ref a0, .int x1, .int x2, .int x3, .int x4] ⟨rfl, ⟨rfl, ⟨rfl, ⟨rfl, ⟨rfl, trivial⟩⟩⟩⟩⟩ ?_
          exact tX10_make_57 hko ha0 (ih) I x1 x2 x3 x4 hF _ hm
        · have hm := it_p c_38 hm
          refine e_aload_n (i := 0) rfl dX10_make_41 ?_
          refine q_getF 10 2 (a0 + 5) dX10_make_42 fl_RX10_23 rfl (iz_ty ha0) (frt_2 hF.1 ha0) ?_
          refine e_iload (i := 4) rfl dX10_make_45 ?_
          obtain ⟨q7, eq7, hm⟩ := ob_some hm
          refine e_cV1 hko dX10_make_47 ml_RX10_48 (iz_row (rwt_5 ha0)) (by decide) rfl (by omega) (Nat.le_of_ble_eq_true rfl) (tX4_at hko (rwt_5 ha0) I J F hF x4 _ eq7) ?_
          rintro _ _ ⟨rfl, rfl⟩
          refine e_iload_n (i := 3) rfl dX10_make_50 ?_
          refine e_icmp_ne 57 dX10_make_51 (by decide) (fun c_51 => ?_) (fun c_51 => ?_)
          · have hm := it_n c_51 hm
            refine e_weak [.ref a0, .int x1, .int x2, .int x3, .int x4] ⟨rfl, ⟨rfl, ⟨rfl, ⟨rfl, ⟨rfl, trivial⟩⟩⟩⟩⟩ ?_
            exact tX10_make_57 hko ha0 (ih) I x1 x2 x3 x4 hF _ hm
          · have hm := it_p c_51 hm
            refine e_iload (i := 4) rfl dX10_make_54 ?_
            refine e_iret dX10_make_56 rfl ?_
            have hm := some_in hm
            subst hm
            exact ⟨rfl, rfl⟩
set_option maxRecDepth 100000 in
set_option maxHeartbeats 4000000 in
theorem tX10_make {l : Launch} {K : a_KT} {g : a_GT} {IB : iT} (hko : a_kok K) {a0 : Nat} (ha0 : isTypes a0) (I : iT) (J : jT) (F : fT) (hF : FK F) (x1 : Int32) (x2 : Int32) (x3 : Int32) (q : Int32 × iT) (hm : mX10_make a0 I x1 x2 x3 = some q) : C l K g 2 0 0 yX10_make cX10_make 5 (some .int) [.ref a0, .int x1, .int x2, .int x3] (hg I IB J F) (fun r2 h2 => r2 = some (.int q.1) ∧ h2 = hg q.2 IB J F) := by
  unfold mX10_make at hm
  refine c_of [.ref a0, .int x1, .int x2, .int x3, .null] (by decide) (Nat.le_of_ble_eq_true rfl) rfl ?_
  refine e_iconst (v := 0) (by decide) dX10_make_0 ?_
  refine q_istore (i := 4) (by decide) rfl dX10_make_1 ?_
  refine e_weak [.ref a0, .int x1, .int x2, .int x3, .int 0] ⟨rfl, ⟨rfl, ⟨rfl, ⟨rfl, ⟨rfl, trivial⟩⟩⟩⟩⟩ ?_
  exact tX10_make_3 hko ha0 LF I x1 x2 x3 0 hF _ hm
theorem dX10_makeChoice_0 : decode cX10_makeChoice 0 = .ok (.aload_n 2, 1) := by decide +kernel
theorem dX10_makeChoice_1 : decode cX10_makeChoice 1 = .ok (.invokevirtual 44, 3) := by decide +kernel
theorem dX10_makeChoice_4 : decode cX10_makeChoice 4 = .ok (.iload 4, 2) := by decide +kernel
theorem dX10_makeChoice_6 : decode cX10_makeChoice 6 = .ok (.isub, 1) := by decide +kernel
theorem dX10_makeChoice_7 : decode cX10_makeChoice 7 = .ok (.istore 5, 2) := by decide +kernel
theorem dX10_makeChoice_9 : decode cX10_makeChoice 9 = .ok (.iconst 0, 1) := by decide +kernel
theorem dX10_makeChoice_10 : decode cX10_makeChoice 10 = .ok (.istore 6, 2) := by decide +kernel
theorem dX10_makeChoice_12 : decode cX10_makeChoice 12 = .ok (.iload 6, 2) := by decide +kernel
theorem dX10_makeChoice_14 : decode cX10_makeChoice 14 = .ok (.aload_n 0, 1) := by decide +kernel
theorem dX10_makeChoice_15 : decode cX10_makeChoice 15 = .ok (.getfield 14, 3) := by decide +kernel
theorem dX10_makeChoice_18 : decode cX10_makeChoice 18 = .ok (.invokevirtual 44, 3) := by decide +kernel
theorem dX10_makeChoice_21 : decode cX10_makeChoice 21 = .ok (.if_icmp .ge 52, 3) := by decide +kernel
theorem dX10_makeChoice_24 : decode cX10_makeChoice 24 = .ok (.aload_n 0, 1) := by decide +kernel
theorem dX10_makeChoice_25 : decode cX10_makeChoice 25 = .ok (.getfield 14, 3) := by decide +kernel
theorem dX10_makeChoice_28 : decode cX10_makeChoice 28 = .ok (.iload 6, 2) := by decide +kernel
theorem dX10_makeChoice_30 : decode cX10_makeChoice 30 = .ok (.invokevirtual 48, 3) := by decide +kernel
theorem dX10_makeChoice_33 : decode cX10_makeChoice 33 = .ok (.iload_n 1, 1) := by decide +kernel
theorem dX10_makeChoice_34 : decode cX10_makeChoice 34 = .ok (.if_icmp .ne 33, 3) := by decide +kernel
theorem dX10_makeChoice_37 : decode cX10_makeChoice 37 = .ok (.aload_n 0, 1) := by decide +kernel
theorem dX10_makeChoice_38 : decode cX10_makeChoice 38 = .ok (.getfield 23, 3) := by decide +kernel
theorem dX10_makeChoice_41 : decode cX10_makeChoice 41 = .ok (.iload 6, 2) := by decide +kernel
theorem dX10_makeChoice_43 : decode cX10_makeChoice 43 = .ok (.invokevirtual 48, 3) := by decide +kernel
theorem dX10_makeChoice_46 : decode cX10_makeChoice 46 = .ok (.iload 5, 2) := by decide +kernel
theorem dX10_makeChoice_48 : decode cX10_makeChoice 48 = .ok (.if_icmp .ne 19, 3) := by decide +kernel
theorem dX10_makeChoice_51 : decode cX10_makeChoice 51 = .ok (.aload_n 0, 1) := by decide +kernel
theorem dX10_makeChoice_52 : decode cX10_makeChoice 52 = .ok (.iload 6, 2) := by decide +kernel
theorem dX10_makeChoice_54 : decode cX10_makeChoice 54 = .ok (.aload_n 2, 1) := by decide +kernel
theorem dX10_makeChoice_55 : decode cX10_makeChoice 55 = .ok (.aload_n 3, 1) := by decide +kernel
theorem dX10_makeChoice_56 : decode cX10_makeChoice 56 = .ok (.iload 4, 2) := by decide +kernel
theorem dX10_makeChoice_58 : decode cX10_makeChoice 58 = .ok (.invokevirtual 56, 3) := by decide +kernel
theorem dX10_makeChoice_61 : decode cX10_makeChoice 61 = .ok (.ifCond .eq 6, 3) := by decide +kernel
theorem dX10_makeChoice_64 : decode cX10_makeChoice 64 = .ok (.iload 6, 2) := by decide +kernel
theorem dX10_makeChoice_66 : decode cX10_makeChoice 66 = .ok (.ireturn, 1) := by decide +kernel
theorem dX10_makeChoice_67 : decode cX10_makeChoice 67 = .ok (.iinc 6 1, 3) := by decide +kernel
theorem dX10_makeChoice_70 : decode cX10_makeChoice 70 = .ok (.goto (-58), 3) := by decide +kernel
theorem dX10_makeChoice_73 : decode cX10_makeChoice 73 = .ok (.aload_n 0, 1) := by decide +kernel
theorem dX10_makeChoice_74 : decode cX10_makeChoice 74 = .ok (.getfield 29, 3) := by decide +kernel
theorem dX10_makeChoice_77 : decode cX10_makeChoice 77 = .ok (.invokevirtual 44, 3) := by decide +kernel
theorem dX10_makeChoice_80 : decode cX10_makeChoice 80 = .ok (.istore 6, 2) := by decide +kernel
theorem dX10_makeChoice_82 : decode cX10_makeChoice 82 = .ok (.iconst 1, 1) := by decide +kernel
theorem dX10_makeChoice_83 : decode cX10_makeChoice 83 = .ok (.istore 7, 2) := by decide +kernel
theorem dX10_makeChoice_85 : decode cX10_makeChoice 85 = .ok (.iload 4, 2) := by decide +kernel
theorem dX10_makeChoice_87 : decode cX10_makeChoice 87 = .ok (.istore 8, 2) := by decide +kernel
theorem dX10_makeChoice_89 : decode cX10_makeChoice 89 = .ok (.iload 8, 2) := by decide +kernel
theorem dX10_makeChoice_91 : decode cX10_makeChoice 91 = .ok (.aload_n 2, 1) := by decide +kernel
theorem dX10_makeChoice_92 : decode cX10_makeChoice 92 = .ok (.invokevirtual 44, 3) := by decide +kernel
theorem dX10_makeChoice_95 : decode cX10_makeChoice 95 = .ok (.if_icmp .ge 55, 3) := by decide +kernel
theorem dX10_makeChoice_98 : decode cX10_makeChoice 98 = .ok (.aload_n 0, 1) := by decide +kernel
theorem dX10_makeChoice_99 : decode cX10_makeChoice 99 = .ok (.getfield 29, 3) := by decide +kernel
theorem dX10_makeChoice_102 : decode cX10_makeChoice 102 = .ok (.aload_n 2, 1) := by decide +kernel
theorem dX10_makeChoice_103 : decode cX10_makeChoice 103 = .ok (.iload 8, 2) := by decide +kernel
theorem dX10_makeChoice_105 : decode cX10_makeChoice 105 = .ok (.invokevirtual 48, 3) := by decide +kernel
theorem dX10_makeChoice_108 : decode cX10_makeChoice 108 = .ok (.invokevirtual 60, 3) := by decide +kernel
theorem dX10_makeChoice_111 : decode cX10_makeChoice 111 = .ok (.pop, 1) := by decide +kernel
theorem dX10_makeChoice_112 : decode cX10_makeChoice 112 = .ok (.aload_n 0, 1) := by decide +kernel
theorem dX10_makeChoice_113 : decode cX10_makeChoice 113 = .ok (.getfield 32, 3) := by decide +kernel
theorem dX10_makeChoice_116 : decode cX10_makeChoice 116 = .ok (.aload_n 3, 1) := by decide +kernel
theorem dX10_makeChoice_117 : decode cX10_makeChoice 117 = .ok (.iload 8, 2) := by decide +kernel
theorem dX10_makeChoice_119 : decode cX10_makeChoice 119 = .ok (.invokevirtual 48, 3) := by decide +kernel
theorem dX10_makeChoice_122 : decode cX10_makeChoice 122 = .ok (.invokevirtual 60, 3) := by decide +kernel
theorem dX10_makeChoice_125 : decode cX10_makeChoice 125 = .ok (.pop, 1) := by decide +kernel
theorem dX10_makeChoice_126 : decode cX10_makeChoice 126 = .ok (.iload 7, 2) := by decide +kernel
theorem dX10_makeChoice_128 : decode cX10_makeChoice 128 = .ok (.aload_n 0, 1) := by decide +kernel
theorem dX10_makeChoice_129 : decode cX10_makeChoice 129 = .ok (.getfield 26, 3) := by decide +kernel
theorem dX10_makeChoice_132 : decode cX10_makeChoice 132 = .ok (.aload_n 3, 1) := by decide +kernel
theorem dX10_makeChoice_133 : decode cX10_makeChoice 133 = .ok (.iload 8, 2) := by decide +kernel
theorem dX10_makeChoice_135 : decode cX10_makeChoice 135 = .ok (.invokevirtual 48, 3) := by decide +kernel
theorem dX10_makeChoice_138 : decode cX10_makeChoice 138 = .ok (.invokevirtual 48, 3) := by decide +kernel
theorem dX10_makeChoice_141 : decode cX10_makeChoice 141 = .ok (.iadd, 1) := by decide +kernel
theorem dX10_makeChoice_142 : decode cX10_makeChoice 142 = .ok (.istore 7, 2) := by decide +kernel
theorem dX10_makeChoice_144 : decode cX10_makeChoice 144 = .ok (.iinc 8 1, 3) := by decide +kernel
theorem dX10_makeChoice_147 : decode cX10_makeChoice 147 = .ok (.goto (-58), 3) := by decide +kernel
theorem dX10_makeChoice_150 : decode cX10_makeChoice 150 = .ok (.aload_n 0, 1) := by decide +kernel
theorem dX10_makeChoice_151 : decode cX10_makeChoice 151 = .ok (.iload_n 1, 1) := by decide +kernel
theorem dX10_makeChoice_152 : decode cX10_makeChoice 152 = .ok (.iload 6, 2) := by decide +kernel
theorem dX10_makeChoice_154 : decode cX10_makeChoice 154 = .ok (.iload 5, 2) := by decide +kernel
theorem dX10_makeChoice_156 : decode cX10_makeChoice 156 = .ok (.iload 7, 2) := by decide +kernel
theorem dX10_makeChoice_158 : decode cX10_makeChoice 158 = .ok (.invokevirtual 52, 3) := by decide +kernel
theorem dX10_makeChoice_161 : decode cX10_makeChoice 161 = .ok (.ireturn, 1) := by decide +kernel
def mX10_makeChoice_67 (a0 : Nat) (a2 : Nat) (a3 : Nat) (k12 : iT → Int32 → Int32 → Int32 → Int32 → Option (Int32 × iT)) (I : iT) (x1 : Int32) (x4 : Int32) (x5 : Int32) (x6 : Int32) : Option (Int32 × iT) := k12 I x1 x4 x5 (x6 + 1)
def mX10_makeChoice_89 (a0 : Nat) (a2 : Nat) (a3 : Nat) : Nat → iT → Int32 → Int32 → Int32 → Int32 → Int32 → Int32 → Option (Int32 × iT)
  | 0, _, _, _, _, _, _, _ => none
  | n + 1, I, x1, x4, x5, x6, x7, x8 => (mX4_size a2 I).bind fun q1 => if q1 ≤ x8 then (mX10_addT a0 I x1 x6 x5 x7).bind fun q2 => some (q2.1, q2.2) else (mX4_at a2 I x8).bind fun q3 => (mX4_add (a0 + 9) I q3).bind fun q4 => (mX4_at a3 q4.2 x8).bind fun q5 => (mX4_add (a0 + 11) q4.2 q5).bind fun q6 => (mX4_at a3 q6.2 x8).bind fun q7 => (mX4_at (a0 + 7) q6.2 q7).bind fun q8 => mX10_makeChoice_89 a0 a2 a3 n q6.2 x1 x4 x5 x6 (x7 + q8) (x8 + 1)
def mX10_makeChoice_12 (a0 : Nat) (a2 : Nat) (a3 : Nat) : Nat → iT → Int32 → Int32 → Int32 → Int32 → Option (Int32 × iT)
  | 0, _, _, _, _, _ => none
  | n + 1, I, x1, x4, x5, x6 => (mX4_size (a0 + 1) I).bind fun q9 => if q9 ≤ x6 then (mX4_size (a0 + 9) I).bind fun q10 => mX10_makeChoice_89 a0 a2 a3 LF I x1 x4 x5 q10 1 x4 else (mX4_at (a0 + 1) I x6).bind fun q11 => if q11 = x1 then (mX4_at (a0 + 5) I x6).bind fun q12 => if q12 = x5 then (mX10_isLike a0 a2 a3 I x6 x4).bind fun q13 => if q13 = 0 then mX10_makeChoice_67 a0 a2 a3 (mX10_makeChoice_12 a0 a2 a3 n) I x1 x4 x5 x6 else some (x6, I) else mX10_makeChoice_67 a0 a2 a3 (mX10_makeChoice_12 a0 a2 a3 n) I x1 x4 x5 x6 else mX10_makeChoice_67 a0 a2 a3 (mX10_makeChoice_12 a0 a2 a3 n) I x1 x4 x5 x6
def mX10_makeChoice (a0 : Nat) (a2 : Nat) (a3 : Nat) (I : iT) (x1 : Int32) (x4 : Int32) : Option (Int32 × iT) := (mX4_size a2 I).bind fun q14 => mX10_makeChoice_12 a0 a2 a3 LF I x1 x4 (q14 - x4) 0
set_option maxRecDepth 100000 in
set_option maxHeartbeats 4000000 in
theorem tX10_makeChoice_67 {l : Launch} {K : a_KT} {g : a_GT} {IB : iT} (hko : a_kok K) {a0 : Nat} (ha0 : isTypes a0) {a2 : Nat} (ha2 : isRow a2) {a3 : Nat} (ha3 : isRow a3) {J : jT} {F : fT} {k12 : iT → Int32 → Int32 → Int32 → Int32 → Option (Int32 × iT)} (hk12 : ∀ (I : iT) (x1 : Int32) (x4 : Int32) (x5 : Int32) (x6 : Int32) (_ : FK F) (q : Int32 × iT), k12 I x1 x4 x5 x6 = some q → E l K g 2 0 0 yX10_makeChoice cX10_makeChoice 9 (some .int) 12 [.ref a0, .int x1, .ref a2, .ref a3, .int x4, .int x5, .int x6, .null, .null] [] (hg I IB J F) (fun r2 h2 => r2 = some (.int q.1) ∧ h2 = hg q.2 IB J F)) (I : iT) (x1 : Int32) (x4 : Int32) (x5 : Int32) (x6 : Int32) (hF : FK F) (q : Int32 × iT) (hm : mX10_makeChoice_67 a0 a2 a3 k12 I x1 x4 x5 x6 = some q) : E l K g 2 0 0 yX10_makeChoice cX10_makeChoice 9 (some .int) 67 [.ref a0, .int x1, .ref a2, .ref a3, .int x4, .int x5, .int x6, .null, .null] [] (hg I IB J F) (fun r2 h2 => r2 = some (.int q.1) ∧ h2 = hg q.2 IB J F) := by
  unfold mX10_makeChoice_67 at hm
  refine q_iinc (i := 6) (x6 + 1) rfl ic_1 rfl dX10_makeChoice_67 ?_
  refine e_goto 12 dX10_makeChoice_70 (by decide) ?_
  refine e_weak [.ref a0, .int x1, .ref a2, .ref a3, .int x4, .int x5, .int (x6 + 1), .null, .null] ⟨rfl, ⟨rfl, ⟨rfl, ⟨rfl, ⟨rfl, ⟨rfl, ⟨rfl, ⟨trivial, ⟨trivial, trivial⟩⟩⟩⟩⟩⟩⟩⟩⟩ ?_
  exact hk12 I x1 x4 x5 (x6 + 1) hF _ hm
set_option maxRecDepth 100000 in
set_option maxHeartbeats 4000000 in
theorem tX10_makeChoice_89 {l : Launch} {K : a_KT} {g : a_GT} {IB : iT} (hko : a_kok K) {a0 : Nat} (ha0 : isTypes a0) {a2 : Nat} (ha2 : isRow a2) {a3 : Nat} (ha3 : isRow a3) {J : jT} {F : fT} : ∀ (n : Nat) (I : iT) (x1 : Int32) (x4 : Int32) (x5 : Int32) (x6 : Int32) (x7 : Int32) (x8 : Int32) (hF : FK F) (q : Int32 × iT), mX10_makeChoice_89 a0 a2 a3 n I x1 x4 x5 x6 x7 x8 = some q → E l K g 2 0 0 yX10_makeChoice cX10_makeChoice 9 (some .int) 89 [.ref a0, .int x1, .ref a2, .ref a3, .int x4, .int x5, .int x6, .int x7, .int x8] [] (hg I IB J F) (fun r2 h2 => r2 = some (.int q.1) ∧ h2 = hg q.2 IB J F) := by
  intro n
  induction n with
  | zero => intro I x1 x4 x5 x6 x7 x8 hF q hm; cases hm
  | succ n ih =>
    intro I x1 x4 x5 x6 x7 x8 hF q hm
    rw [mX10_makeChoice_89] at hm
    refine e_iload (i := 8) rfl dX10_makeChoice_89 ?_
    refine e_aload_n (i := 2) rfl dX10_makeChoice_91 ?_
    obtain ⟨q1, eq1, hm⟩ := ob_some hm
    refine e_cV0 hko dX10_makeChoice_92 ml_RX10_44 (iz_row ha2) (by decide) rfl (by omega) (Nat.le_of_ble_eq_true rfl) (tX4_size hko ha2 I J F hF _ eq1) ?_
    rintro _ _ ⟨rfl, rfl⟩
    refine e_icmp_ge 150 dX10_makeChoice_95 (by decide) (fun c_95 => ?_) (fun c_95 => ?_)
    · have hm := it_p c_95 hm
      refine e_aload_n (i := 0) rfl dX10_makeChoice_150 ?_
      refine e_iload_n (i := 1) rfl dX10_makeChoice_151 ?_
      refine e_iload (i := 6) rfl dX10_makeChoice_152 ?_
      refine e_iload (i := 5) rfl dX10_makeChoice_154 ?_
      refine e_iload (i := 7) rfl dX10_makeChoice_156 ?_
      obtain ⟨q2, eq2, hm⟩ := ob_some hm
      refine e_cV4 hko dX10_makeChoice_158 ml_RX10_52 (iz_ty ha0) (by decide) rfl (by omega) (Nat.le_of_ble_eq_true rfl) (tX10_addT hko ha0 I J F hF x1 x6 x5 x7 _ eq2) ?_
      rintro _ _ ⟨rfl, rfl⟩
      refine e_iret dX10_makeChoice_161 rfl ?_
      have hm := some_in hm
      subst hm
      exact ⟨rfl, rfl⟩
    · have hm := it_n c_95 hm
      refine e_aload_n (i := 0) rfl dX10_makeChoice_98 ?_
      refine q_getF 10 4 (a0 + 9) dX10_makeChoice_99 fl_RX10_29 rfl (iz_ty ha0) (frt_4 hF.1 ha0) ?_
      refine e_aload_n (i := 2) rfl dX10_makeChoice_102 ?_
      refine e_iload (i := 8) rfl dX10_makeChoice_103 ?_
      obtain ⟨q3, eq3, hm⟩ := ob_some hm
      refine e_cV1 hko dX10_makeChoice_105 ml_RX10_48 (iz_row ha2) (by decide) rfl (by omega) (Nat.le_of_ble_eq_true rfl) (tX4_at hko ha2 I J F hF x8 _ eq3) ?_
      rintro _ _ ⟨rfl, rfl⟩
      obtain ⟨q4, eq4, hm⟩ := ob_some hm
      refine e_cV1 hko dX10_makeChoice_108 ml_RX10_60 (iz_row (rwt_9 ha0)) (by decide) rfl (by omega) (Nat.le_of_ble_eq_true rfl) (tX4_add hko (rwt_9 ha0) I J F hF q3 _ eq4) ?_
      rintro _ _ ⟨rfl, rfl⟩
      refine e_pop rfl dX10_makeChoice_111 ?_
      refine e_aload_n (i := 0) rfl dX10_makeChoice_112 ?_
      refine q_getF 10 5 (a0 + 11) dX10_makeChoice_113 fl_RX10_32 rfl (iz_ty ha0) (frt_5 hF.1 ha0) ?_
      refine e_aload_n (i := 3) rfl dX10_makeChoice_116 ?_
      refine e_iload (i := 8) rfl dX10_makeChoice_117 ?_
      obtain ⟨q5, eq5, hm⟩ := ob_some hm
      refine e_cV1 hko dX10_makeChoice_119 ml_RX10_48 (iz_row ha3) (by decide) rfl (by omega) (Nat.le_of_ble_eq_true rfl) (tX4_at hko ha3 q4.2 J F hF x8 _ eq5) ?_
      rintro _ _ ⟨rfl, rfl⟩
      obtain ⟨q6, eq6, hm⟩ := ob_some hm
      refine e_cV1 hko dX10_makeChoice_122 ml_RX10_60 (iz_row (rwt_11 ha0)) (by decide) rfl (by omega) (Nat.le_of_ble_eq_true rfl) (tX4_add hko (rwt_11 ha0) q4.2 J F hF q5 _ eq6) ?_
      rintro _ _ ⟨rfl, rfl⟩
      refine e_pop rfl dX10_makeChoice_125 ?_
      refine e_iload (i := 7) rfl dX10_makeChoice_126 ?_
      refine e_aload_n (i := 0) rfl dX10_makeChoice_128 ?_
      refine q_getF 10 3 (a0 + 7) dX10_makeChoice_129 fl_RX10_26 rfl (iz_ty ha0) (frt_3 hF.1 ha0) ?_
      refine e_aload_n (i := 3) rfl dX10_makeChoice_132 ?_
      refine e_iload (i := 8) rfl dX10_makeChoice_133 ?_
      obtain ⟨q7, eq7, hm⟩ := ob_some hm
      refine e_cV1 hko dX10_makeChoice_135 ml_RX10_48 (iz_row ha3) (by decide) rfl (by omega) (Nat.le_of_ble_eq_true rfl) (tX4_at hko ha3 q6.2 J F hF x8 _ eq7) ?_
      rintro _ _ ⟨rfl, rfl⟩
      obtain ⟨q8, eq8, hm⟩ := ob_some hm
      refine e_cV1 hko dX10_makeChoice_138 ml_RX10_48 (iz_row (rwt_7 ha0)) (by decide) rfl (by omega) (Nat.le_of_ble_eq_true rfl) (tX4_at hko (rwt_7 ha0) q6.2 J F hF q7 _ eq8) ?_
      rintro _ _ ⟨rfl, rfl⟩
      refine e_iadd dX10_makeChoice_141 ?_
      refine q_istore (i := 7) (by decide) rfl dX10_makeChoice_142 ?_
      refine q_iinc (i := 8) (x8 + 1) rfl ic_1 rfl dX10_makeChoice_144 ?_
      refine e_goto 89 dX10_makeChoice_147 (by decide) ?_
      refine e_weak [.ref a0, .int x1, .ref a2, .ref a3, .int x4, .int x5, .int x6, .int (x7 + q8), .int (x8 + 1)] ⟨rfl, ⟨rfl, ⟨rfl, ⟨rfl, ⟨rfl, ⟨rfl, ⟨rfl, ⟨rfl, ⟨rfl, trivial⟩⟩⟩⟩⟩⟩⟩⟩⟩ ?_
      exact ih q6.2 x1 x4 x5 x6 (x7 + q8) (x8 + 1) hF _ hm
set_option maxRecDepth 100000 in
set_option maxHeartbeats 4000000 in
theorem tX10_makeChoice_12 {l : Launch} {K : a_KT} {g : a_GT} {IB : iT} (hko : a_kok K) {a0 : Nat} (ha0 : isTypes a0) {a2 : Nat} (ha2 : isRow a2) {a3 : Nat} (ha3 : isRow a3) {J : jT} {F : fT} : ∀ (n : Nat) (I : iT) (x1 : Int32) (x4 : Int32) (x5 : Int32) (x6 : Int32) (hF : FK F) (q : Int32 × iT), mX10_makeChoice_12 a0 a2 a3 n I x1 x4 x5 x6 = some q → E l K g 2 0 0 yX10_makeChoice cX10_makeChoice 9 (some .int) 12 [.ref a0, .int x1, .ref a2, .ref a3, .int x4, .int x5, .int x6, .null, .null] [] (hg I IB J F) (fun r2 h2 => r2 = some (.int q.1) ∧ h2 = hg q.2 IB J F) := by
  intro n
  induction n with
  | zero => intro I x1 x4 x5 x6 hF q hm; cases hm
  | succ n ih =>
    intro I x1 x4 x5 x6 hF q hm
    rw [mX10_makeChoice_12] at hm
    refine e_iload (i := 6) rfl dX10_makeChoice_12 ?_
    refine e_aload_n (i := 0) rfl dX10_makeChoice_14 ?_
    refine q_getF 10 0 (a0 + 1) dX10_makeChoice_15 fl_RX10_14 rfl (iz_ty ha0) (frt_0 hF.1 ha0) ?_
    obtain ⟨q9, eq9, hm⟩ := ob_some hm
    refine e_cV0 hko dX10_makeChoice_18 ml_RX10_44 (iz_row (rwt_1 ha0)) (by decide) rfl (by omega) (Nat.le_of_ble_eq_true rfl) (tX4_size hko (rwt_1 ha0) I J F hF _ eq9) ?_
    rintro _ _ ⟨rfl, rfl⟩
    refine e_icmp_ge 73 dX10_makeChoice_21 (by decide) (fun c_21 => ?_) (fun c_21 => ?_)
    · have hm := it_p c_21 hm
      refine e_aload_n (i := 0) rfl dX10_makeChoice_73 ?_
      refine q_getF 10 4 (a0 + 9) dX10_makeChoice_74 fl_RX10_29 rfl (iz_ty ha0) (frt_4 hF.1 ha0) ?_
      obtain ⟨q10, eq10, hm⟩ := ob_some hm
      refine e_cV0 hko dX10_makeChoice_77 ml_RX10_44 (iz_row (rwt_9 ha0)) (by decide) rfl (by omega) (Nat.le_of_ble_eq_true rfl) (tX4_size hko (rwt_9 ha0) I J F hF _ eq10) ?_
      rintro _ _ ⟨rfl, rfl⟩
      refine q_istore (i := 6) (by decide) rfl dX10_makeChoice_80 ?_
      refine e_iconst (v := 1) (by decide) dX10_makeChoice_82 ?_
      refine q_istore (i := 7) (by decide) rfl dX10_makeChoice_83 ?_
      refine e_iload (i := 4) rfl dX10_makeChoice_85 ?_
      refine q_istore (i := 8) (by decide) rfl dX10_makeChoice_87 ?_
      refine e_weak [.ref a0, .int x1, .ref a2, .ref a3, .int x4, .int x5, .int q10, .int 1, .int x4] ⟨rfl, ⟨rfl, ⟨rfl, ⟨rfl, ⟨rfl, ⟨rfl, ⟨rfl, ⟨rfl, ⟨rfl, trivial⟩⟩⟩⟩⟩⟩⟩⟩⟩ ?_
      exact tX10_makeChoice_89 hko ha0 ha2 ha3 LF I x1 x4 x5 q10 1 x4 hF _ hm
    · have hm := it_n c_21 hm
      refine e_aload_n (i := 0) rfl dX10_makeChoice_24 ?_
      refine q_getF 10 0 (a0 + 1) dX10_makeChoice_25 fl_RX10_14 rfl (iz_ty ha0) (frt_0 hF.1 ha0) ?_
      refine e_iload (i := 6) rfl dX10_makeChoice_28 ?_
      obtain ⟨q11, eq11, hm⟩ := ob_some hm
      refine e_cV1 hko dX10_makeChoice_30 ml_RX10_48 (iz_row (rwt_1 ha0)) (by decide) rfl (by omega) (Nat.le_of_ble_eq_true rfl) (tX4_at hko (rwt_1 ha0) I J F hF x6 _ eq11) ?_
      rintro _ _ ⟨rfl, rfl⟩
      refine e_iload_n (i := 1) rfl dX10_makeChoice_33 ?_
      refine e_icmp_ne 67 dX10_makeChoice_34 (by decide) (fun c_34 => ?_) (fun c_34 => ?_)
      · have hm := it_n c_34 hm
        refine e_weak [.ref a0, .int x1, .ref a2, .ref a3, .int x4, .int x5, .int x6, .null, .null] ⟨rfl, ⟨rfl, ⟨rfl, ⟨rfl, ⟨rfl, ⟨rfl, ⟨rfl, ⟨trivial, ⟨trivial, trivial⟩⟩⟩⟩⟩⟩⟩⟩⟩ ?_
        exact tX10_makeChoice_67 hko ha0 ha2 ha3 (ih) I x1 x4 x5 x6 hF _ hm
      · have hm := it_p c_34 hm
        refine e_aload_n (i := 0) rfl dX10_makeChoice_37 ?_
        refine q_getF 10 2 (a0 + 5) dX10_makeChoice_38 fl_RX10_23 rfl (iz_ty ha0) (frt_2 hF.1 ha0) ?_
        refine e_iload (i := 6) rfl dX10_makeChoice_41 ?_
        obtain ⟨q12, eq12, hm⟩ := ob_some hm
        refine e_cV1 hko dX10_makeChoice_43 ml_RX10_48 (iz_row (rwt_5 ha0)) (by decide) rfl (by omega) (Nat.le_of_ble_eq_true rfl) (tX4_at hko (rwt_5 ha0) I J F hF x6 _ eq12) ?_
        rintro _ _ ⟨rfl, rfl⟩
        refine e_iload (i := 5) rfl dX10_makeChoice_46 ?_
        refine e_icmp_ne 67 dX10_makeChoice_48 (by decide) (fun c_48 => ?_) (fun c_48 => ?_)
        · have hm := it_n c_48 hm
          refine e_weak [.ref a0, .int x1, .ref a2, .ref a3, .int x4, .int x5, .int x6, .null, .null] ⟨rfl, ⟨rfl, ⟨rfl, ⟨rfl, ⟨rfl, ⟨rfl, ⟨rfl, ⟨trivial, ⟨trivial, trivial⟩⟩⟩⟩⟩⟩⟩⟩⟩ ?_
          exact tX10_makeChoice_67 hko ha0 ha2 ha3 (ih) I x1 x4 x5 x6 hF _ hm
        · have hm := it_p c_48 hm
          refine e_aload_n (i := 0) rfl dX10_makeChoice_51 ?_
          refine e_iload (i := 6) rfl dX10_makeChoice_52 ?_
          refine e_aload_n (i := 2) rfl dX10_makeChoice_54 ?_
          refine e_aload_n (i := 3) rfl dX10_makeChoice_55 ?_
          refine e_iload (i := 4) rfl dX10_makeChoice_56 ?_
          obtain ⟨q13, eq13, hm⟩ := ob_some hm
          refine e_cV4 hko dX10_makeChoice_58 ml_RX10_56 (iz_ty ha0) (by decide) rfl (by omega) (Nat.le_of_ble_eq_true rfl) (tX10_isLike hko ha0 ha2 ha3 I J F hF x6 x4 _ eq13) ?_
          rintro _ _ ⟨rfl, rfl⟩
          refine e_if_eq 67 dX10_makeChoice_61 (by decide) (fun c_61 => ?_) (fun c_61 => ?_)
          · have hm := it_p c_61 hm
            refine e_weak [.ref a0, .int x1, .ref a2, .ref a3, .int x4, .int x5, .int x6, .null, .null] ⟨rfl, ⟨rfl, ⟨rfl, ⟨rfl, ⟨rfl, ⟨rfl, ⟨rfl, ⟨trivial, ⟨trivial, trivial⟩⟩⟩⟩⟩⟩⟩⟩⟩ ?_
            exact tX10_makeChoice_67 hko ha0 ha2 ha3 (ih) I x1 x4 x5 x6 hF _ hm
          · have hm := it_n c_61 hm
            refine e_iload (i := 6) rfl dX10_makeChoice_64 ?_
            refine e_iret dX10_makeChoice_66 rfl ?_
            have hm := some_in hm
            subst hm
            exact ⟨rfl, rfl⟩
set_option maxRecDepth 100000 in
set_option maxHeartbeats 4000000 in
theorem tX10_makeChoice {l : Launch} {K : a_KT} {g : a_GT} {IB : iT} (hko : a_kok K) {a0 : Nat} (ha0 : isTypes a0) {a2 : Nat} (ha2 : isRow a2) {a3 : Nat} (ha3 : isRow a3) (I : iT) (J : jT) (F : fT) (hF : FK F) (x1 : Int32) (x4 : Int32) (q : Int32 × iT) (hm : mX10_makeChoice a0 a2 a3 I x1 x4 = some q) : C l K g 2 0 0 yX10_makeChoice cX10_makeChoice 9 (some .int) [.ref a0, .int x1, .ref a2, .ref a3, .int x4] (hg I IB J F) (fun r2 h2 => r2 = some (.int q.1) ∧ h2 = hg q.2 IB J F) := by
  unfold mX10_makeChoice at hm
  refine c_of [.ref a0, .int x1, .ref a2, .ref a3, .int x4, .null, .null, .null, .null] (by decide) (Nat.le_of_ble_eq_true rfl) rfl ?_
  refine e_aload_n (i := 2) rfl dX10_makeChoice_0 ?_
  obtain ⟨q14, eq14, hm⟩ := ob_some hm
  refine e_cV0 hko dX10_makeChoice_1 ml_RX10_44 (iz_row ha2) (by decide) rfl (by omega) (Nat.le_of_ble_eq_true rfl) (tX4_size hko ha2 I J F hF _ eq14) ?_
  rintro _ _ ⟨rfl, rfl⟩
  refine e_iload (i := 4) rfl dX10_makeChoice_4 ?_
  refine e_isub dX10_makeChoice_6 ?_
  refine q_istore (i := 5) (by decide) rfl dX10_makeChoice_7 ?_
  refine e_iconst (v := 0) (by decide) dX10_makeChoice_9 ?_
  refine q_istore (i := 6) (by decide) rfl dX10_makeChoice_10 ?_
  refine e_weak [.ref a0, .int x1, .ref a2, .ref a3, .int x4, .int (q14 - x4), .int 0, .null, .null] ⟨rfl, ⟨rfl, ⟨rfl, ⟨rfl, ⟨rfl, ⟨rfl, ⟨rfl, ⟨trivial, ⟨trivial, trivial⟩⟩⟩⟩⟩⟩⟩⟩⟩ ?_
  exact tX10_makeChoice_12 hko ha0 ha2 ha3 LF I x1 x4 (q14 - x4) 0 hF _ hm
theorem dX10_writeBranch_0 : decode cX10_writeBranch 0 = .ok (.iload_n 2, 1) := by decide +kernel
theorem dX10_writeBranch_1 : decode cX10_writeBranch 1 = .ok (.aload_n 0, 1) := by decide +kernel
theorem dX10_writeBranch_2 : decode cX10_writeBranch 2 = .ok (.iload_n 1, 1) := by decide +kernel
theorem dX10_writeBranch_3 : decode cX10_writeBranch 3 = .ok (.invokevirtual 67, 3) := by decide +kernel
theorem dX10_writeBranch_6 : decode cX10_writeBranch 6 = .ok (.if_icmp .lt 11, 3) := by decide +kernel
theorem dX10_writeBranch_9 : decode cX10_writeBranch 9 = .ok (.aload_n 3, 1) := by decide +kernel
theorem dX10_writeBranch_10 : decode cX10_writeBranch 10 = .ok (.ldc 96, 2) := by decide +kernel
theorem dX10_writeBranch_12 : decode cX10_writeBranch 12 = .ok (.invokevirtual 90, 3) := by decide +kernel
theorem dX10_writeBranch_15 : decode cX10_writeBranch 15 = .ok (.iconst (-1), 1) := by decide +kernel
theorem dX10_writeBranch_16 : decode cX10_writeBranch 16 = .ok (.ireturn, 1) := by decide +kernel
theorem dX10_writeBranch_17 : decode cX10_writeBranch 17 = .ok (.iload_n 2, 1) := by decide +kernel
theorem dX10_writeBranch_18 : decode cX10_writeBranch 18 = .ok (.ifCond .ne 25, 3) := by decide +kernel
theorem dX10_writeBranch_21 : decode cX10_writeBranch 21 = .ok (.aload_n 3, 1) := by decide +kernel
theorem dX10_writeBranch_22 : decode cX10_writeBranch 22 = .ok (.aload_n 0, 1) := by decide +kernel
theorem dX10_writeBranch_23 : decode cX10_writeBranch 23 = .ok (.getfield 14, 3) := by decide +kernel
theorem dX10_writeBranch_26 : decode cX10_writeBranch 26 = .ok (.iload_n 1, 1) := by decide +kernel
theorem dX10_writeBranch_27 : decode cX10_writeBranch 27 = .ok (.invokevirtual 48, 3) := by decide +kernel
theorem dX10_writeBranch_30 : decode cX10_writeBranch 30 = .ok (.invokevirtual 60, 3) := by decide +kernel
theorem dX10_writeBranch_33 : decode cX10_writeBranch 33 = .ok (.pop, 1) := by decide +kernel
theorem dX10_writeBranch_34 : decode cX10_writeBranch 34 = .ok (.aload_n 3, 1) := by decide +kernel
theorem dX10_writeBranch_35 : decode cX10_writeBranch 35 = .ok (.ldc 98, 2) := by decide +kernel
theorem dX10_writeBranch_37 : decode cX10_writeBranch 37 = .ok (.invokevirtual 90, 3) := by decide +kernel
theorem dX10_writeBranch_40 : decode cX10_writeBranch 40 = .ok (.goto 9, 3) := by decide +kernel
theorem dX10_writeBranch_43 : decode cX10_writeBranch 43 = .ok (.aload_n 3, 1) := by decide +kernel
theorem dX10_writeBranch_44 : decode cX10_writeBranch 44 = .ok (.ldc 100, 2) := by decide +kernel
theorem dX10_writeBranch_46 : decode cX10_writeBranch 46 = .ok (.invokevirtual 90, 3) := by decide +kernel
theorem dX10_writeBranch_49 : decode cX10_writeBranch 49 = .ok (.aload_n 0, 1) := by decide +kernel
theorem dX10_writeBranch_50 : decode cX10_writeBranch 50 = .ok (.iload_n 1, 1) := by decide +kernel
theorem dX10_writeBranch_51 : decode cX10_writeBranch 51 = .ok (.iload_n 2, 1) := by decide +kernel
theorem dX10_writeBranch_52 : decode cX10_writeBranch 52 = .ok (.invokevirtual 70, 3) := by decide +kernel
theorem dX10_writeBranch_55 : decode cX10_writeBranch 55 = .ok (.istore 4, 2) := by decide +kernel
theorem dX10_writeBranch_57 : decode cX10_writeBranch 57 = .ok (.iconst 0, 1) := by decide +kernel
theorem dX10_writeBranch_58 : decode cX10_writeBranch 58 = .ok (.istore 5, 2) := by decide +kernel
theorem dX10_writeBranch_60 : decode cX10_writeBranch 60 = .ok (.iload 5, 2) := by decide +kernel
theorem dX10_writeBranch_62 : decode cX10_writeBranch 62 = .ok (.iload 4, 2) := by decide +kernel
theorem dX10_writeBranch_64 : decode cX10_writeBranch 64 = .ok (.invokestatic 102, 3) := by decide +kernel
theorem dX10_writeBranch_67 : decode cX10_writeBranch 67 = .ok (.if_icmp .ge 21, 3) := by decide +kernel
theorem dX10_writeBranch_70 : decode cX10_writeBranch 70 = .ok (.aload_n 3, 1) := by decide +kernel
theorem dX10_writeBranch_71 : decode cX10_writeBranch 71 = .ok (.iload 4, 2) := by decide +kernel
theorem dX10_writeBranch_73 : decode cX10_writeBranch 73 = .ok (.iload 5, 2) := by decide +kernel
theorem dX10_writeBranch_75 : decode cX10_writeBranch 75 = .ok (.invokestatic 105, 3) := by decide +kernel
theorem dX10_writeBranch_78 : decode cX10_writeBranch 78 = .ok (.invokevirtual 60, 3) := by decide +kernel
theorem dX10_writeBranch_81 : decode cX10_writeBranch 81 = .ok (.pop, 1) := by decide +kernel
theorem dX10_writeBranch_82 : decode cX10_writeBranch 82 = .ok (.iinc 5 1, 3) := by decide +kernel
theorem dX10_writeBranch_85 : decode cX10_writeBranch 85 = .ok (.goto (-25), 3) := by decide +kernel
theorem dX10_writeBranch_88 : decode cX10_writeBranch 88 = .ok (.aload_n 3, 1) := by decide +kernel
theorem dX10_writeBranch_89 : decode cX10_writeBranch 89 = .ok (.ldc 108, 2) := by decide +kernel
theorem dX10_writeBranch_91 : decode cX10_writeBranch 91 = .ok (.invokevirtual 90, 3) := by decide +kernel
theorem dX10_writeBranch_94 : decode cX10_writeBranch 94 = .ok (.aload_n 0, 1) := by decide +kernel
theorem dX10_writeBranch_95 : decode cX10_writeBranch 95 = .ok (.iload_n 1, 1) := by decide +kernel
theorem dX10_writeBranch_96 : decode cX10_writeBranch 96 = .ok (.iload_n 2, 1) := by decide +kernel
theorem dX10_writeBranch_97 : decode cX10_writeBranch 97 = .ok (.invokevirtual 110, 3) := by decide +kernel
theorem dX10_writeBranch_100 : decode cX10_writeBranch 100 = .ok (.ireturn, 1) := by decide +kernel
def mX10_writeBranch_60 (a0 : Nat) (a3 : Nat) : Nat → iT → Int32 → Int32 → Int32 → Int32 → Option (Int32 × iT)
  | 0, _, _, _, _, _ => none
  | n + 1, I, x1, x2, x4, x5 => (mX11_lettersIn x4).bind fun q1 => if q1 ≤ x5 then (mX4_addText a3 1000005 I).bind fun q2 => (mX10_branchT a0 q2 x1 x2).bind fun q3 => some (q3, q2) else (mX11_letterOf x4 x5).bind fun q4 => (mX4_add a3 I q4).bind fun q5 => mX10_writeBranch_60 a0 a3 n q5.2 x1 x2 x4 (x5 + 1)
def mX10_writeBranch_49 (a0 : Nat) (a3 : Nat) (I : iT) (x1 : Int32) (x2 : Int32) : Option (Int32 × iT) := (mX10_branchName a0 I x1 x2).bind fun q6 => mX10_writeBranch_60 a0 a3 LF I x1 x2 q6 0
def mX10_writeBranch (a0 : Nat) (a3 : Nat) (I : iT) (x1 : Int32) (x2 : Int32) : Option (Int32 × iT) := (mX10_branches a0 I x1).bind fun q7 => if x2 < q7 then if x2 = 0 then (mX4_at (a0 + 1) I x1).bind fun q9 => (mX4_add a3 I q9).bind fun q10 => (mX4_addText a3 1000003 q10.2).bind fun q11 => mX10_writeBranch_49 a0 a3 q11 x1 x2 else (mX4_addText a3 1000004 I).bind fun q8 => mX10_writeBranch_49 a0 a3 q8 x1 x2 else (mX4_addText a3 1000002 I).bind fun q12 => some ((-1), q12)
set_option maxRecDepth 100000 in
set_option maxHeartbeats 4000000 in
theorem tX10_writeBranch_60 {l : Launch} {K : a_KT} {g : a_GT} {IB : iT} (hko : a_kok K) (hS : StrOK l K g) {a0 : Nat} (ha0 : isTypes a0) {a3 : Nat} (ha3 : isRow a3) {J : jT} {F : fT} : ∀ (n : Nat) (I : iT) (x1 : Int32) (x2 : Int32) (x4 : Int32) (x5 : Int32) (hF : FK F) (q : Int32 × iT), mX10_writeBranch_60 a0 a3 n I x1 x2 x4 x5 = some q → E l K g 14 0 0 yX10_writeBranch cX10_writeBranch 6 (some .int) 60 [.ref a0, .int x1, .int x2, .ref a3, .int x4, .int x5] [] (hg I IB J F) (fun r2 h2 => r2 = some (.int q.1) ∧ h2 = hg q.2 IB J F) := by
  intro n
  induction n with
  | zero => intro I x1 x2 x4 x5 hF q hm; cases hm
  | succ n ih =>
    intro I x1 x2 x4 x5 hF q hm
    rw [mX10_writeBranch_60] at hm
    refine e_iload (i := 5) rfl dX10_writeBranch_60 ?_
    refine e_iload (i := 4) rfl dX10_writeBranch_62 ?_
    obtain ⟨q1, eq1, hm⟩ := ob_some hm
    refine e_cS1 hko dX10_writeBranch_64 ml_RX10_102 (by omega) (Nat.le_of_ble_eq_true rfl) (tX11_lettersIn hko I J F hF x4 _ eq1) ?_
    rintro _ _ ⟨rfl, rfl⟩
    refine e_icmp_ge 88 dX10_writeBranch_67 (by decide) (fun c_67 => ?_) (fun c_67 => ?_)
    · have hm := it_p c_67 hm
      refine e_aload_n (i := 3) rfl dX10_writeBranch_88 ?_
      refine hS.2.2.2 5 dX10_writeBranch_89 (by decide) (by decide +kernel) ?_
      obtain ⟨q2, eq2, hm⟩ := ob_some hm
      refine e_cV1 hko dX10_writeBranch_91 ml_RX10_90 (iz_row ha3) (by decide) rfl (by omega) (Nat.le_of_ble_eq_true rfl) (tX4_addText hko hS ha3 ⟨by decide, by decide⟩ I J F hF _ eq2) ?_
      rintro _ _ ⟨rfl, rfl⟩
      refine e_aload_n (i := 0) rfl dX10_writeBranch_94 ?_
      refine e_iload_n (i := 1) rfl dX10_writeBranch_95 ?_
      refine e_iload_n (i := 2) rfl dX10_writeBranch_96 ?_
      obtain ⟨q3, eq3, hm⟩ := ob_some hm
      refine e_cV2 hko dX10_writeBranch_97 ml_RX10_110 (iz_ty ha0) (by decide) rfl (by omega) (Nat.le_of_ble_eq_true rfl) (tX10_branchT hko ha0 q2 J F hF x1 x2 _ eq3) ?_
      rintro _ _ ⟨rfl, rfl⟩
      refine e_iret dX10_writeBranch_100 rfl ?_
      have hm := some_in hm
      subst hm
      exact ⟨rfl, rfl⟩
    · have hm := it_n c_67 hm
      refine e_aload_n (i := 3) rfl dX10_writeBranch_70 ?_
      refine e_iload (i := 4) rfl dX10_writeBranch_71 ?_
      refine e_iload (i := 5) rfl dX10_writeBranch_73 ?_
      obtain ⟨q4, eq4, hm⟩ := ob_some hm
      refine e_cS2 hko dX10_writeBranch_75 ml_RX10_105 (by omega) (Nat.le_of_ble_eq_true rfl) (tX11_letterOf hko I J F hF x4 x5 _ eq4) ?_
      rintro _ _ ⟨rfl, rfl⟩
      obtain ⟨q5, eq5, hm⟩ := ob_some hm
      refine e_cV1 hko dX10_writeBranch_78 ml_RX10_60 (iz_row ha3) (by decide) rfl (by omega) (Nat.le_of_ble_eq_true rfl) (tX4_add hko ha3 I J F hF q4 _ eq5) ?_
      rintro _ _ ⟨rfl, rfl⟩
      refine e_pop rfl dX10_writeBranch_81 ?_
      refine q_iinc (i := 5) (x5 + 1) rfl ic_1 rfl dX10_writeBranch_82 ?_
      refine e_goto 60 dX10_writeBranch_85 (by decide) ?_
      refine e_weak [.ref a0, .int x1, .int x2, .ref a3, .int x4, .int (x5 + 1)] ⟨rfl, ⟨rfl, ⟨rfl, ⟨rfl, ⟨rfl, ⟨rfl, trivial⟩⟩⟩⟩⟩⟩ ?_
      exact ih q5.2 x1 x2 x4 (x5 + 1) hF _ hm
set_option maxRecDepth 100000 in
set_option maxHeartbeats 4000000 in
theorem tX10_writeBranch_49 {l : Launch} {K : a_KT} {g : a_GT} {IB : iT} (hko : a_kok K) (hS : StrOK l K g) {a0 : Nat} (ha0 : isTypes a0) {a3 : Nat} (ha3 : isRow a3) {J : jT} {F : fT} (I : iT) (x1 : Int32) (x2 : Int32) (hF : FK F) (q : Int32 × iT) (hm : mX10_writeBranch_49 a0 a3 I x1 x2 = some q) : E l K g 14 0 0 yX10_writeBranch cX10_writeBranch 6 (some .int) 49 [.ref a0, .int x1, .int x2, .ref a3, .null, .null] [] (hg I IB J F) (fun r2 h2 => r2 = some (.int q.1) ∧ h2 = hg q.2 IB J F) := by
  unfold mX10_writeBranch_49 at hm
  refine e_aload_n (i := 0) rfl dX10_writeBranch_49 ?_
  refine e_iload_n (i := 1) rfl dX10_writeBranch_50 ?_
  refine e_iload_n (i := 2) rfl dX10_writeBranch_51 ?_
  obtain ⟨q6, eq6, hm⟩ := ob_some hm
  refine e_cV2 hko dX10_writeBranch_52 ml_RX10_70 (iz_ty ha0) (by decide) rfl (by omega) (Nat.le_of_ble_eq_true rfl) (tX10_branchName hko ha0 I J F hF x1 x2 _ eq6) ?_
  rintro _ _ ⟨rfl, rfl⟩
  refine q_istore (i := 4) (by decide) rfl dX10_writeBranch_55 ?_
  refine e_iconst (v := 0) (by decide) dX10_writeBranch_57 ?_
  refine q_istore (i := 5) (by decide) rfl dX10_writeBranch_58 ?_
  refine e_weak [.ref a0, .int x1, .int x2, .ref a3, .int q6, .int 0] ⟨rfl, ⟨rfl, ⟨rfl, ⟨rfl, ⟨rfl, ⟨rfl, trivial⟩⟩⟩⟩⟩⟩ ?_
  exact tX10_writeBranch_60 hko hS ha0 ha3 LF I x1 x2 q6 0 hF _ hm
set_option maxRecDepth 100000 in
set_option maxHeartbeats 4000000 in
theorem tX10_writeBranch {l : Launch} {K : a_KT} {g : a_GT} {IB : iT} (hko : a_kok K) (hS : StrOK l K g) {a0 : Nat} (ha0 : isTypes a0) {a3 : Nat} (ha3 : isRow a3) (I : iT) (J : jT) (F : fT) (hF : FK F) (x1 : Int32) (x2 : Int32) (q : Int32 × iT) (hm : mX10_writeBranch a0 a3 I x1 x2 = some q) : C l K g 14 0 0 yX10_writeBranch cX10_writeBranch 6 (some .int) [.ref a0, .int x1, .int x2, .ref a3] (hg I IB J F) (fun r2 h2 => r2 = some (.int q.1) ∧ h2 = hg q.2 IB J F) := by
  unfold mX10_writeBranch at hm
  refine c_of [.ref a0, .int x1, .int x2, .ref a3, .null, .null] (by decide) (Nat.le_of_ble_eq_true rfl) rfl ?_
  refine e_iload_n (i := 2) rfl dX10_writeBranch_0 ?_
  refine e_aload_n (i := 0) rfl dX10_writeBranch_1 ?_
  refine e_iload_n (i := 1) rfl dX10_writeBranch_2 ?_
  obtain ⟨q7, eq7, hm⟩ := ob_some hm
  refine e_cV1 hko dX10_writeBranch_3 ml_RX10_67 (iz_ty ha0) (by decide) rfl (by omega) (Nat.le_of_ble_eq_true rfl) (tX10_branches hko ha0 I J F hF x1 _ eq7) ?_
  rintro _ _ ⟨rfl, rfl⟩
  refine e_icmp_lt 17 dX10_writeBranch_6 (by decide) (fun c_6 => ?_) (fun c_6 => ?_)
  · have hm := it_p c_6 hm
    refine e_iload_n (i := 2) rfl dX10_writeBranch_17 ?_
    refine e_if_ne 43 dX10_writeBranch_18 (by decide) (fun c_18 => ?_) (fun c_18 => ?_)
    · have hm := it_n c_18 hm
      refine e_aload_n (i := 3) rfl dX10_writeBranch_43 ?_
      refine hS.2.2.2 4 dX10_writeBranch_44 (by decide) (by decide +kernel) ?_
      obtain ⟨q8, eq8, hm⟩ := ob_some hm
      refine e_cV1 hko dX10_writeBranch_46 ml_RX10_90 (iz_row ha3) (by decide) rfl (by omega) (Nat.le_of_ble_eq_true rfl) (tX4_addText hko hS ha3 ⟨by decide, by decide⟩ I J F hF _ eq8) ?_
      rintro _ _ ⟨rfl, rfl⟩
      refine e_weak [.ref a0, .int x1, .int x2, .ref a3, .null, .null] ⟨rfl, ⟨rfl, ⟨rfl, ⟨rfl, ⟨trivial, ⟨trivial, trivial⟩⟩⟩⟩⟩⟩ ?_
      exact tX10_writeBranch_49 hko hS ha0 ha3 q8 x1 x2 hF _ hm
    · have hm := it_p c_18 hm
      refine e_aload_n (i := 3) rfl dX10_writeBranch_21 ?_
      refine e_aload_n (i := 0) rfl dX10_writeBranch_22 ?_
      refine q_getF 10 0 (a0 + 1) dX10_writeBranch_23 fl_RX10_14 rfl (iz_ty ha0) (frt_0 hF.1 ha0) ?_
      refine e_iload_n (i := 1) rfl dX10_writeBranch_26 ?_
      obtain ⟨q9, eq9, hm⟩ := ob_some hm
      refine e_cV1 hko dX10_writeBranch_27 ml_RX10_48 (iz_row (rwt_1 ha0)) (by decide) rfl (by omega) (Nat.le_of_ble_eq_true rfl) (tX4_at hko (rwt_1 ha0) I J F hF x1 _ eq9) ?_
      rintro _ _ ⟨rfl, rfl⟩
      obtain ⟨q10, eq10, hm⟩ := ob_some hm
      refine e_cV1 hko dX10_writeBranch_30 ml_RX10_60 (iz_row ha3) (by decide) rfl (by omega) (Nat.le_of_ble_eq_true rfl) (tX4_add hko ha3 I J F hF q9 _ eq10) ?_
      rintro _ _ ⟨rfl, rfl⟩
      refine e_pop rfl dX10_writeBranch_33 ?_
      refine e_aload_n (i := 3) rfl dX10_writeBranch_34 ?_
      refine hS.2.2.2 3 dX10_writeBranch_35 (by decide) (by decide +kernel) ?_
      obtain ⟨q11, eq11, hm⟩ := ob_some hm
      refine e_cV1 hko dX10_writeBranch_37 ml_RX10_90 (iz_row ha3) (by decide) rfl (by omega) (Nat.le_of_ble_eq_true rfl) (tX4_addText hko hS ha3 ⟨by decide, by decide⟩ q10.2 J F hF _ eq11) ?_
      rintro _ _ ⟨rfl, rfl⟩
      refine e_goto 49 dX10_writeBranch_40 (by decide) ?_
      refine e_weak [.ref a0, .int x1, .int x2, .ref a3, .null, .null] ⟨rfl, ⟨rfl, ⟨rfl, ⟨rfl, ⟨trivial, ⟨trivial, trivial⟩⟩⟩⟩⟩⟩ ?_
      exact tX10_writeBranch_49 hko hS ha0 ha3 q11 x1 x2 hF _ hm
  · have hm := it_n c_6 hm
    refine e_aload_n (i := 3) rfl dX10_writeBranch_9 ?_
    refine hS.2.2.2 2 dX10_writeBranch_10 (by decide) (by decide +kernel) ?_
    obtain ⟨q12, eq12, hm⟩ := ob_some hm
    refine e_cV1 hko dX10_writeBranch_12 ml_RX10_90 (iz_row ha3) (by decide) rfl (by omega) (Nat.le_of_ble_eq_true rfl) (tX4_addText hko hS ha3 ⟨by decide, by decide⟩ I J F hF _ eq12) ?_
    rintro _ _ ⟨rfl, rfl⟩
    refine e_iconst (v := (-1)) (by decide) dX10_writeBranch_15 ?_
    refine e_iret dX10_writeBranch_16 rfl ?_
    have hm := some_in hm
    subst hm
    exact ⟨rfl, rfl⟩
theorem dX10_writeAhead_0 : decode cX10_writeAhead 0 = .ok (.aload_n 0, 1) := by decide +kernel
theorem dX10_writeAhead_1 : decode cX10_writeAhead 1 = .ok (.getfield 14, 3) := by decide +kernel
theorem dX10_writeAhead_4 : decode cX10_writeAhead 4 = .ok (.iload_n 1, 1) := by decide +kernel
theorem dX10_writeAhead_5 : decode cX10_writeAhead 5 = .ok (.invokevirtual 48, 3) := by decide +kernel
theorem dX10_writeAhead_8 : decode cX10_writeAhead 8 = .ok (.istore 4, 2) := by decide +kernel
theorem dX10_writeAhead_10 : decode cX10_writeAhead 10 = .ok (.iload 4, 2) := by decide +kernel
theorem dX10_writeAhead_12 : decode cX10_writeAhead 12 = .ok (.invokestatic 63, 3) := by decide +kernel
theorem dX10_writeAhead_15 : decode cX10_writeAhead 15 = .ok (.ifCond .eq 11, 3) := by decide +kernel
theorem dX10_writeAhead_18 : decode cX10_writeAhead 18 = .ok (.aload_n 0, 1) := by decide +kernel
theorem dX10_writeAhead_19 : decode cX10_writeAhead 19 = .ok (.iload_n 1, 1) := by decide +kernel
theorem dX10_writeAhead_20 : decode cX10_writeAhead 20 = .ok (.iload_n 2, 1) := by decide +kernel
theorem dX10_writeAhead_21 : decode cX10_writeAhead 21 = .ok (.aload_n 3, 1) := by decide +kernel
theorem dX10_writeAhead_22 : decode cX10_writeAhead 22 = .ok (.invokevirtual 85, 3) := by decide +kernel
theorem dX10_writeAhead_25 : decode cX10_writeAhead 25 = .ok (.ireturn, 1) := by decide +kernel
theorem dX10_writeAhead_26 : decode cX10_writeAhead 26 = .ok (.iload 4, 2) := by decide +kernel
theorem dX10_writeAhead_28 : decode cX10_writeAhead 28 = .ok (.sipush 302, 3) := by decide +kernel
theorem dX10_writeAhead_31 : decode cX10_writeAhead 31 = .ok (.if_icmp .ne 11, 3) := by decide +kernel
theorem dX10_writeAhead_34 : decode cX10_writeAhead 34 = .ok (.aload_n 3, 1) := by decide +kernel
theorem dX10_writeAhead_35 : decode cX10_writeAhead 35 = .ok (.ldc 88, 2) := by decide +kernel
theorem dX10_writeAhead_37 : decode cX10_writeAhead 37 = .ok (.invokevirtual 90, 3) := by decide +kernel
theorem dX10_writeAhead_40 : decode cX10_writeAhead 40 = .ok (.iconst (-1), 1) := by decide +kernel
theorem dX10_writeAhead_41 : decode cX10_writeAhead 41 = .ok (.ireturn, 1) := by decide +kernel
theorem dX10_writeAhead_42 : decode cX10_writeAhead 42 = .ok (.iload_n 2, 1) := by decide +kernel
theorem dX10_writeAhead_43 : decode cX10_writeAhead 43 = .ok (.ifCond .ne 49, 3) := by decide +kernel
theorem dX10_writeAhead_46 : decode cX10_writeAhead 46 = .ok (.aload_n 3, 1) := by decide +kernel
theorem dX10_writeAhead_47 : decode cX10_writeAhead 47 = .ok (.iload 4, 2) := by decide +kernel
theorem dX10_writeAhead_49 : decode cX10_writeAhead 49 = .ok (.invokevirtual 60, 3) := by decide +kernel
theorem dX10_writeAhead_52 : decode cX10_writeAhead 52 = .ok (.pop, 1) := by decide +kernel
theorem dX10_writeAhead_53 : decode cX10_writeAhead 53 = .ok (.aload_n 3, 1) := by decide +kernel
theorem dX10_writeAhead_54 : decode cX10_writeAhead 54 = .ok (.bipush 32, 2) := by decide +kernel
theorem dX10_writeAhead_56 : decode cX10_writeAhead 56 = .ok (.invokevirtual 60, 3) := by decide +kernel
theorem dX10_writeAhead_59 : decode cX10_writeAhead 59 = .ok (.pop, 1) := by decide +kernel
theorem dX10_writeAhead_60 : decode cX10_writeAhead 60 = .ok (.aload_n 0, 1) := by decide +kernel
theorem dX10_writeAhead_61 : decode cX10_writeAhead 61 = .ok (.getfield 20, 3) := by decide +kernel
theorem dX10_writeAhead_64 : decode cX10_writeAhead 64 = .ok (.iload_n 1, 1) := by decide +kernel
theorem dX10_writeAhead_65 : decode cX10_writeAhead 65 = .ok (.invokevirtual 48, 3) := by decide +kernel
theorem dX10_writeAhead_68 : decode cX10_writeAhead 68 = .ok (.iconst (-1), 1) := by decide +kernel
theorem dX10_writeAhead_69 : decode cX10_writeAhead 69 = .ok (.if_icmp .ne 14, 3) := by decide +kernel
theorem dX10_writeAhead_72 : decode cX10_writeAhead 72 = .ok (.aload_n 0, 1) := by decide +kernel
theorem dX10_writeAhead_73 : decode cX10_writeAhead 73 = .ok (.getfield 23, 3) := by decide +kernel
theorem dX10_writeAhead_76 : decode cX10_writeAhead 76 = .ok (.iload_n 1, 1) := by decide +kernel
theorem dX10_writeAhead_77 : decode cX10_writeAhead 77 = .ok (.invokevirtual 48, 3) := by decide +kernel
theorem dX10_writeAhead_80 : decode cX10_writeAhead 80 = .ok (.goto 11, 3) := by decide +kernel
theorem dX10_writeAhead_83 : decode cX10_writeAhead 83 = .ok (.aload_n 0, 1) := by decide +kernel
theorem dX10_writeAhead_84 : decode cX10_writeAhead 84 = .ok (.getfield 20, 3) := by decide +kernel
theorem dX10_writeAhead_87 : decode cX10_writeAhead 87 = .ok (.iload_n 1, 1) := by decide +kernel
theorem dX10_writeAhead_88 : decode cX10_writeAhead 88 = .ok (.invokevirtual 48, 3) := by decide +kernel
theorem dX10_writeAhead_91 : decode cX10_writeAhead 91 = .ok (.ireturn, 1) := by decide +kernel
theorem dX10_writeAhead_92 : decode cX10_writeAhead 92 = .ok (.iload_n 2, 1) := by decide +kernel
theorem dX10_writeAhead_93 : decode cX10_writeAhead 93 = .ok (.iconst 1, 1) := by decide +kernel
theorem dX10_writeAhead_94 : decode cX10_writeAhead 94 = .ok (.if_icmp .ne 30, 3) := by decide +kernel
theorem dX10_writeAhead_97 : decode cX10_writeAhead 97 = .ok (.aload_n 0, 1) := by decide +kernel
theorem dX10_writeAhead_98 : decode cX10_writeAhead 98 = .ok (.getfield 20, 3) := by decide +kernel
theorem dX10_writeAhead_101 : decode cX10_writeAhead 101 = .ok (.iload_n 1, 1) := by decide +kernel
theorem dX10_writeAhead_102 : decode cX10_writeAhead 102 = .ok (.invokevirtual 48, 3) := by decide +kernel
theorem dX10_writeAhead_105 : decode cX10_writeAhead 105 = .ok (.iconst (-1), 1) := by decide +kernel
theorem dX10_writeAhead_106 : decode cX10_writeAhead 106 = .ok (.if_icmp .eq 18, 3) := by decide +kernel
theorem dX10_writeAhead_109 : decode cX10_writeAhead 109 = .ok (.aload_n 3, 1) := by decide +kernel
theorem dX10_writeAhead_110 : decode cX10_writeAhead 110 = .ok (.ldc 94, 2) := by decide +kernel
theorem dX10_writeAhead_112 : decode cX10_writeAhead 112 = .ok (.invokevirtual 90, 3) := by decide +kernel
theorem dX10_writeAhead_115 : decode cX10_writeAhead 115 = .ok (.aload_n 0, 1) := by decide +kernel
theorem dX10_writeAhead_116 : decode cX10_writeAhead 116 = .ok (.getfield 23, 3) := by decide +kernel
theorem dX10_writeAhead_119 : decode cX10_writeAhead 119 = .ok (.iload_n 1, 1) := by decide +kernel
theorem dX10_writeAhead_120 : decode cX10_writeAhead 120 = .ok (.invokevirtual 48, 3) := by decide +kernel
theorem dX10_writeAhead_123 : decode cX10_writeAhead 123 = .ok (.ireturn, 1) := by decide +kernel
theorem dX10_writeAhead_124 : decode cX10_writeAhead 124 = .ok (.iconst (-1), 1) := by decide +kernel
theorem dX10_writeAhead_125 : decode cX10_writeAhead 125 = .ok (.ireturn, 1) := by decide +kernel
def mX10_writeAhead (a0 : Nat) (a3 : Nat) (I : iT) (x1 : Int32) (x2 : Int32) : Option (Int32 × iT) := (mX4_at (a0 + 1) I x1).bind fun q1 => (mX10_isChoice q1).bind fun q2 => if q2 = 0 then if q1 = 302 then (mX4_addText a3 1000006 I).bind fun q11 => some ((-1), q11) else if x2 = 0 then (mX4_add a3 I q1).bind fun q6 => (mX4_add a3 q6.2 32).bind fun q7 => (mX4_at (a0 + 3) q7.2 x1).bind fun q8 => if q8 = ((-1)) then (mX4_at (a0 + 5) q7.2 x1).bind fun q10 => some (q10, q7.2) else (mX4_at (a0 + 3) q7.2 x1).bind fun q9 => some (q9, q7.2) else if x2 = 1 then (mX4_at (a0 + 3) I x1).bind fun q3 => if q3 = ((-1)) then some ((-1), I) else (mX4_addText a3 1000007 I).bind fun q4 => (mX4_at (a0 + 5) q4 x1).bind fun q5 => some (q5, q4) else some ((-1), I) else (mX10_writeBranch a0 a3 I x1 x2).bind fun q12 => some (q12.1, q12.2)
set_option maxRecDepth 100000 in
set_option maxHeartbeats 4000000 in
theorem tX10_writeAhead {l : Launch} {K : a_KT} {g : a_GT} {IB : iT} (hko : a_kok K) (hS : StrOK l K g) {a0 : Nat} (ha0 : isTypes a0) {a3 : Nat} (ha3 : isRow a3) (I : iT) (J : jT) (F : fT) (hF : FK F) (x1 : Int32) (x2 : Int32) (q : Int32 × iT) (hm : mX10_writeAhead a0 a3 I x1 x2 = some q) : C l K g 15 0 0 yX10_writeAhead cX10_writeAhead 5 (some .int) [.ref a0, .int x1, .int x2, .ref a3] (hg I IB J F) (fun r2 h2 => r2 = some (.int q.1) ∧ h2 = hg q.2 IB J F) := by
  unfold mX10_writeAhead at hm
  refine c_of [.ref a0, .int x1, .int x2, .ref a3, .null] (by decide) (Nat.le_of_ble_eq_true rfl) rfl ?_
  refine e_aload_n (i := 0) rfl dX10_writeAhead_0 ?_
  refine q_getF 10 0 (a0 + 1) dX10_writeAhead_1 fl_RX10_14 rfl (iz_ty ha0) (frt_0 hF.1 ha0) ?_
  refine e_iload_n (i := 1) rfl dX10_writeAhead_4 ?_
  obtain ⟨q1, eq1, hm⟩ := ob_some hm
  refine e_cV1 hko dX10_writeAhead_5 ml_RX10_48 (iz_row (rwt_1 ha0)) (by decide) rfl (by omega) (Nat.le_of_ble_eq_true rfl) (tX4_at hko (rwt_1 ha0) I J F hF x1 _ eq1) ?_
  rintro _ _ ⟨rfl, rfl⟩
  refine q_istore (i := 4) (by decide) rfl dX10_writeAhead_8 ?_
  refine e_iload (i := 4) rfl dX10_writeAhead_10 ?_
  obtain ⟨q2, eq2, hm⟩ := ob_some hm
  refine e_cS1 hko dX10_writeAhead_12 ml_RX10_63 (by omega) (Nat.le_of_ble_eq_true rfl) (tX10_isChoice hko I J F hF q1 _ eq2) ?_
  rintro _ _ ⟨rfl, rfl⟩
  refine e_if_eq 26 dX10_writeAhead_15 (by decide) (fun c_15 => ?_) (fun c_15 => ?_)
  · have hm := it_p c_15 hm
    refine e_iload (i := 4) rfl dX10_writeAhead_26 ?_
    refine e_sipush (v := 302) (by decide) dX10_writeAhead_28 ?_
    refine e_icmp_ne 42 dX10_writeAhead_31 (by decide) (fun c_31 => ?_) (fun c_31 => ?_)
    · have hm := it_n c_31 hm
      refine e_iload_n (i := 2) rfl dX10_writeAhead_42 ?_
      refine e_if_ne 92 dX10_writeAhead_43 (by decide) (fun c_43 => ?_) (fun c_43 => ?_)
      · have hm := it_n c_43 hm
        refine e_iload_n (i := 2) rfl dX10_writeAhead_92 ?_
        refine e_iconst (v := 1) (by decide) dX10_writeAhead_93 ?_
        refine e_icmp_ne 124 dX10_writeAhead_94 (by decide) (fun c_94 => ?_) (fun c_94 => ?_)
        · have hm := it_n c_94 hm
          refine e_iconst (v := (-1)) (by decide) dX10_writeAhead_124 ?_
          refine e_iret dX10_writeAhead_125 rfl ?_
          have hm := some_in hm
          subst hm
          exact ⟨rfl, rfl⟩
        · have hm := it_p c_94 hm
          refine e_aload_n (i := 0) rfl dX10_writeAhead_97 ?_
          refine q_getF 10 1 (a0 + 3) dX10_writeAhead_98 fl_RX10_20 rfl (iz_ty ha0) (frt_1 hF.1 ha0) ?_
          refine e_iload_n (i := 1) rfl dX10_writeAhead_101 ?_
          obtain ⟨q3, eq3, hm⟩ := ob_some hm
          refine e_cV1 hko dX10_writeAhead_102 ml_RX10_48 (iz_row (rwt_3 ha0)) (by decide) rfl (by omega) (Nat.le_of_ble_eq_true rfl) (tX4_at hko (rwt_3 ha0) I J F hF x1 _ eq3) ?_
          rintro _ _ ⟨rfl, rfl⟩
          refine e_iconst (v := (-1)) (by decide) dX10_writeAhead_105 ?_
          refine e_icmp_eq 124 dX10_writeAhead_106 (by decide) (fun c_106 => ?_) (fun c_106 => ?_)
          · have hm := it_p c_106 hm
            refine e_iconst (v := (-1)) (by decide) dX10_writeAhead_124 ?_
            refine e_iret dX10_writeAhead_125 rfl ?_
            have hm := some_in hm
            subst hm
            exact ⟨rfl, rfl⟩
          · have hm := it_n c_106 hm
            refine e_aload_n (i := 3) rfl dX10_writeAhead_109 ?_
            refine hS.2.2.2 7 dX10_writeAhead_110 (by decide) (by decide +kernel) ?_
            obtain ⟨q4, eq4, hm⟩ := ob_some hm
            refine e_cV1 hko dX10_writeAhead_112 ml_RX10_90 (iz_row ha3) (by decide) rfl (by omega) (Nat.le_of_ble_eq_true rfl) (tX4_addText hko hS ha3 ⟨by decide, by decide⟩ I J F hF _ eq4) ?_
            rintro _ _ ⟨rfl, rfl⟩
            refine e_aload_n (i := 0) rfl dX10_writeAhead_115 ?_
            refine q_getF 10 2 (a0 + 5) dX10_writeAhead_116 fl_RX10_23 rfl (iz_ty ha0) (frt_2 hF.1 ha0) ?_
            refine e_iload_n (i := 1) rfl dX10_writeAhead_119 ?_
            obtain ⟨q5, eq5, hm⟩ := ob_some hm
            refine e_cV1 hko dX10_writeAhead_120 ml_RX10_48 (iz_row (rwt_5 ha0)) (by decide) rfl (by omega) (Nat.le_of_ble_eq_true rfl) (tX4_at hko (rwt_5 ha0) q4 J F hF x1 _ eq5) ?_
            rintro _ _ ⟨rfl, rfl⟩
            refine e_iret dX10_writeAhead_123 rfl ?_
            have hm := some_in hm
            subst hm
            exact ⟨rfl, rfl⟩
      · have hm := it_p c_43 hm
        refine e_aload_n (i := 3) rfl dX10_writeAhead_46 ?_
        refine e_iload (i := 4) rfl dX10_writeAhead_47 ?_
        obtain ⟨q6, eq6, hm⟩ := ob_some hm
        refine e_cV1 hko dX10_writeAhead_49 ml_RX10_60 (iz_row ha3) (by decide) rfl (by omega) (Nat.le_of_ble_eq_true rfl) (tX4_add hko ha3 I J F hF q1 _ eq6) ?_
        rintro _ _ ⟨rfl, rfl⟩
        refine e_pop rfl dX10_writeAhead_52 ?_
        refine e_aload_n (i := 3) rfl dX10_writeAhead_53 ?_
        refine e_bipush (v := 32) (by decide) dX10_writeAhead_54 ?_
        obtain ⟨q7, eq7, hm⟩ := ob_some hm
        refine e_cV1 hko dX10_writeAhead_56 ml_RX10_60 (iz_row ha3) (by decide) rfl (by omega) (Nat.le_of_ble_eq_true rfl) (tX4_add hko ha3 q6.2 J F hF 32 _ eq7) ?_
        rintro _ _ ⟨rfl, rfl⟩
        refine e_pop rfl dX10_writeAhead_59 ?_
        refine e_aload_n (i := 0) rfl dX10_writeAhead_60 ?_
        refine q_getF 10 1 (a0 + 3) dX10_writeAhead_61 fl_RX10_20 rfl (iz_ty ha0) (frt_1 hF.1 ha0) ?_
        refine e_iload_n (i := 1) rfl dX10_writeAhead_64 ?_
        obtain ⟨q8, eq8, hm⟩ := ob_some hm
        refine e_cV1 hko dX10_writeAhead_65 ml_RX10_48 (iz_row (rwt_3 ha0)) (by decide) rfl (by omega) (Nat.le_of_ble_eq_true rfl) (tX4_at hko (rwt_3 ha0) q7.2 J F hF x1 _ eq8) ?_
        rintro _ _ ⟨rfl, rfl⟩
        refine e_iconst (v := (-1)) (by decide) dX10_writeAhead_68 ?_
        refine e_icmp_ne 83 dX10_writeAhead_69 (by decide) (fun c_69 => ?_) (fun c_69 => ?_)
        · have hm := it_n c_69 hm
          refine e_aload_n (i := 0) rfl dX10_writeAhead_83 ?_
          refine q_getF 10 1 (a0 + 3) dX10_writeAhead_84 fl_RX10_20 rfl (iz_ty ha0) (frt_1 hF.1 ha0) ?_
          refine e_iload_n (i := 1) rfl dX10_writeAhead_87 ?_
          obtain ⟨q9, eq9, hm⟩ := ob_some hm
          refine e_cV1 hko dX10_writeAhead_88 ml_RX10_48 (iz_row (rwt_3 ha0)) (by decide) rfl (by omega) (Nat.le_of_ble_eq_true rfl) (tX4_at hko (rwt_3 ha0) q7.2 J F hF x1 _ eq9) ?_
          rintro _ _ ⟨rfl, rfl⟩
          refine e_iret dX10_writeAhead_91 rfl ?_
          have hm := some_in hm
          subst hm
          exact ⟨rfl, rfl⟩
        · have hm := it_p c_69 hm
          refine e_aload_n (i := 0) rfl dX10_writeAhead_72 ?_
          refine q_getF 10 2 (a0 + 5) dX10_writeAhead_73 fl_RX10_23 rfl (iz_ty ha0) (frt_2 hF.1 ha0) ?_
          refine e_iload_n (i := 1) rfl dX10_writeAhead_76 ?_
          obtain ⟨q10, eq10, hm⟩ := ob_some hm
          refine e_cV1 hko dX10_writeAhead_77 ml_RX10_48 (iz_row (rwt_5 ha0)) (by decide) rfl (by omega) (Nat.le_of_ble_eq_true rfl) (tX4_at hko (rwt_5 ha0) q7.2 J F hF x1 _ eq10) ?_
          rintro _ _ ⟨rfl, rfl⟩
          refine e_goto 91 dX10_writeAhead_80 (by decide) ?_
          refine e_iret dX10_writeAhead_91 rfl ?_
          have hm := some_in hm
          subst hm
          exact ⟨rfl, rfl⟩
    · have hm := it_p c_31 hm
      refine e_aload_n (i := 3) rfl dX10_writeAhead_34 ?_
      refine hS.2.2.2 6 dX10_writeAhead_35 (by decide) (by decide +kernel) ?_
      obtain ⟨q11, eq11, hm⟩ := ob_some hm
      refine e_cV1 hko dX10_writeAhead_37 ml_RX10_90 (iz_row ha3) (by decide) rfl (by omega) (Nat.le_of_ble_eq_true rfl) (tX4_addText hko hS ha3 ⟨by decide, by decide⟩ I J F hF _ eq11) ?_
      rintro _ _ ⟨rfl, rfl⟩
      refine e_iconst (v := (-1)) (by decide) dX10_writeAhead_40 ?_
      refine e_iret dX10_writeAhead_41 rfl ?_
      have hm := some_in hm
      subst hm
      exact ⟨rfl, rfl⟩
  · have hm := it_n c_15 hm
    refine e_aload_n (i := 0) rfl dX10_writeAhead_18 ?_
    refine e_iload_n (i := 1) rfl dX10_writeAhead_19 ?_
    refine e_iload_n (i := 2) rfl dX10_writeAhead_20 ?_
    refine e_aload_n (i := 3) rfl dX10_writeAhead_21 ?_
    obtain ⟨q12, eq12, hm⟩ := ob_some hm
    refine e_cV3 hko dX10_writeAhead_22 ml_RX10_85 (iz_ty ha0) (by decide) rfl (by omega) (Nat.le_of_ble_eq_true rfl) (tX10_writeBranch hko hS ha0 ha3 I J F hF x1 x2 _ eq12) ?_
    rintro _ _ ⟨rfl, rfl⟩
    refine e_iret dX10_writeAhead_25 rfl ?_
    have hm := some_in hm
    subst hm
    exact ⟨rfl, rfl⟩
theorem dX10_write_0 : decode cX10_write 0 = .ok (.aload_n 0, 1) := by decide +kernel
theorem dX10_write_1 : decode cX10_write 1 = .ok (.getfield 35, 3) := by decide +kernel
theorem dX10_write_4 : decode cX10_write 4 = .ok (.invokevirtual 41, 3) := by decide +kernel
theorem dX10_write_7 : decode cX10_write 7 = .ok (.aload_n 0, 1) := by decide +kernel
theorem dX10_write_8 : decode cX10_write 8 = .ok (.getfield 38, 3) := by decide +kernel
theorem dX10_write_11 : decode cX10_write 11 = .ok (.invokevirtual 41, 3) := by decide +kernel
theorem dX10_write_14 : decode cX10_write 14 = .ok (.aload_n 0, 1) := by decide +kernel
theorem dX10_write_15 : decode cX10_write 15 = .ok (.getfield 35, 3) := by decide +kernel
theorem dX10_write_18 : decode cX10_write 18 = .ok (.iload_n 1, 1) := by decide +kernel
theorem dX10_write_19 : decode cX10_write 19 = .ok (.invokevirtual 60, 3) := by decide +kernel
theorem dX10_write_22 : decode cX10_write 22 = .ok (.pop, 1) := by decide +kernel
theorem dX10_write_23 : decode cX10_write 23 = .ok (.aload_n 0, 1) := by decide +kernel
theorem dX10_write_24 : decode cX10_write 24 = .ok (.getfield 38, 3) := by decide +kernel
theorem dX10_write_27 : decode cX10_write 27 = .ok (.iconst 0, 1) := by decide +kernel
theorem dX10_write_28 : decode cX10_write 28 = .ok (.invokevirtual 60, 3) := by decide +kernel
theorem dX10_write_31 : decode cX10_write 31 = .ok (.pop, 1) := by decide +kernel
theorem dX10_write_32 : decode cX10_write 32 = .ok (.iconst 0, 1) := by decide +kernel
theorem dX10_write_33 : decode cX10_write 33 = .ok (.istore_n 3, 1) := by decide +kernel
theorem dX10_write_34 : decode cX10_write 34 = .ok (.iload_n 3, 1) := by decide +kernel
theorem dX10_write_35 : decode cX10_write 35 = .ok (.sipush 400, 3) := by decide +kernel
theorem dX10_write_38 : decode cX10_write 38 = .ok (.if_icmp .ge 111, 3) := by decide +kernel
theorem dX10_write_41 : decode cX10_write 41 = .ok (.aload_n 0, 1) := by decide +kernel
theorem dX10_write_42 : decode cX10_write 42 = .ok (.getfield 35, 3) := by decide +kernel
theorem dX10_write_45 : decode cX10_write 45 = .ok (.invokevirtual 44, 3) := by decide +kernel
theorem dX10_write_48 : decode cX10_write 48 = .ok (.ifCond .le 101, 3) := by decide +kernel
theorem dX10_write_51 : decode cX10_write 51 = .ok (.aload_n 0, 1) := by decide +kernel
theorem dX10_write_52 : decode cX10_write 52 = .ok (.getfield 35, 3) := by decide +kernel
theorem dX10_write_55 : decode cX10_write 55 = .ok (.invokevirtual 44, 3) := by decide +kernel
theorem dX10_write_58 : decode cX10_write 58 = .ok (.iconst 1, 1) := by decide +kernel
theorem dX10_write_59 : decode cX10_write 59 = .ok (.isub, 1) := by decide +kernel
theorem dX10_write_60 : decode cX10_write 60 = .ok (.istore 4, 2) := by decide +kernel
theorem dX10_write_62 : decode cX10_write 62 = .ok (.aload_n 0, 1) := by decide +kernel
theorem dX10_write_63 : decode cX10_write 63 = .ok (.aload_n 0, 1) := by decide +kernel
theorem dX10_write_64 : decode cX10_write 64 = .ok (.getfield 35, 3) := by decide +kernel
theorem dX10_write_67 : decode cX10_write 67 = .ok (.iload 4, 2) := by decide +kernel
theorem dX10_write_69 : decode cX10_write 69 = .ok (.invokevirtual 48, 3) := by decide +kernel
theorem dX10_write_72 : decode cX10_write 72 = .ok (.aload_n 0, 1) := by decide +kernel
theorem dX10_write_73 : decode cX10_write 73 = .ok (.getfield 38, 3) := by decide +kernel
theorem dX10_write_76 : decode cX10_write 76 = .ok (.iload 4, 2) := by decide +kernel
theorem dX10_write_78 : decode cX10_write 78 = .ok (.invokevirtual 48, 3) := by decide +kernel
theorem dX10_write_81 : decode cX10_write 81 = .ok (.aload_n 2, 1) := by decide +kernel
theorem dX10_write_82 : decode cX10_write 82 = .ok (.invokevirtual 74, 3) := by decide +kernel
theorem dX10_write_85 : decode cX10_write 85 = .ok (.istore 5, 2) := by decide +kernel
theorem dX10_write_87 : decode cX10_write 87 = .ok (.aload_n 0, 1) := by decide +kernel
theorem dX10_write_88 : decode cX10_write 88 = .ok (.getfield 38, 3) := by decide +kernel
theorem dX10_write_91 : decode cX10_write 91 = .ok (.iload 4, 2) := by decide +kernel
theorem dX10_write_93 : decode cX10_write 93 = .ok (.iconst 1, 1) := by decide +kernel
theorem dX10_write_94 : decode cX10_write 94 = .ok (.invokevirtual 78, 3) := by decide +kernel
theorem dX10_write_97 : decode cX10_write 97 = .ok (.iload 5, 2) := by decide +kernel
theorem dX10_write_99 : decode cX10_write 99 = .ok (.iconst (-1), 1) := by decide +kernel
theorem dX10_write_100 : decode cX10_write 100 = .ok (.if_icmp .ne 24, 3) := by decide +kernel
theorem dX10_write_103 : decode cX10_write 103 = .ok (.aload_n 0, 1) := by decide +kernel
theorem dX10_write_104 : decode cX10_write 104 = .ok (.getfield 35, 3) := by decide +kernel
theorem dX10_write_107 : decode cX10_write 107 = .ok (.iload 4, 2) := by decide +kernel
theorem dX10_write_109 : decode cX10_write 109 = .ok (.invokevirtual 82, 3) := by decide +kernel
theorem dX10_write_112 : decode cX10_write 112 = .ok (.aload_n 0, 1) := by decide +kernel
theorem dX10_write_113 : decode cX10_write 113 = .ok (.getfield 38, 3) := by decide +kernel
theorem dX10_write_116 : decode cX10_write 116 = .ok (.iload 4, 2) := by decide +kernel
theorem dX10_write_118 : decode cX10_write 118 = .ok (.invokevirtual 82, 3) := by decide +kernel
theorem dX10_write_121 : decode cX10_write 121 = .ok (.goto 22, 3) := by decide +kernel
theorem dX10_write_124 : decode cX10_write 124 = .ok (.aload_n 0, 1) := by decide +kernel
theorem dX10_write_125 : decode cX10_write 125 = .ok (.getfield 35, 3) := by decide +kernel
theorem dX10_write_128 : decode cX10_write 128 = .ok (.iload 5, 2) := by decide +kernel
theorem dX10_write_130 : decode cX10_write 130 = .ok (.invokevirtual 60, 3) := by decide +kernel
theorem dX10_write_133 : decode cX10_write 133 = .ok (.pop, 1) := by decide +kernel
theorem dX10_write_134 : decode cX10_write 134 = .ok (.aload_n 0, 1) := by decide +kernel
theorem dX10_write_135 : decode cX10_write 135 = .ok (.getfield 38, 3) := by decide +kernel
theorem dX10_write_138 : decode cX10_write 138 = .ok (.iconst 0, 1) := by decide +kernel
theorem dX10_write_139 : decode cX10_write 139 = .ok (.invokevirtual 60, 3) := by decide +kernel
theorem dX10_write_142 : decode cX10_write 142 = .ok (.pop, 1) := by decide +kernel
theorem dX10_write_143 : decode cX10_write 143 = .ok (.iinc 3 1, 3) := by decide +kernel
theorem dX10_write_146 : decode cX10_write 146 = .ok (.goto (-112), 3) := by decide +kernel
theorem dX10_write_149 : decode cX10_write 149 = .ok (.return_, 1) := by decide +kernel
def mX10_write_143 (a0 : Nat) (a2 : Nat) (k34 : iT → Int32 → Int32 → Option (iT)) (I : iT) (x1 : Int32) (x3 : Int32) (x4 : Int32) (x5 : Int32) : Option (iT) := k34 I x1 (x3 + 1)
def mX10_write_34 (a0 : Nat) (a2 : Nat) : Nat → iT → Int32 → Int32 → Option (iT)
  | 0, _, _, _ => none
  | n + 1, I, x1, x3 => if 400 ≤ x3 then some I else (mX4_size (a0 + 13) I).bind fun q1 => if q1 ≤ 0 then some I else (mX4_size (a0 + 13) I).bind fun q2 => (mX4_at (a0 + 13) I (q2 - 1)).bind fun q3 => (mX4_at (a0 + 15) I (q2 - 1)).bind fun q4 => (mX10_writeAhead a0 a2 I q3 q4).bind fun q5 => (mX4_bump (a0 + 15) q5.2 (q2 - 1) 1).bind fun q6 => if q5.1 = ((-1)) then (mX4_cut (a0 + 13) q6 (q2 - 1)).bind fun q9 => (mX4_cut (a0 + 15) q9 (q2 - 1)).bind fun q10 => mX10_write_143 a0 a2 (mX10_write_34 a0 a2 n) q10 x1 x3 (q2 - 1) q5.1 else (mX4_add (a0 + 13) q6 q5.1).bind fun q7 => (mX4_add (a0 + 15) q7.2 0).bind fun q8 => mX10_write_143 a0 a2 (mX10_write_34 a0 a2 n) q8.2 x1 x3 (q2 - 1) q5.1
def mX10_write (a0 : Nat) (a2 : Nat) (I : iT) (x1 : Int32) : Option (iT) := (mX4_clear (a0 + 13) I).bind fun q11 => (mX4_clear (a0 + 15) q11).bind fun q12 => (mX4_add (a0 + 13) q12 x1).bind fun q13 => (mX4_add (a0 + 15) q13.2 0).bind fun q14 => mX10_write_34 a0 a2 LF q14.2 x1 0
set_option maxRecDepth 100000 in
set_option maxHeartbeats 4000000 in
theorem tX10_write_143 {l : Launch} {K : a_KT} {g : a_GT} {IB : iT} (hko : a_kok K) (hS : StrOK l K g) {a0 : Nat} (ha0 : isTypes a0) {a2 : Nat} (ha2 : isRow a2) {J : jT} {F : fT} {k34 : iT → Int32 → Int32 → Option (iT)} (hk34 : ∀ (I : iT) (x1 : Int32) (x3 : Int32) (_ : FK F) (q : iT), k34 I x1 x3 = some q → E l K g 16 0 0 yX10_write cX10_write 6 none 34 [.ref a0, .int x1, .ref a2, .int x3, .null, .null] [] (hg I IB J F) (fun r2 h2 => r2 = none ∧ h2 = hg q IB J F)) (I : iT) (x1 : Int32) (x3 : Int32) (x4 : Int32) (x5 : Int32) (hF : FK F) (q : iT) (hm : mX10_write_143 a0 a2 k34 I x1 x3 x4 x5 = some q) : E l K g 16 0 0 yX10_write cX10_write 6 none 143 [.ref a0, .int x1, .ref a2, .int x3, .int x4, .int x5] [] (hg I IB J F) (fun r2 h2 => r2 = none ∧ h2 = hg q IB J F) := by
  unfold mX10_write_143 at hm
  refine q_iinc (i := 3) (x3 + 1) rfl ic_1 rfl dX10_write_143 ?_
  refine e_goto 34 dX10_write_146 (by decide) ?_
  refine e_weak [.ref a0, .int x1, .ref a2, .int (x3 + 1), .null, .null] ⟨rfl, ⟨rfl, ⟨rfl, ⟨rfl, ⟨trivial, ⟨trivial, trivial⟩⟩⟩⟩⟩⟩ ?_
  exact hk34 I x1 (x3 + 1) hF _ hm
set_option maxRecDepth 100000 in
set_option maxHeartbeats 4000000 in
theorem tX10_write_34 {l : Launch} {K : a_KT} {g : a_GT} {IB : iT} (hko : a_kok K) (hS : StrOK l K g) {a0 : Nat} (ha0 : isTypes a0) {a2 : Nat} (ha2 : isRow a2) {J : jT} {F : fT} : ∀ (n : Nat) (I : iT) (x1 : Int32) (x3 : Int32) (hF : FK F) (q : iT), mX10_write_34 a0 a2 n I x1 x3 = some q → E l K g 16 0 0 yX10_write cX10_write 6 none 34 [.ref a0, .int x1, .ref a2, .int x3, .null, .null] [] (hg I IB J F) (fun r2 h2 => r2 = none ∧ h2 = hg q IB J F) := by
  intro n
  induction n with
  | zero => intro I x1 x3 hF q hm; cases hm
  | succ n ih =>
    intro I x1 x3 hF q hm
    rw [mX10_write_34] at hm
    refine e_iload_n (i := 3) rfl dX10_write_34 ?_
    refine e_sipush (v := 400) (by decide) dX10_write_35 ?_
    refine e_icmp_ge 149 dX10_write_38 (by decide) (fun c_38 => ?_) (fun c_38 => ?_)
    · have hm := it_p c_38 hm
      refine e_vret dX10_write_149 rfl ?_
      have hm := some_in hm
      subst hm
      exact ⟨rfl, rfl⟩
    · have hm := it_n c_38 hm
      refine e_aload_n (i := 0) rfl dX10_write_41 ?_
      refine q_getF 10 6 (a0 + 13) dX10_write_42 fl_RX10_35 rfl (iz_ty ha0) (frt_6 hF.1 ha0) ?_
      obtain ⟨q1, eq1, hm⟩ := ob_some hm
      refine e_cV0 hko dX10_write_45 ml_RX10_44 (iz_row (rwt_13 ha0)) (by decide) rfl (by omega) (Nat.le_of_ble_eq_true rfl) (tX4_size hko (rwt_13 ha0) I J F hF _ eq1) ?_
      rintro _ _ ⟨rfl, rfl⟩
      refine e_if_le 149 dX10_write_48 (by decide) (fun c_48 => ?_) (fun c_48 => ?_)
      · have hm := it_p c_48 hm
        refine e_vret dX10_write_149 rfl ?_
        have hm := some_in hm
        subst hm
        exact ⟨rfl, rfl⟩
      · have hm := it_n c_48 hm
        refine e_aload_n (i := 0) rfl dX10_write_51 ?_
        refine q_getF 10 6 (a0 + 13) dX10_write_52 fl_RX10_35 rfl (iz_ty ha0) (frt_6 hF.1 ha0) ?_
        obtain ⟨q2, eq2, hm⟩ := ob_some hm
        refine e_cV0 hko dX10_write_55 ml_RX10_44 (iz_row (rwt_13 ha0)) (by decide) rfl (by omega) (Nat.le_of_ble_eq_true rfl) (tX4_size hko (rwt_13 ha0) I J F hF _ eq2) ?_
        rintro _ _ ⟨rfl, rfl⟩
        refine e_iconst (v := 1) (by decide) dX10_write_58 ?_
        refine e_isub dX10_write_59 ?_
        refine q_istore (i := 4) (by decide) rfl dX10_write_60 ?_
        refine e_aload_n (i := 0) rfl dX10_write_62 ?_
        refine e_aload_n (i := 0) rfl dX10_write_63 ?_
        refine q_getF 10 6 (a0 + 13) dX10_write_64 fl_RX10_35 rfl (iz_ty ha0) (frt_6 hF.1 ha0) ?_
        refine e_iload (i := 4) rfl dX10_write_67 ?_
        obtain ⟨q3, eq3, hm⟩ := ob_some hm
        refine e_cV1 hko dX10_write_69 ml_RX10_48 (iz_row (rwt_13 ha0)) (by decide) rfl (by omega) (Nat.le_of_ble_eq_true rfl) (tX4_at hko (rwt_13 ha0) I J F hF (q2 - 1) _ eq3) ?_
        rintro _ _ ⟨rfl, rfl⟩
        refine e_aload_n (i := 0) rfl dX10_write_72 ?_
        refine q_getF 10 7 (a0 + 15) dX10_write_73 fl_RX10_38 rfl (iz_ty ha0) (frt_7 hF.1 ha0) ?_
        refine e_iload (i := 4) rfl dX10_write_76 ?_
        obtain ⟨q4, eq4, hm⟩ := ob_some hm
        refine e_cV1 hko dX10_write_78 ml_RX10_48 (iz_row (rwt_15 ha0)) (by decide) rfl (by omega) (Nat.le_of_ble_eq_true rfl) (tX4_at hko (rwt_15 ha0) I J F hF (q2 - 1) _ eq4) ?_
        rintro _ _ ⟨rfl, rfl⟩
        refine e_aload_n (i := 2) rfl dX10_write_81 ?_
        obtain ⟨q5, eq5, hm⟩ := ob_some hm
        refine e_cV3 hko dX10_write_82 ml_RX10_74 (iz_ty ha0) (by decide) rfl (by omega) (Nat.le_of_ble_eq_true rfl) (tX10_writeAhead hko hS ha0 ha2 I J F hF q3 q4 _ eq5) ?_
        rintro _ _ ⟨rfl, rfl⟩
        refine q_istore (i := 5) (by decide) rfl dX10_write_85 ?_
        refine e_aload_n (i := 0) rfl dX10_write_87 ?_
        refine q_getF 10 7 (a0 + 15) dX10_write_88 fl_RX10_38 rfl (iz_ty ha0) (frt_7 hF.1 ha0) ?_
        refine e_iload (i := 4) rfl dX10_write_91 ?_
        refine e_iconst (v := 1) (by decide) dX10_write_93 ?_
        obtain ⟨q6, eq6, hm⟩ := ob_some hm
        refine e_cV2 hko dX10_write_94 ml_RX10_78 (iz_row (rwt_15 ha0)) (by decide) rfl (by omega) (Nat.le_of_ble_eq_true rfl) (tX4_bump hko (rwt_15 ha0) q5.2 J F hF (q2 - 1) 1 _ eq6) ?_
        rintro _ _ ⟨rfl, rfl⟩
        refine e_iload (i := 5) rfl dX10_write_97 ?_
        refine e_iconst (v := (-1)) (by decide) dX10_write_99 ?_
        refine e_icmp_ne 124 dX10_write_100 (by decide) (fun c_100 => ?_) (fun c_100 => ?_)
        · have hm := it_n c_100 hm
          refine e_aload_n (i := 0) rfl dX10_write_124 ?_
          refine q_getF 10 6 (a0 + 13) dX10_write_125 fl_RX10_35 rfl (iz_ty ha0) (frt_6 hF.1 ha0) ?_
          refine e_iload (i := 5) rfl dX10_write_128 ?_
          obtain ⟨q7, eq7, hm⟩ := ob_some hm
          refine e_cV1 hko dX10_write_130 ml_RX10_60 (iz_row (rwt_13 ha0)) (by decide) rfl (by omega) (Nat.le_of_ble_eq_true rfl) (tX4_add hko (rwt_13 ha0) q6 J F hF q5.1 _ eq7) ?_
          rintro _ _ ⟨rfl, rfl⟩
          refine e_pop rfl dX10_write_133 ?_
          refine e_aload_n (i := 0) rfl dX10_write_134 ?_
          refine q_getF 10 7 (a0 + 15) dX10_write_135 fl_RX10_38 rfl (iz_ty ha0) (frt_7 hF.1 ha0) ?_
          refine e_iconst (v := 0) (by decide) dX10_write_138 ?_
          obtain ⟨q8, eq8, hm⟩ := ob_some hm
          refine e_cV1 hko dX10_write_139 ml_RX10_60 (iz_row (rwt_15 ha0)) (by decide) rfl (by omega) (Nat.le_of_ble_eq_true rfl) (tX4_add hko (rwt_15 ha0) q7.2 J F hF 0 _ eq8) ?_
          rintro _ _ ⟨rfl, rfl⟩
          refine e_pop rfl dX10_write_142 ?_
          refine e_weak [.ref a0, .int x1, .ref a2, .int x3, .int (q2 - 1), .int q5.1] ⟨rfl, ⟨rfl, ⟨rfl, ⟨rfl, ⟨rfl, ⟨rfl, trivial⟩⟩⟩⟩⟩⟩ ?_
          exact tX10_write_143 hko hS ha0 ha2 (ih) q8.2 x1 x3 (q2 - 1) q5.1 hF _ hm
        · have hm := it_p c_100 hm
          refine e_aload_n (i := 0) rfl dX10_write_103 ?_
          refine q_getF 10 6 (a0 + 13) dX10_write_104 fl_RX10_35 rfl (iz_ty ha0) (frt_6 hF.1 ha0) ?_
          refine e_iload (i := 4) rfl dX10_write_107 ?_
          obtain ⟨q9, eq9, hm⟩ := ob_some hm
          refine e_cV1 hko dX10_write_109 ml_RX10_82 (iz_row (rwt_13 ha0)) (by decide) rfl (by omega) (Nat.le_of_ble_eq_true rfl) (tX4_cut hko (rwt_13 ha0) q6 J F hF (q2 - 1) _ eq9) ?_
          rintro _ _ ⟨rfl, rfl⟩
          refine e_aload_n (i := 0) rfl dX10_write_112 ?_
          refine q_getF 10 7 (a0 + 15) dX10_write_113 fl_RX10_38 rfl (iz_ty ha0) (frt_7 hF.1 ha0) ?_
          refine e_iload (i := 4) rfl dX10_write_116 ?_
          obtain ⟨q10, eq10, hm⟩ := ob_some hm
          refine e_cV1 hko dX10_write_118 ml_RX10_82 (iz_row (rwt_15 ha0)) (by decide) rfl (by omega) (Nat.le_of_ble_eq_true rfl) (tX4_cut hko (rwt_15 ha0) q9 J F hF (q2 - 1) _ eq10) ?_
          rintro _ _ ⟨rfl, rfl⟩
          refine e_goto 143 dX10_write_121 (by decide) ?_
          refine e_weak [.ref a0, .int x1, .ref a2, .int x3, .int (q2 - 1), .int q5.1] ⟨rfl, ⟨rfl, ⟨rfl, ⟨rfl, ⟨rfl, ⟨rfl, trivial⟩⟩⟩⟩⟩⟩ ?_
          exact tX10_write_143 hko hS ha0 ha2 (ih) q10 x1 x3 (q2 - 1) q5.1 hF _ hm
set_option maxRecDepth 100000 in
set_option maxHeartbeats 4000000 in
theorem tX10_write {l : Launch} {K : a_KT} {g : a_GT} {IB : iT} (hko : a_kok K) (hS : StrOK l K g) {a0 : Nat} (ha0 : isTypes a0) {a2 : Nat} (ha2 : isRow a2) (I : iT) (J : jT) (F : fT) (hF : FK F) (x1 : Int32) (q : iT) (hm : mX10_write a0 a2 I x1 = some q) : C l K g 16 0 0 yX10_write cX10_write 6 none [.ref a0, .int x1, .ref a2] (hg I IB J F) (fun r2 h2 => r2 = none ∧ h2 = hg q IB J F) := by
  unfold mX10_write at hm
  refine c_of [.ref a0, .int x1, .ref a2, .null, .null, .null] (by decide) (Nat.le_of_ble_eq_true rfl) rfl ?_
  refine e_aload_n (i := 0) rfl dX10_write_0 ?_
  refine q_getF 10 6 (a0 + 13) dX10_write_1 fl_RX10_35 rfl (iz_ty ha0) (frt_6 hF.1 ha0) ?_
  obtain ⟨q11, eq11, hm⟩ := ob_some hm
  refine e_cV0 hko dX10_write_4 ml_RX10_41 (iz_row (rwt_13 ha0)) (by decide) rfl (by omega) (Nat.le_of_ble_eq_true rfl) (tX4_clear hko (rwt_13 ha0) I J F hF _ eq11) ?_
  rintro _ _ ⟨rfl, rfl⟩
  refine e_aload_n (i := 0) rfl dX10_write_7 ?_
  refine q_getF 10 7 (a0 + 15) dX10_write_8 fl_RX10_38 rfl (iz_ty ha0) (frt_7 hF.1 ha0) ?_
  obtain ⟨q12, eq12, hm⟩ := ob_some hm
  refine e_cV0 hko dX10_write_11 ml_RX10_41 (iz_row (rwt_15 ha0)) (by decide) rfl (by omega) (Nat.le_of_ble_eq_true rfl) (tX4_clear hko (rwt_15 ha0) q11 J F hF _ eq12) ?_
  rintro _ _ ⟨rfl, rfl⟩
  refine e_aload_n (i := 0) rfl dX10_write_14 ?_
  refine q_getF 10 6 (a0 + 13) dX10_write_15 fl_RX10_35 rfl (iz_ty ha0) (frt_6 hF.1 ha0) ?_
  refine e_iload_n (i := 1) rfl dX10_write_18 ?_
  obtain ⟨q13, eq13, hm⟩ := ob_some hm
  refine e_cV1 hko dX10_write_19 ml_RX10_60 (iz_row (rwt_13 ha0)) (by decide) rfl (by omega) (Nat.le_of_ble_eq_true rfl) (tX4_add hko (rwt_13 ha0) q12 J F hF x1 _ eq13) ?_
  rintro _ _ ⟨rfl, rfl⟩
  refine e_pop rfl dX10_write_22 ?_
  refine e_aload_n (i := 0) rfl dX10_write_23 ?_
  refine q_getF 10 7 (a0 + 15) dX10_write_24 fl_RX10_38 rfl (iz_ty ha0) (frt_7 hF.1 ha0) ?_
  refine e_iconst (v := 0) (by decide) dX10_write_27 ?_
  obtain ⟨q14, eq14, hm⟩ := ob_some hm
  refine e_cV1 hko dX10_write_28 ml_RX10_60 (iz_row (rwt_15 ha0)) (by decide) rfl (by omega) (Nat.le_of_ble_eq_true rfl) (tX4_add hko (rwt_15 ha0) q13.2 J F hF 0 _ eq14) ?_
  rintro _ _ ⟨rfl, rfl⟩
  refine e_pop rfl dX10_write_31 ?_
  refine e_iconst (v := 0) (by decide) dX10_write_32 ?_
  refine q_istore_n (i := 3) (by decide) rfl dX10_write_33 ?_
  refine e_weak [.ref a0, .int x1, .ref a2, .int 0, .null, .null] ⟨rfl, ⟨rfl, ⟨rfl, ⟨rfl, ⟨trivial, ⟨trivial, trivial⟩⟩⟩⟩⟩⟩ ?_
  exact tX10_write_34 hko hS ha0 ha2 LF q14.2 x1 0 hF _ hm
theorem dX2_failed_0 : decode cX2_failed 0 = .ok (.aload_n 0, 1) := by decide +kernel
theorem dX2_failed_1 : decode cX2_failed 1 = .ok (.getfield 71, 3) := by decide +kernel
theorem dX2_failed_4 : decode cX2_failed 4 = .ok (.ifCond .eq 7, 3) := by decide +kernel
theorem dX2_failed_7 : decode cX2_failed 7 = .ok (.iconst 1, 1) := by decide +kernel
theorem dX2_failed_8 : decode cX2_failed 8 = .ok (.goto 4, 3) := by decide +kernel
theorem dX2_failed_11 : decode cX2_failed 11 = .ok (.iconst 0, 1) := by decide +kernel
theorem dX2_failed_12 : decode cX2_failed 12 = .ok (.ireturn, 1) := by decide +kernel
def mX2_failed (I : iT) : Option (Int32) := if (I 6 9) = 0 then some 0 else some 1
set_option maxRecDepth 100000 in
set_option maxHeartbeats 4000000 in
theorem tX2_failed {l : Launch} {K : a_KT} {g : a_GT} {IB : iT} (hko : a_kok K) (I : iT) (J : jT) (F : fT) (hF : FK F) (q : Int32) (hm : mX2_failed I = some q) : C l K g 0 0 0 yX2_failed cX2_failed 1 (some .boolean) [.ref 6] (hg I IB J F) (fun r2 h2 => r2 = some (.int q) ∧ h2 = hg I IB J F) := by
  unfold mX2_failed at hm
  refine c_of [.ref 6] (by decide) (Nat.le_of_ble_eq_true rfl) rfl ?_
  refine e_aload_n (i := 0) rfl dX2_failed_0 ?_
  refine k_getI 2 9 dX2_failed_1 fl_RX2_71 rfl iz_6 (by decide) ?_
  refine e_if_eq 11 dX2_failed_4 (by decide) (fun c_4 => ?_) (fun c_4 => ?_)
  · have hm := it_p c_4 hm
    refine e_iconst (v := 0) (by decide) dX2_failed_11 ?_
    refine e_zret dX2_failed_12 rfl rfl ?_
    have hm := some_in hm
    subst hm
    exact ⟨rfl, rfl⟩
  · have hm := it_n c_4 hm
    refine e_iconst (v := 1) (by decide) dX2_failed_7 ?_
    refine e_goto 12 dX2_failed_8 (by decide) ?_
    refine e_zret dX2_failed_12 rfl rfl ?_
    have hm := some_in hm
    subst hm
    exact ⟨rfl, rfl⟩
theorem dX2_is_0 : decode cX2_is 0 = .ok (.aload_n 0, 1) := by decide +kernel
theorem dX2_is_1 : decode cX2_is 1 = .ok (.getfield 30, 3) := by decide +kernel
theorem dX2_is_4 : decode cX2_is 4 = .ok (.iload_n 1, 1) := by decide +kernel
theorem dX2_is_5 : decode cX2_is 5 = .ok (.if_icmp .ne 7, 3) := by decide +kernel
theorem dX2_is_8 : decode cX2_is 8 = .ok (.iconst 1, 1) := by decide +kernel
theorem dX2_is_9 : decode cX2_is 9 = .ok (.goto 4, 3) := by decide +kernel
theorem dX2_is_12 : decode cX2_is 12 = .ok (.iconst 0, 1) := by decide +kernel
theorem dX2_is_13 : decode cX2_is 13 = .ok (.ireturn, 1) := by decide +kernel
def mX2_is (I : iT) (x1 : Int32) : Option (Int32) := if (I 6 6) = x1 then some 1 else some 0
set_option maxRecDepth 100000 in
set_option maxHeartbeats 4000000 in
theorem tX2_is {l : Launch} {K : a_KT} {g : a_GT} {IB : iT} (hko : a_kok K) (I : iT) (J : jT) (F : fT) (hF : FK F) (x1 : Int32) (q : Int32) (hm : mX2_is I x1 = some q) : C l K g 0 0 0 yX2_is cX2_is 2 (some .boolean) [.ref 6, .int x1] (hg I IB J F) (fun r2 h2 => r2 = some (.int q) ∧ h2 = hg I IB J F) := by
  unfold mX2_is at hm
  refine c_of [.ref 6, .int x1] (by decide) (Nat.le_of_ble_eq_true rfl) rfl ?_
  refine e_aload_n (i := 0) rfl dX2_is_0 ?_
  refine k_getI 2 6 dX2_is_1 fl_RX2_30 rfl iz_6 (by decide) ?_
  refine e_iload_n (i := 1) rfl dX2_is_4 ?_
  refine e_icmp_ne 12 dX2_is_5 (by decide) (fun c_5 => ?_) (fun c_5 => ?_)
  · have hm := it_n c_5 hm
    refine e_iconst (v := 0) (by decide) dX2_is_12 ?_
    refine e_zret dX2_is_13 rfl rfl ?_
    have hm := some_in hm
    subst hm
    exact ⟨rfl, rfl⟩
  · have hm := it_p c_5 hm
    refine e_iconst (v := 1) (by decide) dX2_is_8 ?_
    refine e_goto 13 dX2_is_9 (by decide) ?_
    refine e_zret dX2_is_13 rfl rfl ?_
    have hm := some_in hm
    subst hm
    exact ⟨rfl, rfl⟩
theorem dX2_advance_0 : decode cX2_advance 0 = .ok (.aload_n 0, 1) := by decide +kernel
theorem dX2_advance_1 : decode cX2_advance 1 = .ok (.getfield 71, 3) := by decide +kernel
theorem dX2_advance_4 : decode cX2_advance 4 = .ok (.ifCond .ne 70, 3) := by decide +kernel
theorem dX2_advance_7 : decode cX2_advance 7 = .ok (.aload_n 0, 1) := by decide +kernel
theorem dX2_advance_8 : decode cX2_advance 8 = .ok (.getfield 74, 3) := by decide +kernel
theorem dX2_advance_11 : decode cX2_advance 11 = .ok (.ifCond .lt 63, 3) := by decide +kernel
theorem dX2_advance_14 : decode cX2_advance 14 = .ok (.aload_n 0, 1) := by decide +kernel
theorem dX2_advance_15 : decode cX2_advance 15 = .ok (.getfield 74, 3) := by decide +kernel
theorem dX2_advance_18 : decode cX2_advance 18 = .ok (.aload_n 0, 1) := by decide +kernel
theorem dX2_advance_19 : decode cX2_advance 19 = .ok (.getfield 57, 3) := by decide +kernel
theorem dX2_advance_22 : decode cX2_advance 22 = .ok (.if_icmp .ge 52, 3) := by decide +kernel
theorem dX2_advance_25 : decode cX2_advance 25 = .ok (.aload_n 0, 1) := by decide +kernel
theorem dX2_advance_26 : decode cX2_advance 26 = .ok (.aload_n 0, 1) := by decide +kernel
theorem dX2_advance_27 : decode cX2_advance 27 = .ok (.getfield 20, 3) := by decide +kernel
theorem dX2_advance_30 : decode cX2_advance 30 = .ok (.aload_n 0, 1) := by decide +kernel
theorem dX2_advance_31 : decode cX2_advance 31 = .ok (.getfield 74, 3) := by decide +kernel
theorem dX2_advance_34 : decode cX2_advance 34 = .ok (.iaload, 1) := by decide +kernel
theorem dX2_advance_35 : decode cX2_advance 35 = .ok (.putfield 30, 3) := by decide +kernel
theorem dX2_advance_38 : decode cX2_advance 38 = .ok (.aload_n 0, 1) := by decide +kernel
theorem dX2_advance_39 : decode cX2_advance 39 = .ok (.aload_n 0, 1) := by decide +kernel
theorem dX2_advance_40 : decode cX2_advance 40 = .ok (.getfield 24, 3) := by decide +kernel
theorem dX2_advance_43 : decode cX2_advance 43 = .ok (.aload_n 0, 1) := by decide +kernel
theorem dX2_advance_44 : decode cX2_advance 44 = .ok (.getfield 74, 3) := by decide +kernel
theorem dX2_advance_47 : decode cX2_advance 47 = .ok (.iaload, 1) := by decide +kernel
theorem dX2_advance_48 : decode cX2_advance 48 = .ok (.putfield 107, 3) := by decide +kernel
theorem dX2_advance_51 : decode cX2_advance 51 = .ok (.aload_n 0, 1) := by decide +kernel
theorem dX2_advance_52 : decode cX2_advance 52 = .ok (.aload_n 0, 1) := by decide +kernel
theorem dX2_advance_53 : decode cX2_advance 53 = .ok (.getfield 27, 3) := by decide +kernel
theorem dX2_advance_56 : decode cX2_advance 56 = .ok (.aload_n 0, 1) := by decide +kernel
theorem dX2_advance_57 : decode cX2_advance 57 = .ok (.getfield 74, 3) := by decide +kernel
theorem dX2_advance_60 : decode cX2_advance 60 = .ok (.iaload, 1) := by decide +kernel
theorem dX2_advance_61 : decode cX2_advance 61 = .ok (.putfield 110, 3) := by decide +kernel
theorem dX2_advance_64 : decode cX2_advance 64 = .ok (.aload_n 0, 1) := by decide +kernel
theorem dX2_advance_65 : decode cX2_advance 65 = .ok (.dup, 1) := by decide +kernel
theorem dX2_advance_66 : decode cX2_advance 66 = .ok (.getfield 74, 3) := by decide +kernel
theorem dX2_advance_69 : decode cX2_advance 69 = .ok (.iconst 1, 1) := by decide +kernel
theorem dX2_advance_70 : decode cX2_advance 70 = .ok (.iadd, 1) := by decide +kernel
theorem dX2_advance_71 : decode cX2_advance 71 = .ok (.putfield 74, 3) := by decide +kernel
theorem dX2_advance_74 : decode cX2_advance 74 = .ok (.return_, 1) := by decide +kernel
def mX2_advance (I : iT) : Option (iT) := if (I 6 9) = 0 then if (I 6 5) < 0 then some I else if (I 6 4) ≤ (I 6 5) then some I else if inb (I 6 5) 1001 then if inb ((a_u2 I 6 6 (I 9 (I 6 5).toNatClampNeg)) 6 5) 1001 then if inb ((a_u2 (a_u2 I 6 6 (I 9 (I 6 5).toNatClampNeg)) 6 7 ((a_u2 I 6 6 (I 9 (I 6 5).toNatClampNeg)) 10 ((a_u2 I 6 6 (I 9 (I 6 5).toNatClampNeg)) 6 5).toNatClampNeg)) 6 5) 1001 then some (a_u2 (a_u2 (a_u2 (a_u2 I 6 6 (I 9 (I 6 5).toNatClampNeg)) 6 7 ((a_u2 I 6 6 (I 9 (I 6 5).toNatClampNeg)) 10 ((a_u2 I 6 6 (I 9 (I 6 5).toNatClampNeg)) 6 5).toNatClampNeg)) 6 8 ((a_u2 (a_u2 I 6 6 (I 9 (I 6 5).toNatClampNeg)) 6 7 ((a_u2 I 6 6 (I 9 (I 6 5).toNatClampNeg)) 10 ((a_u2 I 6 6 (I 9 (I 6 5).toNatClampNeg)) 6 5).toNatClampNeg)) 11 ((a_u2 (a_u2 I 6 6 (I 9 (I 6 5).toNatClampNeg)) 6 7 ((a_u2 I 6 6 (I 9 (I 6 5).toNatClampNeg)) 10 ((a_u2 I 6 6 (I 9 (I 6 5).toNatClampNeg)) 6 5).toNatClampNeg)) 6 5).toNatClampNeg)) 6 5 (((a_u2 (a_u2 (a_u2 I 6 6 (I 9 (I 6 5).toNatClampNeg)) 6 7 ((a_u2 I 6 6 (I 9 (I 6 5).toNatClampNeg)) 10 ((a_u2 I 6 6 (I 9 (I 6 5).toNatClampNeg)) 6 5).toNatClampNeg)) 6 8 ((a_u2 (a_u2 I 6 6 (I 9 (I 6 5).toNatClampNeg)) 6 7 ((a_u2 I 6 6 (I 9 (I 6 5).toNatClampNeg)) 10 ((a_u2 I 6 6 (I 9 (I 6 5).toNatClampNeg)) 6 5).toNatClampNeg)) 11 ((a_u2 (a_u2 I 6 6 (I 9 (I 6 5).toNatClampNeg)) 6 7 ((a_u2 I 6 6 (I 9 (I 6 5).toNatClampNeg)) 10 ((a_u2 I 6 6 (I 9 (I 6 5).toNatClampNeg)) 6 5).toNatClampNeg)) 6 5).toNatClampNeg)) 6 5) + 1)) else none else none else none else some I
set_option maxRecDepth 100000 in
set_option maxHeartbeats 4000000 in
theorem tX2_advance {l : Launch} {K : a_KT} {g : a_GT} {IB : iT} (hko : a_kok K) (I : iT) (J : jT) (F : fT) (hF : FK F) (q : iT) (hm : mX2_advance I = some q) : C l K g 0 0 0 yX2_advance cX2_advance 1 none [.ref 6] (hg I IB J F) (fun r2 h2 => r2 = none ∧ h2 = hg q IB J F) := by
  unfold mX2_advance at hm
  refine c_of [.ref 6] (by decide) (Nat.le_of_ble_eq_true rfl) rfl ?_
  refine e_aload_n (i := 0) rfl dX2_advance_0 ?_
  refine k_getI 2 9 dX2_advance_1 fl_RX2_71 rfl iz_6 (by decide) ?_
  refine e_if_ne 74 dX2_advance_4 (by decide) (fun c_4 => ?_) (fun c_4 => ?_)
  · have hm := it_n c_4 hm
    refine e_vret dX2_advance_74 rfl ?_
    have hm := some_in hm
    subst hm
    exact ⟨rfl, rfl⟩
  · have hm := it_p c_4 hm
    refine e_aload_n (i := 0) rfl dX2_advance_7 ?_
    refine k_getI 2 5 dX2_advance_8 fl_RX2_74 rfl iz_6 (by decide) ?_
    refine e_if_lt 74 dX2_advance_11 (by decide) (fun c_11 => ?_) (fun c_11 => ?_)
    · have hm := it_p c_11 hm
      refine e_vret dX2_advance_74 rfl ?_
      have hm := some_in hm
      subst hm
      exact ⟨rfl, rfl⟩
    · have hm := it_n c_11 hm
      refine e_aload_n (i := 0) rfl dX2_advance_14 ?_
      refine k_getI 2 5 dX2_advance_15 fl_RX2_74 rfl iz_6 (by decide) ?_
      refine e_aload_n (i := 0) rfl dX2_advance_18 ?_
      refine k_getI 2 4 dX2_advance_19 fl_RX2_57 rfl iz_6 (by decide) ?_
      refine e_icmp_ge 74 dX2_advance_22 (by decide) (fun c_22 => ?_) (fun c_22 => ?_)
      · have hm := it_p c_22 hm
        refine e_vret dX2_advance_74 rfl ?_
        have hm := some_in hm
        subst hm
        exact ⟨rfl, rfl⟩
      · have hm := it_n c_22 hm
        refine e_aload_n (i := 0) rfl dX2_advance_25 ?_
        refine e_aload_n (i := 0) rfl dX2_advance_26 ?_
        refine q_getF 2 1 9 dX2_advance_27 fl_RX2_20 rfl iz_6 (fr_6_1 hF.1) ?_
        refine e_aload_n (i := 0) rfl dX2_advance_30 ?_
        refine k_getI 2 5 dX2_advance_31 fl_RX2_74 rfl iz_6 (by decide) ?_
        obtain ⟨c_34, hm⟩ := gd_s hm
        refine k_iald dX2_advance_34 iz_9 (inb_in ln_9 c_34) (by decide) ?_
        refine k_putI 2 6 dX2_advance_35 fl_RX2_30 rfl rfl iz_6 (by decide) ?_
        refine e_aload_n (i := 0) rfl dX2_advance_38 ?_
        refine e_aload_n (i := 0) rfl dX2_advance_39 ?_
        refine q_getF 2 2 10 dX2_advance_40 fl_RX2_24 rfl iz_6 (fr_6_2 hF.1) ?_
        refine e_aload_n (i := 0) rfl dX2_advance_43 ?_
        refine k_getI 2 5 dX2_advance_44 fl_RX2_74 rfl iz_6 (by decide) ?_
        obtain ⟨c_47, hm⟩ := gd_s hm
        refine k_iald dX2_advance_47 iz_10 (inb_in ln_10 c_47) (by decide) ?_
        refine k_putI 2 7 dX2_advance_48 fl_RX2_107 rfl rfl iz_6 (by decide) ?_
        refine e_aload_n (i := 0) rfl dX2_advance_51 ?_
        refine e_aload_n (i := 0) rfl dX2_advance_52 ?_
        refine q_getF 2 3 11 dX2_advance_53 fl_RX2_27 rfl iz_6 (fr_6_3 hF.1) ?_
        refine e_aload_n (i := 0) rfl dX2_advance_56 ?_
        refine k_getI 2 5 dX2_advance_57 fl_RX2_74 rfl iz_6 (by decide) ?_
        obtain ⟨c_60, hm⟩ := gd_s hm
        refine k_iald dX2_advance_60 iz_11 (inb_in ln_11 c_60) (by decide) ?_
        refine k_putI 2 8 dX2_advance_61 fl_RX2_110 rfl rfl iz_6 (by decide) ?_
        refine e_aload_n (i := 0) rfl dX2_advance_64 ?_
        refine e_dup rfl dX2_advance_65 ?_
        refine k_getI 2 5 dX2_advance_66 fl_RX2_74 rfl iz_6 (by decide) ?_
        refine e_iconst (v := 1) (by decide) dX2_advance_69 ?_
        refine e_iadd dX2_advance_70 ?_
        refine k_putI 2 5 dX2_advance_71 fl_RX2_74 rfl rfl iz_6 (by decide) ?_
        refine e_vret dX2_advance_74 rfl ?_
        have hm := some_in hm
        subst hm
        exact ⟨rfl, rfl⟩
theorem dX2_note_0 : decode cX2_note 0 = .ok (.aload_n 0, 1) := by decide +kernel
theorem dX2_note_1 : decode cX2_note 1 = .ok (.getfield 57, 3) := by decide +kernel
theorem dX2_note_4 : decode cX2_note 4 = .ok (.aload_n 0, 1) := by decide +kernel
theorem dX2_note_5 : decode cX2_note 5 = .ok (.getfield 20, 3) := by decide +kernel
theorem dX2_note_8 : decode cX2_note 8 = .ok (.arraylength, 1) := by decide +kernel
theorem dX2_note_9 : decode cX2_note 9 = .ok (.if_icmp .ge 43, 3) := by decide +kernel
theorem dX2_note_12 : decode cX2_note 12 = .ok (.aload_n 0, 1) := by decide +kernel
theorem dX2_note_13 : decode cX2_note 13 = .ok (.getfield 20, 3) := by decide +kernel
theorem dX2_note_16 : decode cX2_note 16 = .ok (.aload_n 0, 1) := by decide +kernel
theorem dX2_note_17 : decode cX2_note 17 = .ok (.getfield 57, 3) := by decide +kernel
theorem dX2_note_20 : decode cX2_note 20 = .ok (.iload_n 1, 1) := by decide +kernel
theorem dX2_note_21 : decode cX2_note 21 = .ok (.iastore, 1) := by decide +kernel
theorem dX2_note_22 : decode cX2_note 22 = .ok (.aload_n 0, 1) := by decide +kernel
theorem dX2_note_23 : decode cX2_note 23 = .ok (.getfield 24, 3) := by decide +kernel
theorem dX2_note_26 : decode cX2_note 26 = .ok (.aload_n 0, 1) := by decide +kernel
theorem dX2_note_27 : decode cX2_note 27 = .ok (.getfield 57, 3) := by decide +kernel
theorem dX2_note_30 : decode cX2_note 30 = .ok (.iload_n 2, 1) := by decide +kernel
theorem dX2_note_31 : decode cX2_note 31 = .ok (.iastore, 1) := by decide +kernel
theorem dX2_note_32 : decode cX2_note 32 = .ok (.aload_n 0, 1) := by decide +kernel
theorem dX2_note_33 : decode cX2_note 33 = .ok (.getfield 27, 3) := by decide +kernel
theorem dX2_note_36 : decode cX2_note 36 = .ok (.aload_n 0, 1) := by decide +kernel
theorem dX2_note_37 : decode cX2_note 37 = .ok (.getfield 57, 3) := by decide +kernel
theorem dX2_note_40 : decode cX2_note 40 = .ok (.iload_n 3, 1) := by decide +kernel
theorem dX2_note_41 : decode cX2_note 41 = .ok (.iastore, 1) := by decide +kernel
theorem dX2_note_42 : decode cX2_note 42 = .ok (.aload_n 0, 1) := by decide +kernel
theorem dX2_note_43 : decode cX2_note 43 = .ok (.dup, 1) := by decide +kernel
theorem dX2_note_44 : decode cX2_note 44 = .ok (.getfield 57, 3) := by decide +kernel
theorem dX2_note_47 : decode cX2_note 47 = .ok (.iconst 1, 1) := by decide +kernel
theorem dX2_note_48 : decode cX2_note 48 = .ok (.iadd, 1) := by decide +kernel
theorem dX2_note_49 : decode cX2_note 49 = .ok (.putfield 57, 3) := by decide +kernel
theorem dX2_note_52 : decode cX2_note 52 = .ok (.return_, 1) := by decide +kernel
def mX2_note (I : iT) (x1 : Int32) (x2 : Int32) (x3 : Int32) : Option (iT) := if (nI 1001) ≤ (I 6 4) then some I else if inb (I 6 4) 1001 then if inb ((a_u2 I 9 (I 6 4).toNatClampNeg x1) 6 4) 1001 then if inb ((a_u2 (a_u2 I 9 (I 6 4).toNatClampNeg x1) 10 ((a_u2 I 9 (I 6 4).toNatClampNeg x1) 6 4).toNatClampNeg x2) 6 4) 1001 then some (a_u2 (a_u2 (a_u2 (a_u2 I 9 (I 6 4).toNatClampNeg x1) 10 ((a_u2 I 9 (I 6 4).toNatClampNeg x1) 6 4).toNatClampNeg x2) 11 ((a_u2 (a_u2 I 9 (I 6 4).toNatClampNeg x1) 10 ((a_u2 I 9 (I 6 4).toNatClampNeg x1) 6 4).toNatClampNeg x2) 6 4).toNatClampNeg x3) 6 4 (((a_u2 (a_u2 (a_u2 I 9 (I 6 4).toNatClampNeg x1) 10 ((a_u2 I 9 (I 6 4).toNatClampNeg x1) 6 4).toNatClampNeg x2) 11 ((a_u2 (a_u2 I 9 (I 6 4).toNatClampNeg x1) 10 ((a_u2 I 9 (I 6 4).toNatClampNeg x1) 6 4).toNatClampNeg x2) 6 4).toNatClampNeg x3) 6 4) + 1)) else none else none else none
set_option maxRecDepth 100000 in
set_option maxHeartbeats 4000000 in
theorem tX2_note {l : Launch} {K : a_KT} {g : a_GT} {IB : iT} (hko : a_kok K) (I : iT) (J : jT) (F : fT) (hF : FK F) (x1 : Int32) (x2 : Int32) (x3 : Int32) (q : iT) (hm : mX2_note I x1 x2 x3 = some q) : C l K g 0 0 0 yX2_note cX2_note 4 none [.ref 6, .int x1, .int x2, .int x3] (hg I IB J F) (fun r2 h2 => r2 = none ∧ h2 = hg q IB J F) := by
  unfold mX2_note at hm
  refine c_of [.ref 6, .int x1, .int x2, .int x3] (by decide) (Nat.le_of_ble_eq_true rfl) rfl ?_
  refine e_aload_n (i := 0) rfl dX2_note_0 ?_
  refine k_getI 2 4 dX2_note_1 fl_RX2_57 rfl iz_6 (by decide) ?_
  refine e_aload_n (i := 0) rfl dX2_note_4 ?_
  refine q_getF 2 1 9 dX2_note_5 fl_RX2_20 rfl iz_6 (fr_6_1 hF.1) ?_
  refine q_alen dX2_note_8 iz_9 ?_
  rw [ln_9]
  refine e_icmp_ge 52 dX2_note_9 (by decide) (fun c_9 => ?_) (fun c_9 => ?_)
  · have hm := it_p c_9 hm
    refine e_vret dX2_note_52 rfl ?_
    have hm := some_in hm
    subst hm
    exact ⟨rfl, rfl⟩
  · have hm := it_n c_9 hm
    refine e_aload_n (i := 0) rfl dX2_note_12 ?_
    refine q_getF 2 1 9 dX2_note_13 fl_RX2_20 rfl iz_6 (fr_6_1 hF.1) ?_
    refine e_aload_n (i := 0) rfl dX2_note_16 ?_
    refine k_getI 2 4 dX2_note_17 fl_RX2_57 rfl iz_6 (by decide) ?_
    refine e_iload_n (i := 1) rfl dX2_note_20 ?_
    obtain ⟨c_21, hm⟩ := gd_s hm
    refine k_iast dX2_note_21 iz_9 (inb_in ln_9 c_21) (by decide) ?_
    refine e_aload_n (i := 0) rfl dX2_note_22 ?_
    refine q_getF 2 2 10 dX2_note_23 fl_RX2_24 rfl iz_6 (fr_6_2 hF.1) ?_
    refine e_aload_n (i := 0) rfl dX2_note_26 ?_
    refine k_getI 2 4 dX2_note_27 fl_RX2_57 rfl iz_6 (by decide) ?_
    refine e_iload_n (i := 2) rfl dX2_note_30 ?_
    obtain ⟨c_31, hm⟩ := gd_s hm
    refine k_iast dX2_note_31 iz_10 (inb_in ln_10 c_31) (by decide) ?_
    refine e_aload_n (i := 0) rfl dX2_note_32 ?_
    refine q_getF 2 3 11 dX2_note_33 fl_RX2_27 rfl iz_6 (fr_6_3 hF.1) ?_
    refine e_aload_n (i := 0) rfl dX2_note_36 ?_
    refine k_getI 2 4 dX2_note_37 fl_RX2_57 rfl iz_6 (by decide) ?_
    refine e_iload_n (i := 3) rfl dX2_note_40 ?_
    obtain ⟨c_41, hm⟩ := gd_s hm
    refine k_iast dX2_note_41 iz_11 (inb_in ln_11 c_41) (by decide) ?_
    refine e_aload_n (i := 0) rfl dX2_note_42 ?_
    refine e_dup rfl dX2_note_43 ?_
    refine k_getI 2 4 dX2_note_44 fl_RX2_57 rfl iz_6 (by decide) ?_
    refine e_iconst (v := 1) (by decide) dX2_note_47 ?_
    refine e_iadd dX2_note_48 ?_
    refine k_putI 2 4 dX2_note_49 fl_RX2_57 rfl rfl iz_6 (by decide) ?_
    refine e_vret dX2_note_52 rfl ?_
    have hm := some_in hm
    subst hm
    exact ⟨rfl, rfl⟩
theorem dX2_cutDigits_0 : decode cX2_cutDigits 0 = .ok (.iconst 0, 1) := by decide +kernel
theorem dX2_cutDigits_1 : decode cX2_cutDigits 1 = .ok (.istore_n 3, 1) := by decide +kernel
theorem dX2_cutDigits_2 : decode cX2_cutDigits 2 = .ok (.iconst 0, 1) := by decide +kernel
theorem dX2_cutDigits_3 : decode cX2_cutDigits 3 = .ok (.istore 4, 2) := by decide +kernel
theorem dX2_cutDigits_5 : decode cX2_cutDigits 5 = .ok (.iload_n 2, 1) := by decide +kernel
theorem dX2_cutDigits_6 : decode cX2_cutDigits 6 = .ok (.istore 5, 2) := by decide +kernel
theorem dX2_cutDigits_8 : decode cX2_cutDigits 8 = .ok (.iload 5, 2) := by decide +kernel
theorem dX2_cutDigits_10 : decode cX2_cutDigits 10 = .ok (.aload_n 1, 1) := by decide +kernel
theorem dX2_cutDigits_11 : decode cX2_cutDigits 11 = .ok (.invokevirtual 60, 3) := by decide +kernel
theorem dX2_cutDigits_14 : decode cX2_cutDigits 14 = .ok (.if_icmp .ge 39, 3) := by decide +kernel
theorem dX2_cutDigits_17 : decode cX2_cutDigits 17 = .ok (.aload_n 1, 1) := by decide +kernel
theorem dX2_cutDigits_18 : decode cX2_cutDigits 18 = .ok (.iload 5, 2) := by decide +kernel
theorem dX2_cutDigits_20 : decode cX2_cutDigits 20 = .ok (.invokevirtual 80, 3) := by decide +kernel
theorem dX2_cutDigits_23 : decode cX2_cutDigits 23 = .ok (.invokestatic 90, 3) := by decide +kernel
theorem dX2_cutDigits_26 : decode cX2_cutDigits 26 = .ok (.ifCond .eq 27, 3) := by decide +kernel
theorem dX2_cutDigits_29 : decode cX2_cutDigits 29 = .ok (.iload_n 3, 1) := by decide +kernel
theorem dX2_cutDigits_30 : decode cX2_cutDigits 30 = .ok (.bipush 10, 2) := by decide +kernel
theorem dX2_cutDigits_32 : decode cX2_cutDigits 32 = .ok (.imul, 1) := by decide +kernel
theorem dX2_cutDigits_33 : decode cX2_cutDigits 33 = .ok (.aload_n 1, 1) := by decide +kernel
theorem dX2_cutDigits_34 : decode cX2_cutDigits 34 = .ok (.iload 5, 2) := by decide +kernel
theorem dX2_cutDigits_36 : decode cX2_cutDigits 36 = .ok (.invokevirtual 80, 3) := by decide +kernel
theorem dX2_cutDigits_39 : decode cX2_cutDigits 39 = .ok (.iadd, 1) := by decide +kernel
theorem dX2_cutDigits_40 : decode cX2_cutDigits 40 = .ok (.bipush 48, 2) := by decide +kernel
theorem dX2_cutDigits_42 : decode cX2_cutDigits 42 = .ok (.isub, 1) := by decide +kernel
theorem dX2_cutDigits_43 : decode cX2_cutDigits 43 = .ok (.istore_n 3, 1) := by decide +kernel
theorem dX2_cutDigits_44 : decode cX2_cutDigits 44 = .ok (.iinc 4 1, 3) := by decide +kernel
theorem dX2_cutDigits_47 : decode cX2_cutDigits 47 = .ok (.iinc 5 1, 3) := by decide +kernel
theorem dX2_cutDigits_50 : decode cX2_cutDigits 50 = .ok (.goto (-42), 3) := by decide +kernel
theorem dX2_cutDigits_53 : decode cX2_cutDigits 53 = .ok (.iload 4, 2) := by decide +kernel
theorem dX2_cutDigits_55 : decode cX2_cutDigits 55 = .ok (.iconst 4, 1) := by decide +kernel
theorem dX2_cutDigits_56 : decode cX2_cutDigits 56 = .ok (.if_icmp .gt 21, 3) := by decide +kernel
theorem dX2_cutDigits_59 : decode cX2_cutDigits 59 = .ok (.aload_n 1, 1) := by decide +kernel
theorem dX2_cutDigits_60 : decode cX2_cutDigits 60 = .ok (.iload_n 2, 1) := by decide +kernel
theorem dX2_cutDigits_61 : decode cX2_cutDigits 61 = .ok (.iload 4, 2) := by decide +kernel
theorem dX2_cutDigits_63 : decode cX2_cutDigits 63 = .ok (.iadd, 1) := by decide +kernel
theorem dX2_cutDigits_64 : decode cX2_cutDigits 64 = .ok (.invokevirtual 80, 3) := by decide +kernel
theorem dX2_cutDigits_67 : decode cX2_cutDigits 67 = .ok (.invokestatic 104, 3) := by decide +kernel
theorem dX2_cutDigits_70 : decode cX2_cutDigits 70 = .ok (.ifCond .ne 7, 3) := by decide +kernel
theorem dX2_cutDigits_73 : decode cX2_cutDigits 73 = .ok (.iconst 1, 1) := by decide +kernel
theorem dX2_cutDigits_74 : decode cX2_cutDigits 74 = .ok (.goto 4, 3) := by decide +kernel
theorem dX2_cutDigits_77 : decode cX2_cutDigits 77 = .ok (.iconst 0, 1) := by decide +kernel
theorem dX2_cutDigits_78 : decode cX2_cutDigits 78 = .ok (.istore 5, 2) := by decide +kernel
theorem dX2_cutDigits_80 : decode cX2_cutDigits 80 = .ok (.aload_n 0, 1) := by decide +kernel
theorem dX2_cutDigits_81 : decode cX2_cutDigits 81 = .ok (.iload 5, 2) := by decide +kernel
theorem dX2_cutDigits_83 : decode cX2_cutDigits 83 = .ok (.ifCond .eq 9, 3) := by decide +kernel
theorem dX2_cutDigits_86 : decode cX2_cutDigits 86 = .ok (.sipush 257, 3) := by decide +kernel
theorem dX2_cutDigits_89 : decode cX2_cutDigits 89 = .ok (.goto 6, 3) := by decide +kernel
theorem dX2_cutDigits_92 : decode cX2_cutDigits 92 = .ok (.sipush 259, 3) := by decide +kernel
theorem dX2_cutDigits_95 : decode cX2_cutDigits 95 = .ok (.iload_n 3, 1) := by decide +kernel
theorem dX2_cutDigits_96 : decode cX2_cutDigits 96 = .ok (.iload_n 2, 1) := by decide +kernel
theorem dX2_cutDigits_97 : decode cX2_cutDigits 97 = .ok (.invokevirtual 67, 3) := by decide +kernel
theorem dX2_cutDigits_100 : decode cX2_cutDigits 100 = .ok (.iload 4, 2) := by decide +kernel
theorem dX2_cutDigits_102 : decode cX2_cutDigits 102 = .ok (.ireturn, 1) := by decide +kernel
def mX2_cutDigits_95 (a1 : Nat) (I : iT) (x2 : Int32) (x3 : Int32) (x4 : Int32) (x5 : Int32) (s0 : Int32) : Option (Int32 × iT) := (mX2_note I s0 x3 x2).bind fun q1 => some (x4, q1)
def mX2_cutDigits_78 (a1 : Nat) (I : iT) (x2 : Int32) (x3 : Int32) (x4 : Int32) (x5 : Int32) (s0 : Int32) : Option (Int32 × iT) := if s0 = 0 then mX2_cutDigits_95 a1 I x2 x3 x4 s0 259 else mX2_cutDigits_95 a1 I x2 x3 x4 s0 257
def mX2_cutDigits_77 (a1 : Nat) (I : iT) (x2 : Int32) (x3 : Int32) (x4 : Int32) (x5 : Int32) : Option (Int32 × iT) := mX2_cutDigits_78 a1 I x2 x3 x4 x5 0
def mX2_cutDigits_53 (a1 : Nat) (I : iT) (x2 : Int32) (x3 : Int32) (x4 : Int32) (x5 : Int32) : Option (Int32 × iT) := if 4 < x4 then mX2_cutDigits_77 a1 I x2 x3 x4 x5 else (mX4_at a1 I (x2 + x4)).bind fun q2 => (mX11_isLetter q2).bind fun q3 => if q3 = 0 then mX2_cutDigits_78 a1 I x2 x3 x4 x5 1 else mX2_cutDigits_77 a1 I x2 x3 x4 x5
def mX2_cutDigits_8 (a1 : Nat) : Nat → iT → Int32 → Int32 → Int32 → Int32 → Option (Int32 × iT)
  | 0, _, _, _, _, _ => none
  | n + 1, I, x2, x3, x4, x5 => (mX4_size a1 I).bind fun q4 => if q4 ≤ x5 then mX2_cutDigits_53 a1 I x2 x3 x4 x5 else (mX4_at a1 I x5).bind fun q5 => (mX11_isDigit q5).bind fun q6 => if q6 = 0 then mX2_cutDigits_53 a1 I x2 x3 x4 x5 else (mX4_at a1 I x5).bind fun q7 => mX2_cutDigits_8 a1 n I x2 (((x3 * 10) + q7) - 48) (x4 + 1) (x5 + 1)
def mX2_cutDigits (a1 : Nat) (I : iT) (x2 : Int32) : Option (Int32 × iT) := mX2_cutDigits_8 a1 LF I x2 0 0 x2
set_option maxRecDepth 100000 in
set_option maxHeartbeats 4000000 in
theorem tX2_cutDigits_95 {l : Launch} {K : a_KT} {g : a_GT} {IB : iT} (hko : a_kok K) {a1 : Nat} (ha1 : isRow a1) {J : jT} {F : fT} (I : iT) (x2 : Int32) (x3 : Int32) (x4 : Int32) (x5 : Int32) (s0 : Int32) (hF : FK F) (q : Int32 × iT) (hm : mX2_cutDigits_95 a1 I x2 x3 x4 x5 s0 = some q) : E l K g 2 0 0 yX2_cutDigits cX2_cutDigits 6 (some .int) 95 [.ref 6, .ref a1, .int x2, .int x3, .int x4, .int x5] [.int s0, .ref 6] (hg I IB J F) (fun r2 h2 => r2 = some (.int q.1) ∧ h2 = hg q.2 IB J F) := by
  unfold mX2_cutDigits_95 at hm
  refine e_iload_n (i := 3) rfl dX2_cutDigits_95 ?_
  refine e_iload_n (i := 2) rfl dX2_cutDigits_96 ?_
  obtain ⟨q1, eq1, hm⟩ := ob_some hm
  refine e_cV3 hko dX2_cutDigits_97 ml_RX2_67 iz_6 (by decide) rfl (by omega) (Nat.le_of_ble_eq_true rfl) (tX2_note hko I J F hF s0 x3 x2 _ eq1) ?_
  rintro _ _ ⟨rfl, rfl⟩
  refine e_iload (i := 4) rfl dX2_cutDigits_100 ?_
  refine e_iret dX2_cutDigits_102 rfl ?_
  have hm := some_in hm
  subst hm
  exact ⟨rfl, rfl⟩
set_option maxRecDepth 100000 in
set_option maxHeartbeats 4000000 in
theorem tX2_cutDigits_78 {l : Launch} {K : a_KT} {g : a_GT} {IB : iT} (hko : a_kok K) {a1 : Nat} (ha1 : isRow a1) {J : jT} {F : fT} (I : iT) (x2 : Int32) (x3 : Int32) (x4 : Int32) (x5 : Int32) (s0 : Int32) (hF : FK F) (q : Int32 × iT) (hm : mX2_cutDigits_78 a1 I x2 x3 x4 x5 s0 = some q) : E l K g 2 0 0 yX2_cutDigits cX2_cutDigits 6 (some .int) 78 [.ref 6, .ref a1, .int x2, .int x3, .int x4, .int x5] [.int s0] (hg I IB J F) (fun r2 h2 => r2 = some (.int q.1) ∧ h2 = hg q.2 IB J F) := by
  unfold mX2_cutDigits_78 at hm
  refine q_istore (i := 5) (by decide) rfl dX2_cutDigits_78 ?_
  refine e_aload_n (i := 0) rfl dX2_cutDigits_80 ?_
  refine e_iload (i := 5) rfl dX2_cutDigits_81 ?_
  refine e_if_eq 92 dX2_cutDigits_83 (by decide) (fun c_83 => ?_) (fun c_83 => ?_)
  · have hm := it_p c_83 hm
    refine e_sipush (v := 259) (by decide) dX2_cutDigits_92 ?_
    refine e_weak [.ref 6, .ref a1, .int x2, .int x3, .int x4, .int s0] ⟨rfl, ⟨rfl, ⟨rfl, ⟨rfl, ⟨rfl, ⟨rfl, trivial⟩⟩⟩⟩⟩⟩ ?_
    exact tX2_cutDigits_95 hko ha1 I x2 x3 x4 s0 259 hF _ hm
  · have hm := it_n c_83 hm
    refine e_sipush (v := 257) (by decide) dX2_cutDigits_86 ?_
    refine e_goto 95 dX2_cutDigits_89 (by decide) ?_
    refine e_weak [.ref 6, .ref a1, .int x2, .int x3, .int x4, .int s0] ⟨rfl, ⟨rfl, ⟨rfl, ⟨rfl, ⟨rfl, ⟨rfl, trivial⟩⟩⟩⟩⟩⟩ ?_
    exact tX2_cutDigits_95 hko ha1 I x2 x3 x4 s0 257 hF _ hm
set_option maxRecDepth 100000 in
set_option maxHeartbeats 4000000 in
theorem tX2_cutDigits_77 {l : Launch} {K : a_KT} {g : a_GT} {IB : iT} (hko : a_kok K) {a1 : Nat} (ha1 : isRow a1) {J : jT} {F : fT} (I : iT) (x2 : Int32) (x3 : Int32) (x4 : Int32) (x5 : Int32) (hF : FK F) (q : Int32 × iT) (hm : mX2_cutDigits_77 a1 I x2 x3 x4 x5 = some q) : E l K g 2 0 0 yX2_cutDigits cX2_cutDigits 6 (some .int) 77 [.ref 6, .ref a1, .int x2, .int x3, .int x4, .int x5] [] (hg I IB J F) (fun r2 h2 => r2 = some (.int q.1) ∧ h2 = hg q.2 IB J F) := by
  unfold mX2_cutDigits_77 at hm
  refine e_iconst (v := 0) (by decide) dX2_cutDigits_77 ?_
  refine e_weak [.ref 6, .ref a1, .int x2, .int x3, .int x4, .int x5] ⟨rfl, ⟨rfl, ⟨rfl, ⟨rfl, ⟨rfl, ⟨rfl, trivial⟩⟩⟩⟩⟩⟩ ?_
  exact tX2_cutDigits_78 hko ha1 I x2 x3 x4 x5 0 hF _ hm
set_option maxRecDepth 100000 in
set_option maxHeartbeats 4000000 in
theorem tX2_cutDigits_53 {l : Launch} {K : a_KT} {g : a_GT} {IB : iT} (hko : a_kok K) {a1 : Nat} (ha1 : isRow a1) {J : jT} {F : fT} (I : iT) (x2 : Int32) (x3 : Int32) (x4 : Int32) (x5 : Int32) (hF : FK F) (q : Int32 × iT) (hm : mX2_cutDigits_53 a1 I x2 x3 x4 x5 = some q) : E l K g 2 0 0 yX2_cutDigits cX2_cutDigits 6 (some .int) 53 [.ref 6, .ref a1, .int x2, .int x3, .int x4, .int x5] [] (hg I IB J F) (fun r2 h2 => r2 = some (.int q.1) ∧ h2 = hg q.2 IB J F) := by
  unfold mX2_cutDigits_53 at hm
  refine e_iload (i := 4) rfl dX2_cutDigits_53 ?_
  refine e_iconst (v := 4) (by decide) dX2_cutDigits_55 ?_
  refine e_icmp_gt 77 dX2_cutDigits_56 (by decide) (fun c_56 => ?_) (fun c_56 => ?_)
  · have hm := it_p c_56 hm
    refine e_weak [.ref 6, .ref a1, .int x2, .int x3, .int x4, .int x5] ⟨rfl, ⟨rfl, ⟨rfl, ⟨rfl, ⟨rfl, ⟨rfl, trivial⟩⟩⟩⟩⟩⟩ ?_
    exact tX2_cutDigits_77 hko ha1 I x2 x3 x4 x5 hF _ hm
  · have hm := it_n c_56 hm
    refine e_aload_n (i := 1) rfl dX2_cutDigits_59 ?_
    refine e_iload_n (i := 2) rfl dX2_cutDigits_60 ?_
    refine e_iload (i := 4) rfl dX2_cutDigits_61 ?_
    refine e_iadd dX2_cutDigits_63 ?_
    obtain ⟨q2, eq2, hm⟩ := ob_some hm
    refine e_cV1 hko dX2_cutDigits_64 ml_RX2_80 (iz_row ha1) (by decide) rfl (by omega) (Nat.le_of_ble_eq_true rfl) (tX4_at hko ha1 I J F hF (x2 + x4) _ eq2) ?_
    rintro _ _ ⟨rfl, rfl⟩
    obtain ⟨q3, eq3, hm⟩ := ob_some hm
    refine e_cS1 hko dX2_cutDigits_67 ml_RX2_104 (by omega) (Nat.le_of_ble_eq_true rfl) (tX11_isLetter hko I J F hF q2 _ eq3) ?_
    rintro _ _ ⟨rfl, rfl⟩
    refine e_if_ne 77 dX2_cutDigits_70 (by decide) (fun c_70 => ?_) (fun c_70 => ?_)
    · have hm := it_n c_70 hm
      refine e_weak [.ref 6, .ref a1, .int x2, .int x3, .int x4, .int x5] ⟨rfl, ⟨rfl, ⟨rfl, ⟨rfl, ⟨rfl, ⟨rfl, trivial⟩⟩⟩⟩⟩⟩ ?_
      exact tX2_cutDigits_77 hko ha1 I x2 x3 x4 x5 hF _ hm
    · have hm := it_p c_70 hm
      refine e_iconst (v := 1) (by decide) dX2_cutDigits_73 ?_
      refine e_goto 78 dX2_cutDigits_74 (by decide) ?_
      refine e_weak [.ref 6, .ref a1, .int x2, .int x3, .int x4, .int x5] ⟨rfl, ⟨rfl, ⟨rfl, ⟨rfl, ⟨rfl, ⟨rfl, trivial⟩⟩⟩⟩⟩⟩ ?_
      exact tX2_cutDigits_78 hko ha1 I x2 x3 x4 x5 1 hF _ hm
set_option maxRecDepth 100000 in
set_option maxHeartbeats 4000000 in
theorem tX2_cutDigits_8 {l : Launch} {K : a_KT} {g : a_GT} {IB : iT} (hko : a_kok K) {a1 : Nat} (ha1 : isRow a1) {J : jT} {F : fT} : ∀ (n : Nat) (I : iT) (x2 : Int32) (x3 : Int32) (x4 : Int32) (x5 : Int32) (hF : FK F) (q : Int32 × iT), mX2_cutDigits_8 a1 n I x2 x3 x4 x5 = some q → E l K g 2 0 0 yX2_cutDigits cX2_cutDigits 6 (some .int) 8 [.ref 6, .ref a1, .int x2, .int x3, .int x4, .int x5] [] (hg I IB J F) (fun r2 h2 => r2 = some (.int q.1) ∧ h2 = hg q.2 IB J F) := by
  intro n
  induction n with
  | zero => intro I x2 x3 x4 x5 hF q hm; cases hm
  | succ n ih =>
    intro I x2 x3 x4 x5 hF q hm
    rw [mX2_cutDigits_8] at hm
    refine e_iload (i := 5) rfl dX2_cutDigits_8 ?_
    refine e_aload_n (i := 1) rfl dX2_cutDigits_10 ?_
    obtain ⟨q4, eq4, hm⟩ := ob_some hm
    refine e_cV0 hko dX2_cutDigits_11 ml_RX2_60 (iz_row ha1) (by decide) rfl (by omega) (Nat.le_of_ble_eq_true rfl) (tX4_size hko ha1 I J F hF _ eq4) ?_
    rintro _ _ ⟨rfl, rfl⟩
    refine e_icmp_ge 53 dX2_cutDigits_14 (by decide) (fun c_14 => ?_) (fun c_14 => ?_)
    · have hm := it_p c_14 hm
      refine e_weak [.ref 6, .ref a1, .int x2, .int x3, .int x4, .int x5] ⟨rfl, ⟨rfl, ⟨rfl, ⟨rfl, ⟨rfl, ⟨rfl, trivial⟩⟩⟩⟩⟩⟩ ?_
      exact tX2_cutDigits_53 hko ha1 I x2 x3 x4 x5 hF _ hm
    · have hm := it_n c_14 hm
      refine e_aload_n (i := 1) rfl dX2_cutDigits_17 ?_
      refine e_iload (i := 5) rfl dX2_cutDigits_18 ?_
      obtain ⟨q5, eq5, hm⟩ := ob_some hm
      refine e_cV1 hko dX2_cutDigits_20 ml_RX2_80 (iz_row ha1) (by decide) rfl (by omega) (Nat.le_of_ble_eq_true rfl) (tX4_at hko ha1 I J F hF x5 _ eq5) ?_
      rintro _ _ ⟨rfl, rfl⟩
      obtain ⟨q6, eq6, hm⟩ := ob_some hm
      refine e_cS1 hko dX2_cutDigits_23 ml_RX2_90 (by omega) (Nat.le_of_ble_eq_true rfl) (tX11_isDigit hko I J F hF q5 _ eq6) ?_
      rintro _ _ ⟨rfl, rfl⟩
      refine e_if_eq 53 dX2_cutDigits_26 (by decide) (fun c_26 => ?_) (fun c_26 => ?_)
      · have hm := it_p c_26 hm
        refine e_weak [.ref 6, .ref a1, .int x2, .int x3, .int x4, .int x5] ⟨rfl, ⟨rfl, ⟨rfl, ⟨rfl, ⟨rfl, ⟨rfl, trivial⟩⟩⟩⟩⟩⟩ ?_
        exact tX2_cutDigits_53 hko ha1 I x2 x3 x4 x5 hF _ hm
      · have hm := it_n c_26 hm
        refine e_iload_n (i := 3) rfl dX2_cutDigits_29 ?_
        refine e_bipush (v := 10) (by decide) dX2_cutDigits_30 ?_
        refine e_imul dX2_cutDigits_32 ?_
        refine e_aload_n (i := 1) rfl dX2_cutDigits_33 ?_
        refine e_iload (i := 5) rfl dX2_cutDigits_34 ?_
        obtain ⟨q7, eq7, hm⟩ := ob_some hm
        refine e_cV1 hko dX2_cutDigits_36 ml_RX2_80 (iz_row ha1) (by decide) rfl (by omega) (Nat.le_of_ble_eq_true rfl) (tX4_at hko ha1 I J F hF x5 _ eq7) ?_
        rintro _ _ ⟨rfl, rfl⟩
        refine e_iadd dX2_cutDigits_39 ?_
        refine e_bipush (v := 48) (by decide) dX2_cutDigits_40 ?_
        refine e_isub dX2_cutDigits_42 ?_
        refine q_istore_n (i := 3) (by decide) rfl dX2_cutDigits_43 ?_
        refine q_iinc (i := 4) (x4 + 1) rfl ic_1 rfl dX2_cutDigits_44 ?_
        refine q_iinc (i := 5) (x5 + 1) rfl ic_1 rfl dX2_cutDigits_47 ?_
        refine e_goto 8 dX2_cutDigits_50 (by decide) ?_
        refine e_weak [.ref 6, .ref a1, .int x2, .int (((x3 * 10) + q7) - 48), .int (x4 + 1), .int (x5 + 1)] ⟨rfl, ⟨rfl, ⟨rfl, ⟨rfl, ⟨rfl, ⟨rfl, trivial⟩⟩⟩⟩⟩⟩ ?_
        exact ih I x2 (((x3 * 10) + q7) - 48) (x4 + 1) (x5 + 1) hF _ hm
set_option maxRecDepth 100000 in
set_option maxHeartbeats 4000000 in
theorem tX2_cutDigits {l : Launch} {K : a_KT} {g : a_GT} {IB : iT} (hko : a_kok K) {a1 : Nat} (ha1 : isRow a1) (I : iT) (J : jT) (F : fT) (hF : FK F) (x2 : Int32) (q : Int32 × iT) (hm : mX2_cutDigits a1 I x2 = some q) : C l K g 2 0 0 yX2_cutDigits cX2_cutDigits 6 (some .int) [.ref 6, .ref a1, .int x2] (hg I IB J F) (fun r2 h2 => r2 = some (.int q.1) ∧ h2 = hg q.2 IB J F) := by
  unfold mX2_cutDigits at hm
  refine c_of [.ref 6, .ref a1, .int x2, .null, .null, .null] (by decide) (Nat.le_of_ble_eq_true rfl) rfl ?_
  refine e_iconst (v := 0) (by decide) dX2_cutDigits_0 ?_
  refine q_istore_n (i := 3) (by decide) rfl dX2_cutDigits_1 ?_
  refine e_iconst (v := 0) (by decide) dX2_cutDigits_2 ?_
  refine q_istore (i := 4) (by decide) rfl dX2_cutDigits_3 ?_
  refine e_iload_n (i := 2) rfl dX2_cutDigits_5 ?_
  refine q_istore (i := 5) (by decide) rfl dX2_cutDigits_6 ?_
  refine e_weak [.ref 6, .ref a1, .int x2, .int 0, .int 0, .int x2] ⟨rfl, ⟨rfl, ⟨rfl, ⟨rfl, ⟨rfl, ⟨rfl, trivial⟩⟩⟩⟩⟩⟩ ?_
  exact tX2_cutDigits_8 hko ha1 LF I x2 0 0 x2 hF _ hm
theorem dX2_cutLetters_0 : decode cX2_cutLetters 0 = .ok (.iconst 0, 1) := by decide +kernel
theorem dX2_cutLetters_1 : decode cX2_cutLetters 1 = .ok (.istore_n 3, 1) := by decide +kernel
theorem dX2_cutLetters_2 : decode cX2_cutLetters 2 = .ok (.iconst 0, 1) := by decide +kernel
theorem dX2_cutLetters_3 : decode cX2_cutLetters 3 = .ok (.istore 4, 2) := by decide +kernel
theorem dX2_cutLetters_5 : decode cX2_cutLetters 5 = .ok (.iload_n 2, 1) := by decide +kernel
theorem dX2_cutLetters_6 : decode cX2_cutLetters 6 = .ok (.istore 5, 2) := by decide +kernel
theorem dX2_cutLetters_8 : decode cX2_cutLetters 8 = .ok (.iload 5, 2) := by decide +kernel
theorem dX2_cutLetters_10 : decode cX2_cutLetters 10 = .ok (.aload_n 1, 1) := by decide +kernel
theorem dX2_cutLetters_11 : decode cX2_cutLetters 11 = .ok (.invokevirtual 60, 3) := by decide +kernel
theorem dX2_cutLetters_14 : decode cX2_cutLetters 14 = .ok (.if_icmp .ge 37, 3) := by decide +kernel
theorem dX2_cutLetters_17 : decode cX2_cutLetters 17 = .ok (.aload_n 1, 1) := by decide +kernel
theorem dX2_cutLetters_18 : decode cX2_cutLetters 18 = .ok (.iload 5, 2) := by decide +kernel
theorem dX2_cutLetters_20 : decode cX2_cutLetters 20 = .ok (.invokevirtual 80, 3) := by decide +kernel
theorem dX2_cutLetters_23 : decode cX2_cutLetters 23 = .ok (.invokestatic 83, 3) := by decide +kernel
theorem dX2_cutLetters_26 : decode cX2_cutLetters 26 = .ok (.ifCond .eq 25, 3) := by decide +kernel
theorem dX2_cutLetters_29 : decode cX2_cutLetters 29 = .ok (.iload_n 3, 1) := by decide +kernel
theorem dX2_cutLetters_30 : decode cX2_cutLetters 30 = .ok (.iload 4, 2) := by decide +kernel
theorem dX2_cutLetters_32 : decode cX2_cutLetters 32 = .ok (.aload_n 1, 1) := by decide +kernel
theorem dX2_cutLetters_33 : decode cX2_cutLetters 33 = .ok (.iload 5, 2) := by decide +kernel
theorem dX2_cutLetters_35 : decode cX2_cutLetters 35 = .ok (.invokevirtual 80, 3) := by decide +kernel
theorem dX2_cutLetters_38 : decode cX2_cutLetters 38 = .ok (.invokestatic 53, 3) := by decide +kernel
theorem dX2_cutLetters_41 : decode cX2_cutLetters 41 = .ok (.istore_n 3, 1) := by decide +kernel
theorem dX2_cutLetters_42 : decode cX2_cutLetters 42 = .ok (.iinc 4 1, 3) := by decide +kernel
theorem dX2_cutLetters_45 : decode cX2_cutLetters 45 = .ok (.iinc 5 1, 3) := by decide +kernel
theorem dX2_cutLetters_48 : decode cX2_cutLetters 48 = .ok (.goto (-40), 3) := by decide +kernel
theorem dX2_cutLetters_51 : decode cX2_cutLetters 51 = .ok (.aload_n 0, 1) := by decide +kernel
theorem dX2_cutLetters_52 : decode cX2_cutLetters 52 = .ok (.getfield 14, 3) := by decide +kernel
theorem dX2_cutLetters_55 : decode cX2_cutLetters 55 = .ok (.iload_n 3, 1) := by decide +kernel
theorem dX2_cutLetters_56 : decode cX2_cutLetters 56 = .ok (.invokevirtual 101, 3) := by decide +kernel
theorem dX2_cutLetters_59 : decode cX2_cutLetters 59 = .ok (.istore 5, 2) := by decide +kernel
theorem dX2_cutLetters_61 : decode cX2_cutLetters 61 = .ok (.iload 4, 2) := by decide +kernel
theorem dX2_cutLetters_63 : decode cX2_cutLetters 63 = .ok (.bipush 6, 2) := by decide +kernel
theorem dX2_cutLetters_65 : decode cX2_cutLetters 65 = .ok (.if_icmp .le 15, 3) := by decide +kernel
theorem dX2_cutLetters_68 : decode cX2_cutLetters 68 = .ok (.aload_n 0, 1) := by decide +kernel
theorem dX2_cutLetters_69 : decode cX2_cutLetters 69 = .ok (.sipush 259, 3) := by decide +kernel
theorem dX2_cutLetters_72 : decode cX2_cutLetters 72 = .ok (.iconst 0, 1) := by decide +kernel
theorem dX2_cutLetters_73 : decode cX2_cutLetters 73 = .ok (.iload_n 2, 1) := by decide +kernel
theorem dX2_cutLetters_74 : decode cX2_cutLetters 74 = .ok (.invokevirtual 67, 3) := by decide +kernel
theorem dX2_cutLetters_77 : decode cX2_cutLetters 77 = .ok (.goto 27, 3) := by decide +kernel
theorem dX2_cutLetters_80 : decode cX2_cutLetters 80 = .ok (.aload_n 0, 1) := by decide +kernel
theorem dX2_cutLetters_81 : decode cX2_cutLetters 81 = .ok (.iload 5, 2) := by decide +kernel
theorem dX2_cutLetters_83 : decode cX2_cutLetters 83 = .ok (.iconst (-1), 1) := by decide +kernel
theorem dX2_cutLetters_84 : decode cX2_cutLetters 84 = .ok (.if_icmp .ne 9, 3) := by decide +kernel
theorem dX2_cutLetters_87 : decode cX2_cutLetters 87 = .ok (.sipush 256, 3) := by decide +kernel
theorem dX2_cutLetters_90 : decode cX2_cutLetters 90 = .ok (.goto 9, 3) := by decide +kernel
theorem dX2_cutLetters_93 : decode cX2_cutLetters 93 = .ok (.sipush 300, 3) := by decide +kernel
theorem dX2_cutLetters_96 : decode cX2_cutLetters 96 = .ok (.iload 5, 2) := by decide +kernel
theorem dX2_cutLetters_98 : decode cX2_cutLetters 98 = .ok (.iadd, 1) := by decide +kernel
theorem dX2_cutLetters_99 : decode cX2_cutLetters 99 = .ok (.iload_n 3, 1) := by decide +kernel
theorem dX2_cutLetters_100 : decode cX2_cutLetters 100 = .ok (.iload_n 2, 1) := by decide +kernel
theorem dX2_cutLetters_101 : decode cX2_cutLetters 101 = .ok (.invokevirtual 67, 3) := by decide +kernel
theorem dX2_cutLetters_104 : decode cX2_cutLetters 104 = .ok (.iload 4, 2) := by decide +kernel
theorem dX2_cutLetters_106 : decode cX2_cutLetters 106 = .ok (.ireturn, 1) := by decide +kernel
def mX2_cutLetters_99 (a1 : Nat) (I : iT) (x2 : Int32) (x3 : Int32) (x4 : Int32) (x5 : Int32) (s0 : Int32) : Option (Int32 × iT) := (mX2_note I s0 x3 x2).bind fun q1 => some (x4, q1)
def mX2_cutLetters_51 (a1 : Nat) (I : iT) (x2 : Int32) (x3 : Int32) (x4 : Int32) (x5 : Int32) : Option (Int32 × iT) := (mX4_find 7 I x3).bind fun q2 => if x4 ≤ 6 then if q2 = ((-1)) then mX2_cutLetters_99 a1 I x2 x3 x4 q2 256 else mX2_cutLetters_99 a1 I x2 x3 x4 q2 (300 + q2) else (mX2_note I 259 0 x2).bind fun q3 => some (x4, q3)
def mX2_cutLetters_8 (a1 : Nat) : Nat → iT → Int32 → Int32 → Int32 → Int32 → Option (Int32 × iT)
  | 0, _, _, _, _, _ => none
  | n + 1, I, x2, x3, x4, x5 => (mX4_size a1 I).bind fun q4 => if q4 ≤ x5 then mX2_cutLetters_51 a1 I x2 x3 x4 x5 else (mX4_at a1 I x5).bind fun q5 => (mX11_isSmallLetter q5).bind fun q6 => if q6 = 0 then mX2_cutLetters_51 a1 I x2 x3 x4 x5 else (mX4_at a1 I x5).bind fun q7 => (mX11_withLetter x3 x4 q7).bind fun q8 => mX2_cutLetters_8 a1 n I x2 q8 (x4 + 1) (x5 + 1)
def mX2_cutLetters (a1 : Nat) (I : iT) (x2 : Int32) : Option (Int32 × iT) := mX2_cutLetters_8 a1 LF I x2 0 0 x2
set_option maxRecDepth 100000 in
set_option maxHeartbeats 4000000 in
theorem tX2_cutLetters_99 {l : Launch} {K : a_KT} {g : a_GT} {IB : iT} (hko : a_kok K) {a1 : Nat} (ha1 : isRow a1) {J : jT} {F : fT} (I : iT) (x2 : Int32) (x3 : Int32) (x4 : Int32) (x5 : Int32) (s0 : Int32) (hF : FK F) (q : Int32 × iT) (hm : mX2_cutLetters_99 a1 I x2 x3 x4 x5 s0 = some q) : E l K g 2 0 0 yX2_cutLetters cX2_cutLetters 6 (some .int) 99 [.ref 6, .ref a1, .int x2, .int x3, .int x4, .int x5] [.int s0, .ref 6] (hg I IB J F) (fun r2 h2 => r2 = some (.int q.1) ∧ h2 = hg q.2 IB J F) := by
  unfold mX2_cutLetters_99 at hm
  refine e_iload_n (i := 3) rfl dX2_cutLetters_99 ?_
  refine e_iload_n (i := 2) rfl dX2_cutLetters_100 ?_
  obtain ⟨q1, eq1, hm⟩ := ob_some hm
  refine e_cV3 hko dX2_cutLetters_101 ml_RX2_67 iz_6 (by decide) rfl (by omega) (Nat.le_of_ble_eq_true rfl) (tX2_note hko I J F hF s0 x3 x2 _ eq1) ?_
  rintro _ _ ⟨rfl, rfl⟩
  refine e_iload (i := 4) rfl dX2_cutLetters_104 ?_
  refine e_iret dX2_cutLetters_106 rfl ?_
  have hm := some_in hm
  subst hm
  exact ⟨rfl, rfl⟩
set_option maxRecDepth 100000 in
set_option maxHeartbeats 4000000 in
theorem tX2_cutLetters_51 {l : Launch} {K : a_KT} {g : a_GT} {IB : iT} (hko : a_kok K) {a1 : Nat} (ha1 : isRow a1) {J : jT} {F : fT} (I : iT) (x2 : Int32) (x3 : Int32) (x4 : Int32) (x5 : Int32) (hF : FK F) (q : Int32 × iT) (hm : mX2_cutLetters_51 a1 I x2 x3 x4 x5 = some q) : E l K g 2 0 0 yX2_cutLetters cX2_cutLetters 6 (some .int) 51 [.ref 6, .ref a1, .int x2, .int x3, .int x4, .int x5] [] (hg I IB J F) (fun r2 h2 => r2 = some (.int q.1) ∧ h2 = hg q.2 IB J F) := by
  unfold mX2_cutLetters_51 at hm
  refine e_aload_n (i := 0) rfl dX2_cutLetters_51 ?_
  refine q_getF 2 0 7 dX2_cutLetters_52 fl_RX2_14 rfl iz_6 (fr_6_0 hF.1) ?_
  refine e_iload_n (i := 3) rfl dX2_cutLetters_55 ?_
  obtain ⟨q2, eq2, hm⟩ := ob_some hm
  refine e_cV1 hko dX2_cutLetters_56 ml_RX2_101 iz_7 (by decide) rfl (by omega) (Nat.le_of_ble_eq_true rfl) (tX4_find hko rw_7 I J F hF x3 _ eq2) ?_
  rintro _ _ ⟨rfl, rfl⟩
  refine q_istore (i := 5) (by decide) rfl dX2_cutLetters_59 ?_
  refine e_iload (i := 4) rfl dX2_cutLetters_61 ?_
  refine e_bipush (v := 6) (by decide) dX2_cutLetters_63 ?_
  refine e_icmp_le 80 dX2_cutLetters_65 (by decide) (fun c_65 => ?_) (fun c_65 => ?_)
  · have hm := it_p c_65 hm
    refine e_aload_n (i := 0) rfl dX2_cutLetters_80 ?_
    refine e_iload (i := 5) rfl dX2_cutLetters_81 ?_
    refine e_iconst (v := (-1)) (by decide) dX2_cutLetters_83 ?_
    refine e_icmp_ne 93 dX2_cutLetters_84 (by decide) (fun c_84 => ?_) (fun c_84 => ?_)
    · have hm := it_n c_84 hm
      refine e_sipush (v := 300) (by decide) dX2_cutLetters_93 ?_
      refine e_iload (i := 5) rfl dX2_cutLetters_96 ?_
      refine e_iadd dX2_cutLetters_98 ?_
      refine e_weak [.ref 6, .ref a1, .int x2, .int x3, .int x4, .int q2] ⟨rfl, ⟨rfl, ⟨rfl, ⟨rfl, ⟨rfl, ⟨rfl, trivial⟩⟩⟩⟩⟩⟩ ?_
      exact tX2_cutLetters_99 hko ha1 I x2 x3 x4 q2 (300 + q2) hF _ hm
    · have hm := it_p c_84 hm
      refine e_sipush (v := 256) (by decide) dX2_cutLetters_87 ?_
      refine e_goto 99 dX2_cutLetters_90 (by decide) ?_
      refine e_weak [.ref 6, .ref a1, .int x2, .int x3, .int x4, .int q2] ⟨rfl, ⟨rfl, ⟨rfl, ⟨rfl, ⟨rfl, ⟨rfl, trivial⟩⟩⟩⟩⟩⟩ ?_
      exact tX2_cutLetters_99 hko ha1 I x2 x3 x4 q2 256 hF _ hm
  · have hm := it_n c_65 hm
    refine e_aload_n (i := 0) rfl dX2_cutLetters_68 ?_
    refine e_sipush (v := 259) (by decide) dX2_cutLetters_69 ?_
    refine e_iconst (v := 0) (by decide) dX2_cutLetters_72 ?_
    refine e_iload_n (i := 2) rfl dX2_cutLetters_73 ?_
    obtain ⟨q3, eq3, hm⟩ := ob_some hm
    refine e_cV3 hko dX2_cutLetters_74 ml_RX2_67 iz_6 (by decide) rfl (by omega) (Nat.le_of_ble_eq_true rfl) (tX2_note hko I J F hF 259 0 x2 _ eq3) ?_
    rintro _ _ ⟨rfl, rfl⟩
    refine e_goto 104 dX2_cutLetters_77 (by decide) ?_
    refine e_iload (i := 4) rfl dX2_cutLetters_104 ?_
    refine e_iret dX2_cutLetters_106 rfl ?_
    have hm := some_in hm
    subst hm
    exact ⟨rfl, rfl⟩
set_option maxRecDepth 100000 in
set_option maxHeartbeats 4000000 in
theorem tX2_cutLetters_8 {l : Launch} {K : a_KT} {g : a_GT} {IB : iT} (hko : a_kok K) {a1 : Nat} (ha1 : isRow a1) {J : jT} {F : fT} : ∀ (n : Nat) (I : iT) (x2 : Int32) (x3 : Int32) (x4 : Int32) (x5 : Int32) (hF : FK F) (q : Int32 × iT), mX2_cutLetters_8 a1 n I x2 x3 x4 x5 = some q → E l K g 2 0 0 yX2_cutLetters cX2_cutLetters 6 (some .int) 8 [.ref 6, .ref a1, .int x2, .int x3, .int x4, .int x5] [] (hg I IB J F) (fun r2 h2 => r2 = some (.int q.1) ∧ h2 = hg q.2 IB J F) := by
  intro n
  induction n with
  | zero => intro I x2 x3 x4 x5 hF q hm; cases hm
  | succ n ih =>
    intro I x2 x3 x4 x5 hF q hm
    rw [mX2_cutLetters_8] at hm
    refine e_iload (i := 5) rfl dX2_cutLetters_8 ?_
    refine e_aload_n (i := 1) rfl dX2_cutLetters_10 ?_
    obtain ⟨q4, eq4, hm⟩ := ob_some hm
    refine e_cV0 hko dX2_cutLetters_11 ml_RX2_60 (iz_row ha1) (by decide) rfl (by omega) (Nat.le_of_ble_eq_true rfl) (tX4_size hko ha1 I J F hF _ eq4) ?_
    rintro _ _ ⟨rfl, rfl⟩
    refine e_icmp_ge 51 dX2_cutLetters_14 (by decide) (fun c_14 => ?_) (fun c_14 => ?_)
    · have hm := it_p c_14 hm
      refine e_weak [.ref 6, .ref a1, .int x2, .int x3, .int x4, .int x5] ⟨rfl, ⟨rfl, ⟨rfl, ⟨rfl, ⟨rfl, ⟨rfl, trivial⟩⟩⟩⟩⟩⟩ ?_
      exact tX2_cutLetters_51 hko ha1 I x2 x3 x4 x5 hF _ hm
    · have hm := it_n c_14 hm
      refine e_aload_n (i := 1) rfl dX2_cutLetters_17 ?_
      refine e_iload (i := 5) rfl dX2_cutLetters_18 ?_
      obtain ⟨q5, eq5, hm⟩ := ob_some hm
      refine e_cV1 hko dX2_cutLetters_20 ml_RX2_80 (iz_row ha1) (by decide) rfl (by omega) (Nat.le_of_ble_eq_true rfl) (tX4_at hko ha1 I J F hF x5 _ eq5) ?_
      rintro _ _ ⟨rfl, rfl⟩
      obtain ⟨q6, eq6, hm⟩ := ob_some hm
      refine e_cS1 hko dX2_cutLetters_23 ml_RX2_83 (by omega) (Nat.le_of_ble_eq_true rfl) (tX11_isSmallLetter hko I J F hF q5 _ eq6) ?_
      rintro _ _ ⟨rfl, rfl⟩
      refine e_if_eq 51 dX2_cutLetters_26 (by decide) (fun c_26 => ?_) (fun c_26 => ?_)
      · have hm := it_p c_26 hm
        refine e_weak [.ref 6, .ref a1, .int x2, .int x3, .int x4, .int x5] ⟨rfl, ⟨rfl, ⟨rfl, ⟨rfl, ⟨rfl, ⟨rfl, trivial⟩⟩⟩⟩⟩⟩ ?_
        exact tX2_cutLetters_51 hko ha1 I x2 x3 x4 x5 hF _ hm
      · have hm := it_n c_26 hm
        refine e_iload_n (i := 3) rfl dX2_cutLetters_29 ?_
        refine e_iload (i := 4) rfl dX2_cutLetters_30 ?_
        refine e_aload_n (i := 1) rfl dX2_cutLetters_32 ?_
        refine e_iload (i := 5) rfl dX2_cutLetters_33 ?_
        obtain ⟨q7, eq7, hm⟩ := ob_some hm
        refine e_cV1 hko dX2_cutLetters_35 ml_RX2_80 (iz_row ha1) (by decide) rfl (by omega) (Nat.le_of_ble_eq_true rfl) (tX4_at hko ha1 I J F hF x5 _ eq7) ?_
        rintro _ _ ⟨rfl, rfl⟩
        obtain ⟨q8, eq8, hm⟩ := ob_some hm
        refine e_cS3 hko dX2_cutLetters_38 ml_RX2_53 (by omega) (Nat.le_of_ble_eq_true rfl) (tX11_withLetter hko I J F hF x3 x4 q7 _ eq8) ?_
        rintro _ _ ⟨rfl, rfl⟩
        refine q_istore_n (i := 3) (by decide) rfl dX2_cutLetters_41 ?_
        refine q_iinc (i := 4) (x4 + 1) rfl ic_1 rfl dX2_cutLetters_42 ?_
        refine q_iinc (i := 5) (x5 + 1) rfl ic_1 rfl dX2_cutLetters_45 ?_
        refine e_goto 8 dX2_cutLetters_48 (by decide) ?_
        refine e_weak [.ref 6, .ref a1, .int x2, .int q8, .int (x4 + 1), .int (x5 + 1)] ⟨rfl, ⟨rfl, ⟨rfl, ⟨rfl, ⟨rfl, ⟨rfl, trivial⟩⟩⟩⟩⟩⟩ ?_
        exact ih I x2 q8 (x4 + 1) (x5 + 1) hF _ hm
set_option maxRecDepth 100000 in
set_option maxHeartbeats 4000000 in
theorem tX2_cutLetters {l : Launch} {K : a_KT} {g : a_GT} {IB : iT} (hko : a_kok K) {a1 : Nat} (ha1 : isRow a1) (I : iT) (J : jT) (F : fT) (hF : FK F) (x2 : Int32) (q : Int32 × iT) (hm : mX2_cutLetters a1 I x2 = some q) : C l K g 2 0 0 yX2_cutLetters cX2_cutLetters 6 (some .int) [.ref 6, .ref a1, .int x2] (hg I IB J F) (fun r2 h2 => r2 = some (.int q.1) ∧ h2 = hg q.2 IB J F) := by
  unfold mX2_cutLetters at hm
  refine c_of [.ref 6, .ref a1, .int x2, .null, .null, .null] (by decide) (Nat.le_of_ble_eq_true rfl) rfl ?_
  refine e_iconst (v := 0) (by decide) dX2_cutLetters_0 ?_
  refine q_istore_n (i := 3) (by decide) rfl dX2_cutLetters_1 ?_
  refine e_iconst (v := 0) (by decide) dX2_cutLetters_2 ?_
  refine q_istore (i := 4) (by decide) rfl dX2_cutLetters_3 ?_
  refine e_iload_n (i := 2) rfl dX2_cutLetters_5 ?_
  refine q_istore (i := 5) (by decide) rfl dX2_cutLetters_6 ?_
  refine e_weak [.ref 6, .ref a1, .int x2, .int 0, .int 0, .int x2] ⟨rfl, ⟨rfl, ⟨rfl, ⟨rfl, ⟨rfl, ⟨rfl, trivial⟩⟩⟩⟩⟩⟩ ?_
  exact tX2_cutLetters_8 hko ha1 LF I x2 0 0 x2 hF _ hm
theorem dX2_cutToken_0 : decode cX2_cutToken 0 = .ok (.aload_n 1, 1) := by decide +kernel
theorem dX2_cutToken_1 : decode cX2_cutToken 1 = .ok (.iload_n 2, 1) := by decide +kernel
theorem dX2_cutToken_2 : decode cX2_cutToken 2 = .ok (.invokevirtual 80, 3) := by decide +kernel
theorem dX2_cutToken_5 : decode cX2_cutToken 5 = .ok (.istore_n 3, 1) := by decide +kernel
theorem dX2_cutToken_6 : decode cX2_cutToken 6 = .ok (.iload_n 3, 1) := by decide +kernel
theorem dX2_cutToken_7 : decode cX2_cutToken 7 = .ok (.invokestatic 83, 3) := by decide +kernel
theorem dX2_cutToken_10 : decode cX2_cutToken 10 = .ok (.ifCond .eq 10, 3) := by decide +kernel
theorem dX2_cutToken_13 : decode cX2_cutToken 13 = .ok (.aload_n 0, 1) := by decide +kernel
theorem dX2_cutToken_14 : decode cX2_cutToken 14 = .ok (.aload_n 1, 1) := by decide +kernel
theorem dX2_cutToken_15 : decode cX2_cutToken 15 = .ok (.iload_n 2, 1) := by decide +kernel
theorem dX2_cutToken_16 : decode cX2_cutToken 16 = .ok (.invokevirtual 87, 3) := by decide +kernel
theorem dX2_cutToken_19 : decode cX2_cutToken 19 = .ok (.ireturn, 1) := by decide +kernel
theorem dX2_cutToken_20 : decode cX2_cutToken 20 = .ok (.iload_n 3, 1) := by decide +kernel
theorem dX2_cutToken_21 : decode cX2_cutToken 21 = .ok (.invokestatic 90, 3) := by decide +kernel
theorem dX2_cutToken_24 : decode cX2_cutToken 24 = .ok (.ifCond .eq 10, 3) := by decide +kernel
theorem dX2_cutToken_27 : decode cX2_cutToken 27 = .ok (.aload_n 0, 1) := by decide +kernel
theorem dX2_cutToken_28 : decode cX2_cutToken 28 = .ok (.aload_n 1, 1) := by decide +kernel
theorem dX2_cutToken_29 : decode cX2_cutToken 29 = .ok (.iload_n 2, 1) := by decide +kernel
theorem dX2_cutToken_30 : decode cX2_cutToken 30 = .ok (.invokevirtual 93, 3) := by decide +kernel
theorem dX2_cutToken_33 : decode cX2_cutToken 33 = .ok (.ireturn, 1) := by decide +kernel
theorem dX2_cutToken_34 : decode cX2_cutToken 34 = .ok (.iload_n 3, 1) := by decide +kernel
theorem dX2_cutToken_35 : decode cX2_cutToken 35 = .ok (.bipush 32, 2) := by decide +kernel
theorem dX2_cutToken_37 : decode cX2_cutToken 37 = .ok (.if_icmp .eq 9, 3) := by decide +kernel
theorem dX2_cutToken_40 : decode cX2_cutToken 40 = .ok (.iload_n 3, 1) := by decide +kernel
theorem dX2_cutToken_41 : decode cX2_cutToken 41 = .ok (.bipush 10, 2) := by decide +kernel
theorem dX2_cutToken_43 : decode cX2_cutToken 43 = .ok (.if_icmp .ne 5, 3) := by decide +kernel
theorem dX2_cutToken_46 : decode cX2_cutToken 46 = .ok (.iconst 1, 1) := by decide +kernel
theorem dX2_cutToken_47 : decode cX2_cutToken 47 = .ok (.ireturn, 1) := by decide +kernel
theorem dX2_cutToken_48 : decode cX2_cutToken 48 = .ok (.iload_n 3, 1) := by decide +kernel
theorem dX2_cutToken_49 : decode cX2_cutToken 49 = .ok (.bipush 61, 2) := by decide +kernel
theorem dX2_cutToken_51 : decode cX2_cutToken 51 = .ok (.if_icmp .ne 26, 3) := by decide +kernel
theorem dX2_cutToken_54 : decode cX2_cutToken 54 = .ok (.aload_n 1, 1) := by decide +kernel
theorem dX2_cutToken_55 : decode cX2_cutToken 55 = .ok (.iload_n 2, 1) := by decide +kernel
theorem dX2_cutToken_56 : decode cX2_cutToken 56 = .ok (.iconst 1, 1) := by decide +kernel
theorem dX2_cutToken_57 : decode cX2_cutToken 57 = .ok (.iadd, 1) := by decide +kernel
theorem dX2_cutToken_58 : decode cX2_cutToken 58 = .ok (.invokevirtual 80, 3) := by decide +kernel
theorem dX2_cutToken_61 : decode cX2_cutToken 61 = .ok (.bipush 61, 2) := by decide +kernel
theorem dX2_cutToken_63 : decode cX2_cutToken 63 = .ok (.if_icmp .ne 14, 3) := by decide +kernel
theorem dX2_cutToken_66 : decode cX2_cutToken 66 = .ok (.aload_n 0, 1) := by decide +kernel
theorem dX2_cutToken_67 : decode cX2_cutToken 67 = .ok (.sipush 258, 3) := by decide +kernel
theorem dX2_cutToken_70 : decode cX2_cutToken 70 = .ok (.iconst 0, 1) := by decide +kernel
theorem dX2_cutToken_71 : decode cX2_cutToken 71 = .ok (.iload_n 2, 1) := by decide +kernel
theorem dX2_cutToken_72 : decode cX2_cutToken 72 = .ok (.invokevirtual 67, 3) := by decide +kernel
theorem dX2_cutToken_75 : decode cX2_cutToken 75 = .ok (.iconst 2, 1) := by decide +kernel
theorem dX2_cutToken_76 : decode cX2_cutToken 76 = .ok (.ireturn, 1) := by decide +kernel
theorem dX2_cutToken_77 : decode cX2_cutToken 77 = .ok (.aload_n 0, 1) := by decide +kernel
theorem dX2_cutToken_78 : decode cX2_cutToken 78 = .ok (.ldc 96, 2) := by decide +kernel
theorem dX2_cutToken_80 : decode cX2_cutToken 80 = .ok (.iload_n 3, 1) := by decide +kernel
theorem dX2_cutToken_81 : decode cX2_cutToken 81 = .ok (.i2c, 1) := by decide +kernel
theorem dX2_cutToken_82 : decode cX2_cutToken 82 = .ok (.invokevirtual 98, 3) := by decide +kernel
theorem dX2_cutToken_85 : decode cX2_cutToken 85 = .ok (.ifCond .lt 7, 3) := by decide +kernel
theorem dX2_cutToken_88 : decode cX2_cutToken 88 = .ok (.iload_n 3, 1) := by decide +kernel
theorem dX2_cutToken_89 : decode cX2_cutToken 89 = .ok (.goto 6, 3) := by decide +kernel
theorem dX2_cutToken_92 : decode cX2_cutToken 92 = .ok (.sipush 259, 3) := by decide +kernel
theorem dX2_cutToken_95 : decode cX2_cutToken 95 = .ok (.iconst 0, 1) := by decide +kernel
theorem dX2_cutToken_96 : decode cX2_cutToken 96 = .ok (.iload_n 2, 1) := by decide +kernel
theorem dX2_cutToken_97 : decode cX2_cutToken 97 = .ok (.invokevirtual 67, 3) := by decide +kernel
theorem dX2_cutToken_100 : decode cX2_cutToken 100 = .ok (.iconst 1, 1) := by decide +kernel
theorem dX2_cutToken_101 : decode cX2_cutToken 101 = .ok (.ireturn, 1) := by decide +kernel
def mX2_cutToken_95 (a1 : Nat) (I : iT) (x2 : Int32) (x3 : Int32) (s0 : Int32) : Option (Int32 × iT) := (mX2_note I s0 0 x2).bind fun q1 => some (1, q1)
def mX2_cutToken_77 (a1 : Nat) (I : iT) (x2 : Int32) (x3 : Int32) : Option (Int32 × iT) := if (strIx 1000001 ((x3.toUInt32 % 65536).toInt32)) < 0 then mX2_cutToken_95 a1 I x2 x3 259 else mX2_cutToken_95 a1 I x2 x3 x3
def mX2_cutToken (a1 : Nat) (I : iT) (x2 : Int32) : Option (Int32 × iT) := (mX4_at a1 I x2).bind fun q2 => (mX11_isSmallLetter q2).bind fun q3 => if q3 = 0 then (mX11_isDigit q2).bind fun q4 => if q4 = 0 then if q2 = 32 then some (1, I) else if q2 = 10 then some (1, I) else if q2 = 61 then (mX4_at a1 I (x2 + 1)).bind fun q5 => if q5 = 61 then (mX2_note I 258 0 x2).bind fun q6 => some (2, q6) else mX2_cutToken_77 a1 I x2 q2 else mX2_cutToken_77 a1 I x2 q2 else (mX2_cutDigits a1 I x2).bind fun q7 => some (q7.1, q7.2) else (mX2_cutLetters a1 I x2).bind fun q8 => some (q8.1, q8.2)
set_option maxRecDepth 100000 in
set_option maxHeartbeats 4000000 in
theorem tX2_cutToken_95 {l : Launch} {K : a_KT} {g : a_GT} {IB : iT} (hko : a_kok K) (hS : StrOK l K g) {a1 : Nat} (ha1 : isRow a1) {J : jT} {F : fT} (I : iT) (x2 : Int32) (x3 : Int32) (s0 : Int32) (hF : FK F) (q : Int32 × iT) (hm : mX2_cutToken_95 a1 I x2 x3 s0 = some q) : E l K g 13 0 0 yX2_cutToken cX2_cutToken 4 (some .int) 95 [.ref 6, .ref a1, .int x2, .int x3] [.int s0, .ref 6] (hg I IB J F) (fun r2 h2 => r2 = some (.int q.1) ∧ h2 = hg q.2 IB J F) := by
  unfold mX2_cutToken_95 at hm
  refine e_iconst (v := 0) (by decide) dX2_cutToken_95 ?_
  refine e_iload_n (i := 2) rfl dX2_cutToken_96 ?_
  obtain ⟨q1, eq1, hm⟩ := ob_some hm
  refine e_cV3 hko dX2_cutToken_97 ml_RX2_67 iz_6 (by decide) rfl (by omega) (Nat.le_of_ble_eq_true rfl) (tX2_note hko I J F hF s0 0 x2 _ eq1) ?_
  rintro _ _ ⟨rfl, rfl⟩
  refine e_iconst (v := 1) (by decide) dX2_cutToken_100 ?_
  refine e_iret dX2_cutToken_101 rfl ?_
  have hm := some_in hm
  subst hm
  exact ⟨rfl, rfl⟩
set_option maxRecDepth 100000 in
set_option maxHeartbeats 4000000 in
theorem tX2_cutToken_77 {l : Launch} {K : a_KT} {g : a_GT} {IB : iT} (hko : a_kok K) (hS : StrOK l K g) {a1 : Nat} (ha1 : isRow a1) {J : jT} {F : fT} (I : iT) (x2 : Int32) (x3 : Int32) (hF : FK F) (q : Int32 × iT) (hm : mX2_cutToken_77 a1 I x2 x3 = some q) : E l K g 13 0 0 yX2_cutToken cX2_cutToken 4 (some .int) 77 [.ref 6, .ref a1, .int x2, .int x3] [] (hg I IB J F) (fun r2 h2 => r2 = some (.int q.1) ∧ h2 = hg q.2 IB J F) := by
  unfold mX2_cutToken_77 at hm
  refine e_aload_n (i := 0) rfl dX2_cutToken_77 ?_
  refine hS.2.2.2 1 dX2_cutToken_78 (by decide) (by decide +kernel) ?_
  refine e_iload_n (i := 3) rfl dX2_cutToken_80 ?_
  refine e_i2c dX2_cutToken_81 ?_
  refine hS.2.2.1 1000001 dX2_cutToken_82 ml_RX2_98 (by decide) ⟨by decide, by decide⟩ (Nat.le_of_ble_eq_true rfl) ?_
  refine e_if_lt 92 dX2_cutToken_85 (by decide) (fun c_85 => ?_) (fun c_85 => ?_)
  · have hm := it_p c_85 hm
    refine e_sipush (v := 259) (by decide) dX2_cutToken_92 ?_
    refine e_weak [.ref 6, .ref a1, .int x2, .int x3] ⟨rfl, ⟨rfl, ⟨rfl, ⟨rfl, trivial⟩⟩⟩⟩ ?_
    exact tX2_cutToken_95 hko hS ha1 I x2 x3 259 hF _ hm
  · have hm := it_n c_85 hm
    refine e_iload_n (i := 3) rfl dX2_cutToken_88 ?_
    refine e_goto 95 dX2_cutToken_89 (by decide) ?_
    refine e_weak [.ref 6, .ref a1, .int x2, .int x3] ⟨rfl, ⟨rfl, ⟨rfl, ⟨rfl, trivial⟩⟩⟩⟩ ?_
    exact tX2_cutToken_95 hko hS ha1 I x2 x3 x3 hF _ hm
set_option maxRecDepth 100000 in
set_option maxHeartbeats 4000000 in
theorem tX2_cutToken {l : Launch} {K : a_KT} {g : a_GT} {IB : iT} (hko : a_kok K) (hS : StrOK l K g) {a1 : Nat} (ha1 : isRow a1) (I : iT) (J : jT) (F : fT) (hF : FK F) (x2 : Int32) (q : Int32 × iT) (hm : mX2_cutToken a1 I x2 = some q) : C l K g 13 0 0 yX2_cutToken cX2_cutToken 4 (some .int) [.ref 6, .ref a1, .int x2] (hg I IB J F) (fun r2 h2 => r2 = some (.int q.1) ∧ h2 = hg q.2 IB J F) := by
  unfold mX2_cutToken at hm
  refine c_of [.ref 6, .ref a1, .int x2, .null] (by decide) (Nat.le_of_ble_eq_true rfl) rfl ?_
  refine e_aload_n (i := 1) rfl dX2_cutToken_0 ?_
  refine e_iload_n (i := 2) rfl dX2_cutToken_1 ?_
  obtain ⟨q2, eq2, hm⟩ := ob_some hm
  refine e_cV1 hko dX2_cutToken_2 ml_RX2_80 (iz_row ha1) (by decide) rfl (by omega) (Nat.le_of_ble_eq_true rfl) (tX4_at hko ha1 I J F hF x2 _ eq2) ?_
  rintro _ _ ⟨rfl, rfl⟩
  refine q_istore_n (i := 3) (by decide) rfl dX2_cutToken_5 ?_
  refine e_iload_n (i := 3) rfl dX2_cutToken_6 ?_
  obtain ⟨q3, eq3, hm⟩ := ob_some hm
  refine e_cS1 hko dX2_cutToken_7 ml_RX2_83 (by omega) (Nat.le_of_ble_eq_true rfl) (tX11_isSmallLetter hko I J F hF q2 _ eq3) ?_
  rintro _ _ ⟨rfl, rfl⟩
  refine e_if_eq 20 dX2_cutToken_10 (by decide) (fun c_10 => ?_) (fun c_10 => ?_)
  · have hm := it_p c_10 hm
    refine e_iload_n (i := 3) rfl dX2_cutToken_20 ?_
    obtain ⟨q4, eq4, hm⟩ := ob_some hm
    refine e_cS1 hko dX2_cutToken_21 ml_RX2_90 (by omega) (Nat.le_of_ble_eq_true rfl) (tX11_isDigit hko I J F hF q2 _ eq4) ?_
    rintro _ _ ⟨rfl, rfl⟩
    refine e_if_eq 34 dX2_cutToken_24 (by decide) (fun c_24 => ?_) (fun c_24 => ?_)
    · have hm := it_p c_24 hm
      refine e_iload_n (i := 3) rfl dX2_cutToken_34 ?_
      refine e_bipush (v := 32) (by decide) dX2_cutToken_35 ?_
      refine e_icmp_eq 46 dX2_cutToken_37 (by decide) (fun c_37 => ?_) (fun c_37 => ?_)
      · have hm := it_p c_37 hm
        refine e_iconst (v := 1) (by decide) dX2_cutToken_46 ?_
        refine e_iret dX2_cutToken_47 rfl ?_
        have hm := some_in hm
        subst hm
        exact ⟨rfl, rfl⟩
      · have hm := it_n c_37 hm
        refine e_iload_n (i := 3) rfl dX2_cutToken_40 ?_
        refine e_bipush (v := 10) (by decide) dX2_cutToken_41 ?_
        refine e_icmp_ne 48 dX2_cutToken_43 (by decide) (fun c_43 => ?_) (fun c_43 => ?_)
        · have hm := it_n c_43 hm
          refine e_iload_n (i := 3) rfl dX2_cutToken_48 ?_
          refine e_bipush (v := 61) (by decide) dX2_cutToken_49 ?_
          refine e_icmp_ne 77 dX2_cutToken_51 (by decide) (fun c_51 => ?_) (fun c_51 => ?_)
          · have hm := it_n c_51 hm
            refine e_weak [.ref 6, .ref a1, .int x2, .int q2] ⟨rfl, ⟨rfl, ⟨rfl, ⟨rfl, trivial⟩⟩⟩⟩ ?_
            exact tX2_cutToken_77 hko hS ha1 I x2 q2 hF _ hm
          · have hm := it_p c_51 hm
            refine e_aload_n (i := 1) rfl dX2_cutToken_54 ?_
            refine e_iload_n (i := 2) rfl dX2_cutToken_55 ?_
            refine e_iconst (v := 1) (by decide) dX2_cutToken_56 ?_
            refine e_iadd dX2_cutToken_57 ?_
            obtain ⟨q5, eq5, hm⟩ := ob_some hm
            refine e_cV1 hko dX2_cutToken_58 ml_RX2_80 (iz_row ha1) (by decide) rfl (by omega) (Nat.le_of_ble_eq_true rfl) (tX4_at hko ha1 I J F hF (x2 + 1) _ eq5) ?_
            rintro _ _ ⟨rfl, rfl⟩
            refine e_bipush (v := 61) (by decide) dX2_cutToken_61 ?_
            refine e_icmp_ne 77 dX2_cutToken_63 (by decide) (fun c_63 => ?_) (fun c_63 => ?_)
            · have hm := it_n c_63 hm
              refine e_weak [.ref 6, .ref a1, .int x2, .int q2] ⟨rfl, ⟨rfl, ⟨rfl, ⟨rfl, trivial⟩⟩⟩⟩ ?_
              exact tX2_cutToken_77 hko hS ha1 I x2 q2 hF _ hm
            · have hm := it_p c_63 hm
              refine e_aload_n (i := 0) rfl dX2_cutToken_66 ?_
              refine e_sipush (v := 258) (by decide) dX2_cutToken_67 ?_
              refine e_iconst (v := 0) (by decide) dX2_cutToken_70 ?_
              refine e_iload_n (i := 2) rfl dX2_cutToken_71 ?_
              obtain ⟨q6, eq6, hm⟩ := ob_some hm
              refine e_cV3 hko dX2_cutToken_72 ml_RX2_67 iz_6 (by decide) rfl (by omega) (Nat.le_of_ble_eq_true rfl) (tX2_note hko I J F hF 258 0 x2 _ eq6) ?_
              rintro _ _ ⟨rfl, rfl⟩
              refine e_iconst (v := 2) (by decide) dX2_cutToken_75 ?_
              refine e_iret dX2_cutToken_76 rfl ?_
              have hm := some_in hm
              subst hm
              exact ⟨rfl, rfl⟩
        · have hm := it_p c_43 hm
          refine e_iconst (v := 1) (by decide) dX2_cutToken_46 ?_
          refine e_iret dX2_cutToken_47 rfl ?_
          have hm := some_in hm
          subst hm
          exact ⟨rfl, rfl⟩
    · have hm := it_n c_24 hm
      refine e_aload_n (i := 0) rfl dX2_cutToken_27 ?_
      refine e_aload_n (i := 1) rfl dX2_cutToken_28 ?_
      refine e_iload_n (i := 2) rfl dX2_cutToken_29 ?_
      obtain ⟨q7, eq7, hm⟩ := ob_some hm
      refine e_cV2 hko dX2_cutToken_30 ml_RX2_93 iz_6 (by decide) rfl (by omega) (Nat.le_of_ble_eq_true rfl) (tX2_cutDigits hko ha1 I J F hF x2 _ eq7) ?_
      rintro _ _ ⟨rfl, rfl⟩
      refine e_iret dX2_cutToken_33 rfl ?_
      have hm := some_in hm
      subst hm
      exact ⟨rfl, rfl⟩
  · have hm := it_n c_10 hm
    refine e_aload_n (i := 0) rfl dX2_cutToken_13 ?_
    refine e_aload_n (i := 1) rfl dX2_cutToken_14 ?_
    refine e_iload_n (i := 2) rfl dX2_cutToken_15 ?_
    obtain ⟨q8, eq8, hm⟩ := ob_some hm
    refine e_cV2 hko dX2_cutToken_16 ml_RX2_87 iz_6 (by decide) rfl (by omega) (Nat.le_of_ble_eq_true rfl) (tX2_cutLetters hko ha1 I J F hF x2 _ eq8) ?_
    rintro _ _ ⟨rfl, rfl⟩
    refine e_iret dX2_cutToken_19 rfl ?_
    have hm := some_in hm
    subst hm
    exact ⟨rfl, rfl⟩
theorem dX2_start_0 : decode cX2_start 0 = .ok (.aload_n 0, 1) := by decide +kernel
theorem dX2_start_1 : decode cX2_start 1 = .ok (.iconst 0, 1) := by decide +kernel
theorem dX2_start_2 : decode cX2_start 2 = .ok (.putfield 57, 3) := by decide +kernel
theorem dX2_start_5 : decode cX2_start 5 = .ok (.iconst 0, 1) := by decide +kernel
theorem dX2_start_6 : decode cX2_start 6 = .ok (.istore_n 2, 1) := by decide +kernel
theorem dX2_start_7 : decode cX2_start 7 = .ok (.iconst 0, 1) := by decide +kernel
theorem dX2_start_8 : decode cX2_start 8 = .ok (.istore_n 3, 1) := by decide +kernel
theorem dX2_start_9 : decode cX2_start 9 = .ok (.iload_n 3, 1) := by decide +kernel
theorem dX2_start_10 : decode cX2_start 10 = .ok (.aload_n 1, 1) := by decide +kernel
theorem dX2_start_11 : decode cX2_start 11 = .ok (.invokevirtual 60, 3) := by decide +kernel
theorem dX2_start_14 : decode cX2_start 14 = .ok (.if_icmp .ge 23, 3) := by decide +kernel
theorem dX2_start_17 : decode cX2_start 17 = .ok (.iload_n 3, 1) := by decide +kernel
theorem dX2_start_18 : decode cX2_start 18 = .ok (.iload_n 2, 1) := by decide +kernel
theorem dX2_start_19 : decode cX2_start 19 = .ok (.if_icmp .lt 12, 3) := by decide +kernel
theorem dX2_start_22 : decode cX2_start 22 = .ok (.iload_n 3, 1) := by decide +kernel
theorem dX2_start_23 : decode cX2_start 23 = .ok (.aload_n 0, 1) := by decide +kernel
theorem dX2_start_24 : decode cX2_start 24 = .ok (.aload_n 1, 1) := by decide +kernel
theorem dX2_start_25 : decode cX2_start 25 = .ok (.iload_n 3, 1) := by decide +kernel
theorem dX2_start_26 : decode cX2_start 26 = .ok (.invokevirtual 63, 3) := by decide +kernel
theorem dX2_start_29 : decode cX2_start 29 = .ok (.iadd, 1) := by decide +kernel
theorem dX2_start_30 : decode cX2_start 30 = .ok (.istore_n 2, 1) := by decide +kernel
theorem dX2_start_31 : decode cX2_start 31 = .ok (.iinc 3 1, 3) := by decide +kernel
theorem dX2_start_34 : decode cX2_start 34 = .ok (.goto (-25), 3) := by decide +kernel
theorem dX2_start_37 : decode cX2_start 37 = .ok (.aload_n 0, 1) := by decide +kernel
theorem dX2_start_38 : decode cX2_start 38 = .ok (.sipush 260, 3) := by decide +kernel
theorem dX2_start_41 : decode cX2_start 41 = .ok (.iconst 0, 1) := by decide +kernel
theorem dX2_start_42 : decode cX2_start 42 = .ok (.aload_n 1, 1) := by decide +kernel
theorem dX2_start_43 : decode cX2_start 43 = .ok (.invokevirtual 60, 3) := by decide +kernel
theorem dX2_start_46 : decode cX2_start 46 = .ok (.invokevirtual 67, 3) := by decide +kernel
theorem dX2_start_49 : decode cX2_start 49 = .ok (.aload_n 0, 1) := by decide +kernel
theorem dX2_start_50 : decode cX2_start 50 = .ok (.iconst 0, 1) := by decide +kernel
theorem dX2_start_51 : decode cX2_start 51 = .ok (.putfield 71, 3) := by decide +kernel
theorem dX2_start_54 : decode cX2_start 54 = .ok (.aload_n 0, 1) := by decide +kernel
theorem dX2_start_55 : decode cX2_start 55 = .ok (.iconst (-1), 1) := by decide +kernel
theorem dX2_start_56 : decode cX2_start 56 = .ok (.putfield 34, 3) := by decide +kernel
theorem dX2_start_59 : decode cX2_start 59 = .ok (.aload_n 0, 1) := by decide +kernel
theorem dX2_start_60 : decode cX2_start 60 = .ok (.iconst 0, 1) := by decide +kernel
theorem dX2_start_61 : decode cX2_start 61 = .ok (.putfield 74, 3) := by decide +kernel
theorem dX2_start_64 : decode cX2_start 64 = .ok (.aload_n 0, 1) := by decide +kernel
theorem dX2_start_65 : decode cX2_start 65 = .ok (.invokevirtual 77, 3) := by decide +kernel
theorem dX2_start_68 : decode cX2_start 68 = .ok (.return_, 1) := by decide +kernel
def mX2_start_31 (a1 : Nat) (k9 : iT → Int32 → Int32 → Option (iT)) (I : iT) (x2 : Int32) (x3 : Int32) : Option (iT) := k9 I x2 (x3 + 1)
def mX2_start_9 (a1 : Nat) : Nat → iT → Int32 → Int32 → Option (iT)
  | 0, _, _, _ => none
  | n + 1, I, x2, x3 => (mX4_size a1 I).bind fun q1 => if q1 ≤ x3 then (mX4_size a1 I).bind fun q2 => (mX2_note I 260 0 q2).bind fun q3 => (mX2_advance (a_u2 (a_u2 (a_u2 q3 6 9 0) 6 10 ((-1))) 6 5 0)).bind fun q4 => some q4 else if x3 < x2 then mX2_start_31 a1 (mX2_start_9 a1 n) I x2 x3 else (mX2_cutToken a1 I x3).bind fun q5 => mX2_start_31 a1 (mX2_start_9 a1 n) q5.2 (x3 + q5.1) x3
def mX2_start (a1 : Nat) (I : iT) : Option (iT) := mX2_start_9 a1 LF (a_u2 I 6 4 0) 0 0
set_option maxRecDepth 100000 in
set_option maxHeartbeats 4000000 in
theorem tX2_start_31 {l : Launch} {K : a_KT} {g : a_GT} {IB : iT} (hko : a_kok K) (hS : StrOK l K g) {a1 : Nat} (ha1 : isRow a1) {J : jT} {F : fT} {k9 : iT → Int32 → Int32 → Option (iT)} (hk9 : ∀ (I : iT) (x2 : Int32) (x3 : Int32) (_ : FK F) (q : iT), k9 I x2 x3 = some q → E l K g 14 0 0 yX2_start cX2_start 4 none 9 [.ref 6, .ref a1, .int x2, .int x3] [] (hg I IB J F) (fun r2 h2 => r2 = none ∧ h2 = hg q IB J F)) (I : iT) (x2 : Int32) (x3 : Int32) (hF : FK F) (q : iT) (hm : mX2_start_31 a1 k9 I x2 x3 = some q) : E l K g 14 0 0 yX2_start cX2_start 4 none 31 [.ref 6, .ref a1, .int x2, .int x3] [] (hg I IB J F) (fun r2 h2 => r2 = none ∧ h2 = hg q IB J F) := by
  unfold mX2_start_31 at hm
  refine q_iinc (i := 3) (x3 + 1) rfl ic_1 rfl dX2_start_31 ?_
  refine e_goto 9 dX2_start_34 (by decide) ?_
  refine e_weak [.ref 6, .ref a1, .int x2, .int (x3 + 1)] ⟨rfl, ⟨rfl, ⟨rfl, ⟨rfl, trivial⟩⟩⟩⟩ ?_
  exact hk9 I x2 (x3 + 1) hF _ hm
set_option maxRecDepth 100000 in
set_option maxHeartbeats 4000000 in
theorem tX2_start_9 {l : Launch} {K : a_KT} {g : a_GT} {IB : iT} (hko : a_kok K) (hS : StrOK l K g) {a1 : Nat} (ha1 : isRow a1) {J : jT} {F : fT} : ∀ (n : Nat) (I : iT) (x2 : Int32) (x3 : Int32) (hF : FK F) (q : iT), mX2_start_9 a1 n I x2 x3 = some q → E l K g 14 0 0 yX2_start cX2_start 4 none 9 [.ref 6, .ref a1, .int x2, .int x3] [] (hg I IB J F) (fun r2 h2 => r2 = none ∧ h2 = hg q IB J F) := by
  intro n
  induction n with
  | zero => intro I x2 x3 hF q hm; cases hm
  | succ n ih =>
    intro I x2 x3 hF q hm
    rw [mX2_start_9] at hm
    refine e_iload_n (i := 3) rfl dX2_start_9 ?_
    refine e_aload_n (i := 1) rfl dX2_start_10 ?_
    obtain ⟨q1, eq1, hm⟩ := ob_some hm
    refine e_cV0 hko dX2_start_11 ml_RX2_60 (iz_row ha1) (by decide) rfl (by omega) (Nat.le_of_ble_eq_true rfl) (tX4_size hko ha1 I J F hF _ eq1) ?_
    rintro _ _ ⟨rfl, rfl⟩
    refine e_icmp_ge 37 dX2_start_14 (by decide) (fun c_14 => ?_) (fun c_14 => ?_)
    · have hm := it_p c_14 hm
      refine e_aload_n (i := 0) rfl dX2_start_37 ?_
      refine e_sipush (v := 260) (by decide) dX2_start_38 ?_
      refine e_iconst (v := 0) (by decide) dX2_start_41 ?_
      refine e_aload_n (i := 1) rfl dX2_start_42 ?_
      obtain ⟨q2, eq2, hm⟩ := ob_some hm
      refine e_cV0 hko dX2_start_43 ml_RX2_60 (iz_row ha1) (by decide) rfl (by omega) (Nat.le_of_ble_eq_true rfl) (tX4_size hko ha1 I J F hF _ eq2) ?_
      rintro _ _ ⟨rfl, rfl⟩
      obtain ⟨q3, eq3, hm⟩ := ob_some hm
      refine e_cV3 hko dX2_start_46 ml_RX2_67 iz_6 (by decide) rfl (by omega) (Nat.le_of_ble_eq_true rfl) (tX2_note hko I J F hF 260 0 q2 _ eq3) ?_
      rintro _ _ ⟨rfl, rfl⟩
      refine e_aload_n (i := 0) rfl dX2_start_49 ?_
      refine e_iconst (v := 0) (by decide) dX2_start_50 ?_
      refine k_putI 2 9 dX2_start_51 fl_RX2_71 rfl rfl iz_6 (by decide) ?_
      refine e_aload_n (i := 0) rfl dX2_start_54 ?_
      refine e_iconst (v := (-1)) (by decide) dX2_start_55 ?_
      refine k_putI 2 10 dX2_start_56 fl_RX2_34 rfl rfl iz_6 (by decide) ?_
      refine e_aload_n (i := 0) rfl dX2_start_59 ?_
      refine e_iconst (v := 0) (by decide) dX2_start_60 ?_
      refine k_putI 2 5 dX2_start_61 fl_RX2_74 rfl rfl iz_6 (by decide) ?_
      refine e_aload_n (i := 0) rfl dX2_start_64 ?_
      obtain ⟨q4, eq4, hm⟩ := ob_some hm
      refine e_cV0 hko dX2_start_65 ml_RX2_77 iz_6 (by decide) rfl (by omega) (Nat.le_of_ble_eq_true rfl) (tX2_advance hko (a_u2 (a_u2 (a_u2 q3 6 9 0) 6 10 ((-1))) 6 5 0) J F hF _ eq4) ?_
      rintro _ _ ⟨rfl, rfl⟩
      refine e_vret dX2_start_68 rfl ?_
      have hm := some_in hm
      subst hm
      exact ⟨rfl, rfl⟩
    · have hm := it_n c_14 hm
      refine e_iload_n (i := 3) rfl dX2_start_17 ?_
      refine e_iload_n (i := 2) rfl dX2_start_18 ?_
      refine e_icmp_lt 31 dX2_start_19 (by decide) (fun c_19 => ?_) (fun c_19 => ?_)
      · have hm := it_p c_19 hm
        refine e_weak [.ref 6, .ref a1, .int x2, .int x3] ⟨rfl, ⟨rfl, ⟨rfl, ⟨rfl, trivial⟩⟩⟩⟩ ?_
        exact tX2_start_31 hko hS ha1 (ih) I x2 x3 hF _ hm
      · have hm := it_n c_19 hm
        refine e_iload_n (i := 3) rfl dX2_start_22 ?_
        refine e_aload_n (i := 0) rfl dX2_start_23 ?_
        refine e_aload_n (i := 1) rfl dX2_start_24 ?_
        refine e_iload_n (i := 3) rfl dX2_start_25 ?_
        obtain ⟨q5, eq5, hm⟩ := ob_some hm
        refine e_cV2 hko dX2_start_26 ml_RX2_63 iz_6 (by decide) rfl (by omega) (Nat.le_of_ble_eq_true rfl) (tX2_cutToken hko hS ha1 I J F hF x3 _ eq5) ?_
        rintro _ _ ⟨rfl, rfl⟩
        refine e_iadd dX2_start_29 ?_
        refine q_istore_n (i := 2) (by decide) rfl dX2_start_30 ?_
        refine e_weak [.ref 6, .ref a1, .int (x3 + q5.1), .int x3] ⟨rfl, ⟨rfl, ⟨rfl, ⟨rfl, trivial⟩⟩⟩⟩ ?_
        exact tX2_start_31 hko hS ha1 (ih) q5.2 (x3 + q5.1) x3 hF _ hm
set_option maxRecDepth 100000 in
set_option maxHeartbeats 4000000 in
theorem tX2_start {l : Launch} {K : a_KT} {g : a_GT} {IB : iT} (hko : a_kok K) (hS : StrOK l K g) {a1 : Nat} (ha1 : isRow a1) (I : iT) (J : jT) (F : fT) (hF : FK F) (q : iT) (hm : mX2_start a1 I = some q) : C l K g 14 0 0 yX2_start cX2_start 4 none [.ref 6, .ref a1] (hg I IB J F) (fun r2 h2 => r2 = none ∧ h2 = hg q IB J F) := by
  unfold mX2_start at hm
  refine c_of [.ref 6, .ref a1, .null, .null] (by decide) (Nat.le_of_ble_eq_true rfl) rfl ?_
  refine e_aload_n (i := 0) rfl dX2_start_0 ?_
  refine e_iconst (v := 0) (by decide) dX2_start_1 ?_
  refine k_putI 2 4 dX2_start_2 fl_RX2_57 rfl rfl iz_6 (by decide) ?_
  refine e_iconst (v := 0) (by decide) dX2_start_5 ?_
  refine q_istore_n (i := 2) (by decide) rfl dX2_start_6 ?_
  refine e_iconst (v := 0) (by decide) dX2_start_7 ?_
  refine q_istore_n (i := 3) (by decide) rfl dX2_start_8 ?_
  refine e_weak [.ref 6, .ref a1, .int 0, .int 0] ⟨rfl, ⟨rfl, ⟨rfl, ⟨rfl, trivial⟩⟩⟩⟩ ?_
  exact tX2_start_9 hko hS ha1 LF (a_u2 I 6 4 0) 0 0 hF _ hm
theorem dX2_refuse_0 : decode cX2_refuse 0 = .ok (.aload_n 0, 1) := by decide +kernel
theorem dX2_refuse_1 : decode cX2_refuse 1 = .ok (.getfield 71, 3) := by decide +kernel
theorem dX2_refuse_4 : decode cX2_refuse 4 = .ok (.ifCond .ne 20, 3) := by decide +kernel
theorem dX2_refuse_7 : decode cX2_refuse 7 = .ok (.aload_n 0, 1) := by decide +kernel
theorem dX2_refuse_8 : decode cX2_refuse 8 = .ok (.iload_n 1, 1) := by decide +kernel
theorem dX2_refuse_9 : decode cX2_refuse 9 = .ok (.putfield 71, 3) := by decide +kernel
theorem dX2_refuse_12 : decode cX2_refuse 12 = .ok (.aload_n 0, 1) := by decide +kernel
theorem dX2_refuse_13 : decode cX2_refuse 13 = .ok (.iload_n 2, 1) := by decide +kernel
theorem dX2_refuse_14 : decode cX2_refuse 14 = .ok (.putfield 34, 3) := by decide +kernel
theorem dX2_refuse_17 : decode cX2_refuse 17 = .ok (.aload_n 0, 1) := by decide +kernel
theorem dX2_refuse_18 : decode cX2_refuse 18 = .ok (.sipush 259, 3) := by decide +kernel
theorem dX2_refuse_21 : decode cX2_refuse 21 = .ok (.putfield 30, 3) := by decide +kernel
theorem dX2_refuse_24 : decode cX2_refuse 24 = .ok (.return_, 1) := by decide +kernel
def mX2_refuse (I : iT) (x1 : Int32) (x2 : Int32) : Option (iT) := if (I 6 9) = 0 then some (a_u2 (a_u2 (a_u2 I 6 9 x1) 6 10 x2) 6 6 259) else some I
set_option maxRecDepth 100000 in
set_option maxHeartbeats 4000000 in
theorem tX2_refuse {l : Launch} {K : a_KT} {g : a_GT} {IB : iT} (hko : a_kok K) (I : iT) (J : jT) (F : fT) (hF : FK F) (x1 : Int32) (x2 : Int32) (q : iT) (hm : mX2_refuse I x1 x2 = some q) : C l K g 0 0 0 yX2_refuse cX2_refuse 3 none [.ref 6, .int x1, .int x2] (hg I IB J F) (fun r2 h2 => r2 = none ∧ h2 = hg q IB J F) := by
  unfold mX2_refuse at hm
  refine c_of [.ref 6, .int x1, .int x2] (by decide) (Nat.le_of_ble_eq_true rfl) rfl ?_
  refine e_aload_n (i := 0) rfl dX2_refuse_0 ?_
  refine k_getI 2 9 dX2_refuse_1 fl_RX2_71 rfl iz_6 (by decide) ?_
  refine e_if_ne 24 dX2_refuse_4 (by decide) (fun c_4 => ?_) (fun c_4 => ?_)
  · have hm := it_n c_4 hm
    refine e_vret dX2_refuse_24 rfl ?_
    have hm := some_in hm
    subst hm
    exact ⟨rfl, rfl⟩
  · have hm := it_p c_4 hm
    refine e_aload_n (i := 0) rfl dX2_refuse_7 ?_
    refine e_iload_n (i := 1) rfl dX2_refuse_8 ?_
    refine k_putI 2 9 dX2_refuse_9 fl_RX2_71 rfl rfl iz_6 (by decide) ?_
    refine e_aload_n (i := 0) rfl dX2_refuse_12 ?_
    refine e_iload_n (i := 2) rfl dX2_refuse_13 ?_
    refine k_putI 2 10 dX2_refuse_14 fl_RX2_34 rfl rfl iz_6 (by decide) ?_
    refine e_aload_n (i := 0) rfl dX2_refuse_17 ?_
    refine e_sipush (v := 259) (by decide) dX2_refuse_18 ?_
    refine k_putI 2 6 dX2_refuse_21 fl_RX2_30 rfl rfl iz_6 (by decide) ?_
    refine e_vret dX2_refuse_24 rfl ?_
    have hm := some_in hm
    subst hm
    exact ⟨rfl, rfl⟩
theorem dX2_want_0 : decode cX2_want 0 = .ok (.aload_n 0, 1) := by decide +kernel
theorem dX2_want_1 : decode cX2_want 1 = .ok (.getfield 30, 3) := by decide +kernel
theorem dX2_want_4 : decode cX2_want 4 = .ok (.iload_n 1, 1) := by decide +kernel
theorem dX2_want_5 : decode cX2_want 5 = .ok (.if_icmp .ne 10, 3) := by decide +kernel
theorem dX2_want_8 : decode cX2_want 8 = .ok (.aload_n 0, 1) := by decide +kernel
theorem dX2_want_9 : decode cX2_want 9 = .ok (.invokevirtual 77, 3) := by decide +kernel
theorem dX2_want_12 : decode cX2_want 12 = .ok (.goto 12, 3) := by decide +kernel
theorem dX2_want_15 : decode cX2_want 15 = .ok (.aload_n 0, 1) := by decide +kernel
theorem dX2_want_16 : decode cX2_want 16 = .ok (.iconst 1, 1) := by decide +kernel
theorem dX2_want_17 : decode cX2_want 17 = .ok (.aload_n 0, 1) := by decide +kernel
theorem dX2_want_18 : decode cX2_want 18 = .ok (.getfield 110, 3) := by decide +kernel
theorem dX2_want_21 : decode cX2_want 21 = .ok (.invokevirtual 113, 3) := by decide +kernel
theorem dX2_want_24 : decode cX2_want 24 = .ok (.return_, 1) := by decide +kernel
def mX2_want (I : iT) (x1 : Int32) : Option (iT) := if (I 6 6) = x1 then (mX2_advance I).bind fun q2 => some q2 else (mX2_refuse I 1 (I 6 8)).bind fun q1 => some q1
set_option maxRecDepth 100000 in
set_option maxHeartbeats 4000000 in
theorem tX2_want {l : Launch} {K : a_KT} {g : a_GT} {IB : iT} (hko : a_kok K) (I : iT) (J : jT) (F : fT) (hF : FK F) (x1 : Int32) (q : iT) (hm : mX2_want I x1 = some q) : C l K g 1 0 0 yX2_want cX2_want 2 none [.ref 6, .int x1] (hg I IB J F) (fun r2 h2 => r2 = none ∧ h2 = hg q IB J F) := by
  unfold mX2_want at hm
  refine c_of [.ref 6, .int x1] (by decide) (Nat.le_of_ble_eq_true rfl) rfl ?_
  refine e_aload_n (i := 0) rfl dX2_want_0 ?_
  refine k_getI 2 6 dX2_want_1 fl_RX2_30 rfl iz_6 (by decide) ?_
  refine e_iload_n (i := 1) rfl dX2_want_4 ?_
  refine e_icmp_ne 15 dX2_want_5 (by decide) (fun c_5 => ?_) (fun c_5 => ?_)
  · have hm := it_n c_5 hm
    refine e_aload_n (i := 0) rfl dX2_want_15 ?_
    refine e_iconst (v := 1) (by decide) dX2_want_16 ?_
    refine e_aload_n (i := 0) rfl dX2_want_17 ?_
    refine k_getI 2 8 dX2_want_18 fl_RX2_110 rfl iz_6 (by decide) ?_
    obtain ⟨q1, eq1, hm⟩ := ob_some hm
    refine e_cV2 hko dX2_want_21 ml_RX2_113 iz_6 (by decide) rfl (by omega) (Nat.le_of_ble_eq_true rfl) (tX2_refuse hko I J F hF 1 (I 6 8) _ eq1) ?_
    rintro _ _ ⟨rfl, rfl⟩
    refine e_vret dX2_want_24 rfl ?_
    have hm := some_in hm
    subst hm
    exact ⟨rfl, rfl⟩
  · have hm := it_p c_5 hm
    refine e_aload_n (i := 0) rfl dX2_want_8 ?_
    obtain ⟨q2, eq2, hm⟩ := ob_some hm
    refine e_cV0 hko dX2_want_9 ml_RX2_77 iz_6 (by decide) rfl (by omega) (Nat.le_of_ble_eq_true rfl) (tX2_advance hko I J F hF _ eq2) ?_
    rintro _ _ ⟨rfl, rfl⟩
    refine e_goto 24 dX2_want_12 (by decide) ?_
    refine e_vret dX2_want_24 rfl ?_
    have hm := some_in hm
    subst hm
    exact ⟨rfl, rfl⟩
theorem dX2_takeName_0 : decode cX2_takeName 0 = .ok (.aload_n 0, 1) := by decide +kernel
theorem dX2_takeName_1 : decode cX2_takeName 1 = .ok (.getfield 30, 3) := by decide +kernel
theorem dX2_takeName_4 : decode cX2_takeName 4 = .ok (.sipush 256, 3) := by decide +kernel
theorem dX2_takeName_7 : decode cX2_takeName 7 = .ok (.if_icmp .eq 14, 3) := by decide +kernel
theorem dX2_takeName_10 : decode cX2_takeName 10 = .ok (.aload_n 0, 1) := by decide +kernel
theorem dX2_takeName_11 : decode cX2_takeName 11 = .ok (.iconst 1, 1) := by decide +kernel
theorem dX2_takeName_12 : decode cX2_takeName 12 = .ok (.aload_n 0, 1) := by decide +kernel
theorem dX2_takeName_13 : decode cX2_takeName 13 = .ok (.getfield 110, 3) := by decide +kernel
theorem dX2_takeName_16 : decode cX2_takeName 16 = .ok (.invokevirtual 113, 3) := by decide +kernel
theorem dX2_takeName_19 : decode cX2_takeName 19 = .ok (.iconst 0, 1) := by decide +kernel
theorem dX2_takeName_20 : decode cX2_takeName 20 = .ok (.ireturn, 1) := by decide +kernel
theorem dX2_takeName_21 : decode cX2_takeName 21 = .ok (.aload_n 0, 1) := by decide +kernel
theorem dX2_takeName_22 : decode cX2_takeName 22 = .ok (.getfield 107, 3) := by decide +kernel
theorem dX2_takeName_25 : decode cX2_takeName 25 = .ok (.istore_n 1, 1) := by decide +kernel
theorem dX2_takeName_26 : decode cX2_takeName 26 = .ok (.aload_n 0, 1) := by decide +kernel
theorem dX2_takeName_27 : decode cX2_takeName 27 = .ok (.invokevirtual 77, 3) := by decide +kernel
theorem dX2_takeName_30 : decode cX2_takeName 30 = .ok (.iload_n 1, 1) := by decide +kernel
theorem dX2_takeName_31 : decode cX2_takeName 31 = .ok (.ireturn, 1) := by decide +kernel
def mX2_takeName (I : iT) : Option (Int32 × iT) := if (I 6 6) = 256 then (mX2_advance I).bind fun q1 => some (I 6 7, q1) else (mX2_refuse I 1 (I 6 8)).bind fun q2 => some (0, q2)
set_option maxRecDepth 100000 in
set_option maxHeartbeats 4000000 in
theorem tX2_takeName {l : Launch} {K : a_KT} {g : a_GT} {IB : iT} (hko : a_kok K) (I : iT) (J : jT) (F : fT) (hF : FK F) (q : Int32 × iT) (hm : mX2_takeName I = some q) : C l K g 1 0 0 yX2_takeName cX2_takeName 2 (some .int) [.ref 6] (hg I IB J F) (fun r2 h2 => r2 = some (.int q.1) ∧ h2 = hg q.2 IB J F) := by
  unfold mX2_takeName at hm
  refine c_of [.ref 6, .null] (by decide) (Nat.le_of_ble_eq_true rfl) rfl ?_
  refine e_aload_n (i := 0) rfl dX2_takeName_0 ?_
  refine k_getI 2 6 dX2_takeName_1 fl_RX2_30 rfl iz_6 (by decide) ?_
  refine e_sipush (v := 256) (by decide) dX2_takeName_4 ?_
  refine e_icmp_eq 21 dX2_takeName_7 (by decide) (fun c_7 => ?_) (fun c_7 => ?_)
  · have hm := it_p c_7 hm
    refine e_aload_n (i := 0) rfl dX2_takeName_21 ?_
    refine k_getI 2 7 dX2_takeName_22 fl_RX2_107 rfl iz_6 (by decide) ?_
    refine q_istore_n (i := 1) (by decide) rfl dX2_takeName_25 ?_
    refine e_aload_n (i := 0) rfl dX2_takeName_26 ?_
    obtain ⟨q1, eq1, hm⟩ := ob_some hm
    refine e_cV0 hko dX2_takeName_27 ml_RX2_77 iz_6 (by decide) rfl (by omega) (Nat.le_of_ble_eq_true rfl) (tX2_advance hko I J F hF _ eq1) ?_
    rintro _ _ ⟨rfl, rfl⟩
    refine e_iload_n (i := 1) rfl dX2_takeName_30 ?_
    refine e_iret dX2_takeName_31 rfl ?_
    have hm := some_in hm
    subst hm
    exact ⟨rfl, rfl⟩
  · have hm := it_n c_7 hm
    refine e_aload_n (i := 0) rfl dX2_takeName_10 ?_
    refine e_iconst (v := 1) (by decide) dX2_takeName_11 ?_
    refine e_aload_n (i := 0) rfl dX2_takeName_12 ?_
    refine k_getI 2 8 dX2_takeName_13 fl_RX2_110 rfl iz_6 (by decide) ?_
    obtain ⟨q2, eq2, hm⟩ := ob_some hm
    refine e_cV2 hko dX2_takeName_16 ml_RX2_113 iz_6 (by decide) rfl (by omega) (Nat.le_of_ble_eq_true rfl) (tX2_refuse hko I J F hF 1 (I 6 8) _ eq2) ?_
    rintro _ _ ⟨rfl, rfl⟩
    refine e_iconst (v := 0) (by decide) dX2_takeName_19 ?_
    refine e_iret dX2_takeName_20 rfl ?_
    have hm := some_in hm
    subst hm
    exact ⟨rfl, rfl⟩
theorem dX2_skip_0 : decode cX2_skip 0 = .ok (.aload_n 0, 1) := by decide +kernel
theorem dX2_skip_1 : decode cX2_skip 1 = .ok (.getfield 30, 3) := by decide +kernel
theorem dX2_skip_4 : decode cX2_skip 4 = .ok (.iload_n 1, 1) := by decide +kernel
theorem dX2_skip_5 : decode cX2_skip 5 = .ok (.if_icmp .eq 5, 3) := by decide +kernel
theorem dX2_skip_8 : decode cX2_skip 8 = .ok (.iconst 0, 1) := by decide +kernel
theorem dX2_skip_9 : decode cX2_skip 9 = .ok (.ireturn, 1) := by decide +kernel
theorem dX2_skip_10 : decode cX2_skip 10 = .ok (.aload_n 0, 1) := by decide +kernel
theorem dX2_skip_11 : decode cX2_skip 11 = .ok (.invokevirtual 77, 3) := by decide +kernel
theorem dX2_skip_14 : decode cX2_skip 14 = .ok (.iconst 1, 1) := by decide +kernel
theorem dX2_skip_15 : decode cX2_skip 15 = .ok (.ireturn, 1) := by decide +kernel
def mX2_skip (I : iT) (x1 : Int32) : Option (Int32 × iT) := if (I 6 6) = x1 then (mX2_advance I).bind fun q1 => some (1, q1) else some (0, I)
set_option maxRecDepth 100000 in
set_option maxHeartbeats 4000000 in
theorem tX2_skip {l : Launch} {K : a_KT} {g : a_GT} {IB : iT} (hko : a_kok K) (I : iT) (J : jT) (F : fT) (hF : FK F) (x1 : Int32) (q : Int32 × iT) (hm : mX2_skip I x1 = some q) : C l K g 1 0 0 yX2_skip cX2_skip 2 (some .boolean) [.ref 6, .int x1] (hg I IB J F) (fun r2 h2 => r2 = some (.int q.1) ∧ h2 = hg q.2 IB J F) := by
  unfold mX2_skip at hm
  refine c_of [.ref 6, .int x1] (by decide) (Nat.le_of_ble_eq_true rfl) rfl ?_
  refine e_aload_n (i := 0) rfl dX2_skip_0 ?_
  refine k_getI 2 6 dX2_skip_1 fl_RX2_30 rfl iz_6 (by decide) ?_
  refine e_iload_n (i := 1) rfl dX2_skip_4 ?_
  refine e_icmp_eq 10 dX2_skip_5 (by decide) (fun c_5 => ?_) (fun c_5 => ?_)
  · have hm := it_p c_5 hm
    refine e_aload_n (i := 0) rfl dX2_skip_10 ?_
    obtain ⟨q1, eq1, hm⟩ := ob_some hm
    refine e_cV0 hko dX2_skip_11 ml_RX2_77 iz_6 (by decide) rfl (by omega) (Nat.le_of_ble_eq_true rfl) (tX2_advance hko I J F hF _ eq1) ?_
    rintro _ _ ⟨rfl, rfl⟩
    refine e_iconst (v := 1) (by decide) dX2_skip_14 ?_
    refine e_zret dX2_skip_15 rfl rfl ?_
    have hm := some_in hm
    subst hm
    exact ⟨rfl, rfl⟩
  · have hm := it_n c_5 hm
    refine e_iconst (v := 0) (by decide) dX2_skip_8 ?_
    refine e_zret dX2_skip_9 rfl rfl ?_
    have hm := some_in hm
    subst hm
    exact ⟨rfl, rfl⟩
