/-! DECOMPILED: printed by wip/whole/gen_dec.py -/
theorem dX6_setSlot_0 : decode cX6_setSlot 0 = .ok (.aload_n 0, 1) := by decide +kernel
theorem dX6_setSlot_1 : decode cX6_setSlot 1 = .ok (.getfield 42, 3) := by decide +kernel
theorem dX6_setSlot_4 : decode cX6_setSlot 4 = .ok (.iload_n 1, 1) := by decide +kernel
theorem dX6_setSlot_5 : decode cX6_setSlot 5 = .ok (.bipush 85, 2) := by decide +kernel
theorem dX6_setSlot_7 : decode cX6_setSlot 7 = .ok (.imul, 1) := by decide +kernel
theorem dX6_setSlot_8 : decode cX6_setSlot 8 = .ok (.iload_n 2, 1) := by decide +kernel
theorem dX6_setSlot_9 : decode cX6_setSlot 9 = .ok (.iadd, 1) := by decide +kernel
theorem dX6_setSlot_10 : decode cX6_setSlot 10 = .ok (.iload_n 3, 1) := by decide +kernel
theorem dX6_setSlot_11 : decode cX6_setSlot 11 = .ok (.invokevirtual 115, 3) := by decide +kernel
theorem dX6_setSlot_14 : decode cX6_setSlot 14 = .ok (.return_, 1) := by decide +kernel
def mX6_setSlot (I : iT) (x1 : Int32) (x2 : Int32) (x3 : Int32) : Option (iT) := (mX4_put 176 I ((x1 * 85) + x2) x3).bind fun q1 => some q1
set_option maxRecDepth 100000 in
set_option maxHeartbeats 4000000 in
theorem tX6_setSlot {l : Launch} {K : a_KT} {g : a_GT} {IB : iT} (hko : a_kok K) (I : iT) (J : jT) (F : fT) (hF : FK F) (x1 : Int32) (x2 : Int32) (x3 : Int32) (q : iT) (hm : mX6_setSlot I x1 x2 x3 = some q) : C l K g 1 0 0 yX6_setSlot cX6_setSlot 4 none [.ref 148, .int x1, .int x2, .int x3] (hg I IB J F) (fun r2 h2 => r2 = none ∧ h2 = hg q IB J F) := by
  unfold mX6_setSlot at hm
  refine c_of [.ref 148, .int x1, .int x2, .int x3] (by decide) (Nat.le_of_ble_eq_true rfl) rfl ?_
  refine e_aload_n (i := 0) rfl dX6_setSlot_0 ?_
  refine q_getF 6 7 176 dX6_setSlot_1 fl_RX6_42 rfl iz_148 (fr_148_7 hF.1) ?_
  refine e_iload_n (i := 1) rfl dX6_setSlot_4 ?_
  refine e_bipush (v := 85) (by decide) dX6_setSlot_5 ?_
  refine e_imul dX6_setSlot_7 ?_
  refine e_iload_n (i := 2) rfl dX6_setSlot_8 ?_
  refine e_iadd dX6_setSlot_9 ?_
  refine e_iload_n (i := 3) rfl dX6_setSlot_10 ?_
  obtain ⟨q1, eq1, hm⟩ := ob_some hm
  refine e_cV2 hko dX6_setSlot_11 ml_RX6_115 iz_176 (by decide) rfl (by omega) (Nat.le_of_ble_eq_true rfl) (tX4_put hko rw_176 I J F hF ((x1 * 85) + x2) x3 _ eq1) ?_
  rintro _ _ ⟨rfl, rfl⟩
  refine e_vret dX6_setSlot_14 rfl ?_
  have hm := some_in hm
  subst hm
  exact ⟨rfl, rfl⟩
theorem dX6_addProcess_0 : decode cX6_addProcess 0 = .ok (.aload_n 0, 1) := by decide +kernel
theorem dX6_addProcess_1 : decode cX6_addProcess 1 = .ok (.getfield 23, 3) := by decide +kernel
theorem dX6_addProcess_4 : decode cX6_addProcess 4 = .ok (.iconst (-1), 1) := by decide +kernel
theorem dX6_addProcess_5 : decode cX6_addProcess 5 = .ok (.invokevirtual 118, 3) := by decide +kernel
theorem dX6_addProcess_8 : decode cX6_addProcess 8 = .ok (.istore_n 1, 1) := by decide +kernel
theorem dX6_addProcess_9 : decode cX6_addProcess 9 = .ok (.aload_n 0, 1) := by decide +kernel
theorem dX6_addProcess_10 : decode cX6_addProcess 10 = .ok (.getfield 27, 3) := by decide +kernel
theorem dX6_addProcess_13 : decode cX6_addProcess 13 = .ok (.iconst (-1), 1) := by decide +kernel
theorem dX6_addProcess_14 : decode cX6_addProcess 14 = .ok (.invokevirtual 118, 3) := by decide +kernel
theorem dX6_addProcess_17 : decode cX6_addProcess 17 = .ok (.pop, 1) := by decide +kernel
theorem dX6_addProcess_18 : decode cX6_addProcess 18 = .ok (.aload_n 0, 1) := by decide +kernel
theorem dX6_addProcess_19 : decode cX6_addProcess 19 = .ok (.getfield 30, 3) := by decide +kernel
theorem dX6_addProcess_22 : decode cX6_addProcess 22 = .ok (.iconst 0, 1) := by decide +kernel
theorem dX6_addProcess_23 : decode cX6_addProcess 23 = .ok (.invokevirtual 118, 3) := by decide +kernel
theorem dX6_addProcess_26 : decode cX6_addProcess 26 = .ok (.pop, 1) := by decide +kernel
theorem dX6_addProcess_27 : decode cX6_addProcess 27 = .ok (.aload_n 0, 1) := by decide +kernel
theorem dX6_addProcess_28 : decode cX6_addProcess 28 = .ok (.getfield 33, 3) := by decide +kernel
theorem dX6_addProcess_31 : decode cX6_addProcess 31 = .ok (.iconst 0, 1) := by decide +kernel
theorem dX6_addProcess_32 : decode cX6_addProcess 32 = .ok (.invokevirtual 118, 3) := by decide +kernel
theorem dX6_addProcess_35 : decode cX6_addProcess 35 = .ok (.pop, 1) := by decide +kernel
theorem dX6_addProcess_36 : decode cX6_addProcess 36 = .ok (.aload_n 0, 1) := by decide +kernel
theorem dX6_addProcess_37 : decode cX6_addProcess 37 = .ok (.getfield 36, 3) := by decide +kernel
theorem dX6_addProcess_40 : decode cX6_addProcess 40 = .ok (.iconst 0, 1) := by decide +kernel
theorem dX6_addProcess_41 : decode cX6_addProcess 41 = .ok (.invokevirtual 118, 3) := by decide +kernel
theorem dX6_addProcess_44 : decode cX6_addProcess 44 = .ok (.pop, 1) := by decide +kernel
theorem dX6_addProcess_45 : decode cX6_addProcess 45 = .ok (.aload_n 0, 1) := by decide +kernel
theorem dX6_addProcess_46 : decode cX6_addProcess 46 = .ok (.getfield 39, 3) := by decide +kernel
theorem dX6_addProcess_49 : decode cX6_addProcess 49 = .ok (.iconst 0, 1) := by decide +kernel
theorem dX6_addProcess_50 : decode cX6_addProcess 50 = .ok (.invokevirtual 118, 3) := by decide +kernel
theorem dX6_addProcess_53 : decode cX6_addProcess 53 = .ok (.pop, 1) := by decide +kernel
theorem dX6_addProcess_54 : decode cX6_addProcess 54 = .ok (.aload_n 0, 1) := by decide +kernel
theorem dX6_addProcess_55 : decode cX6_addProcess 55 = .ok (.iload_n 1, 1) := by decide +kernel
theorem dX6_addProcess_56 : decode cX6_addProcess 56 = .ok (.iconst 0, 1) := by decide +kernel
theorem dX6_addProcess_57 : decode cX6_addProcess 57 = .ok (.aload_n 0, 1) := by decide +kernel
theorem dX6_addProcess_58 : decode cX6_addProcess 58 = .ok (.getfield 12, 3) := by decide +kernel
theorem dX6_addProcess_61 : decode cX6_addProcess 61 = .ok (.invokevirtual 121, 3) := by decide +kernel
theorem dX6_addProcess_64 : decode cX6_addProcess 64 = .ok (.invokevirtual 124, 3) := by decide +kernel
theorem dX6_addProcess_67 : decode cX6_addProcess 67 = .ok (.iload_n 1, 1) := by decide +kernel
theorem dX6_addProcess_68 : decode cX6_addProcess 68 = .ok (.ireturn, 1) := by decide +kernel
def mX6_addProcess (I : iT) : Option (Int32 × iT) := (mX4_add 164 I ((-1))).bind fun q1 => (mX4_add 166 q1.2 ((-1))).bind fun q2 => (mX4_add 168 q2.2 0).bind fun q3 => (mX4_add 170 q3.2 0).bind fun q4 => (mX4_add 172 q4.2 0).bind fun q5 => (mX4_add 174 q5.2 0).bind fun q6 => (mX1_open q6.2).bind fun q7 => (mX6_setSlot q7.2 q1.1 0 q7.1).bind fun q8 => some (q1.1, q8)
set_option maxRecDepth 100000 in
set_option maxHeartbeats 4000000 in
theorem tX6_addProcess {l : Launch} {K : a_KT} {g : a_GT} {IB : iT} (hko : a_kok K) (I : iT) (J : jT) (F : fT) (hF : FK F) (q : Int32 × iT) (hm : mX6_addProcess I = some q) : C l K g 2 0 0 yX6_addProcess cX6_addProcess 2 (some .int) [.ref 148] (hg I IB J F) (fun r2 h2 => r2 = some (.int q.1) ∧ h2 = hg q.2 IB J F) := by
  unfold mX6_addProcess at hm
  refine c_of [.ref 148, .null] (by decide) (Nat.le_of_ble_eq_true rfl) rfl ?_
  refine e_aload_n (i := 0) rfl dX6_addProcess_0 ?_
  refine q_getF 6 1 164 dX6_addProcess_1 fl_RX6_23 rfl iz_148 (fr_148_1 hF.1) ?_
  refine e_iconst (v := (-1)) (by decide) dX6_addProcess_4 ?_
  obtain ⟨q1, eq1, hm⟩ := ob_some hm
  refine e_cV1 hko dX6_addProcess_5 ml_RX6_118 iz_164 (by decide) rfl (by omega) (Nat.le_of_ble_eq_true rfl) (tX4_add hko rw_164 I J F hF ((-1)) _ eq1) ?_
  rintro _ _ ⟨rfl, rfl⟩
  refine q_istore_n (i := 1) (by decide) rfl dX6_addProcess_8 ?_
  refine e_aload_n (i := 0) rfl dX6_addProcess_9 ?_
  refine q_getF 6 2 166 dX6_addProcess_10 fl_RX6_27 rfl iz_148 (fr_148_2 hF.1) ?_
  refine e_iconst (v := (-1)) (by decide) dX6_addProcess_13 ?_
  obtain ⟨q2, eq2, hm⟩ := ob_some hm
  refine e_cV1 hko dX6_addProcess_14 ml_RX6_118 iz_166 (by decide) rfl (by omega) (Nat.le_of_ble_eq_true rfl) (tX4_add hko rw_166 q1.2 J F hF ((-1)) _ eq2) ?_
  rintro _ _ ⟨rfl, rfl⟩
  refine e_pop rfl dX6_addProcess_17 ?_
  refine e_aload_n (i := 0) rfl dX6_addProcess_18 ?_
  refine q_getF 6 3 168 dX6_addProcess_19 fl_RX6_30 rfl iz_148 (fr_148_3 hF.1) ?_
  refine e_iconst (v := 0) (by decide) dX6_addProcess_22 ?_
  obtain ⟨q3, eq3, hm⟩ := ob_some hm
  refine e_cV1 hko dX6_addProcess_23 ml_RX6_118 iz_168 (by decide) rfl (by omega) (Nat.le_of_ble_eq_true rfl) (tX4_add hko rw_168 q2.2 J F hF 0 _ eq3) ?_
  rintro _ _ ⟨rfl, rfl⟩
  refine e_pop rfl dX6_addProcess_26 ?_
  refine e_aload_n (i := 0) rfl dX6_addProcess_27 ?_
  refine q_getF 6 4 170 dX6_addProcess_28 fl_RX6_33 rfl iz_148 (fr_148_4 hF.1) ?_
  refine e_iconst (v := 0) (by decide) dX6_addProcess_31 ?_
  obtain ⟨q4, eq4, hm⟩ := ob_some hm
  refine e_cV1 hko dX6_addProcess_32 ml_RX6_118 iz_170 (by decide) rfl (by omega) (Nat.le_of_ble_eq_true rfl) (tX4_add hko rw_170 q3.2 J F hF 0 _ eq4) ?_
  rintro _ _ ⟨rfl, rfl⟩
  refine e_pop rfl dX6_addProcess_35 ?_
  refine e_aload_n (i := 0) rfl dX6_addProcess_36 ?_
  refine q_getF 6 5 172 dX6_addProcess_37 fl_RX6_36 rfl iz_148 (fr_148_5 hF.1) ?_
  refine e_iconst (v := 0) (by decide) dX6_addProcess_40 ?_
  obtain ⟨q5, eq5, hm⟩ := ob_some hm
  refine e_cV1 hko dX6_addProcess_41 ml_RX6_118 iz_172 (by decide) rfl (by omega) (Nat.le_of_ble_eq_true rfl) (tX4_add hko rw_172 q4.2 J F hF 0 _ eq5) ?_
  rintro _ _ ⟨rfl, rfl⟩
  refine e_pop rfl dX6_addProcess_44 ?_
  refine e_aload_n (i := 0) rfl dX6_addProcess_45 ?_
  refine q_getF 6 6 174 dX6_addProcess_46 fl_RX6_39 rfl iz_148 (fr_148_6 hF.1) ?_
  refine e_iconst (v := 0) (by decide) dX6_addProcess_49 ?_
  obtain ⟨q6, eq6, hm⟩ := ob_some hm
  refine e_cV1 hko dX6_addProcess_50 ml_RX6_118 iz_174 (by decide) rfl (by omega) (Nat.le_of_ble_eq_true rfl) (tX4_add hko rw_174 q5.2 J F hF 0 _ eq6) ?_
  rintro _ _ ⟨rfl, rfl⟩
  refine e_pop rfl dX6_addProcess_53 ?_
  refine e_aload_n (i := 0) rfl dX6_addProcess_54 ?_
  refine e_iload_n (i := 1) rfl dX6_addProcess_55 ?_
  refine e_iconst (v := 0) (by decide) dX6_addProcess_56 ?_
  refine e_aload_n (i := 0) rfl dX6_addProcess_57 ?_
  refine q_getF 6 0 149 dX6_addProcess_58 fl_RX6_12 rfl iz_148 (fr_148_0 hF.1) ?_
  obtain ⟨q7, eq7, hm⟩ := ob_some hm
  refine e_cV0 hko dX6_addProcess_61 ml_RX6_121 iz_149 (by decide) rfl (by omega) (Nat.le_of_ble_eq_true rfl) (tX1_open hko q6.2 J F hF _ eq7) ?_
  rintro _ _ ⟨rfl, rfl⟩
  obtain ⟨q8, eq8, hm⟩ := ob_some hm
  refine e_cV3 hko dX6_addProcess_64 ml_RX6_124 iz_148 (by decide) rfl (by omega) (Nat.le_of_ble_eq_true rfl) (tX6_setSlot hko q7.2 J F hF q1.1 0 q7.1 _ eq8) ?_
  rintro _ _ ⟨rfl, rfl⟩
  refine e_iload_n (i := 1) rfl dX6_addProcess_67 ?_
  refine e_iret dX6_addProcess_68 rfl ?_
  have hm := some_in hm
  subst hm
  exact ⟨rfl, rfl⟩
theorem dX6_sideTaken_0 : decode cX6_sideTaken 0 = .ok (.aload_n 0, 1) := by decide +kernel
theorem dX6_sideTaken_1 : decode cX6_sideTaken 1 = .ok (.getfield 57, 3) := by decide +kernel
theorem dX6_sideTaken_4 : decode cX6_sideTaken 4 = .ok (.getfield 165, 3) := by decide +kernel
theorem dX6_sideTaken_7 : decode cX6_sideTaken 7 = .ok (.iload_n 1, 1) := by decide +kernel
theorem dX6_sideTaken_8 : decode cX6_sideTaken 8 = .ok (.invokevirtual 104, 3) := by decide +kernel
theorem dX6_sideTaken_11 : decode cX6_sideTaken 11 = .ok (.ifCond .ne 7, 3) := by decide +kernel
theorem dX6_sideTaken_14 : decode cX6_sideTaken 14 = .ok (.iconst 1, 1) := by decide +kernel
theorem dX6_sideTaken_15 : decode cX6_sideTaken 15 = .ok (.goto 4, 3) := by decide +kernel
theorem dX6_sideTaken_18 : decode cX6_sideTaken 18 = .ok (.iconst 0, 1) := by decide +kernel
theorem dX6_sideTaken_19 : decode cX6_sideTaken 19 = .ok (.ireturn, 1) := by decide +kernel
def mX6_sideTaken (I : iT) (F : fT) (x1 : Int32) : Option (Int32) := (mX4_at ((F 148 12) + 49) I x1).bind fun q1 => if q1 = 0 then some 1 else some 0
set_option maxRecDepth 100000 in
set_option maxHeartbeats 4000000 in
theorem tX6_sideTaken {l : Launch} {K : a_KT} {g : a_GT} {IB : iT} (hko : a_kok K) (I : iT) (J : jT) (F : fT) (hF : FK F) (x1 : Int32) (q : Int32) (hm : mX6_sideTaken I F x1 = some q) : C l K g 1 0 0 yX6_sideTaken cX6_sideTaken 2 (some .int) [.ref 148, .int x1] (hg I IB J F) (fun r2 h2 => r2 = some (.int q) ∧ h2 = hg I IB J F) := by
  unfold mX6_sideTaken at hm
  refine c_of [.ref 148, .int x1] (by decide) (Nat.le_of_ble_eq_true rfl) rfl ?_
  refine e_aload_n (i := 0) rfl dX6_sideTaken_0 ?_
  refine q_getF 6 12 (F 148 12) dX6_sideTaken_1 fl_RX6_57 rfl iz_148 rfl ?_
  refine q_getF 0 12 ((F 148 12) + 49) dX6_sideTaken_4 fl_RX6_165 rfl (iz_bk hF.2.2.2.2.2.2) (frb_12 hF.1 hF.2.2.2.2.2.2) ?_
  refine e_iload_n (i := 1) rfl dX6_sideTaken_7 ?_
  obtain ⟨q1, eq1, hm⟩ := ob_some hm
  refine e_cV1 hko dX6_sideTaken_8 ml_RX6_104 (iz_row (rwb_49 hF.2.2.2.2.2.2)) (by decide) rfl (by omega) (Nat.le_of_ble_eq_true rfl) (tX4_at hko (rwb_49 hF.2.2.2.2.2.2) I J F hF x1 _ eq1) ?_
  rintro _ _ ⟨rfl, rfl⟩
  refine e_if_ne 18 dX6_sideTaken_11 (by decide) (fun c_11 => ?_) (fun c_11 => ?_)
  · have hm := it_n c_11 hm
    refine e_iconst (v := 0) (by decide) dX6_sideTaken_18 ?_
    refine e_iret dX6_sideTaken_19 rfl ?_
    have hm := some_in hm
    subst hm
    exact ⟨rfl, rfl⟩
  · have hm := it_p c_11 hm
    refine e_iconst (v := 1) (by decide) dX6_sideTaken_14 ?_
    refine e_goto 19 dX6_sideTaken_15 (by decide) ?_
    refine e_iret dX6_sideTaken_19 rfl ?_
    have hm := some_in hm
    subst hm
    exact ⟨rfl, rfl⟩
theorem dX6_slotOf_0 : decode cX6_slotOf 0 = .ok (.aload_n 0, 1) := by decide +kernel
theorem dX6_slotOf_1 : decode cX6_slotOf 1 = .ok (.getfield 42, 3) := by decide +kernel
theorem dX6_slotOf_4 : decode cX6_slotOf 4 = .ok (.iload_n 1, 1) := by decide +kernel
theorem dX6_slotOf_5 : decode cX6_slotOf 5 = .ok (.bipush 85, 2) := by decide +kernel
theorem dX6_slotOf_7 : decode cX6_slotOf 7 = .ok (.imul, 1) := by decide +kernel
theorem dX6_slotOf_8 : decode cX6_slotOf 8 = .ok (.iload_n 2, 1) := by decide +kernel
theorem dX6_slotOf_9 : decode cX6_slotOf 9 = .ok (.iadd, 1) := by decide +kernel
theorem dX6_slotOf_10 : decode cX6_slotOf 10 = .ok (.invokevirtual 104, 3) := by decide +kernel
theorem dX6_slotOf_13 : decode cX6_slotOf 13 = .ok (.ireturn, 1) := by decide +kernel
def mX6_slotOf (I : iT) (x1 : Int32) (x2 : Int32) : Option (Int32) := (mX4_at 176 I ((x1 * 85) + x2)).bind fun q1 => some q1
set_option maxRecDepth 100000 in
set_option maxHeartbeats 4000000 in
theorem tX6_slotOf {l : Launch} {K : a_KT} {g : a_GT} {IB : iT} (hko : a_kok K) (I : iT) (J : jT) (F : fT) (hF : FK F) (x1 : Int32) (x2 : Int32) (q : Int32) (hm : mX6_slotOf I x1 x2 = some q) : C l K g 1 0 0 yX6_slotOf cX6_slotOf 3 (some .int) [.ref 148, .int x1, .int x2] (hg I IB J F) (fun r2 h2 => r2 = some (.int q) ∧ h2 = hg I IB J F) := by
  unfold mX6_slotOf at hm
  refine c_of [.ref 148, .int x1, .int x2] (by decide) (Nat.le_of_ble_eq_true rfl) rfl ?_
  refine e_aload_n (i := 0) rfl dX6_slotOf_0 ?_
  refine q_getF 6 7 176 dX6_slotOf_1 fl_RX6_42 rfl iz_148 (fr_148_7 hF.1) ?_
  refine e_iload_n (i := 1) rfl dX6_slotOf_4 ?_
  refine e_bipush (v := 85) (by decide) dX6_slotOf_5 ?_
  refine e_imul dX6_slotOf_7 ?_
  refine e_iload_n (i := 2) rfl dX6_slotOf_8 ?_
  refine e_iadd dX6_slotOf_9 ?_
  obtain ⟨q1, eq1, hm⟩ := ob_some hm
  refine e_cV1 hko dX6_slotOf_10 ml_RX6_104 iz_176 (by decide) rfl (by omega) (Nat.le_of_ble_eq_true rfl) (tX4_at hko rw_176 I J F hF ((x1 * 85) + x2) _ eq1) ?_
  rintro _ _ ⟨rfl, rfl⟩
  refine e_iret dX6_slotOf_13 rfl ?_
  have hm := some_in hm
  subst hm
  exact ⟨rfl, rfl⟩
theorem dX6_talkedOver_0 : decode cX6_talkedOver 0 = .ok (.aload_n 0, 1) := by decide +kernel
theorem dX6_talkedOver_1 : decode cX6_talkedOver 1 = .ok (.getfield 12, 3) := by decide +kernel
theorem dX6_talkedOver_4 : decode cX6_talkedOver 4 = .ok (.aload_n 0, 1) := by decide +kernel
theorem dX6_talkedOver_5 : decode cX6_talkedOver 5 = .ok (.iload_n 1, 1) := by decide +kernel
theorem dX6_talkedOver_6 : decode cX6_talkedOver 6 = .ok (.aload_n 0, 1) := by decide +kernel
theorem dX6_talkedOver_7 : decode cX6_talkedOver 7 = .ok (.getfield 57, 3) := by decide +kernel
theorem dX6_talkedOver_10 : decode cX6_talkedOver 10 = .ok (.getfield 165, 3) := by decide +kernel
theorem dX6_talkedOver_13 : decode cX6_talkedOver 13 = .ok (.iload_n 2, 1) := by decide +kernel
theorem dX6_talkedOver_14 : decode cX6_talkedOver 14 = .ok (.invokevirtual 104, 3) := by decide +kernel
theorem dX6_talkedOver_17 : decode cX6_talkedOver 17 = .ok (.invokevirtual 108, 3) := by decide +kernel
theorem dX6_talkedOver_20 : decode cX6_talkedOver 20 = .ok (.invokevirtual 112, 3) := by decide +kernel
theorem dX6_talkedOver_23 : decode cX6_talkedOver 23 = .ok (.ireturn, 1) := by decide +kernel
def mX6_talkedOver (I : iT) (F : fT) (x1 : Int32) (x2 : Int32) : Option (Int32) := (mX4_at ((F 148 12) + 49) I x2).bind fun q1 => (mX6_slotOf I x1 q1).bind fun q2 => (mX1_follow I q2).bind fun q3 => some q3
set_option maxRecDepth 100000 in
set_option maxHeartbeats 4000000 in
theorem tX6_talkedOver {l : Launch} {K : a_KT} {g : a_GT} {IB : iT} (hko : a_kok K) (I : iT) (J : jT) (F : fT) (hF : FK F) (x1 : Int32) (x2 : Int32) (q : Int32) (hm : mX6_talkedOver I F x1 x2 = some q) : C l K g 2 0 0 yX6_talkedOver cX6_talkedOver 3 (some .int) [.ref 148, .int x1, .int x2] (hg I IB J F) (fun r2 h2 => r2 = some (.int q) ∧ h2 = hg I IB J F) := by
  unfold mX6_talkedOver at hm
  refine c_of [.ref 148, .int x1, .int x2] (by decide) (Nat.le_of_ble_eq_true rfl) rfl ?_
  refine e_aload_n (i := 0) rfl dX6_talkedOver_0 ?_
  refine q_getF 6 0 149 dX6_talkedOver_1 fl_RX6_12 rfl iz_148 (fr_148_0 hF.1) ?_
  refine e_aload_n (i := 0) rfl dX6_talkedOver_4 ?_
  refine e_iload_n (i := 1) rfl dX6_talkedOver_5 ?_
  refine e_aload_n (i := 0) rfl dX6_talkedOver_6 ?_
  refine q_getF 6 12 (F 148 12) dX6_talkedOver_7 fl_RX6_57 rfl iz_148 rfl ?_
  refine q_getF 0 12 ((F 148 12) + 49) dX6_talkedOver_10 fl_RX6_165 rfl (iz_bk hF.2.2.2.2.2.2) (frb_12 hF.1 hF.2.2.2.2.2.2) ?_
  refine e_iload_n (i := 2) rfl dX6_talkedOver_13 ?_
  obtain ⟨q1, eq1, hm⟩ := ob_some hm
  refine e_cV1 hko dX6_talkedOver_14 ml_RX6_104 (iz_row (rwb_49 hF.2.2.2.2.2.2)) (by decide) rfl (by omega) (Nat.le_of_ble_eq_true rfl) (tX4_at hko (rwb_49 hF.2.2.2.2.2.2) I J F hF x2 _ eq1) ?_
  rintro _ _ ⟨rfl, rfl⟩
  obtain ⟨q2, eq2, hm⟩ := ob_some hm
  refine e_cV2 hko dX6_talkedOver_17 ml_RX6_108 iz_148 (by decide) rfl (by omega) (Nat.le_of_ble_eq_true rfl) (tX6_slotOf hko I J F hF x1 q1 _ eq2) ?_
  rintro _ _ ⟨rfl, rfl⟩
  obtain ⟨q3, eq3, hm⟩ := ob_some hm
  refine e_cV1 hko dX6_talkedOver_20 ml_RX6_112 iz_149 (by decide) rfl (by omega) (Nat.le_of_ble_eq_true rfl) (tX1_follow hko I J F hF q2 _ eq3) ?_
  rintro _ _ ⟨rfl, rfl⟩
  refine e_iret dX6_talkedOver_23 rfl ?_
  have hm := some_in hm
  subst hm
  exact ⟨rfl, rfl⟩
theorem dX6_isWaiting_0 : decode cX6_isWaiting 0 = .ok (.aload_n 0, 1) := by decide +kernel
theorem dX6_isWaiting_1 : decode cX6_isWaiting 1 = .ok (.getfield 27, 3) := by decide +kernel
theorem dX6_isWaiting_4 : decode cX6_isWaiting 4 = .ok (.iload_n 1, 1) := by decide +kernel
theorem dX6_isWaiting_5 : decode cX6_isWaiting 5 = .ok (.invokevirtual 104, 3) := by decide +kernel
theorem dX6_isWaiting_8 : decode cX6_isWaiting 8 = .ok (.istore_n 2, 1) := by decide +kernel
theorem dX6_isWaiting_9 : decode cX6_isWaiting 9 = .ok (.aload_n 0, 1) := by decide +kernel
theorem dX6_isWaiting_10 : decode cX6_isWaiting 10 = .ok (.getfield 57, 3) := by decide +kernel
theorem dX6_isWaiting_13 : decode cX6_isWaiting 13 = .ok (.getfield 134, 3) := by decide +kernel
theorem dX6_isWaiting_16 : decode cX6_isWaiting 16 = .ok (.iload_n 2, 1) := by decide +kernel
theorem dX6_isWaiting_17 : decode cX6_isWaiting 17 = .ok (.invokevirtual 104, 3) := by decide +kernel
theorem dX6_isWaiting_20 : decode cX6_isWaiting 20 = .ok (.istore_n 3, 1) := by decide +kernel
theorem dX6_isWaiting_21 : decode cX6_isWaiting 21 = .ok (.iload_n 3, 1) := by decide +kernel
theorem dX6_isWaiting_22 : decode cX6_isWaiting 22 = .ok (.sipush 304, 3) := by decide +kernel
theorem dX6_isWaiting_25 : decode cX6_isWaiting 25 = .ok (.if_icmp .eq 24, 3) := by decide +kernel
theorem dX6_isWaiting_28 : decode cX6_isWaiting 28 = .ok (.iload_n 3, 1) := by decide +kernel
theorem dX6_isWaiting_29 : decode cX6_isWaiting 29 = .ok (.sipush 306, 3) := by decide +kernel
theorem dX6_isWaiting_32 : decode cX6_isWaiting 32 = .ok (.if_icmp .eq 17, 3) := by decide +kernel
theorem dX6_isWaiting_35 : decode cX6_isWaiting 35 = .ok (.iload_n 3, 1) := by decide +kernel
theorem dX6_isWaiting_36 : decode cX6_isWaiting 36 = .ok (.sipush 308, 3) := by decide +kernel
theorem dX6_isWaiting_39 : decode cX6_isWaiting 39 = .ok (.if_icmp .eq 10, 3) := by decide +kernel
theorem dX6_isWaiting_42 : decode cX6_isWaiting 42 = .ok (.iload_n 3, 1) := by decide +kernel
theorem dX6_isWaiting_43 : decode cX6_isWaiting 43 = .ok (.sipush 316, 3) := by decide +kernel
theorem dX6_isWaiting_46 : decode cX6_isWaiting 46 = .ok (.if_icmp .ne 7, 3) := by decide +kernel
theorem dX6_isWaiting_49 : decode cX6_isWaiting 49 = .ok (.iconst 1, 1) := by decide +kernel
theorem dX6_isWaiting_50 : decode cX6_isWaiting 50 = .ok (.goto 4, 3) := by decide +kernel
theorem dX6_isWaiting_53 : decode cX6_isWaiting 53 = .ok (.iconst 0, 1) := by decide +kernel
theorem dX6_isWaiting_54 : decode cX6_isWaiting 54 = .ok (.istore 4, 2) := by decide +kernel
theorem dX6_isWaiting_56 : decode cX6_isWaiting 56 = .ok (.iload 4, 2) := by decide +kernel
theorem dX6_isWaiting_58 : decode cX6_isWaiting 58 = .ok (.ifCond .eq 39, 3) := by decide +kernel
theorem dX6_isWaiting_61 : decode cX6_isWaiting 61 = .ok (.aload_n 0, 1) := by decide +kernel
theorem dX6_isWaiting_62 : decode cX6_isWaiting 62 = .ok (.getfield 30, 3) := by decide +kernel
theorem dX6_isWaiting_65 : decode cX6_isWaiting 65 = .ok (.iload_n 1, 1) := by decide +kernel
theorem dX6_isWaiting_66 : decode cX6_isWaiting 66 = .ok (.invokevirtual 104, 3) := by decide +kernel
theorem dX6_isWaiting_69 : decode cX6_isWaiting 69 = .ok (.ifCond .ne 28, 3) := by decide +kernel
theorem dX6_isWaiting_72 : decode cX6_isWaiting 72 = .ok (.aload_n 0, 1) := by decide +kernel
theorem dX6_isWaiting_73 : decode cX6_isWaiting 73 = .ok (.getfield 12, 3) := by decide +kernel
theorem dX6_isWaiting_76 : decode cX6_isWaiting 76 = .ok (.aload_n 0, 1) := by decide +kernel
theorem dX6_isWaiting_77 : decode cX6_isWaiting 77 = .ok (.iload_n 1, 1) := by decide +kernel
theorem dX6_isWaiting_78 : decode cX6_isWaiting 78 = .ok (.iload_n 2, 1) := by decide +kernel
theorem dX6_isWaiting_79 : decode cX6_isWaiting 79 = .ok (.invokevirtual 156, 3) := by decide +kernel
theorem dX6_isWaiting_82 : decode cX6_isWaiting 82 = .ok (.aload_n 0, 1) := by decide +kernel
theorem dX6_isWaiting_83 : decode cX6_isWaiting 83 = .ok (.iload_n 2, 1) := by decide +kernel
theorem dX6_isWaiting_84 : decode cX6_isWaiting 84 = .ok (.invokevirtual 159, 3) := by decide +kernel
theorem dX6_isWaiting_87 : decode cX6_isWaiting 87 = .ok (.invokevirtual 162, 3) := by decide +kernel
theorem dX6_isWaiting_90 : decode cX6_isWaiting 90 = .ok (.ifCond .gt 7, 3) := by decide +kernel
theorem dX6_isWaiting_93 : decode cX6_isWaiting 93 = .ok (.iconst 1, 1) := by decide +kernel
theorem dX6_isWaiting_94 : decode cX6_isWaiting 94 = .ok (.goto 4, 3) := by decide +kernel
theorem dX6_isWaiting_97 : decode cX6_isWaiting 97 = .ok (.iconst 0, 1) := by decide +kernel
theorem dX6_isWaiting_98 : decode cX6_isWaiting 98 = .ok (.ireturn, 1) := by decide +kernel
def mX6_isWaiting_54 (I : iT) (F : fT) (x1 : Int32) (x2 : Int32) (x3 : Int32) (s0 : Int32) : Option (Int32) := if s0 = 0 then some 0 else (mX4_at 168 I x1).bind fun q1 => if q1 = 0 then (mX6_talkedOver I F x1 x2).bind fun q2 => (mX6_sideTaken I F x2).bind fun q3 => (mX1_count I q2 q3).bind fun q4 => if 0 < q4 then some 0 else some 1 else some 0
def mX6_isWaiting_49 (I : iT) (F : fT) (x1 : Int32) (x2 : Int32) (x3 : Int32) : Option (Int32) := mX6_isWaiting_54 I F x1 x2 x3 1
def mX6_isWaiting (I : iT) (F : fT) (x1 : Int32) : Option (Int32) := (mX4_at 166 I x1).bind fun q5 => (mX4_at ((F 148 12) + 47) I q5).bind fun q6 => if q6 = 304 then mX6_isWaiting_49 I F x1 q5 q6 else if q6 = 306 then mX6_isWaiting_49 I F x1 q5 q6 else if q6 = 308 then mX6_isWaiting_49 I F x1 q5 q6 else if q6 = 316 then mX6_isWaiting_49 I F x1 q5 q6 else mX6_isWaiting_54 I F x1 q5 q6 0
set_option maxRecDepth 100000 in
set_option maxHeartbeats 4000000 in
theorem tX6_isWaiting_54 {l : Launch} {K : a_KT} {g : a_GT} {IB : iT} (hko : a_kok K) {J : jT} (I : iT) (F : fT) (x1 : Int32) (x2 : Int32) (x3 : Int32) (s0 : Int32) (hF : FK F) (q : Int32) (hm : mX6_isWaiting_54 I F x1 x2 x3 s0 = some q) : E l K g 3 0 0 yX6_isWaiting cX6_isWaiting 5 (some .boolean) 54 [.ref 148, .int x1, .int x2, .int x3, .null] [.int s0] (hg I IB J F) (fun r2 h2 => r2 = some (.int q) ∧ h2 = hg I IB J F) := by
  unfold mX6_isWaiting_54 at hm
  refine q_istore (i := 4) (by decide) rfl dX6_isWaiting_54 ?_
  refine e_iload (i := 4) rfl dX6_isWaiting_56 ?_
  refine e_if_eq 97 dX6_isWaiting_58 (by decide) (fun c_58 => ?_) (fun c_58 => ?_)
  · have hm := it_p c_58 hm
    refine e_iconst (v := 0) (by decide) dX6_isWaiting_97 ?_
    refine e_zret dX6_isWaiting_98 rfl rfl ?_
    have hm := some_in hm
    subst hm
    exact ⟨rfl, rfl⟩
  · have hm := it_n c_58 hm
    refine e_aload_n (i := 0) rfl dX6_isWaiting_61 ?_
    refine q_getF 6 3 168 dX6_isWaiting_62 fl_RX6_30 rfl iz_148 (fr_148_3 hF.1) ?_
    refine e_iload_n (i := 1) rfl dX6_isWaiting_65 ?_
    obtain ⟨q1, eq1, hm⟩ := ob_some hm
    refine e_cV1 hko dX6_isWaiting_66 ml_RX6_104 iz_168 (by decide) rfl (by omega) (Nat.le_of_ble_eq_true rfl) (tX4_at hko rw_168 I J F hF x1 _ eq1) ?_
    rintro _ _ ⟨rfl, rfl⟩
    refine e_if_ne 97 dX6_isWaiting_69 (by decide) (fun c_69 => ?_) (fun c_69 => ?_)
    · have hm := it_n c_69 hm
      refine e_iconst (v := 0) (by decide) dX6_isWaiting_97 ?_
      refine e_zret dX6_isWaiting_98 rfl rfl ?_
      have hm := some_in hm
      subst hm
      exact ⟨rfl, rfl⟩
    · have hm := it_p c_69 hm
      refine e_aload_n (i := 0) rfl dX6_isWaiting_72 ?_
      refine q_getF 6 0 149 dX6_isWaiting_73 fl_RX6_12 rfl iz_148 (fr_148_0 hF.1) ?_
      refine e_aload_n (i := 0) rfl dX6_isWaiting_76 ?_
      refine e_iload_n (i := 1) rfl dX6_isWaiting_77 ?_
      refine e_iload_n (i := 2) rfl dX6_isWaiting_78 ?_
      obtain ⟨q2, eq2, hm⟩ := ob_some hm
      refine e_cV2 hko dX6_isWaiting_79 ml_RX6_156 iz_148 (by decide) rfl (by omega) (Nat.le_of_ble_eq_true rfl) (tX6_talkedOver hko I J F hF x1 x2 _ eq2) ?_
      rintro _ _ ⟨rfl, rfl⟩
      refine e_aload_n (i := 0) rfl dX6_isWaiting_82 ?_
      refine e_iload_n (i := 2) rfl dX6_isWaiting_83 ?_
      obtain ⟨q3, eq3, hm⟩ := ob_some hm
      refine e_cV1 hko dX6_isWaiting_84 ml_RX6_159 iz_148 (by decide) rfl (by omega) (Nat.le_of_ble_eq_true rfl) (tX6_sideTaken hko I J F hF x2 _ eq3) ?_
      rintro _ _ ⟨rfl, rfl⟩
      obtain ⟨q4, eq4, hm⟩ := ob_some hm
      refine e_cV2 hko dX6_isWaiting_87 ml_RX6_162 iz_149 (by decide) rfl (by omega) (Nat.le_of_ble_eq_true rfl) (tX1_count hko I J F hF q2 q3 _ eq4) ?_
      rintro _ _ ⟨rfl, rfl⟩
      refine e_if_gt 97 dX6_isWaiting_90 (by decide) (fun c_90 => ?_) (fun c_90 => ?_)
      · have hm := it_p c_90 hm
        refine e_iconst (v := 0) (by decide) dX6_isWaiting_97 ?_
        refine e_zret dX6_isWaiting_98 rfl rfl ?_
        have hm := some_in hm
        subst hm
        exact ⟨rfl, rfl⟩
      · have hm := it_n c_90 hm
        refine e_iconst (v := 1) (by decide) dX6_isWaiting_93 ?_
        refine e_goto 98 dX6_isWaiting_94 (by decide) ?_
        refine e_zret dX6_isWaiting_98 rfl rfl ?_
        have hm := some_in hm
        subst hm
        exact ⟨rfl, rfl⟩
set_option maxRecDepth 100000 in
set_option maxHeartbeats 4000000 in
theorem tX6_isWaiting_49 {l : Launch} {K : a_KT} {g : a_GT} {IB : iT} (hko : a_kok K) {J : jT} (I : iT) (F : fT) (x1 : Int32) (x2 : Int32) (x3 : Int32) (hF : FK F) (q : Int32) (hm : mX6_isWaiting_49 I F x1 x2 x3 = some q) : E l K g 3 0 0 yX6_isWaiting cX6_isWaiting 5 (some .boolean) 49 [.ref 148, .int x1, .int x2, .int x3, .null] [] (hg I IB J F) (fun r2 h2 => r2 = some (.int q) ∧ h2 = hg I IB J F) := by
  unfold mX6_isWaiting_49 at hm
  refine e_iconst (v := 1) (by decide) dX6_isWaiting_49 ?_
  refine e_goto 54 dX6_isWaiting_50 (by decide) ?_
  refine e_weak [.ref 148, .int x1, .int x2, .int x3, .null] ⟨rfl, ⟨rfl, ⟨rfl, ⟨rfl, ⟨trivial, trivial⟩⟩⟩⟩⟩ ?_
  exact tX6_isWaiting_54 hko I F x1 x2 x3 1 hF _ hm
set_option maxRecDepth 100000 in
set_option maxHeartbeats 4000000 in
theorem tX6_isWaiting {l : Launch} {K : a_KT} {g : a_GT} {IB : iT} (hko : a_kok K) (I : iT) (J : jT) (F : fT) (hF : FK F) (x1 : Int32) (q : Int32) (hm : mX6_isWaiting I F x1 = some q) : C l K g 3 0 0 yX6_isWaiting cX6_isWaiting 5 (some .boolean) [.ref 148, .int x1] (hg I IB J F) (fun r2 h2 => r2 = some (.int q) ∧ h2 = hg I IB J F) := by
  unfold mX6_isWaiting at hm
  refine c_of [.ref 148, .int x1, .null, .null, .null] (by decide) (Nat.le_of_ble_eq_true rfl) rfl ?_
  refine e_aload_n (i := 0) rfl dX6_isWaiting_0 ?_
  refine q_getF 6 2 166 dX6_isWaiting_1 fl_RX6_27 rfl iz_148 (fr_148_2 hF.1) ?_
  refine e_iload_n (i := 1) rfl dX6_isWaiting_4 ?_
  obtain ⟨q5, eq5, hm⟩ := ob_some hm
  refine e_cV1 hko dX6_isWaiting_5 ml_RX6_104 iz_166 (by decide) rfl (by omega) (Nat.le_of_ble_eq_true rfl) (tX4_at hko rw_166 I J F hF x1 _ eq5) ?_
  rintro _ _ ⟨rfl, rfl⟩
  refine q_istore_n (i := 2) (by decide) rfl dX6_isWaiting_8 ?_
  refine e_aload_n (i := 0) rfl dX6_isWaiting_9 ?_
  refine q_getF 6 12 (F 148 12) dX6_isWaiting_10 fl_RX6_57 rfl iz_148 rfl ?_
  refine q_getF 0 11 ((F 148 12) + 47) dX6_isWaiting_13 fl_RX6_134 rfl (iz_bk hF.2.2.2.2.2.2) (frb_11 hF.1 hF.2.2.2.2.2.2) ?_
  refine e_iload_n (i := 2) rfl dX6_isWaiting_16 ?_
  obtain ⟨q6, eq6, hm⟩ := ob_some hm
  refine e_cV1 hko dX6_isWaiting_17 ml_RX6_104 (iz_row (rwb_47 hF.2.2.2.2.2.2)) (by decide) rfl (by omega) (Nat.le_of_ble_eq_true rfl) (tX4_at hko (rwb_47 hF.2.2.2.2.2.2) I J F hF q5 _ eq6) ?_
  rintro _ _ ⟨rfl, rfl⟩
  refine q_istore_n (i := 3) (by decide) rfl dX6_isWaiting_20 ?_
  refine e_iload_n (i := 3) rfl dX6_isWaiting_21 ?_
  refine e_sipush (v := 304) (by decide) dX6_isWaiting_22 ?_
  refine e_icmp_eq 49 dX6_isWaiting_25 (by decide) (fun c_25 => ?_) (fun c_25 => ?_)
  · have hm := it_p c_25 hm
    refine e_weak [.ref 148, .int x1, .int q5, .int q6, .null] ⟨rfl, ⟨rfl, ⟨rfl, ⟨rfl, ⟨trivial, trivial⟩⟩⟩⟩⟩ ?_
    exact tX6_isWaiting_49 hko I F x1 q5 q6 hF _ hm
  · have hm := it_n c_25 hm
    refine e_iload_n (i := 3) rfl dX6_isWaiting_28 ?_
    refine e_sipush (v := 306) (by decide) dX6_isWaiting_29 ?_
    refine e_icmp_eq 49 dX6_isWaiting_32 (by decide) (fun c_32 => ?_) (fun c_32 => ?_)
    · have hm := it_p c_32 hm
      refine e_weak [.ref 148, .int x1, .int q5, .int q6, .null] ⟨rfl, ⟨rfl, ⟨rfl, ⟨rfl, ⟨trivial, trivial⟩⟩⟩⟩⟩ ?_
      exact tX6_isWaiting_49 hko I F x1 q5 q6 hF _ hm
    · have hm := it_n c_32 hm
      refine e_iload_n (i := 3) rfl dX6_isWaiting_35 ?_
      refine e_sipush (v := 308) (by decide) dX6_isWaiting_36 ?_
      refine e_icmp_eq 49 dX6_isWaiting_39 (by decide) (fun c_39 => ?_) (fun c_39 => ?_)
      · have hm := it_p c_39 hm
        refine e_weak [.ref 148, .int x1, .int q5, .int q6, .null] ⟨rfl, ⟨rfl, ⟨rfl, ⟨rfl, ⟨trivial, trivial⟩⟩⟩⟩⟩ ?_
        exact tX6_isWaiting_49 hko I F x1 q5 q6 hF _ hm
      · have hm := it_n c_39 hm
        refine e_iload_n (i := 3) rfl dX6_isWaiting_42 ?_
        refine e_sipush (v := 316) (by decide) dX6_isWaiting_43 ?_
        refine e_icmp_ne 53 dX6_isWaiting_46 (by decide) (fun c_46 => ?_) (fun c_46 => ?_)
        · have hm := it_n c_46 hm
          refine e_iconst (v := 0) (by decide) dX6_isWaiting_53 ?_
          refine e_weak [.ref 148, .int x1, .int q5, .int q6, .null] ⟨rfl, ⟨rfl, ⟨rfl, ⟨rfl, ⟨trivial, trivial⟩⟩⟩⟩⟩ ?_
          exact tX6_isWaiting_54 hko I F x1 q5 q6 0 hF _ hm
        · have hm := it_p c_46 hm
          refine e_weak [.ref 148, .int x1, .int q5, .int q6, .null] ⟨rfl, ⟨rfl, ⟨rfl, ⟨rfl, ⟨trivial, trivial⟩⟩⟩⟩⟩ ?_
          exact tX6_isWaiting_49 hko I F x1 q5 q6 hF _ hm
theorem dX6_made_0 : decode cX6_made 0 = .ok (.aload_n 0, 1) := by decide +kernel
theorem dX6_made_1 : decode cX6_made 1 = .ok (.getfield 23, 3) := by decide +kernel
theorem dX6_made_4 : decode cX6_made 4 = .ok (.invokevirtual 88, 3) := by decide +kernel
theorem dX6_made_7 : decode cX6_made 7 = .ok (.ireturn, 1) := by decide +kernel
def mX6_made (I : iT) : Option (Int32) := (mX4_size 164 I).bind fun q1 => some q1
set_option maxRecDepth 100000 in
set_option maxHeartbeats 4000000 in
theorem tX6_made {l : Launch} {K : a_KT} {g : a_GT} {IB : iT} (hko : a_kok K) (I : iT) (J : jT) (F : fT) (hF : FK F) (q : Int32) (hm : mX6_made I = some q) : C l K g 1 0 0 yX6_made cX6_made 1 (some .int) [.ref 148] (hg I IB J F) (fun r2 h2 => r2 = some (.int q) ∧ h2 = hg I IB J F) := by
  unfold mX6_made at hm
  refine c_of [.ref 148] (by decide) (Nat.le_of_ble_eq_true rfl) rfl ?_
  refine e_aload_n (i := 0) rfl dX6_made_0 ?_
  refine q_getF 6 1 164 dX6_made_1 fl_RX6_23 rfl iz_148 (fr_148_1 hF.1) ?_
  obtain ⟨q1, eq1, hm⟩ := ob_some hm
  refine e_cV0 hko dX6_made_4 ml_RX6_88 iz_164 (by decide) rfl (by omega) (Nat.le_of_ble_eq_true rfl) (tX4_size hko rw_164 I J F hF _ eq1) ?_
  rintro _ _ ⟨rfl, rfl⟩
  refine e_iret dX6_made_7 rfl ?_
  have hm := some_in hm
  subst hm
  exact ⟨rfl, rfl⟩
theorem dX6_findReady_0 : decode cX6_findReady 0 = .ok (.aload_n 0, 1) := by decide +kernel
theorem dX6_findReady_1 : decode cX6_findReady 1 = .ok (.getfield 48, 3) := by decide +kernel
theorem dX6_findReady_4 : decode cX6_findReady 4 = .ok (.invokevirtual 67, 3) := by decide +kernel
theorem dX6_findReady_7 : decode cX6_findReady 7 = .ok (.iconst 0, 1) := by decide +kernel
theorem dX6_findReady_8 : decode cX6_findReady 8 = .ok (.istore_n 1, 1) := by decide +kernel
theorem dX6_findReady_9 : decode cX6_findReady 9 = .ok (.iload_n 1, 1) := by decide +kernel
theorem dX6_findReady_10 : decode cX6_findReady 10 = .ok (.aload_n 0, 1) := by decide +kernel
theorem dX6_findReady_11 : decode cX6_findReady 11 = .ok (.invokevirtual 101, 3) := by decide +kernel
theorem dX6_findReady_14 : decode cX6_findReady 14 = .ok (.if_icmp .ge 37, 3) := by decide +kernel
theorem dX6_findReady_17 : decode cX6_findReady 17 = .ok (.aload_n 0, 1) := by decide +kernel
theorem dX6_findReady_18 : decode cX6_findReady 18 = .ok (.getfield 30, 3) := by decide +kernel
theorem dX6_findReady_21 : decode cX6_findReady 21 = .ok (.iload_n 1, 1) := by decide +kernel
theorem dX6_findReady_22 : decode cX6_findReady 22 = .ok (.invokevirtual 104, 3) := by decide +kernel
theorem dX6_findReady_25 : decode cX6_findReady 25 = .ok (.ifCond .ne 20, 3) := by decide +kernel
theorem dX6_findReady_28 : decode cX6_findReady 28 = .ok (.aload_n 0, 1) := by decide +kernel
theorem dX6_findReady_29 : decode cX6_findReady 29 = .ok (.iload_n 1, 1) := by decide +kernel
theorem dX6_findReady_30 : decode cX6_findReady 30 = .ok (.invokevirtual 167, 3) := by decide +kernel
theorem dX6_findReady_33 : decode cX6_findReady 33 = .ok (.ifCond .ne 12, 3) := by decide +kernel
theorem dX6_findReady_36 : decode cX6_findReady 36 = .ok (.aload_n 0, 1) := by decide +kernel
theorem dX6_findReady_37 : decode cX6_findReady 37 = .ok (.getfield 48, 3) := by decide +kernel
theorem dX6_findReady_40 : decode cX6_findReady 40 = .ok (.iload_n 1, 1) := by decide +kernel
theorem dX6_findReady_41 : decode cX6_findReady 41 = .ok (.invokevirtual 118, 3) := by decide +kernel
theorem dX6_findReady_44 : decode cX6_findReady 44 = .ok (.pop, 1) := by decide +kernel
theorem dX6_findReady_45 : decode cX6_findReady 45 = .ok (.iinc 1 1, 3) := by decide +kernel
theorem dX6_findReady_48 : decode cX6_findReady 48 = .ok (.goto (-39), 3) := by decide +kernel
theorem dX6_findReady_51 : decode cX6_findReady 51 = .ok (.return_, 1) := by decide +kernel
def mX6_findReady_45 (k9 : iT → fT → Int32 → Option (iT)) (I : iT) (F : fT) (x1 : Int32) : Option (iT) := k9 I F (x1 + 1)
def mX6_findReady_9 : Nat → iT → fT → Int32 → Option (iT)
  | 0, _, _, _ => none
  | n + 1, I, F, x1 => (mX6_made I).bind fun q1 => if q1 ≤ x1 then some I else (mX4_at 168 I x1).bind fun q2 => if q2 = 0 then (mX6_isWaiting I F x1).bind fun q3 => if q3 = 0 then (mX4_add 180 I x1).bind fun q4 => mX6_findReady_45 (mX6_findReady_9 n) q4.2 F x1 else mX6_findReady_45 (mX6_findReady_9 n) I F x1 else mX6_findReady_45 (mX6_findReady_9 n) I F x1
def mX6_findReady (I : iT) (F : fT) : Option (iT) := (mX4_clear 180 I).bind fun q5 => mX6_findReady_9 LF q5 F 0
set_option maxRecDepth 100000 in
set_option maxHeartbeats 4000000 in
theorem tX6_findReady_45 {l : Launch} {K : a_KT} {g : a_GT} {IB : iT} (hko : a_kok K) {J : jT} {k9 : iT → fT → Int32 → Option (iT)} (hk9 : ∀ (I : iT) (F : fT) (x1 : Int32) (_ : FK F) (q : iT), k9 I F x1 = some q → E l K g 4 0 0 yX6_findReady cX6_findReady 2 none 9 [.ref 148, .int x1] [] (hg I IB J F) (fun r2 h2 => r2 = none ∧ h2 = hg q IB J F)) (I : iT) (F : fT) (x1 : Int32) (hF : FK F) (q : iT) (hm : mX6_findReady_45 k9 I F x1 = some q) : E l K g 4 0 0 yX6_findReady cX6_findReady 2 none 45 [.ref 148, .int x1] [] (hg I IB J F) (fun r2 h2 => r2 = none ∧ h2 = hg q IB J F) := by
  unfold mX6_findReady_45 at hm
  refine q_iinc (i := 1) (x1 + 1) rfl ic_1 rfl dX6_findReady_45 ?_
  refine e_goto 9 dX6_findReady_48 (by decide) ?_
  refine e_weak [.ref 148, .int (x1 + 1)] ⟨rfl, ⟨rfl, trivial⟩⟩ ?_
  exact hk9 I F (x1 + 1) hF _ hm
set_option maxRecDepth 100000 in
set_option maxHeartbeats 4000000 in
theorem tX6_findReady_9 {l : Launch} {K : a_KT} {g : a_GT} {IB : iT} (hko : a_kok K) {J : jT} : ∀ (n : Nat) (I : iT) (F : fT) (x1 : Int32) (hF : FK F) (q : iT), mX6_findReady_9 n I F x1 = some q → E l K g 4 0 0 yX6_findReady cX6_findReady 2 none 9 [.ref 148, .int x1] [] (hg I IB J F) (fun r2 h2 => r2 = none ∧ h2 = hg q IB J F) := by
  intro n
  induction n with
  | zero => intro I F x1 hF q hm; cases hm
  | succ n ih =>
    intro I F x1 hF q hm
    rw [mX6_findReady_9] at hm
    refine e_iload_n (i := 1) rfl dX6_findReady_9 ?_
    refine e_aload_n (i := 0) rfl dX6_findReady_10 ?_
    obtain ⟨q1, eq1, hm⟩ := ob_some hm
    refine e_cV0 hko dX6_findReady_11 ml_RX6_101 iz_148 (by decide) rfl (by omega) (Nat.le_of_ble_eq_true rfl) (tX6_made hko I J F hF _ eq1) ?_
    rintro _ _ ⟨rfl, rfl⟩
    refine e_icmp_ge 51 dX6_findReady_14 (by decide) (fun c_14 => ?_) (fun c_14 => ?_)
    · have hm := it_p c_14 hm
      refine e_vret dX6_findReady_51 rfl ?_
      have hm := some_in hm
      subst hm
      exact ⟨rfl, rfl⟩
    · have hm := it_n c_14 hm
      refine e_aload_n (i := 0) rfl dX6_findReady_17 ?_
      refine q_getF 6 3 168 dX6_findReady_18 fl_RX6_30 rfl iz_148 (fr_148_3 hF.1) ?_
      refine e_iload_n (i := 1) rfl dX6_findReady_21 ?_
      obtain ⟨q2, eq2, hm⟩ := ob_some hm
      refine e_cV1 hko dX6_findReady_22 ml_RX6_104 iz_168 (by decide) rfl (by omega) (Nat.le_of_ble_eq_true rfl) (tX4_at hko rw_168 I J F hF x1 _ eq2) ?_
      rintro _ _ ⟨rfl, rfl⟩
      refine e_if_ne 45 dX6_findReady_25 (by decide) (fun c_25 => ?_) (fun c_25 => ?_)
      · have hm := it_n c_25 hm
        refine e_weak [.ref 148, .int x1] ⟨rfl, ⟨rfl, trivial⟩⟩ ?_
        exact tX6_findReady_45 hko (ih) I F x1 hF _ hm
      · have hm := it_p c_25 hm
        refine e_aload_n (i := 0) rfl dX6_findReady_28 ?_
        refine e_iload_n (i := 1) rfl dX6_findReady_29 ?_
        obtain ⟨q3, eq3, hm⟩ := ob_some hm
        refine e_cV1 hko dX6_findReady_30 ml_RX6_167 iz_148 (by decide) rfl (by omega) (Nat.le_of_ble_eq_true rfl) (tX6_isWaiting hko I J F hF x1 _ eq3) ?_
        rintro _ _ ⟨rfl, rfl⟩
        refine e_if_ne 45 dX6_findReady_33 (by decide) (fun c_33 => ?_) (fun c_33 => ?_)
        · have hm := it_n c_33 hm
          refine e_weak [.ref 148, .int x1] ⟨rfl, ⟨rfl, trivial⟩⟩ ?_
          exact tX6_findReady_45 hko (ih) I F x1 hF _ hm
        · have hm := it_p c_33 hm
          refine e_aload_n (i := 0) rfl dX6_findReady_36 ?_
          refine q_getF 6 9 180 dX6_findReady_37 fl_RX6_48 rfl iz_148 (fr_148_9 hF.1) ?_
          refine e_iload_n (i := 1) rfl dX6_findReady_40 ?_
          obtain ⟨q4, eq4, hm⟩ := ob_some hm
          refine e_cV1 hko dX6_findReady_41 ml_RX6_118 iz_180 (by decide) rfl (by omega) (Nat.le_of_ble_eq_true rfl) (tX4_add hko rw_180 I J F hF x1 _ eq4) ?_
          rintro _ _ ⟨rfl, rfl⟩
          refine e_pop rfl dX6_findReady_44 ?_
          refine e_weak [.ref 148, .int x1] ⟨rfl, ⟨rfl, trivial⟩⟩ ?_
          exact tX6_findReady_45 hko (ih) q4.2 F x1 hF _ hm
set_option maxRecDepth 100000 in
set_option maxHeartbeats 4000000 in
theorem tX6_findReady {l : Launch} {K : a_KT} {g : a_GT} {IB : iT} (hko : a_kok K) (I : iT) (J : jT) (F : fT) (hF : FK F) (q : iT) (hm : mX6_findReady I F = some q) : C l K g 4 0 0 yX6_findReady cX6_findReady 2 none [.ref 148] (hg I IB J F) (fun r2 h2 => r2 = none ∧ h2 = hg q IB J F) := by
  unfold mX6_findReady at hm
  refine c_of [.ref 148, .null] (by decide) (Nat.le_of_ble_eq_true rfl) rfl ?_
  refine e_aload_n (i := 0) rfl dX6_findReady_0 ?_
  refine q_getF 6 9 180 dX6_findReady_1 fl_RX6_48 rfl iz_148 (fr_148_9 hF.1) ?_
  obtain ⟨q5, eq5, hm⟩ := ob_some hm
  refine e_cV0 hko dX6_findReady_4 ml_RX6_67 iz_180 (by decide) rfl (by omega) (Nat.le_of_ble_eq_true rfl) (tX4_clear hko rw_180 I J F hF _ eq5) ?_
  rintro _ _ ⟨rfl, rfl⟩
  refine e_iconst (v := 0) (by decide) dX6_findReady_7 ?_
  refine q_istore_n (i := 1) (by decide) rfl dX6_findReady_8 ?_
  refine e_weak [.ref 148, .int 0] ⟨rfl, ⟨rfl, trivial⟩⟩ ?_
  exact tX6_findReady_9 hko LF q5 F 0 hF _ hm
theorem dX6_goOn_0 : decode cX6_goOn 0 = .ok (.aload_n 0, 1) := by decide +kernel
theorem dX6_goOn_1 : decode cX6_goOn 1 = .ok (.getfield 23, 3) := by decide +kernel
theorem dX6_goOn_4 : decode cX6_goOn 4 = .ok (.iload_n 1, 1) := by decide +kernel
theorem dX6_goOn_5 : decode cX6_goOn 5 = .ok (.iload_n 2, 1) := by decide +kernel
theorem dX6_goOn_6 : decode cX6_goOn 6 = .ok (.invokevirtual 115, 3) := by decide +kernel
theorem dX6_goOn_9 : decode cX6_goOn 9 = .ok (.aload_n 0, 1) := by decide +kernel
theorem dX6_goOn_10 : decode cX6_goOn 10 = .ok (.getfield 27, 3) := by decide +kernel
theorem dX6_goOn_13 : decode cX6_goOn 13 = .ok (.iload_n 1, 1) := by decide +kernel
theorem dX6_goOn_14 : decode cX6_goOn 14 = .ok (.aload_n 0, 1) := by decide +kernel
theorem dX6_goOn_15 : decode cX6_goOn 15 = .ok (.getfield 57, 3) := by decide +kernel
theorem dX6_goOn_18 : decode cX6_goOn 18 = .ok (.getfield 128, 3) := by decide +kernel
theorem dX6_goOn_21 : decode cX6_goOn 21 = .ok (.iload_n 2, 1) := by decide +kernel
theorem dX6_goOn_22 : decode cX6_goOn 22 = .ok (.invokevirtual 104, 3) := by decide +kernel
theorem dX6_goOn_25 : decode cX6_goOn 25 = .ok (.invokevirtual 115, 3) := by decide +kernel
theorem dX6_goOn_28 : decode cX6_goOn 28 = .ok (.aload_n 0, 1) := by decide +kernel
theorem dX6_goOn_29 : decode cX6_goOn 29 = .ok (.getfield 36, 3) := by decide +kernel
theorem dX6_goOn_32 : decode cX6_goOn 32 = .ok (.iload_n 1, 1) := by decide +kernel
theorem dX6_goOn_33 : decode cX6_goOn 33 = .ok (.aload_n 0, 1) := by decide +kernel
theorem dX6_goOn_34 : decode cX6_goOn 34 = .ok (.getfield 57, 3) := by decide +kernel
theorem dX6_goOn_37 : decode cX6_goOn 37 = .ok (.iload_n 2, 1) := by decide +kernel
theorem dX6_goOn_38 : decode cX6_goOn 38 = .ok (.invokevirtual 131, 3) := by decide +kernel
theorem dX6_goOn_41 : decode cX6_goOn 41 = .ok (.invokevirtual 115, 3) := by decide +kernel
theorem dX6_goOn_44 : decode cX6_goOn 44 = .ok (.iconst 0, 1) := by decide +kernel
theorem dX6_goOn_45 : decode cX6_goOn 45 = .ok (.istore_n 3, 1) := by decide +kernel
theorem dX6_goOn_46 : decode cX6_goOn 46 = .ok (.iload_n 3, 1) := by decide +kernel
theorem dX6_goOn_47 : decode cX6_goOn 47 = .ok (.aload_n 0, 1) := by decide +kernel
theorem dX6_goOn_48 : decode cX6_goOn 48 = .ok (.getfield 45, 3) := by decide +kernel
theorem dX6_goOn_51 : decode cX6_goOn 51 = .ok (.invokevirtual 88, 3) := by decide +kernel
theorem dX6_goOn_54 : decode cX6_goOn 54 = .ok (.if_icmp .ge 25, 3) := by decide +kernel
theorem dX6_goOn_57 : decode cX6_goOn 57 = .ok (.aload_n 0, 1) := by decide +kernel
theorem dX6_goOn_58 : decode cX6_goOn 58 = .ok (.iload_n 1, 1) := by decide +kernel
theorem dX6_goOn_59 : decode cX6_goOn 59 = .ok (.iconst 1, 1) := by decide +kernel
theorem dX6_goOn_60 : decode cX6_goOn 60 = .ok (.iload_n 3, 1) := by decide +kernel
theorem dX6_goOn_61 : decode cX6_goOn 61 = .ok (.iadd, 1) := by decide +kernel
theorem dX6_goOn_62 : decode cX6_goOn 62 = .ok (.aload_n 0, 1) := by decide +kernel
theorem dX6_goOn_63 : decode cX6_goOn 63 = .ok (.getfield 45, 3) := by decide +kernel
theorem dX6_goOn_66 : decode cX6_goOn 66 = .ok (.iload_n 3, 1) := by decide +kernel
theorem dX6_goOn_67 : decode cX6_goOn 67 = .ok (.invokevirtual 104, 3) := by decide +kernel
theorem dX6_goOn_70 : decode cX6_goOn 70 = .ok (.invokevirtual 124, 3) := by decide +kernel
theorem dX6_goOn_73 : decode cX6_goOn 73 = .ok (.iinc 3 1, 3) := by decide +kernel
theorem dX6_goOn_76 : decode cX6_goOn 76 = .ok (.goto (-30), 3) := by decide +kernel
theorem dX6_goOn_79 : decode cX6_goOn 79 = .ok (.return_, 1) := by decide +kernel
def mX6_goOn_46 : Nat → iT → fT → Int32 → Int32 → Int32 → Option (iT)
  | 0, _, _, _, _, _ => none
  | n + 1, I, F, x1, x2, x3 => (mX4_size 178 I).bind fun q1 => if q1 ≤ x3 then some I else (mX4_at 178 I x3).bind fun q2 => (mX6_setSlot I x1 (1 + x3) q2).bind fun q3 => mX6_goOn_46 n q3 F x1 x2 (x3 + 1)
def mX6_goOn (I : iT) (F : fT) (x1 : Int32) (x2 : Int32) : Option (iT) := (mX4_put 164 I x1 x2).bind fun q4 => (mX4_at ((F 148 12) + 37) q4 x2).bind fun q5 => (mX4_put 166 q4 x1 q5).bind fun q6 => (mX0_channelParams (F 148 12) q6 x2).bind fun q7 => (mX4_put 172 q6 x1 q7).bind fun q8 => mX6_goOn_46 LF q8 F x1 x2 0
set_option maxRecDepth 100000 in
set_option maxHeartbeats 4000000 in
theorem tX6_goOn_46 {l : Launch} {K : a_KT} {g : a_GT} {IB : iT} (hko : a_kok K) {J : jT} : ∀ (n : Nat) (I : iT) (F : fT) (x1 : Int32) (x2 : Int32) (x3 : Int32) (hF : FK F) (q : iT), mX6_goOn_46 n I F x1 x2 x3 = some q → E l K g 3 0 0 yX6_goOn cX6_goOn 4 none 46 [.ref 148, .int x1, .int x2, .int x3] [] (hg I IB J F) (fun r2 h2 => r2 = none ∧ h2 = hg q IB J F) := by
  intro n
  induction n with
  | zero => intro I F x1 x2 x3 hF q hm; cases hm
  | succ n ih =>
    intro I F x1 x2 x3 hF q hm
    rw [mX6_goOn_46] at hm
    refine e_iload_n (i := 3) rfl dX6_goOn_46 ?_
    refine e_aload_n (i := 0) rfl dX6_goOn_47 ?_
    refine q_getF 6 8 178 dX6_goOn_48 fl_RX6_45 rfl iz_148 (fr_148_8 hF.1) ?_
    obtain ⟨q1, eq1, hm⟩ := ob_some hm
    refine e_cV0 hko dX6_goOn_51 ml_RX6_88 iz_178 (by decide) rfl (by omega) (Nat.le_of_ble_eq_true rfl) (tX4_size hko rw_178 I J F hF _ eq1) ?_
    rintro _ _ ⟨rfl, rfl⟩
    refine e_icmp_ge 79 dX6_goOn_54 (by decide) (fun c_54 => ?_) (fun c_54 => ?_)
    · have hm := it_p c_54 hm
      refine e_vret dX6_goOn_79 rfl ?_
      have hm := some_in hm
      subst hm
      exact ⟨rfl, rfl⟩
    · have hm := it_n c_54 hm
      refine e_aload_n (i := 0) rfl dX6_goOn_57 ?_
      refine e_iload_n (i := 1) rfl dX6_goOn_58 ?_
      refine e_iconst (v := 1) (by decide) dX6_goOn_59 ?_
      refine e_iload_n (i := 3) rfl dX6_goOn_60 ?_
      refine e_iadd dX6_goOn_61 ?_
      refine e_aload_n (i := 0) rfl dX6_goOn_62 ?_
      refine q_getF 6 8 178 dX6_goOn_63 fl_RX6_45 rfl iz_148 (fr_148_8 hF.1) ?_
      refine e_iload_n (i := 3) rfl dX6_goOn_66 ?_
      obtain ⟨q2, eq2, hm⟩ := ob_some hm
      refine e_cV1 hko dX6_goOn_67 ml_RX6_104 iz_178 (by decide) rfl (by omega) (Nat.le_of_ble_eq_true rfl) (tX4_at hko rw_178 I J F hF x3 _ eq2) ?_
      rintro _ _ ⟨rfl, rfl⟩
      obtain ⟨q3, eq3, hm⟩ := ob_some hm
      refine e_cV3 hko dX6_goOn_70 ml_RX6_124 iz_148 (by decide) rfl (by omega) (Nat.le_of_ble_eq_true rfl) (tX6_setSlot hko I J F hF x1 (1 + x3) q2 _ eq3) ?_
      rintro _ _ ⟨rfl, rfl⟩
      refine q_iinc (i := 3) (x3 + 1) rfl ic_1 rfl dX6_goOn_73 ?_
      refine e_goto 46 dX6_goOn_76 (by decide) ?_
      refine e_weak [.ref 148, .int x1, .int x2, .int (x3 + 1)] ⟨rfl, ⟨rfl, ⟨rfl, ⟨rfl, trivial⟩⟩⟩⟩ ?_
      exact ih q3 F x1 x2 (x3 + 1) hF _ hm
set_option maxRecDepth 100000 in
set_option maxHeartbeats 4000000 in
theorem tX6_goOn {l : Launch} {K : a_KT} {g : a_GT} {IB : iT} (hko : a_kok K) (I : iT) (J : jT) (F : fT) (hF : FK F) (x1 : Int32) (x2 : Int32) (q : iT) (hm : mX6_goOn I F x1 x2 = some q) : C l K g 3 0 0 yX6_goOn cX6_goOn 4 none [.ref 148, .int x1, .int x2] (hg I IB J F) (fun r2 h2 => r2 = none ∧ h2 = hg q IB J F) := by
  unfold mX6_goOn at hm
  refine c_of [.ref 148, .int x1, .int x2, .null] (by decide) (Nat.le_of_ble_eq_true rfl) rfl ?_
  refine e_aload_n (i := 0) rfl dX6_goOn_0 ?_
  refine q_getF 6 1 164 dX6_goOn_1 fl_RX6_23 rfl iz_148 (fr_148_1 hF.1) ?_
  refine e_iload_n (i := 1) rfl dX6_goOn_4 ?_
  refine e_iload_n (i := 2) rfl dX6_goOn_5 ?_
  obtain ⟨q4, eq4, hm⟩ := ob_some hm
  refine e_cV2 hko dX6_goOn_6 ml_RX6_115 iz_164 (by decide) rfl (by omega) (Nat.le_of_ble_eq_true rfl) (tX4_put hko rw_164 I J F hF x1 x2 _ eq4) ?_
  rintro _ _ ⟨rfl, rfl⟩
  refine e_aload_n (i := 0) rfl dX6_goOn_9 ?_
  refine q_getF 6 2 166 dX6_goOn_10 fl_RX6_27 rfl iz_148 (fr_148_2 hF.1) ?_
  refine e_iload_n (i := 1) rfl dX6_goOn_13 ?_
  refine e_aload_n (i := 0) rfl dX6_goOn_14 ?_
  refine q_getF 6 12 (F 148 12) dX6_goOn_15 fl_RX6_57 rfl iz_148 rfl ?_
  refine q_getF 0 6 ((F 148 12) + 37) dX6_goOn_18 fl_RX6_128 rfl (iz_bk hF.2.2.2.2.2.2) (frb_6 hF.1 hF.2.2.2.2.2.2) ?_
  refine e_iload_n (i := 2) rfl dX6_goOn_21 ?_
  obtain ⟨q5, eq5, hm⟩ := ob_some hm
  refine e_cV1 hko dX6_goOn_22 ml_RX6_104 (iz_row (rwb_37 hF.2.2.2.2.2.2)) (by decide) rfl (by omega) (Nat.le_of_ble_eq_true rfl) (tX4_at hko (rwb_37 hF.2.2.2.2.2.2) q4 J F hF x2 _ eq5) ?_
  rintro _ _ ⟨rfl, rfl⟩
  obtain ⟨q6, eq6, hm⟩ := ob_some hm
  refine e_cV2 hko dX6_goOn_25 ml_RX6_115 iz_166 (by decide) rfl (by omega) (Nat.le_of_ble_eq_true rfl) (tX4_put hko rw_166 q4 J F hF x1 q5 _ eq6) ?_
  rintro _ _ ⟨rfl, rfl⟩
  refine e_aload_n (i := 0) rfl dX6_goOn_28 ?_
  refine q_getF 6 5 172 dX6_goOn_29 fl_RX6_36 rfl iz_148 (fr_148_5 hF.1) ?_
  refine e_iload_n (i := 1) rfl dX6_goOn_32 ?_
  refine e_aload_n (i := 0) rfl dX6_goOn_33 ?_
  refine q_getF 6 12 (F 148 12) dX6_goOn_34 fl_RX6_57 rfl iz_148 rfl ?_
  refine e_iload_n (i := 2) rfl dX6_goOn_37 ?_
  obtain ⟨q7, eq7, hm⟩ := ob_some hm
  refine e_cV1 hko dX6_goOn_38 ml_RX6_131 (iz_bk hF.2.2.2.2.2.2) (by decide) rfl (by omega) (Nat.le_of_ble_eq_true rfl) (tX0_channelParams hko hF.2.2.2.2.2.2 q6 J F hF x2 _ eq7) ?_
  rintro _ _ ⟨rfl, rfl⟩
  obtain ⟨q8, eq8, hm⟩ := ob_some hm
  refine e_cV2 hko dX6_goOn_41 ml_RX6_115 iz_172 (by decide) rfl (by omega) (Nat.le_of_ble_eq_true rfl) (tX4_put hko rw_172 q6 J F hF x1 q7 _ eq8) ?_
  rintro _ _ ⟨rfl, rfl⟩
  refine e_iconst (v := 0) (by decide) dX6_goOn_44 ?_
  refine q_istore_n (i := 3) (by decide) rfl dX6_goOn_45 ?_
  refine e_weak [.ref 148, .int x1, .int x2, .int 0] ⟨rfl, ⟨rfl, ⟨rfl, ⟨rfl, trivial⟩⟩⟩⟩ ?_
  exact tX6_goOn_46 hko LF q8 F x1 x2 0 hF _ hm
theorem dX6_numberOf_0 : decode cX6_numberOf 0 = .ok (.aload_n 0, 1) := by decide +kernel
theorem dX6_numberOf_1 : decode cX6_numberOf 1 = .ok (.getfield 57, 3) := by decide +kernel
theorem dX6_numberOf_4 : decode cX6_numberOf 4 = .ok (.getfield 146, 3) := by decide +kernel
theorem dX6_numberOf_7 : decode cX6_numberOf 7 = .ok (.iload_n 2, 1) := by decide +kernel
theorem dX6_numberOf_8 : decode cX6_numberOf 8 = .ok (.aload_n 0, 1) := by decide +kernel
theorem dX6_numberOf_9 : decode cX6_numberOf 9 = .ok (.getfield 42, 3) := by decide +kernel
theorem dX6_numberOf_12 : decode cX6_numberOf 12 = .ok (.iload_n 1, 1) := by decide +kernel
theorem dX6_numberOf_13 : decode cX6_numberOf 13 = .ok (.bipush 85, 2) := by decide +kernel
theorem dX6_numberOf_15 : decode cX6_numberOf 15 = .ok (.imul, 1) := by decide +kernel
theorem dX6_numberOf_16 : decode cX6_numberOf 16 = .ok (.invokevirtual 150, 3) := by decide +kernel
theorem dX6_numberOf_19 : decode cX6_numberOf 19 = .ok (.ireturn, 1) := by decide +kernel
def mX6_numberOf (I : iT) (F : fT) (x1 : Int32) (x2 : Int32) : Option (Int32 × iT) := (mX8_evaluate ((F 148 12) + 18) 176 I x2 (x1 * 85)).bind fun q1 => some (q1.1, q1.2)
set_option maxRecDepth 100000 in
set_option maxHeartbeats 4000000 in
theorem tX6_numberOf {l : Launch} {K : a_KT} {g : a_GT} {IB : iT} (hko : a_kok K) (I : iT) (J : jT) (F : fT) (hF : FK F) (x1 : Int32) (x2 : Int32) (q : Int32 × iT) (hm : mX6_numberOf I F x1 x2 = some q) : C l K g 3 0 0 yX6_numberOf cX6_numberOf 3 (some .int) [.ref 148, .int x1, .int x2] (hg I IB J F) (fun r2 h2 => r2 = some (.int q.1) ∧ h2 = hg q.2 IB J F) := by
  unfold mX6_numberOf at hm
  refine c_of [.ref 148, .int x1, .int x2] (by decide) (Nat.le_of_ble_eq_true rfl) rfl ?_
  refine e_aload_n (i := 0) rfl dX6_numberOf_0 ?_
  refine q_getF 6 12 (F 148 12) dX6_numberOf_1 fl_RX6_57 rfl iz_148 rfl ?_
  refine q_getF 0 1 ((F 148 12) + 18) dX6_numberOf_4 fl_RX6_146 rfl (iz_bk hF.2.2.2.2.2.2) (frb_1 hF.1 hF.2.2.2.2.2.2) ?_
  refine e_iload_n (i := 2) rfl dX6_numberOf_7 ?_
  refine e_aload_n (i := 0) rfl dX6_numberOf_8 ?_
  refine q_getF 6 7 176 dX6_numberOf_9 fl_RX6_42 rfl iz_148 (fr_148_7 hF.1) ?_
  refine e_iload_n (i := 1) rfl dX6_numberOf_12 ?_
  refine e_bipush (v := 85) (by decide) dX6_numberOf_13 ?_
  refine e_imul dX6_numberOf_15 ?_
  obtain ⟨q1, eq1, hm⟩ := ob_some hm
  refine e_cV3 hko dX6_numberOf_16 ml_RX6_150 (iz_su (bk_su hF.2.2.2.2.2.2)) (by decide) rfl (by omega) (Nat.le_of_ble_eq_true rfl) (tX8_evaluate hko (bk_su hF.2.2.2.2.2.2) rw_176 I J F hF x2 (x1 * 85) _ eq1) ?_
  rintro _ _ ⟨rfl, rfl⟩
  refine e_iret dX6_numberOf_19 rfl ?_
  have hm := some_in hm
  subst hm
  exact ⟨rfl, rfl⟩
theorem dX6_settle_0 : decode cX6_settle 0 = .ok (.iconst 0, 1) := by decide +kernel
theorem dX6_settle_1 : decode cX6_settle 1 = .ok (.istore_n 2, 1) := by decide +kernel
theorem dX6_settle_2 : decode cX6_settle 2 = .ok (.iload_n 2, 1) := by decide +kernel
theorem dX6_settle_3 : decode cX6_settle 3 = .ok (.sipush 250, 3) := by decide +kernel
theorem dX6_settle_6 : decode cX6_settle 6 = .ok (.if_icmp .ge 94, 3) := by decide +kernel
theorem dX6_settle_9 : decode cX6_settle 9 = .ok (.aload_n 0, 1) := by decide +kernel
theorem dX6_settle_10 : decode cX6_settle 10 = .ok (.getfield 27, 3) := by decide +kernel
theorem dX6_settle_13 : decode cX6_settle 13 = .ok (.iload_n 1, 1) := by decide +kernel
theorem dX6_settle_14 : decode cX6_settle 14 = .ok (.invokevirtual 104, 3) := by decide +kernel
theorem dX6_settle_17 : decode cX6_settle 17 = .ok (.istore_n 3, 1) := by decide +kernel
theorem dX6_settle_18 : decode cX6_settle 18 = .ok (.aload_n 0, 1) := by decide +kernel
theorem dX6_settle_19 : decode cX6_settle 19 = .ok (.getfield 57, 3) := by decide +kernel
theorem dX6_settle_22 : decode cX6_settle 22 = .ok (.getfield 134, 3) := by decide +kernel
theorem dX6_settle_25 : decode cX6_settle 25 = .ok (.iload_n 3, 1) := by decide +kernel
theorem dX6_settle_26 : decode cX6_settle 26 = .ok (.invokevirtual 104, 3) := by decide +kernel
theorem dX6_settle_29 : decode cX6_settle 29 = .ok (.sipush 312, 3) := by decide +kernel
theorem dX6_settle_32 : decode cX6_settle 32 = .ok (.if_icmp .eq 6, 3) := by decide +kernel
theorem dX6_settle_35 : decode cX6_settle 35 = .ok (.goto 65, 3) := by decide +kernel
theorem dX6_settle_38 : decode cX6_settle 38 = .ok (.aload_n 0, 1) := by decide +kernel
theorem dX6_settle_39 : decode cX6_settle 39 = .ok (.iload_n 1, 1) := by decide +kernel
theorem dX6_settle_40 : decode cX6_settle 40 = .ok (.aload_n 0, 1) := by decide +kernel
theorem dX6_settle_41 : decode cX6_settle 41 = .ok (.getfield 57, 3) := by decide +kernel
theorem dX6_settle_44 : decode cX6_settle 44 = .ok (.getfield 137, 3) := by decide +kernel
theorem dX6_settle_47 : decode cX6_settle 47 = .ok (.iload_n 3, 1) := by decide +kernel
theorem dX6_settle_48 : decode cX6_settle 48 = .ok (.invokevirtual 104, 3) := by decide +kernel
theorem dX6_settle_51 : decode cX6_settle 51 = .ok (.invokevirtual 140, 3) := by decide +kernel
theorem dX6_settle_54 : decode cX6_settle 54 = .ok (.ifCond .eq 7, 3) := by decide +kernel
theorem dX6_settle_57 : decode cX6_settle 57 = .ok (.iconst 1, 1) := by decide +kernel
theorem dX6_settle_58 : decode cX6_settle 58 = .ok (.goto 4, 3) := by decide +kernel
theorem dX6_settle_61 : decode cX6_settle 61 = .ok (.iconst 0, 1) := by decide +kernel
theorem dX6_settle_62 : decode cX6_settle 62 = .ok (.istore 4, 2) := by decide +kernel
theorem dX6_settle_64 : decode cX6_settle 64 = .ok (.aload_n 0, 1) := by decide +kernel
theorem dX6_settle_65 : decode cX6_settle 65 = .ok (.getfield 27, 3) := by decide +kernel
theorem dX6_settle_68 : decode cX6_settle 68 = .ok (.iload_n 1, 1) := by decide +kernel
theorem dX6_settle_69 : decode cX6_settle 69 = .ok (.iload 4, 2) := by decide +kernel
theorem dX6_settle_71 : decode cX6_settle 71 = .ok (.ifCond .eq 9, 3) := by decide +kernel
theorem dX6_settle_74 : decode cX6_settle 74 = .ok (.iload_n 3, 1) := by decide +kernel
theorem dX6_settle_75 : decode cX6_settle 75 = .ok (.iconst 1, 1) := by decide +kernel
theorem dX6_settle_76 : decode cX6_settle 76 = .ok (.iadd, 1) := by decide +kernel
theorem dX6_settle_77 : decode cX6_settle 77 = .ok (.goto 14, 3) := by decide +kernel
theorem dX6_settle_80 : decode cX6_settle 80 = .ok (.aload_n 0, 1) := by decide +kernel
theorem dX6_settle_81 : decode cX6_settle 81 = .ok (.getfield 57, 3) := by decide +kernel
theorem dX6_settle_84 : decode cX6_settle 84 = .ok (.getfield 143, 3) := by decide +kernel
theorem dX6_settle_87 : decode cX6_settle 87 = .ok (.iload_n 3, 1) := by decide +kernel
theorem dX6_settle_88 : decode cX6_settle 88 = .ok (.invokevirtual 104, 3) := by decide +kernel
theorem dX6_settle_91 : decode cX6_settle 91 = .ok (.invokevirtual 115, 3) := by decide +kernel
theorem dX6_settle_94 : decode cX6_settle 94 = .ok (.iinc 2 1, 3) := by decide +kernel
theorem dX6_settle_97 : decode cX6_settle 97 = .ok (.goto (-95), 3) := by decide +kernel
theorem dX6_settle_100 : decode cX6_settle 100 = .ok (.return_, 1) := by decide +kernel
def mX6_settle_91 (k2 : iT → fT → Int32 → Int32 → Option (iT)) (I : iT) (F : fT) (x1 : Int32) (x2 : Int32) (x3 : Int32) (x4 : Int32) (s0 : Int32) (s1 : Int32) : Option (iT) := (mX4_put 166 I s1 s0).bind fun q1 => k2 q1 F x1 (x2 + 1)
def mX6_settle_62 (k2 : iT → fT → Int32 → Int32 → Option (iT)) (I : iT) (F : fT) (x1 : Int32) (x2 : Int32) (x3 : Int32) (s0 : Int32) : Option (iT) := if s0 = 0 then (mX4_at ((F 148 12) + 51) I x3).bind fun q2 => mX6_settle_91 (k2) I F x1 x2 x3 s0 q2 x1 else mX6_settle_91 (k2) I F x1 x2 x3 s0 (x3 + 1) x1
def mX6_settle_2 : Nat → iT → fT → Int32 → Int32 → Option (iT)
  | 0, _, _, _, _ => none
  | n + 1, I, F, x1, x2 => if 250 ≤ x2 then some I else (mX4_at 166 I x1).bind fun q3 => (mX4_at ((F 148 12) + 47) I q3).bind fun q4 => if q4 = 312 then (mX4_at ((F 148 12) + 53) I q3).bind fun q5 => (mX6_numberOf I F x1 q5).bind fun q6 => if q6.1 = 0 then mX6_settle_62 (mX6_settle_2 n) q6.2 F x1 x2 q3 0 else mX6_settle_62 (mX6_settle_2 n) q6.2 F x1 x2 q3 1 else some I
def mX6_settle (I : iT) (F : fT) (x1 : Int32) : Option (iT) := mX6_settle_2 LF I F x1 0
set_option maxRecDepth 100000 in
set_option maxHeartbeats 4000000 in
theorem tX6_settle_91 {l : Launch} {K : a_KT} {g : a_GT} {IB : iT} (hko : a_kok K) {J : jT} {k2 : iT → fT → Int32 → Int32 → Option (iT)} (hk2 : ∀ (I : iT) (F : fT) (x1 : Int32) (x2 : Int32) (_ : FK F) (q : iT), k2 I F x1 x2 = some q → E l K g 4 0 0 yX6_settle cX6_settle 5 none 2 [.ref 148, .int x1, .int x2, .null, .null] [] (hg I IB J F) (fun r2 h2 => r2 = none ∧ h2 = hg q IB J F)) (I : iT) (F : fT) (x1 : Int32) (x2 : Int32) (x3 : Int32) (x4 : Int32) (s0 : Int32) (s1 : Int32) (hF : FK F) (q : iT) (hm : mX6_settle_91 k2 I F x1 x2 x3 x4 s0 s1 = some q) : E l K g 4 0 0 yX6_settle cX6_settle 5 none 91 [.ref 148, .int x1, .int x2, .int x3, .int x4] [.int s0, .int s1, .ref 166] (hg I IB J F) (fun r2 h2 => r2 = none ∧ h2 = hg q IB J F) := by
  unfold mX6_settle_91 at hm
  obtain ⟨q1, eq1, hm⟩ := ob_some hm
  refine e_cV2 hko dX6_settle_91 ml_RX6_115 iz_166 (by decide) rfl (by omega) (Nat.le_of_ble_eq_true rfl) (tX4_put hko rw_166 I J F hF s1 s0 _ eq1) ?_
  rintro _ _ ⟨rfl, rfl⟩
  refine q_iinc (i := 2) (x2 + 1) rfl ic_1 rfl dX6_settle_94 ?_
  refine e_goto 2 dX6_settle_97 (by decide) ?_
  refine e_weak [.ref 148, .int x1, .int (x2 + 1), .null, .null] ⟨rfl, ⟨rfl, ⟨rfl, ⟨trivial, ⟨trivial, trivial⟩⟩⟩⟩⟩ ?_
  exact hk2 q1 F x1 (x2 + 1) hF _ hm
set_option maxRecDepth 100000 in
set_option maxHeartbeats 4000000 in
theorem tX6_settle_62 {l : Launch} {K : a_KT} {g : a_GT} {IB : iT} (hko : a_kok K) {J : jT} {k2 : iT → fT → Int32 → Int32 → Option (iT)} (hk2 : ∀ (I : iT) (F : fT) (x1 : Int32) (x2 : Int32) (_ : FK F) (q : iT), k2 I F x1 x2 = some q → E l K g 4 0 0 yX6_settle cX6_settle 5 none 2 [.ref 148, .int x1, .int x2, .null, .null] [] (hg I IB J F) (fun r2 h2 => r2 = none ∧ h2 = hg q IB J F)) (I : iT) (F : fT) (x1 : Int32) (x2 : Int32) (x3 : Int32) (s0 : Int32) (hF : FK F) (q : iT) (hm : mX6_settle_62 k2 I F x1 x2 x3 s0 = some q) : E l K g 4 0 0 yX6_settle cX6_settle 5 none 62 [.ref 148, .int x1, .int x2, .int x3, .null] [.int s0] (hg I IB J F) (fun r2 h2 => r2 = none ∧ h2 = hg q IB J F) := by
  unfold mX6_settle_62 at hm
  refine q_istore (i := 4) (by decide) rfl dX6_settle_62 ?_
  refine e_aload_n (i := 0) rfl dX6_settle_64 ?_
  refine q_getF 6 2 166 dX6_settle_65 fl_RX6_27 rfl iz_148 (fr_148_2 hF.1) ?_
  refine e_iload_n (i := 1) rfl dX6_settle_68 ?_
  refine e_iload (i := 4) rfl dX6_settle_69 ?_
  refine e_if_eq 80 dX6_settle_71 (by decide) (fun c_71 => ?_) (fun c_71 => ?_)
  · have hm := it_p c_71 hm
    refine e_aload_n (i := 0) rfl dX6_settle_80 ?_
    refine q_getF 6 12 (F 148 12) dX6_settle_81 fl_RX6_57 rfl iz_148 rfl ?_
    refine q_getF 0 13 ((F 148 12) + 51) dX6_settle_84 fl_RX6_143 rfl (iz_bk hF.2.2.2.2.2.2) (frb_13 hF.1 hF.2.2.2.2.2.2) ?_
    refine e_iload_n (i := 3) rfl dX6_settle_87 ?_
    obtain ⟨q2, eq2, hm⟩ := ob_some hm
    refine e_cV1 hko dX6_settle_88 ml_RX6_104 (iz_row (rwb_51 hF.2.2.2.2.2.2)) (by decide) rfl (by omega) (Nat.le_of_ble_eq_true rfl) (tX4_at hko (rwb_51 hF.2.2.2.2.2.2) I J F hF x3 _ eq2) ?_
    rintro _ _ ⟨rfl, rfl⟩
    refine e_weak [.ref 148, .int x1, .int x2, .int x3, .int s0] ⟨rfl, ⟨rfl, ⟨rfl, ⟨rfl, ⟨rfl, trivial⟩⟩⟩⟩⟩ ?_
    exact tX6_settle_91 hko (hk2) I F x1 x2 x3 s0 q2 x1 hF _ hm
  · have hm := it_n c_71 hm
    refine e_iload_n (i := 3) rfl dX6_settle_74 ?_
    refine e_iconst (v := 1) (by decide) dX6_settle_75 ?_
    refine e_iadd dX6_settle_76 ?_
    refine e_goto 91 dX6_settle_77 (by decide) ?_
    refine e_weak [.ref 148, .int x1, .int x2, .int x3, .int s0] ⟨rfl, ⟨rfl, ⟨rfl, ⟨rfl, ⟨rfl, trivial⟩⟩⟩⟩⟩ ?_
    exact tX6_settle_91 hko (hk2) I F x1 x2 x3 s0 (x3 + 1) x1 hF _ hm
set_option maxRecDepth 100000 in
set_option maxHeartbeats 4000000 in
theorem tX6_settle_2 {l : Launch} {K : a_KT} {g : a_GT} {IB : iT} (hko : a_kok K) {J : jT} : ∀ (n : Nat) (I : iT) (F : fT) (x1 : Int32) (x2 : Int32) (hF : FK F) (q : iT), mX6_settle_2 n I F x1 x2 = some q → E l K g 4 0 0 yX6_settle cX6_settle 5 none 2 [.ref 148, .int x1, .int x2, .null, .null] [] (hg I IB J F) (fun r2 h2 => r2 = none ∧ h2 = hg q IB J F) := by
  intro n
  induction n with
  | zero => intro I F x1 x2 hF q hm; cases hm
  | succ n ih =>
    intro I F x1 x2 hF q hm
    rw [mX6_settle_2] at hm
    refine e_iload_n (i := 2) rfl dX6_settle_2 ?_
    refine e_sipush (v := 250) (by decide) dX6_settle_3 ?_
    refine e_icmp_ge 100 dX6_settle_6 (by decide) (fun c_6 => ?_) (fun c_6 => ?_)
    · have hm := it_p c_6 hm
      refine e_vret dX6_settle_100 rfl ?_
      have hm := some_in hm
      subst hm
      exact ⟨rfl, rfl⟩
    · have hm := it_n c_6 hm
      refine e_aload_n (i := 0) rfl dX6_settle_9 ?_
      refine q_getF 6 2 166 dX6_settle_10 fl_RX6_27 rfl iz_148 (fr_148_2 hF.1) ?_
      refine e_iload_n (i := 1) rfl dX6_settle_13 ?_
      obtain ⟨q3, eq3, hm⟩ := ob_some hm
      refine e_cV1 hko dX6_settle_14 ml_RX6_104 iz_166 (by decide) rfl (by omega) (Nat.le_of_ble_eq_true rfl) (tX4_at hko rw_166 I J F hF x1 _ eq3) ?_
      rintro _ _ ⟨rfl, rfl⟩
      refine q_istore_n (i := 3) (by decide) rfl dX6_settle_17 ?_
      refine e_aload_n (i := 0) rfl dX6_settle_18 ?_
      refine q_getF 6 12 (F 148 12) dX6_settle_19 fl_RX6_57 rfl iz_148 rfl ?_
      refine q_getF 0 11 ((F 148 12) + 47) dX6_settle_22 fl_RX6_134 rfl (iz_bk hF.2.2.2.2.2.2) (frb_11 hF.1 hF.2.2.2.2.2.2) ?_
      refine e_iload_n (i := 3) rfl dX6_settle_25 ?_
      obtain ⟨q4, eq4, hm⟩ := ob_some hm
      refine e_cV1 hko dX6_settle_26 ml_RX6_104 (iz_row (rwb_47 hF.2.2.2.2.2.2)) (by decide) rfl (by omega) (Nat.le_of_ble_eq_true rfl) (tX4_at hko (rwb_47 hF.2.2.2.2.2.2) I J F hF q3 _ eq4) ?_
      rintro _ _ ⟨rfl, rfl⟩
      refine e_sipush (v := 312) (by decide) dX6_settle_29 ?_
      refine e_icmp_eq 38 dX6_settle_32 (by decide) (fun c_32 => ?_) (fun c_32 => ?_)
      · have hm := it_p c_32 hm
        refine e_aload_n (i := 0) rfl dX6_settle_38 ?_
        refine e_iload_n (i := 1) rfl dX6_settle_39 ?_
        refine e_aload_n (i := 0) rfl dX6_settle_40 ?_
        refine q_getF 6 12 (F 148 12) dX6_settle_41 fl_RX6_57 rfl iz_148 rfl ?_
        refine q_getF 0 14 ((F 148 12) + 53) dX6_settle_44 fl_RX6_137 rfl (iz_bk hF.2.2.2.2.2.2) (frb_14 hF.1 hF.2.2.2.2.2.2) ?_
        refine e_iload_n (i := 3) rfl dX6_settle_47 ?_
        obtain ⟨q5, eq5, hm⟩ := ob_some hm
        refine e_cV1 hko dX6_settle_48 ml_RX6_104 (iz_row (rwb_53 hF.2.2.2.2.2.2)) (by decide) rfl (by omega) (Nat.le_of_ble_eq_true rfl) (tX4_at hko (rwb_53 hF.2.2.2.2.2.2) I J F hF q3 _ eq5) ?_
        rintro _ _ ⟨rfl, rfl⟩
        obtain ⟨q6, eq6, hm⟩ := ob_some hm
        refine e_cV2 hko dX6_settle_51 ml_RX6_140 iz_148 (by decide) rfl (by omega) (Nat.le_of_ble_eq_true rfl) (tX6_numberOf hko I J F hF x1 q5 _ eq6) ?_
        rintro _ _ ⟨rfl, rfl⟩
        refine e_if_eq 61 dX6_settle_54 (by decide) (fun c_54 => ?_) (fun c_54 => ?_)
        · have hm := it_p c_54 hm
          refine e_iconst (v := 0) (by decide) dX6_settle_61 ?_
          refine e_weak [.ref 148, .int x1, .int x2, .int q3, .null] ⟨rfl, ⟨rfl, ⟨rfl, ⟨rfl, ⟨trivial, trivial⟩⟩⟩⟩⟩ ?_
          exact tX6_settle_62 hko (ih) q6.2 F x1 x2 q3 0 hF _ hm
        · have hm := it_n c_54 hm
          refine e_iconst (v := 1) (by decide) dX6_settle_57 ?_
          refine e_goto 62 dX6_settle_58 (by decide) ?_
          refine e_weak [.ref 148, .int x1, .int x2, .int q3, .null] ⟨rfl, ⟨rfl, ⟨rfl, ⟨rfl, ⟨trivial, trivial⟩⟩⟩⟩⟩ ?_
          exact tX6_settle_62 hko (ih) q6.2 F x1 x2 q3 1 hF _ hm
      · have hm := it_n c_32 hm
        refine e_goto 100 dX6_settle_35 (by decide) ?_
        refine e_vret dX6_settle_100 rfl ?_
        have hm := some_in hm
        subst hm
        exact ⟨rfl, rfl⟩
set_option maxRecDepth 100000 in
set_option maxHeartbeats 4000000 in
theorem tX6_settle {l : Launch} {K : a_KT} {g : a_GT} {IB : iT} (hko : a_kok K) (I : iT) (J : jT) (F : fT) (hF : FK F) (x1 : Int32) (q : iT) (hm : mX6_settle I F x1 = some q) : C l K g 4 0 0 yX6_settle cX6_settle 5 none [.ref 148, .int x1] (hg I IB J F) (fun r2 h2 => r2 = none ∧ h2 = hg q IB J F) := by
  unfold mX6_settle at hm
  refine c_of [.ref 148, .int x1, .null, .null, .null] (by decide) (Nat.le_of_ble_eq_true rfl) rfl ?_
  refine e_iconst (v := 0) (by decide) dX6_settle_0 ?_
  refine q_istore_n (i := 2) (by decide) rfl dX6_settle_1 ?_
  refine e_weak [.ref 148, .int x1, .int 0, .null, .null] ⟨rfl, ⟨rfl, ⟨rfl, ⟨trivial, ⟨trivial, trivial⟩⟩⟩⟩⟩ ?_
  exact tX6_settle_2 hko LF I F x1 0 hF _ hm
theorem dX6_start_0 : decode cX6_start 0 = .ok (.aload_n 0, 1) := by decide +kernel
theorem dX6_start_1 : decode cX6_start 1 = .ok (.aload_n 1, 1) := by decide +kernel
theorem dX6_start_2 : decode cX6_start 2 = .ok (.putfield 57, 3) := by decide +kernel
theorem dX6_start_5 : decode cX6_start 5 = .ok (.aload_n 0, 1) := by decide +kernel
theorem dX6_start_6 : decode cX6_start 6 = .ok (.getfield 12, 3) := by decide +kernel
theorem dX6_start_9 : decode cX6_start 9 = .ok (.invokevirtual 64, 3) := by decide +kernel
theorem dX6_start_12 : decode cX6_start 12 = .ok (.aload_n 0, 1) := by decide +kernel
theorem dX6_start_13 : decode cX6_start 13 = .ok (.getfield 23, 3) := by decide +kernel
theorem dX6_start_16 : decode cX6_start 16 = .ok (.invokevirtual 67, 3) := by decide +kernel
theorem dX6_start_19 : decode cX6_start 19 = .ok (.aload_n 0, 1) := by decide +kernel
theorem dX6_start_20 : decode cX6_start 20 = .ok (.getfield 27, 3) := by decide +kernel
theorem dX6_start_23 : decode cX6_start 23 = .ok (.invokevirtual 67, 3) := by decide +kernel
theorem dX6_start_26 : decode cX6_start 26 = .ok (.aload_n 0, 1) := by decide +kernel
theorem dX6_start_27 : decode cX6_start 27 = .ok (.getfield 30, 3) := by decide +kernel
theorem dX6_start_30 : decode cX6_start 30 = .ok (.invokevirtual 67, 3) := by decide +kernel
theorem dX6_start_33 : decode cX6_start 33 = .ok (.aload_n 0, 1) := by decide +kernel
theorem dX6_start_34 : decode cX6_start 34 = .ok (.getfield 33, 3) := by decide +kernel
theorem dX6_start_37 : decode cX6_start 37 = .ok (.invokevirtual 67, 3) := by decide +kernel
theorem dX6_start_40 : decode cX6_start 40 = .ok (.aload_n 0, 1) := by decide +kernel
theorem dX6_start_41 : decode cX6_start 41 = .ok (.getfield 36, 3) := by decide +kernel
theorem dX6_start_44 : decode cX6_start 44 = .ok (.invokevirtual 67, 3) := by decide +kernel
theorem dX6_start_47 : decode cX6_start 47 = .ok (.aload_n 0, 1) := by decide +kernel
theorem dX6_start_48 : decode cX6_start 48 = .ok (.getfield 39, 3) := by decide +kernel
theorem dX6_start_51 : decode cX6_start 51 = .ok (.invokevirtual 67, 3) := by decide +kernel
theorem dX6_start_54 : decode cX6_start 54 = .ok (.aload_n 0, 1) := by decide +kernel
theorem dX6_start_55 : decode cX6_start 55 = .ok (.getfield 45, 3) := by decide +kernel
theorem dX6_start_58 : decode cX6_start 58 = .ok (.invokevirtual 67, 3) := by decide +kernel
theorem dX6_start_61 : decode cX6_start 61 = .ok (.aload_n 0, 1) := by decide +kernel
theorem dX6_start_62 : decode cX6_start 62 = .ok (.getfield 51, 3) := by decide +kernel
theorem dX6_start_65 : decode cX6_start 65 = .ok (.invokevirtual 67, 3) := by decide +kernel
theorem dX6_start_68 : decode cX6_start 68 = .ok (.aload_n 0, 1) := by decide +kernel
theorem dX6_start_69 : decode cX6_start 69 = .ok (.getfield 54, 3) := by decide +kernel
theorem dX6_start_72 : decode cX6_start 72 = .ok (.invokevirtual 67, 3) := by decide +kernel
theorem dX6_start_75 : decode cX6_start 75 = .ok (.aload_n 0, 1) := by decide +kernel
theorem dX6_start_76 : decode cX6_start 76 = .ok (.iconst 0, 1) := by decide +kernel
theorem dX6_start_77 : decode cX6_start 77 = .ok (.putfield 68, 3) := by decide +kernel
theorem dX6_start_80 : decode cX6_start 80 = .ok (.aload_n 0, 1) := by decide +kernel
theorem dX6_start_81 : decode cX6_start 81 = .ok (.iconst 0, 1) := by decide +kernel
theorem dX6_start_82 : decode cX6_start 82 = .ok (.putfield 72, 3) := by decide +kernel
theorem dX6_start_85 : decode cX6_start 85 = .ok (.aload_n 0, 1) := by decide +kernel
theorem dX6_start_86 : decode cX6_start 86 = .ok (.iconst 0, 1) := by decide +kernel
theorem dX6_start_87 : decode cX6_start 87 = .ok (.putfield 75, 3) := by decide +kernel
theorem dX6_start_90 : decode cX6_start 90 = .ok (.aload_n 0, 1) := by decide +kernel
theorem dX6_start_91 : decode cX6_start 91 = .ok (.invokevirtual 79, 3) := by decide +kernel
theorem dX6_start_94 : decode cX6_start 94 = .ok (.pop, 1) := by decide +kernel
theorem dX6_start_95 : decode cX6_start 95 = .ok (.aload_n 0, 1) := by decide +kernel
theorem dX6_start_96 : decode cX6_start 96 = .ok (.iconst 0, 1) := by decide +kernel
theorem dX6_start_97 : decode cX6_start 97 = .ok (.aload_n 0, 1) := by decide +kernel
theorem dX6_start_98 : decode cX6_start 98 = .ok (.getfield 57, 3) := by decide +kernel
theorem dX6_start_101 : decode cX6_start 101 = .ok (.getfield 83, 3) := by decide +kernel
theorem dX6_start_104 : decode cX6_start 104 = .ok (.invokevirtual 88, 3) := by decide +kernel
theorem dX6_start_107 : decode cX6_start 107 = .ok (.iconst 1, 1) := by decide +kernel
theorem dX6_start_108 : decode cX6_start 108 = .ok (.isub, 1) := by decide +kernel
theorem dX6_start_109 : decode cX6_start 109 = .ok (.invokevirtual 91, 3) := by decide +kernel
theorem dX6_start_112 : decode cX6_start 112 = .ok (.aload_n 0, 1) := by decide +kernel
theorem dX6_start_113 : decode cX6_start 113 = .ok (.iconst 0, 1) := by decide +kernel
theorem dX6_start_114 : decode cX6_start 114 = .ok (.invokevirtual 95, 3) := by decide +kernel
theorem dX6_start_117 : decode cX6_start 117 = .ok (.aload_n 0, 1) := by decide +kernel
theorem dX6_start_118 : decode cX6_start 118 = .ok (.invokevirtual 98, 3) := by decide +kernel
theorem dX6_start_121 : decode cX6_start 121 = .ok (.return_, 1) := by decide +kernel
def mX6_start (a1 : Nat) (I : iT) (F : fT) : Option (iT × fT) := (mX1_clear I).bind fun q2 => (mX4_clear 164 q2).bind fun q3 => (mX4_clear 166 q3).bind fun q4 => (mX4_clear 168 q4).bind fun q5 => (mX4_clear 170 q5).bind fun q6 => (mX4_clear 172 q6).bind fun q7 => (mX4_clear 174 q7).bind fun q8 => (mX4_clear 178 q8).bind fun q9 => (mX4_clear 182 q9).bind fun q10 => (mX4_clear 184 q10).bind fun q11 => (mX6_addProcess (a_u2 (a_u2 (a_u2 q11 148 13 0) 148 14 0) 148 15 0)).bind fun q12 => (mX4_size (((a_u2 F 148 12 a1) 148 12) + 33) q12.2).bind fun q13 => (mX6_goOn q12.2 (a_u2 F 148 12 a1) 0 (q13 - 1)).bind fun q14 => (mX6_settle q14 (a_u2 F 148 12 a1) 0).bind fun q15 => (mX6_findReady q15 (a_u2 F 148 12 a1)).bind fun q16 => some (q16, a_u2 F 148 12 a1)
set_option maxRecDepth 100000 in
set_option maxHeartbeats 4000000 in
theorem tX6_start {l : Launch} {K : a_KT} {g : a_GT} {IB : iT} (hko : a_kok K) {a1 : Nat} (ha1 : isBook a1) (I : iT) (J : jT) (F : fT) (hF : FK F) (q : iT × fT) (hm : mX6_start a1 I F = some q) : C l K g 5 0 0 yX6_start cX6_start 2 none [.ref 148, .ref a1] (hg I IB J F) (fun r2 h2 => r2 = none ∧ h2 = hg q.1 IB J q.2 ∧ FK q.2) := by
  unfold mX6_start at hm
  refine c_of [.ref 148, .ref a1] (by decide) (Nat.le_of_ble_eq_true rfl) rfl ?_
  refine e_aload_n (i := 0) rfl dX6_start_0 ?_
  refine e_aload_n (i := 1) rfl dX6_start_1 ?_
  refine q_putF 6 12 dX6_start_2 fl_RX6_57 (Or.inl rfl) rfl iz_148 ?_
  have hF1 := fk_148_12 hF ha1
  refine e_aload_n (i := 0) rfl dX6_start_5 ?_
  refine q_getF 6 0 149 dX6_start_6 fl_RX6_12 rfl iz_148 (fr_148_0 hF1.1) ?_
  obtain ⟨q2, eq2, hm⟩ := ob_some hm
  refine e_cV0 hko dX6_start_9 ml_RX6_64 iz_149 (by decide) rfl (by omega) (Nat.le_of_ble_eq_true rfl) (tX1_clear hko I J (a_u2 F 148 12 a1) hF1 _ eq2) ?_
  rintro _ _ ⟨rfl, rfl⟩
  refine e_aload_n (i := 0) rfl dX6_start_12 ?_
  refine q_getF 6 1 164 dX6_start_13 fl_RX6_23 rfl iz_148 (fr_148_1 hF1.1) ?_
  obtain ⟨q3, eq3, hm⟩ := ob_some hm
  refine e_cV0 hko dX6_start_16 ml_RX6_67 iz_164 (by decide) rfl (by omega) (Nat.le_of_ble_eq_true rfl) (tX4_clear hko rw_164 q2 J (a_u2 F 148 12 a1) hF1 _ eq3) ?_
  rintro _ _ ⟨rfl, rfl⟩
  refine e_aload_n (i := 0) rfl dX6_start_19 ?_
  refine q_getF 6 2 166 dX6_start_20 fl_RX6_27 rfl iz_148 (fr_148_2 hF1.1) ?_
  obtain ⟨q4, eq4, hm⟩ := ob_some hm
  refine e_cV0 hko dX6_start_23 ml_RX6_67 iz_166 (by decide) rfl (by omega) (Nat.le_of_ble_eq_true rfl) (tX4_clear hko rw_166 q3 J (a_u2 F 148 12 a1) hF1 _ eq4) ?_
  rintro _ _ ⟨rfl, rfl⟩
  refine e_aload_n (i := 0) rfl dX6_start_26 ?_
  refine q_getF 6 3 168 dX6_start_27 fl_RX6_30 rfl iz_148 (fr_148_3 hF1.1) ?_
  obtain ⟨q5, eq5, hm⟩ := ob_some hm
  refine e_cV0 hko dX6_start_30 ml_RX6_67 iz_168 (by decide) rfl (by omega) (Nat.le_of_ble_eq_true rfl) (tX4_clear hko rw_168 q4 J (a_u2 F 148 12 a1) hF1 _ eq5) ?_
  rintro _ _ ⟨rfl, rfl⟩
  refine e_aload_n (i := 0) rfl dX6_start_33 ?_
  refine q_getF 6 4 170 dX6_start_34 fl_RX6_33 rfl iz_148 (fr_148_4 hF1.1) ?_
  obtain ⟨q6, eq6, hm⟩ := ob_some hm
  refine e_cV0 hko dX6_start_37 ml_RX6_67 iz_170 (by decide) rfl (by omega) (Nat.le_of_ble_eq_true rfl) (tX4_clear hko rw_170 q5 J (a_u2 F 148 12 a1) hF1 _ eq6) ?_
  rintro _ _ ⟨rfl, rfl⟩
  refine e_aload_n (i := 0) rfl dX6_start_40 ?_
  refine q_getF 6 5 172 dX6_start_41 fl_RX6_36 rfl iz_148 (fr_148_5 hF1.1) ?_
  obtain ⟨q7, eq7, hm⟩ := ob_some hm
  refine e_cV0 hko dX6_start_44 ml_RX6_67 iz_172 (by decide) rfl (by omega) (Nat.le_of_ble_eq_true rfl) (tX4_clear hko rw_172 q6 J (a_u2 F 148 12 a1) hF1 _ eq7) ?_
  rintro _ _ ⟨rfl, rfl⟩
  refine e_aload_n (i := 0) rfl dX6_start_47 ?_
  refine q_getF 6 6 174 dX6_start_48 fl_RX6_39 rfl iz_148 (fr_148_6 hF1.1) ?_
  obtain ⟨q8, eq8, hm⟩ := ob_some hm
  refine e_cV0 hko dX6_start_51 ml_RX6_67 iz_174 (by decide) rfl (by omega) (Nat.le_of_ble_eq_true rfl) (tX4_clear hko rw_174 q7 J (a_u2 F 148 12 a1) hF1 _ eq8) ?_
  rintro _ _ ⟨rfl, rfl⟩
  refine e_aload_n (i := 0) rfl dX6_start_54 ?_
  refine q_getF 6 8 178 dX6_start_55 fl_RX6_45 rfl iz_148 (fr_148_8 hF1.1) ?_
  obtain ⟨q9, eq9, hm⟩ := ob_some hm
  refine e_cV0 hko dX6_start_58 ml_RX6_67 iz_178 (by decide) rfl (by omega) (Nat.le_of_ble_eq_true rfl) (tX4_clear hko rw_178 q8 J (a_u2 F 148 12 a1) hF1 _ eq9) ?_
  rintro _ _ ⟨rfl, rfl⟩
  refine e_aload_n (i := 0) rfl dX6_start_61 ?_
  refine q_getF 6 10 182 dX6_start_62 fl_RX6_51 rfl iz_148 (fr_148_10 hF1.1) ?_
  obtain ⟨q10, eq10, hm⟩ := ob_some hm
  refine e_cV0 hko dX6_start_65 ml_RX6_67 iz_182 (by decide) rfl (by omega) (Nat.le_of_ble_eq_true rfl) (tX4_clear hko rw_182 q9 J (a_u2 F 148 12 a1) hF1 _ eq10) ?_
  rintro _ _ ⟨rfl, rfl⟩
  refine e_aload_n (i := 0) rfl dX6_start_68 ?_
  refine q_getF 6 11 184 dX6_start_69 fl_RX6_54 rfl iz_148 (fr_148_11 hF1.1) ?_
  obtain ⟨q11, eq11, hm⟩ := ob_some hm
  refine e_cV0 hko dX6_start_72 ml_RX6_67 iz_184 (by decide) rfl (by omega) (Nat.le_of_ble_eq_true rfl) (tX4_clear hko rw_184 q10 J (a_u2 F 148 12 a1) hF1 _ eq11) ?_
  rintro _ _ ⟨rfl, rfl⟩
  refine e_aload_n (i := 0) rfl dX6_start_75 ?_
  refine e_iconst (v := 0) (by decide) dX6_start_76 ?_
  refine k_putI 6 13 dX6_start_77 fl_RX6_68 rfl rfl iz_148 (by decide) ?_
  refine e_aload_n (i := 0) rfl dX6_start_80 ?_
  refine e_iconst (v := 0) (by decide) dX6_start_81 ?_
  refine k_putI 6 14 dX6_start_82 fl_RX6_72 rfl rfl iz_148 (by decide) ?_
  refine e_aload_n (i := 0) rfl dX6_start_85 ?_
  refine e_iconst (v := 0) (by decide) dX6_start_86 ?_
  refine k_putZ 6 15 dX6_start_87 fl_RX6_75 rfl rfl (by decide) iz_148 (by decide) ?_
  refine e_aload_n (i := 0) rfl dX6_start_90 ?_
  obtain ⟨q12, eq12, hm⟩ := ob_some hm
  refine e_cV0 hko dX6_start_91 ml_RX6_79 iz_148 (by decide) rfl (by omega) (Nat.le_of_ble_eq_true rfl) (tX6_addProcess hko (a_u2 (a_u2 (a_u2 q11 148 13 0) 148 14 0) 148 15 0) J (a_u2 F 148 12 a1) hF1 _ eq12) ?_
  rintro _ _ ⟨rfl, rfl⟩
  refine e_pop rfl dX6_start_94 ?_
  refine e_aload_n (i := 0) rfl dX6_start_95 ?_
  refine e_iconst (v := 0) (by decide) dX6_start_96 ?_
  refine e_aload_n (i := 0) rfl dX6_start_97 ?_
  refine q_getF 6 12 ((a_u2 F 148 12 a1) 148 12) dX6_start_98 fl_RX6_57 rfl iz_148 rfl ?_
  refine q_getF 0 4 (((a_u2 F 148 12 a1) 148 12) + 33) dX6_start_101 fl_RX6_83 rfl (iz_bk hF1.2.2.2.2.2.2) (frb_4 hF1.1 hF1.2.2.2.2.2.2) ?_
  obtain ⟨q13, eq13, hm⟩ := ob_some hm
  refine e_cV0 hko dX6_start_104 ml_RX6_88 (iz_row (rwb_33 hF1.2.2.2.2.2.2)) (by decide) rfl (by omega) (Nat.le_of_ble_eq_true rfl) (tX4_size hko (rwb_33 hF1.2.2.2.2.2.2) q12.2 J (a_u2 F 148 12 a1) hF1 _ eq13) ?_
  rintro _ _ ⟨rfl, rfl⟩
  refine e_iconst (v := 1) (by decide) dX6_start_107 ?_
  refine e_isub dX6_start_108 ?_
  obtain ⟨q14, eq14, hm⟩ := ob_some hm
  refine e_cV2 hko dX6_start_109 ml_RX6_91 iz_148 (by decide) rfl (by omega) (Nat.le_of_ble_eq_true rfl) (tX6_goOn hko q12.2 J (a_u2 F 148 12 a1) hF1 0 (q13 - 1) _ eq14) ?_
  rintro _ _ ⟨rfl, rfl⟩
  refine e_aload_n (i := 0) rfl dX6_start_112 ?_
  refine e_iconst (v := 0) (by decide) dX6_start_113 ?_
  obtain ⟨q15, eq15, hm⟩ := ob_some hm
  refine e_cV1 hko dX6_start_114 ml_RX6_95 iz_148 (by decide) rfl (by omega) (Nat.le_of_ble_eq_true rfl) (tX6_settle hko q14 J (a_u2 F 148 12 a1) hF1 0 _ eq15) ?_
  rintro _ _ ⟨rfl, rfl⟩
  refine e_aload_n (i := 0) rfl dX6_start_117 ?_
  obtain ⟨q16, eq16, hm⟩ := ob_some hm
  refine e_cV0 hko dX6_start_118 ml_RX6_98 iz_148 (by decide) rfl (by omega) (Nat.le_of_ble_eq_true rfl) (tX6_findReady hko q15 J (a_u2 F 148 12 a1) hF1 _ eq16) ?_
  rintro _ _ ⟨rfl, rfl⟩
  refine e_vret dX6_start_121 rfl ?_
  have hm := some_in hm
  subst hm
  exact ⟨rfl, rfl, hF1⟩
theorem dX11_begin_0 : decode cX11_begin 0 = .ok (.aload_n 0, 1) := by decide +kernel
theorem dX11_begin_1 : decode cX11_begin 1 = .ok (.getfield 99, 3) := by decide +kernel
theorem dX11_begin_4 : decode cX11_begin 4 = .ok (.ifCond .eq 14, 3) := by decide +kernel
theorem dX11_begin_7 : decode cX11_begin 7 = .ok (.aload_n 0, 1) := by decide +kernel
theorem dX11_begin_8 : decode cX11_begin 8 = .ok (.getfield 52, 3) := by decide +kernel
theorem dX11_begin_11 : decode cX11_begin 11 = .ok (.aload_n 0, 1) := by decide +kernel
theorem dX11_begin_12 : decode cX11_begin 12 = .ok (.getfield 31, 3) := by decide +kernel
theorem dX11_begin_15 : decode cX11_begin 15 = .ok (.invokevirtual 103, 3) := by decide +kernel
theorem dX11_begin_18 : decode cX11_begin 18 = .ok (.aload_n 0, 1) := by decide +kernel
theorem dX11_begin_19 : decode cX11_begin 19 = .ok (.getfield 99, 3) := by decide +kernel
theorem dX11_begin_22 : decode cX11_begin 22 = .ok (.ireturn, 1) := by decide +kernel
def mX11_begin_18 (I : iT) (F : fT) : Option (Int32 × iT × fT) := if (I 1 7) = 0 ∨ (I 1 7) = 1 then some (I 1 7, I, F) else none
def mX11_begin (I : iT) (F : fT) : Option (Int32 × iT × fT) := if (I 1 7) = 0 then mX11_begin_18 I F else (mX6_start (F 1 5) I F).bind fun q1 => mX11_begin_18 q1.1 q1.2
set_option maxRecDepth 100000 in
set_option maxHeartbeats 4000000 in
theorem tX11_begin_18 {l : Launch} {K : a_KT} {g : a_GT} {IB : iT} (hko : a_kok K) {J : jT} (I : iT) (F : fT) (hF : FK F) (q : Int32 × iT × fT) (hm : mX11_begin_18 I F = some q) : E l K g 6 0 0 yX11_begin cX11_begin 1 (some .boolean) 18 [.ref 1] [] (hg I IB J F) (fun r2 h2 => r2 = some (.int q.1) ∧ h2 = hg q.2.1 IB J q.2.2 ∧ FK q.2.2) := by
  unfold mX11_begin_18 at hm
  refine e_aload_n (i := 0) rfl dX11_begin_18 ?_
  refine k_getI 11 7 dX11_begin_19 fl_RX11_99 rfl iz_1 (by decide) ?_
  obtain ⟨c_22, hm⟩ := gd_s hm
  refine e_zret dX11_begin_22 rfl (zz_nar c_22) ?_
  have hm := some_in hm
  subst hm
  exact ⟨rfl, rfl, hF⟩
set_option maxRecDepth 100000 in
set_option maxHeartbeats 4000000 in
theorem tX11_begin {l : Launch} {K : a_KT} {g : a_GT} {IB : iT} (hko : a_kok K) (I : iT) (J : jT) (F : fT) (hF : FK F) (q : Int32 × iT × fT) (hm : mX11_begin I F = some q) : C l K g 6 0 0 yX11_begin cX11_begin 1 (some .boolean) [.ref 1] (hg I IB J F) (fun r2 h2 => r2 = some (.int q.1) ∧ h2 = hg q.2.1 IB J q.2.2 ∧ FK q.2.2) := by
  unfold mX11_begin at hm
  refine c_of [.ref 1] (by decide) (Nat.le_of_ble_eq_true rfl) rfl ?_
  refine e_aload_n (i := 0) rfl dX11_begin_0 ?_
  refine k_getI 11 7 dX11_begin_1 fl_RX11_99 rfl iz_1 (by decide) ?_
  refine e_if_eq 18 dX11_begin_4 (by decide) (fun c_4 => ?_) (fun c_4 => ?_)
  · have hm := it_p c_4 hm
    refine e_weak [.ref 1] ⟨rfl, trivial⟩ ?_
    exact tX11_begin_18 hko I F hF _ hm
  · have hm := it_n c_4 hm
    refine e_aload_n (i := 0) rfl dX11_begin_7 ?_
    refine q_getF 11 4 148 dX11_begin_8 fl_RX11_52 rfl iz_1 (fr_1_4 hF.1) ?_
    refine e_aload_n (i := 0) rfl dX11_begin_11 ?_
    refine q_getF 11 5 (F 1 5) dX11_begin_12 fl_RX11_31 rfl iz_1 rfl ?_
    obtain ⟨q1, eq1, hm⟩ := ob_some hm
    refine e_cV1 hko dX11_begin_15 ml_RX11_103 iz_148 (by decide) rfl (by omega) (Nat.le_of_ble_eq_true rfl) (tX6_start hko hF.2.1 I J F hF _ eq1) ?_
    rintro _ _ ⟨rfl, rfl, hF2⟩
    refine e_weak [.ref 1] ⟨rfl, trivial⟩ ?_
    exact tX11_begin_18 hko q1.1 q1.2 hF2 _ hm
theorem dX11_channel_0 : decode cX11_channel 0 = .ok (.aload_n 0, 1) := by decide +kernel
theorem dX11_channel_1 : decode cX11_channel 1 = .ok (.getfield 52, 3) := by decide +kernel
theorem dX11_channel_4 : decode cX11_channel 4 = .ok (.getfield 121, 3) := by decide +kernel
theorem dX11_channel_7 : decode cX11_channel 7 = .ok (.astore_n 3, 1) := by decide +kernel
theorem dX11_channel_8 : decode cX11_channel 8 = .ok (.iload_n 1, 1) := by decide +kernel
theorem dX11_channel_9 : decode cX11_channel 9 = .ok (.ifCond .lt 11, 3) := by decide +kernel
theorem dX11_channel_12 : decode cX11_channel 12 = .ok (.iload_n 1, 1) := by decide +kernel
theorem dX11_channel_13 : decode cX11_channel 13 = .ok (.aload_n 3, 1) := by decide +kernel
theorem dX11_channel_14 : decode cX11_channel 14 = .ok (.invokevirtual 125, 3) := by decide +kernel
theorem dX11_channel_17 : decode cX11_channel 17 = .ok (.if_icmp .lt 5, 3) := by decide +kernel
theorem dX11_channel_20 : decode cX11_channel 20 = .ok (.iconst (-1), 1) := by decide +kernel
theorem dX11_channel_21 : decode cX11_channel 21 = .ok (.ireturn, 1) := by decide +kernel
theorem dX11_channel_22 : decode cX11_channel 22 = .ok (.iload_n 2, 1) := by decide +kernel
theorem dX11_channel_23 : decode cX11_channel 23 = .ok (.tableswitch 62 0 2 #[25, 36, 47], 25) := by decide +kernel
theorem dX11_channel_48 : decode cX11_channel 48 = .ok (.aload_n 3, 1) := by decide +kernel
theorem dX11_channel_49 : decode cX11_channel 49 = .ok (.aload_n 3, 1) := by decide +kernel
theorem dX11_channel_50 : decode cX11_channel 50 = .ok (.iload_n 1, 1) := by decide +kernel
theorem dX11_channel_51 : decode cX11_channel 51 = .ok (.invokevirtual 204, 3) := by decide +kernel
theorem dX11_channel_54 : decode cX11_channel 54 = .ok (.iconst 0, 1) := by decide +kernel
theorem dX11_channel_55 : decode cX11_channel 55 = .ok (.invokevirtual 207, 3) := by decide +kernel
theorem dX11_channel_58 : decode cX11_channel 58 = .ok (.ireturn, 1) := by decide +kernel
theorem dX11_channel_59 : decode cX11_channel 59 = .ok (.aload_n 3, 1) := by decide +kernel
theorem dX11_channel_60 : decode cX11_channel 60 = .ok (.aload_n 3, 1) := by decide +kernel
theorem dX11_channel_61 : decode cX11_channel 61 = .ok (.iload_n 1, 1) := by decide +kernel
theorem dX11_channel_62 : decode cX11_channel 62 = .ok (.invokevirtual 204, 3) := by decide +kernel
theorem dX11_channel_65 : decode cX11_channel 65 = .ok (.iconst 1, 1) := by decide +kernel
theorem dX11_channel_66 : decode cX11_channel 66 = .ok (.invokevirtual 207, 3) := by decide +kernel
theorem dX11_channel_69 : decode cX11_channel 69 = .ok (.ireturn, 1) := by decide +kernel
theorem dX11_channel_70 : decode cX11_channel 70 = .ok (.aload_n 3, 1) := by decide +kernel
theorem dX11_channel_71 : decode cX11_channel 71 = .ok (.iload_n 1, 1) := by decide +kernel
theorem dX11_channel_72 : decode cX11_channel 72 = .ok (.invokevirtual 204, 3) := by decide +kernel
theorem dX11_channel_75 : decode cX11_channel 75 = .ok (.iload_n 1, 1) := by decide +kernel
theorem dX11_channel_76 : decode cX11_channel 76 = .ok (.if_icmp .ne 7, 3) := by decide +kernel
theorem dX11_channel_79 : decode cX11_channel 79 = .ok (.iconst 0, 1) := by decide +kernel
theorem dX11_channel_80 : decode cX11_channel 80 = .ok (.goto 4, 3) := by decide +kernel
theorem dX11_channel_83 : decode cX11_channel 83 = .ok (.iconst 1, 1) := by decide +kernel
theorem dX11_channel_84 : decode cX11_channel 84 = .ok (.ireturn, 1) := by decide +kernel
theorem dX11_channel_85 : decode cX11_channel 85 = .ok (.iconst (-1), 1) := by decide +kernel
theorem dX11_channel_86 : decode cX11_channel 86 = .ok (.ireturn, 1) := by decide +kernel
def mX11_channel (I : iT) (x1 : Int32) (x2 : Int32) : Option (Int32) := if x1 < 0 then some ((-1)) else (mX1_made I).bind fun q1 => if x1 < q1 then if x2 = 0 then (mX1_follow I x1).bind fun q2 => (mX1_count I q2 0).bind fun q3 => some q3 else if x2 = 1 then (mX1_follow I x1).bind fun q4 => (mX1_count I q4 1).bind fun q5 => some q5 else if x2 = 2 then (mX1_follow I x1).bind fun q6 => if q6 = x1 then some 0 else some 1 else some ((-1)) else some ((-1))
set_option maxRecDepth 100000 in
set_option maxHeartbeats 4000000 in
theorem tX11_channel {l : Launch} {K : a_KT} {g : a_GT} {IB : iT} (hko : a_kok K) (I : iT) (J : jT) (F : fT) (hF : FK F) (x1 : Int32) (x2 : Int32) (q : Int32) (hm : mX11_channel I x1 x2 = some q) : C l K g 2 0 0 yX11_channel cX11_channel 4 (some .int) [.ref 1, .int x1, .int x2] (hg I IB J F) (fun r2 h2 => r2 = some (.int q) ∧ h2 = hg I IB J F) := by
  unfold mX11_channel at hm
  refine c_of [.ref 1, .int x1, .int x2, .null] (by decide) (Nat.le_of_ble_eq_true rfl) rfl ?_
  refine e_aload_n (i := 0) rfl dX11_channel_0 ?_
  refine q_getF 11 4 148 dX11_channel_1 fl_RX11_52 rfl iz_1 (fr_1_4 hF.1) ?_
  refine q_getF 6 0 149 dX11_channel_4 fl_RX11_121 rfl iz_148 (fr_148_0 hF.1) ?_
  refine q_astore_n (i := 3) (by decide) (by decide) rfl dX11_channel_7 ?_
  refine e_iload_n (i := 1) rfl dX11_channel_8 ?_
  refine e_if_lt 20 dX11_channel_9 (by decide) (fun c_9 => ?_) (fun c_9 => ?_)
  · have hm := it_p c_9 hm
    refine e_iconst (v := (-1)) (by decide) dX11_channel_20 ?_
    refine e_iret dX11_channel_21 rfl ?_
    have hm := some_in hm
    subst hm
    exact ⟨rfl, rfl⟩
  · have hm := it_n c_9 hm
    refine e_iload_n (i := 1) rfl dX11_channel_12 ?_
    refine e_aload_n (i := 3) rfl dX11_channel_13 ?_
    obtain ⟨q1, eq1, hm⟩ := ob_some hm
    refine e_cV0 hko dX11_channel_14 ml_RX11_125 iz_149 (by decide) rfl (by omega) (Nat.le_of_ble_eq_true rfl) (tX1_made hko I J F hF _ eq1) ?_
    rintro _ _ ⟨rfl, rfl⟩
    refine e_icmp_lt 22 dX11_channel_17 (by decide) (fun c_17 => ?_) (fun c_17 => ?_)
    · have hm := it_p c_17 hm
      refine e_iload_n (i := 2) rfl dX11_channel_22 ?_
      by_cases c_23_0 : x2 = 0
      · have hm := it_p c_23_0 hm
        refine e_tableIn 48 dX11_channel_23 (by rw [c_23_0]; decide) (by rw [c_23_0]; decide) (off := 25) (by rw [c_23_0]; decide) (by decide) ?_
        refine e_aload_n (i := 3) rfl dX11_channel_48 ?_
        refine e_aload_n (i := 3) rfl dX11_channel_49 ?_
        refine e_iload_n (i := 1) rfl dX11_channel_50 ?_
        obtain ⟨q2, eq2, hm⟩ := ob_some hm
        refine e_cV1 hko dX11_channel_51 ml_RX11_204 iz_149 (by decide) rfl (by omega) (Nat.le_of_ble_eq_true rfl) (tX1_follow hko I J F hF x1 _ eq2) ?_
        rintro _ _ ⟨rfl, rfl⟩
        refine e_iconst (v := 0) (by decide) dX11_channel_54 ?_
        obtain ⟨q3, eq3, hm⟩ := ob_some hm
        refine e_cV2 hko dX11_channel_55 ml_RX11_207 iz_149 (by decide) rfl (by omega) (Nat.le_of_ble_eq_true rfl) (tX1_count hko I J F hF q2 0 _ eq3) ?_
        rintro _ _ ⟨rfl, rfl⟩
        refine e_iret dX11_channel_58 rfl ?_
        have hm := some_in hm
        subst hm
        exact ⟨rfl, rfl⟩
      have hm := it_n c_23_0 hm
      by_cases c_23_1 : x2 = 1
      · have hm := it_p c_23_1 hm
        refine e_tableIn 59 dX11_channel_23 (by rw [c_23_1]; decide) (by rw [c_23_1]; decide) (off := 36) (by rw [c_23_1]; decide) (by decide) ?_
        refine e_aload_n (i := 3) rfl dX11_channel_59 ?_
        refine e_aload_n (i := 3) rfl dX11_channel_60 ?_
        refine e_iload_n (i := 1) rfl dX11_channel_61 ?_
        obtain ⟨q4, eq4, hm⟩ := ob_some hm
        refine e_cV1 hko dX11_channel_62 ml_RX11_204 iz_149 (by decide) rfl (by omega) (Nat.le_of_ble_eq_true rfl) (tX1_follow hko I J F hF x1 _ eq4) ?_
        rintro _ _ ⟨rfl, rfl⟩
        refine e_iconst (v := 1) (by decide) dX11_channel_65 ?_
        obtain ⟨q5, eq5, hm⟩ := ob_some hm
        refine e_cV2 hko dX11_channel_66 ml_RX11_207 iz_149 (by decide) rfl (by omega) (Nat.le_of_ble_eq_true rfl) (tX1_count hko I J F hF q4 1 _ eq5) ?_
        rintro _ _ ⟨rfl, rfl⟩
        refine e_iret dX11_channel_69 rfl ?_
        have hm := some_in hm
        subst hm
        exact ⟨rfl, rfl⟩
      have hm := it_n c_23_1 hm
      by_cases c_23_2 : x2 = 2
      · have hm := it_p c_23_2 hm
        refine e_tableIn 70 dX11_channel_23 (by rw [c_23_2]; decide) (by rw [c_23_2]; decide) (off := 47) (by rw [c_23_2]; decide) (by decide) ?_
        refine e_aload_n (i := 3) rfl dX11_channel_70 ?_
        refine e_iload_n (i := 1) rfl dX11_channel_71 ?_
        obtain ⟨q6, eq6, hm⟩ := ob_some hm
        refine e_cV1 hko dX11_channel_72 ml_RX11_204 iz_149 (by decide) rfl (by omega) (Nat.le_of_ble_eq_true rfl) (tX1_follow hko I J F hF x1 _ eq6) ?_
        rintro _ _ ⟨rfl, rfl⟩
        refine e_iload_n (i := 1) rfl dX11_channel_75 ?_
        refine e_icmp_ne 83 dX11_channel_76 (by decide) (fun c_76 => ?_) (fun c_76 => ?_)
        · have hm := it_n c_76 hm
          refine e_iconst (v := 1) (by decide) dX11_channel_83 ?_
          refine e_iret dX11_channel_84 rfl ?_
          have hm := some_in hm
          subst hm
          exact ⟨rfl, rfl⟩
        · have hm := it_p c_76 hm
          refine e_iconst (v := 0) (by decide) dX11_channel_79 ?_
          refine e_goto 84 dX11_channel_80 (by decide) ?_
          refine e_iret dX11_channel_84 rfl ?_
          have hm := some_in hm
          subst hm
          exact ⟨rfl, rfl⟩
      have hm := it_n c_23_2 hm
      have n_23_0 := lv_neT (a := 0) c_23_0 (by decide)
      have n_23_1 := lv_neT (a := 1) c_23_1 (by decide)
      have n_23_2 := lv_neT (a := 2) c_23_2 (by decide)
      refine e_tableOut 85 dX11_channel_23 (by omega) (by decide) ?_
      refine e_iconst (v := (-1)) (by decide) dX11_channel_85 ?_
      refine e_iret dX11_channel_86 rfl ?_
      have hm := some_in hm
      subst hm
      exact ⟨rfl, rfl⟩
    · have hm := it_n c_17 hm
      refine e_iconst (v := (-1)) (by decide) dX11_channel_20 ?_
      refine e_iret dX11_channel_21 rfl ?_
      have hm := some_in hm
      subst hm
      exact ⟨rfl, rfl⟩
theorem dX11_def_0 : decode cX11_def 0 = .ok (.aload_n 0, 1) := by decide +kernel
theorem dX11_def_1 : decode cX11_def 1 = .ok (.getfield 99, 3) := by decide +kernel
theorem dX11_def_4 : decode cX11_def 4 = .ok (.ifCond .ne 5, 3) := by decide +kernel
theorem dX11_def_7 : decode cX11_def 7 = .ok (.iconst (-1), 1) := by decide +kernel
theorem dX11_def_8 : decode cX11_def 8 = .ok (.ireturn, 1) := by decide +kernel
theorem dX11_def_9 : decode cX11_def 9 = .ok (.iload_n 2, 1) := by decide +kernel
theorem dX11_def_10 : decode cX11_def 10 = .ok (.tableswitch 90 0 3 #[30, 42, 66, 78], 30) := by decide +kernel
theorem dX11_def_40 : decode cX11_def 40 = .ok (.aload_n 0, 1) := by decide +kernel
theorem dX11_def_41 : decode cX11_def 41 = .ok (.getfield 31, 3) := by decide +kernel
theorem dX11_def_44 : decode cX11_def 44 = .ok (.getfield 137, 3) := by decide +kernel
theorem dX11_def_47 : decode cX11_def 47 = .ok (.iload_n 1, 1) := by decide +kernel
theorem dX11_def_48 : decode cX11_def 48 = .ok (.invokevirtual 140, 3) := by decide +kernel
theorem dX11_def_51 : decode cX11_def 51 = .ok (.ireturn, 1) := by decide +kernel
theorem dX11_def_52 : decode cX11_def 52 = .ok (.aload_n 0, 1) := by decide +kernel
theorem dX11_def_53 : decode cX11_def 53 = .ok (.getfield 31, 3) := by decide +kernel
theorem dX11_def_56 : decode cX11_def 56 = .ok (.iload_n 1, 1) := by decide +kernel
theorem dX11_def_57 : decode cX11_def 57 = .ok (.invokevirtual 144, 3) := by decide +kernel
theorem dX11_def_60 : decode cX11_def 60 = .ok (.ifCond .eq 14, 3) := by decide +kernel
theorem dX11_def_63 : decode cX11_def 63 = .ok (.aload_n 0, 1) := by decide +kernel
theorem dX11_def_64 : decode cX11_def 64 = .ok (.getfield 31, 3) := by decide +kernel
theorem dX11_def_67 : decode cX11_def 67 = .ok (.iload_n 1, 1) := by decide +kernel
theorem dX11_def_68 : decode cX11_def 68 = .ok (.invokevirtual 147, 3) := by decide +kernel
theorem dX11_def_71 : decode cX11_def 71 = .ok (.goto 4, 3) := by decide +kernel
theorem dX11_def_74 : decode cX11_def 74 = .ok (.iconst (-1), 1) := by decide +kernel
theorem dX11_def_75 : decode cX11_def 75 = .ok (.ireturn, 1) := by decide +kernel
theorem dX11_def_76 : decode cX11_def 76 = .ok (.aload_n 0, 1) := by decide +kernel
theorem dX11_def_77 : decode cX11_def 77 = .ok (.getfield 31, 3) := by decide +kernel
theorem dX11_def_80 : decode cX11_def 80 = .ok (.getfield 150, 3) := by decide +kernel
theorem dX11_def_83 : decode cX11_def 83 = .ok (.iload_n 1, 1) := by decide +kernel
theorem dX11_def_84 : decode cX11_def 84 = .ok (.invokevirtual 140, 3) := by decide +kernel
theorem dX11_def_87 : decode cX11_def 87 = .ok (.ireturn, 1) := by decide +kernel
theorem dX11_def_88 : decode cX11_def 88 = .ok (.aload_n 0, 1) := by decide +kernel
theorem dX11_def_89 : decode cX11_def 89 = .ok (.getfield 31, 3) := by decide +kernel
theorem dX11_def_92 : decode cX11_def 92 = .ok (.getfield 153, 3) := by decide +kernel
theorem dX11_def_95 : decode cX11_def 95 = .ok (.iload_n 1, 1) := by decide +kernel
theorem dX11_def_96 : decode cX11_def 96 = .ok (.invokevirtual 140, 3) := by decide +kernel
theorem dX11_def_99 : decode cX11_def 99 = .ok (.ireturn, 1) := by decide +kernel
theorem dX11_def_100 : decode cX11_def 100 = .ok (.iconst (-1), 1) := by decide +kernel
theorem dX11_def_101 : decode cX11_def 101 = .ok (.ireturn, 1) := by decide +kernel
def mX11_def (I : iT) (F : fT) (x1 : Int32) (x2 : Int32) : Option (Int32) := if (I 1 7) = 0 then some ((-1)) else if x2 = 0 then (mX4_at ((F 1 5) + 43) I x1).bind fun q1 => some q1 else if x2 = 1 then (mX0_isDef (F 1 5) I x1).bind fun q2 => if q2 = 0 then some ((-1)) else (mX0_channelParams (F 1 5) I x1).bind fun q3 => some q3 else if x2 = 2 then (mX4_at ((F 1 5) + 39) I x1).bind fun q4 => some q4 else if x2 = 3 then (mX4_at ((F 1 5) + 41) I x1).bind fun q5 => some q5 else some ((-1))
set_option maxRecDepth 100000 in
set_option maxHeartbeats 4000000 in
theorem tX11_def {l : Launch} {K : a_KT} {g : a_GT} {IB : iT} (hko : a_kok K) (I : iT) (J : jT) (F : fT) (hF : FK F) (x1 : Int32) (x2 : Int32) (q : Int32) (hm : mX11_def I F x1 x2 = some q) : C l K g 3 0 0 yX11_def cX11_def 3 (some .int) [.ref 1, .int x1, .int x2] (hg I IB J F) (fun r2 h2 => r2 = some (.int q) ∧ h2 = hg I IB J F) := by
  unfold mX11_def at hm
  refine c_of [.ref 1, .int x1, .int x2] (by decide) (Nat.le_of_ble_eq_true rfl) rfl ?_
  refine e_aload_n (i := 0) rfl dX11_def_0 ?_
  refine k_getI 11 7 dX11_def_1 fl_RX11_99 rfl iz_1 (by decide) ?_
  refine e_if_ne 9 dX11_def_4 (by decide) (fun c_4 => ?_) (fun c_4 => ?_)
  · have hm := it_n c_4 hm
    refine e_iload_n (i := 2) rfl dX11_def_9 ?_
    by_cases c_10_0 : x2 = 0
    · have hm := it_p c_10_0 hm
      refine e_tableIn 40 dX11_def_10 (by rw [c_10_0]; decide) (by rw [c_10_0]; decide) (off := 30) (by rw [c_10_0]; decide) (by decide) ?_
      refine e_aload_n (i := 0) rfl dX11_def_40 ?_
      refine q_getF 11 5 (F 1 5) dX11_def_41 fl_RX11_31 rfl iz_1 rfl ?_
      refine q_getF 0 9 ((F 1 5) + 43) dX11_def_44 fl_RX11_137 rfl (iz_bk hF.2.1) (frb_9 hF.1 hF.2.1) ?_
      refine e_iload_n (i := 1) rfl dX11_def_47 ?_
      obtain ⟨q1, eq1, hm⟩ := ob_some hm
      refine e_cV1 hko dX11_def_48 ml_RX11_140 (iz_row (rwb_43 hF.2.1)) (by decide) rfl (by omega) (Nat.le_of_ble_eq_true rfl) (tX4_at hko (rwb_43 hF.2.1) I J F hF x1 _ eq1) ?_
      rintro _ _ ⟨rfl, rfl⟩
      refine e_iret dX11_def_51 rfl ?_
      have hm := some_in hm
      subst hm
      exact ⟨rfl, rfl⟩
    have hm := it_n c_10_0 hm
    by_cases c_10_1 : x2 = 1
    · have hm := it_p c_10_1 hm
      refine e_tableIn 52 dX11_def_10 (by rw [c_10_1]; decide) (by rw [c_10_1]; decide) (off := 42) (by rw [c_10_1]; decide) (by decide) ?_
      refine e_aload_n (i := 0) rfl dX11_def_52 ?_
      refine q_getF 11 5 (F 1 5) dX11_def_53 fl_RX11_31 rfl iz_1 rfl ?_
      refine e_iload_n (i := 1) rfl dX11_def_56 ?_
      obtain ⟨q2, eq2, hm⟩ := ob_some hm
      refine e_cV1 hko dX11_def_57 ml_RX11_144 (iz_bk hF.2.1) (by decide) rfl (by omega) (Nat.le_of_ble_eq_true rfl) (tX0_isDef hko hF.2.1 I J F hF x1 _ eq2) ?_
      rintro _ _ ⟨rfl, rfl⟩
      refine e_if_eq 74 dX11_def_60 (by decide) (fun c_60 => ?_) (fun c_60 => ?_)
      · have hm := it_p c_60 hm
        refine e_iconst (v := (-1)) (by decide) dX11_def_74 ?_
        refine e_iret dX11_def_75 rfl ?_
        have hm := some_in hm
        subst hm
        exact ⟨rfl, rfl⟩
      · have hm := it_n c_60 hm
        refine e_aload_n (i := 0) rfl dX11_def_63 ?_
        refine q_getF 11 5 (F 1 5) dX11_def_64 fl_RX11_31 rfl iz_1 rfl ?_
        refine e_iload_n (i := 1) rfl dX11_def_67 ?_
        obtain ⟨q3, eq3, hm⟩ := ob_some hm
        refine e_cV1 hko dX11_def_68 ml_RX11_147 (iz_bk hF.2.1) (by decide) rfl (by omega) (Nat.le_of_ble_eq_true rfl) (tX0_channelParams hko hF.2.1 I J F hF x1 _ eq3) ?_
        rintro _ _ ⟨rfl, rfl⟩
        refine e_goto 75 dX11_def_71 (by decide) ?_
        refine e_iret dX11_def_75 rfl ?_
        have hm := some_in hm
        subst hm
        exact ⟨rfl, rfl⟩
    have hm := it_n c_10_1 hm
    by_cases c_10_2 : x2 = 2
    · have hm := it_p c_10_2 hm
      refine e_tableIn 76 dX11_def_10 (by rw [c_10_2]; decide) (by rw [c_10_2]; decide) (off := 66) (by rw [c_10_2]; decide) (by decide) ?_
      refine e_aload_n (i := 0) rfl dX11_def_76 ?_
      refine q_getF 11 5 (F 1 5) dX11_def_77 fl_RX11_31 rfl iz_1 rfl ?_
      refine q_getF 0 7 ((F 1 5) + 39) dX11_def_80 fl_RX11_150 rfl (iz_bk hF.2.1) (frb_7 hF.1 hF.2.1) ?_
      refine e_iload_n (i := 1) rfl dX11_def_83 ?_
      obtain ⟨q4, eq4, hm⟩ := ob_some hm
      refine e_cV1 hko dX11_def_84 ml_RX11_140 (iz_row (rwb_39 hF.2.1)) (by decide) rfl (by omega) (Nat.le_of_ble_eq_true rfl) (tX4_at hko (rwb_39 hF.2.1) I J F hF x1 _ eq4) ?_
      rintro _ _ ⟨rfl, rfl⟩
      refine e_iret dX11_def_87 rfl ?_
      have hm := some_in hm
      subst hm
      exact ⟨rfl, rfl⟩
    have hm := it_n c_10_2 hm
    by_cases c_10_3 : x2 = 3
    · have hm := it_p c_10_3 hm
      refine e_tableIn 88 dX11_def_10 (by rw [c_10_3]; decide) (by rw [c_10_3]; decide) (off := 78) (by rw [c_10_3]; decide) (by decide) ?_
      refine e_aload_n (i := 0) rfl dX11_def_88 ?_
      refine q_getF 11 5 (F 1 5) dX11_def_89 fl_RX11_31 rfl iz_1 rfl ?_
      refine q_getF 0 8 ((F 1 5) + 41) dX11_def_92 fl_RX11_153 rfl (iz_bk hF.2.1) (frb_8 hF.1 hF.2.1) ?_
      refine e_iload_n (i := 1) rfl dX11_def_95 ?_
      obtain ⟨q5, eq5, hm⟩ := ob_some hm
      refine e_cV1 hko dX11_def_96 ml_RX11_140 (iz_row (rwb_41 hF.2.1)) (by decide) rfl (by omega) (Nat.le_of_ble_eq_true rfl) (tX4_at hko (rwb_41 hF.2.1) I J F hF x1 _ eq5) ?_
      rintro _ _ ⟨rfl, rfl⟩
      refine e_iret dX11_def_99 rfl ?_
      have hm := some_in hm
      subst hm
      exact ⟨rfl, rfl⟩
    have hm := it_n c_10_3 hm
    have n_10_0 := lv_neT (a := 0) c_10_0 (by decide)
    have n_10_1 := lv_neT (a := 1) c_10_1 (by decide)
    have n_10_2 := lv_neT (a := 2) c_10_2 (by decide)
    have n_10_3 := lv_neT (a := 3) c_10_3 (by decide)
    refine e_tableOut 100 dX11_def_10 (by omega) (by decide) ?_
    refine e_iconst (v := (-1)) (by decide) dX11_def_100 ?_
    refine e_iret dX11_def_101 rfl ?_
    have hm := some_in hm
    subst hm
    exact ⟨rfl, rfl⟩
  · have hm := it_p c_4 hm
    refine e_iconst (v := (-1)) (by decide) dX11_def_7 ?_
    refine e_iret dX11_def_8 rfl ?_
    have hm := some_in hm
    subst hm
    exact ⟨rfl, rfl⟩
theorem dX11_end_0 : decode cX11_end 0 = .ok (.iload_n 1, 1) := by decide +kernel
theorem dX11_end_1 : decode cX11_end 1 = .ok (.ifCond .lt 14, 3) := by decide +kernel
theorem dX11_end_4 : decode cX11_end 4 = .ok (.iload_n 1, 1) := by decide +kernel
theorem dX11_end_5 : decode cX11_end 5 = .ok (.aload_n 0, 1) := by decide +kernel
theorem dX11_end_6 : decode cX11_end 6 = .ok (.getfield 14, 3) := by decide +kernel
theorem dX11_end_9 : decode cX11_end 9 = .ok (.invokevirtual 56, 3) := by decide +kernel
theorem dX11_end_12 : decode cX11_end 12 = .ok (.if_icmp .le 5, 3) := by decide +kernel
theorem dX11_end_15 : decode cX11_end 15 = .ok (.iconst 0, 1) := by decide +kernel
theorem dX11_end_16 : decode cX11_end 16 = .ok (.ireturn, 1) := by decide +kernel
theorem dX11_end_17 : decode cX11_end 17 = .ok (.aload_n 0, 1) := by decide +kernel
theorem dX11_end_18 : decode cX11_end 18 = .ok (.getfield 14, 3) := by decide +kernel
theorem dX11_end_21 : decode cX11_end 21 = .ok (.iload_n 1, 1) := by decide +kernel
theorem dX11_end_22 : decode cX11_end 22 = .ok (.invokevirtual 63, 3) := by decide +kernel
theorem dX11_end_25 : decode cX11_end 25 = .ok (.iconst 1, 1) := by decide +kernel
theorem dX11_end_26 : decode cX11_end 26 = .ok (.ireturn, 1) := by decide +kernel
def mX11_end (I : iT) (x1 : Int32) : Option (Int32 × iT) := if x1 < 0 then some (0, I) else (mX4_size 2 I).bind fun q1 => if x1 ≤ q1 then (mX4_cut 2 I x1).bind fun q2 => some (1, q2) else some (0, I)
set_option maxRecDepth 100000 in
set_option maxHeartbeats 4000000 in
theorem tX11_end {l : Launch} {K : a_KT} {g : a_GT} {IB : iT} (hko : a_kok K) (I : iT) (J : jT) (F : fT) (hF : FK F) (x1 : Int32) (q : Int32 × iT) (hm : mX11_end I x1 = some q) : C l K g 1 0 0 yX11_end cX11_end 2 (some .boolean) [.ref 1, .int x1] (hg I IB J F) (fun r2 h2 => r2 = some (.int q.1) ∧ h2 = hg q.2 IB J F) := by
  unfold mX11_end at hm
  refine c_of [.ref 1, .int x1] (by decide) (Nat.le_of_ble_eq_true rfl) rfl ?_
  refine e_iload_n (i := 1) rfl dX11_end_0 ?_
  refine e_if_lt 15 dX11_end_1 (by decide) (fun c_1 => ?_) (fun c_1 => ?_)
  · have hm := it_p c_1 hm
    refine e_iconst (v := 0) (by decide) dX11_end_15 ?_
    refine e_zret dX11_end_16 rfl rfl ?_
    have hm := some_in hm
    subst hm
    exact ⟨rfl, rfl⟩
  · have hm := it_n c_1 hm
    refine e_iload_n (i := 1) rfl dX11_end_4 ?_
    refine e_aload_n (i := 0) rfl dX11_end_5 ?_
    refine q_getF 11 0 2 dX11_end_6 fl_RX11_14 rfl iz_1 (fr_1_0 hF.1) ?_
    obtain ⟨q1, eq1, hm⟩ := ob_some hm
    refine e_cV0 hko dX11_end_9 ml_RX11_56 iz_2 (by decide) rfl (by omega) (Nat.le_of_ble_eq_true rfl) (tX4_size hko rw_2 I J F hF _ eq1) ?_
    rintro _ _ ⟨rfl, rfl⟩
    refine e_icmp_le 17 dX11_end_12 (by decide) (fun c_12 => ?_) (fun c_12 => ?_)
    · have hm := it_p c_12 hm
      refine e_aload_n (i := 0) rfl dX11_end_17 ?_
      refine q_getF 11 0 2 dX11_end_18 fl_RX11_14 rfl iz_1 (fr_1_0 hF.1) ?_
      refine e_iload_n (i := 1) rfl dX11_end_21 ?_
      obtain ⟨q2, eq2, hm⟩ := ob_some hm
      refine e_cV1 hko dX11_end_22 ml_RX11_63 iz_2 (by decide) rfl (by omega) (Nat.le_of_ble_eq_true rfl) (tX4_cut hko rw_2 I J F hF x1 _ eq2) ?_
      rintro _ _ ⟨rfl, rfl⟩
      refine e_iconst (v := 1) (by decide) dX11_end_25 ?_
      refine e_zret dX11_end_26 rfl rfl ?_
      have hm := some_in hm
      subst hm
      exact ⟨rfl, rfl⟩
    · have hm := it_n c_12 hm
      refine e_iconst (v := 0) (by decide) dX11_end_15 ?_
      refine e_zret dX11_end_16 rfl rfl ?_
      have hm := some_in hm
      subst hm
      exact ⟨rfl, rfl⟩
theorem dX11_fault_0 : decode cX11_fault 0 = .ok (.iload_n 1, 1) := by decide +kernel
theorem dX11_fault_1 : decode cX11_fault 1 = .ok (.lookupswitch 43 #[(0, 27), (1, 35)], 27) := by decide +kernel
theorem dX11_fault_28 : decode cX11_fault 28 = .ok (.aload_n 0, 1) := by decide +kernel
theorem dX11_fault_29 : decode cX11_fault 29 = .ok (.getfield 24, 3) := by decide +kernel
theorem dX11_fault_32 : decode cX11_fault 32 = .ok (.getfield 105, 3) := by decide +kernel
theorem dX11_fault_35 : decode cX11_fault 35 = .ok (.ireturn, 1) := by decide +kernel
theorem dX11_fault_36 : decode cX11_fault 36 = .ok (.aload_n 0, 1) := by decide +kernel
theorem dX11_fault_37 : decode cX11_fault 37 = .ok (.getfield 24, 3) := by decide +kernel
theorem dX11_fault_40 : decode cX11_fault 40 = .ok (.getfield 109, 3) := by decide +kernel
theorem dX11_fault_43 : decode cX11_fault 43 = .ok (.ireturn, 1) := by decide +kernel
theorem dX11_fault_44 : decode cX11_fault 44 = .ok (.iconst (-1), 1) := by decide +kernel
theorem dX11_fault_45 : decode cX11_fault 45 = .ok (.ireturn, 1) := by decide +kernel
def mX11_fault (I : iT) (x1 : Int32) : Option (Int32) := if x1 = 0 then some (I 6 9) else if x1 = 1 then some (I 6 10) else some ((-1))
set_option maxRecDepth 100000 in
set_option maxHeartbeats 4000000 in
theorem tX11_fault {l : Launch} {K : a_KT} {g : a_GT} {IB : iT} (hko : a_kok K) (I : iT) (J : jT) (F : fT) (hF : FK F) (x1 : Int32) (q : Int32) (hm : mX11_fault I x1 = some q) : C l K g 0 0 0 yX11_fault cX11_fault 2 (some .int) [.ref 1, .int x1] (hg I IB J F) (fun r2 h2 => r2 = some (.int q) ∧ h2 = hg I IB J F) := by
  unfold mX11_fault at hm
  refine c_of [.ref 1, .int x1] (by decide) (Nat.le_of_ble_eq_true rfl) rfl ?_
  refine e_iload_n (i := 1) rfl dX11_fault_0 ?_
  by_cases c_1_0 : x1 = 0
  · have hm := it_p c_1_0 hm
    refine e_lookup 28 dX11_fault_1 (by decide) (off := 27) (by rw [c_1_0]; decide) (by decide) ?_
    refine e_aload_n (i := 0) rfl dX11_fault_28 ?_
    refine q_getF 11 2 6 dX11_fault_29 fl_RX11_24 rfl iz_1 (fr_1_2 hF.1) ?_
    refine k_getI 2 9 dX11_fault_32 fl_RX11_105 rfl iz_6 (by decide) ?_
    refine e_iret dX11_fault_35 rfl ?_
    have hm := some_in hm
    subst hm
    exact ⟨rfl, rfl⟩
  have hm := it_n c_1_0 hm
  by_cases c_1_1 : x1 = 1
  · have hm := it_p c_1_1 hm
    refine e_lookup 36 dX11_fault_1 (by decide) (off := 35) (by rw [c_1_1]; decide) (by decide) ?_
    refine e_aload_n (i := 0) rfl dX11_fault_36 ?_
    refine q_getF 11 2 6 dX11_fault_37 fl_RX11_24 rfl iz_1 (fr_1_2 hF.1) ?_
    refine k_getI 2 10 dX11_fault_40 fl_RX11_109 rfl iz_6 (by decide) ?_
    refine e_iret dX11_fault_43 rfl ?_
    have hm := some_in hm
    subst hm
    exact ⟨rfl, rfl⟩
  have hm := it_n c_1_1 hm
  refine e_lookup 44 dX11_fault_1 (by decide) (off := 43) (by show Op.lookupswitch.offset [(0, 27), (1, 35)] 43 _ = _; rw [lv_osw c_1_0 (by decide), lv_osw c_1_1 (by decide)]; try rfl) (by decide) ?_
  refine e_iconst (v := (-1)) (by decide) dX11_fault_44 ?_
  refine e_iret dX11_fault_45 rfl ?_
  have hm := some_in hm
  subst hm
  exact ⟨rfl, rfl⟩
theorem dX11_feed_0 : decode cX11_feed 0 = .ok (.aload_n 0, 1) := by decide +kernel
theorem dX11_feed_1 : decode cX11_feed 1 = .ok (.getfield 14, 3) := by decide +kernel
theorem dX11_feed_4 : decode cX11_feed 4 = .ok (.invokevirtual 56, 3) := by decide +kernel
theorem dX11_feed_7 : decode cX11_feed 7 = .ok (.bipush 20, 2) := by decide +kernel
theorem dX11_feed_9 : decode cX11_feed 9 = .ok (.iadd, 1) := by decide +kernel
theorem dX11_feed_10 : decode cX11_feed 10 = .ok (.sipush 1000, 3) := by decide +kernel
theorem dX11_feed_13 : decode cX11_feed 13 = .ok (.if_icmp .le 5, 3) := by decide +kernel
theorem dX11_feed_16 : decode cX11_feed 16 = .ok (.iconst (-1), 1) := by decide +kernel
theorem dX11_feed_17 : decode cX11_feed 17 = .ok (.ireturn, 1) := by decide +kernel
theorem dX11_feed_18 : decode cX11_feed 18 = .ok (.aload_n 0, 1) := by decide +kernel
theorem dX11_feed_19 : decode cX11_feed 19 = .ok (.getfield 14, 3) := by decide +kernel
theorem dX11_feed_22 : decode cX11_feed 22 = .ok (.iload_n 1, 1) := by decide +kernel
theorem dX11_feed_23 : decode cX11_feed 23 = .ok (.invokevirtual 60, 3) := by decide +kernel
theorem dX11_feed_26 : decode cX11_feed 26 = .ok (.aload_n 0, 1) := by decide +kernel
theorem dX11_feed_27 : decode cX11_feed 27 = .ok (.getfield 14, 3) := by decide +kernel
theorem dX11_feed_30 : decode cX11_feed 30 = .ok (.iload_n 2, 1) := by decide +kernel
theorem dX11_feed_31 : decode cX11_feed 31 = .ok (.invokevirtual 60, 3) := by decide +kernel
theorem dX11_feed_34 : decode cX11_feed 34 = .ok (.aload_n 0, 1) := by decide +kernel
theorem dX11_feed_35 : decode cX11_feed 35 = .ok (.getfield 14, 3) := by decide +kernel
theorem dX11_feed_38 : decode cX11_feed 38 = .ok (.iload_n 3, 1) := by decide +kernel
theorem dX11_feed_39 : decode cX11_feed 39 = .ok (.invokevirtual 60, 3) := by decide +kernel
theorem dX11_feed_42 : decode cX11_feed 42 = .ok (.aload_n 0, 1) := by decide +kernel
theorem dX11_feed_43 : decode cX11_feed 43 = .ok (.getfield 14, 3) := by decide +kernel
theorem dX11_feed_46 : decode cX11_feed 46 = .ok (.iload 4, 2) := by decide +kernel
theorem dX11_feed_48 : decode cX11_feed 48 = .ok (.invokevirtual 60, 3) := by decide +kernel
theorem dX11_feed_51 : decode cX11_feed 51 = .ok (.aload_n 0, 1) := by decide +kernel
theorem dX11_feed_52 : decode cX11_feed 52 = .ok (.getfield 14, 3) := by decide +kernel
theorem dX11_feed_55 : decode cX11_feed 55 = .ok (.iload 5, 2) := by decide +kernel
theorem dX11_feed_57 : decode cX11_feed 57 = .ok (.invokevirtual 60, 3) := by decide +kernel
theorem dX11_feed_60 : decode cX11_feed 60 = .ok (.aload_n 0, 1) := by decide +kernel
theorem dX11_feed_61 : decode cX11_feed 61 = .ok (.getfield 14, 3) := by decide +kernel
theorem dX11_feed_64 : decode cX11_feed 64 = .ok (.invokevirtual 56, 3) := by decide +kernel
theorem dX11_feed_67 : decode cX11_feed 67 = .ok (.ireturn, 1) := by decide +kernel
def mX11_feed (I : iT) (x1 : Int32) (x2 : Int32) (x3 : Int32) (x4 : Int32) (x5 : Int32) : Option (Int32 × iT) := (mX4_size 2 I).bind fun q1 => if (q1 + 20) ≤ 1000 then (mX4_addBytes 2 I x1).bind fun q2 => (mX4_addBytes 2 q2 x2).bind fun q3 => (mX4_addBytes 2 q3 x3).bind fun q4 => (mX4_addBytes 2 q4 x4).bind fun q5 => (mX4_addBytes 2 q5 x5).bind fun q6 => (mX4_size 2 q6).bind fun q7 => some (q7, q6) else some ((-1), I)
set_option maxRecDepth 100000 in
set_option maxHeartbeats 4000000 in
theorem tX11_feed {l : Launch} {K : a_KT} {g : a_GT} {IB : iT} (hko : a_kok K) (I : iT) (J : jT) (F : fT) (hF : FK F) (x1 : Int32) (x2 : Int32) (x3 : Int32) (x4 : Int32) (x5 : Int32) (q : Int32 × iT) (hm : mX11_feed I x1 x2 x3 x4 x5 = some q) : C l K g 2 0 0 yX11_feed cX11_feed 6 (some .int) [.ref 1, .int x1, .int x2, .int x3, .int x4, .int x5] (hg I IB J F) (fun r2 h2 => r2 = some (.int q.1) ∧ h2 = hg q.2 IB J F) := by
  unfold mX11_feed at hm
  refine c_of [.ref 1, .int x1, .int x2, .int x3, .int x4, .int x5] (by decide) (Nat.le_of_ble_eq_true rfl) rfl ?_
  refine e_aload_n (i := 0) rfl dX11_feed_0 ?_
  refine q_getF 11 0 2 dX11_feed_1 fl_RX11_14 rfl iz_1 (fr_1_0 hF.1) ?_
  obtain ⟨q1, eq1, hm⟩ := ob_some hm
  refine e_cV0 hko dX11_feed_4 ml_RX11_56 iz_2 (by decide) rfl (by omega) (Nat.le_of_ble_eq_true rfl) (tX4_size hko rw_2 I J F hF _ eq1) ?_
  rintro _ _ ⟨rfl, rfl⟩
  refine e_bipush (v := 20) (by decide) dX11_feed_7 ?_
  refine e_iadd dX11_feed_9 ?_
  refine e_sipush (v := 1000) (by decide) dX11_feed_10 ?_
  refine e_icmp_le 18 dX11_feed_13 (by decide) (fun c_13 => ?_) (fun c_13 => ?_)
  · have hm := it_p c_13 hm
    refine e_aload_n (i := 0) rfl dX11_feed_18 ?_
    refine q_getF 11 0 2 dX11_feed_19 fl_RX11_14 rfl iz_1 (fr_1_0 hF.1) ?_
    refine e_iload_n (i := 1) rfl dX11_feed_22 ?_
    obtain ⟨q2, eq2, hm⟩ := ob_some hm
    refine e_cV1 hko dX11_feed_23 ml_RX11_60 iz_2 (by decide) rfl (by omega) (Nat.le_of_ble_eq_true rfl) (tX4_addBytes hko rw_2 I J F hF x1 _ eq2) ?_
    rintro _ _ ⟨rfl, rfl⟩
    refine e_aload_n (i := 0) rfl dX11_feed_26 ?_
    refine q_getF 11 0 2 dX11_feed_27 fl_RX11_14 rfl iz_1 (fr_1_0 hF.1) ?_
    refine e_iload_n (i := 2) rfl dX11_feed_30 ?_
    obtain ⟨q3, eq3, hm⟩ := ob_some hm
    refine e_cV1 hko dX11_feed_31 ml_RX11_60 iz_2 (by decide) rfl (by omega) (Nat.le_of_ble_eq_true rfl) (tX4_addBytes hko rw_2 q2 J F hF x2 _ eq3) ?_
    rintro _ _ ⟨rfl, rfl⟩
    refine e_aload_n (i := 0) rfl dX11_feed_34 ?_
    refine q_getF 11 0 2 dX11_feed_35 fl_RX11_14 rfl iz_1 (fr_1_0 hF.1) ?_
    refine e_iload_n (i := 3) rfl dX11_feed_38 ?_
    obtain ⟨q4, eq4, hm⟩ := ob_some hm
    refine e_cV1 hko dX11_feed_39 ml_RX11_60 iz_2 (by decide) rfl (by omega) (Nat.le_of_ble_eq_true rfl) (tX4_addBytes hko rw_2 q3 J F hF x3 _ eq4) ?_
    rintro _ _ ⟨rfl, rfl⟩
    refine e_aload_n (i := 0) rfl dX11_feed_42 ?_
    refine q_getF 11 0 2 dX11_feed_43 fl_RX11_14 rfl iz_1 (fr_1_0 hF.1) ?_
    refine e_iload (i := 4) rfl dX11_feed_46 ?_
    obtain ⟨q5, eq5, hm⟩ := ob_some hm
    refine e_cV1 hko dX11_feed_48 ml_RX11_60 iz_2 (by decide) rfl (by omega) (Nat.le_of_ble_eq_true rfl) (tX4_addBytes hko rw_2 q4 J F hF x4 _ eq5) ?_
    rintro _ _ ⟨rfl, rfl⟩
    refine e_aload_n (i := 0) rfl dX11_feed_51 ?_
    refine q_getF 11 0 2 dX11_feed_52 fl_RX11_14 rfl iz_1 (fr_1_0 hF.1) ?_
    refine e_iload (i := 5) rfl dX11_feed_55 ?_
    obtain ⟨q6, eq6, hm⟩ := ob_some hm
    refine e_cV1 hko dX11_feed_57 ml_RX11_60 iz_2 (by decide) rfl (by omega) (Nat.le_of_ble_eq_true rfl) (tX4_addBytes hko rw_2 q5 J F hF x5 _ eq6) ?_
    rintro _ _ ⟨rfl, rfl⟩
    refine e_aload_n (i := 0) rfl dX11_feed_60 ?_
    refine q_getF 11 0 2 dX11_feed_61 fl_RX11_14 rfl iz_1 (fr_1_0 hF.1) ?_
    obtain ⟨q7, eq7, hm⟩ := ob_some hm
    refine e_cV0 hko dX11_feed_64 ml_RX11_56 iz_2 (by decide) rfl (by omega) (Nat.le_of_ble_eq_true rfl) (tX4_size hko rw_2 q6 J F hF _ eq7) ?_
    rintro _ _ ⟨rfl, rfl⟩
    refine e_iret dX11_feed_67 rfl ?_
    have hm := some_in hm
    subst hm
    exact ⟨rfl, rfl⟩
  · have hm := it_n c_13 hm
    refine e_iconst (v := (-1)) (by decide) dX11_feed_16 ?_
    refine e_iret dX11_feed_17 rfl ?_
    have hm := some_in hm
    subst hm
    exact ⟨rfl, rfl⟩
theorem dX11_takeSpare_0 : decode cX11_takeSpare 0 = .ok (.aload_n 0, 1) := by decide +kernel
theorem dX11_takeSpare_1 : decode cX11_takeSpare 1 = .ok (.getfield 31, 3) := by decide +kernel
theorem dX11_takeSpare_4 : decode cX11_takeSpare 4 = .ok (.astore_n 1, 1) := by decide +kernel
theorem dX11_takeSpare_5 : decode cX11_takeSpare 5 = .ok (.aload_n 0, 1) := by decide +kernel
theorem dX11_takeSpare_6 : decode cX11_takeSpare 6 = .ok (.aload_n 0, 1) := by decide +kernel
theorem dX11_takeSpare_7 : decode cX11_takeSpare 7 = .ok (.getfield 35, 3) := by decide +kernel
theorem dX11_takeSpare_10 : decode cX11_takeSpare 10 = .ok (.putfield 31, 3) := by decide +kernel
theorem dX11_takeSpare_13 : decode cX11_takeSpare 13 = .ok (.aload_n 0, 1) := by decide +kernel
theorem dX11_takeSpare_14 : decode cX11_takeSpare 14 = .ok (.aload_n 1, 1) := by decide +kernel
theorem dX11_takeSpare_15 : decode cX11_takeSpare 15 = .ok (.putfield 35, 3) := by decide +kernel
theorem dX11_takeSpare_18 : decode cX11_takeSpare 18 = .ok (.aload_n 0, 1) := by decide +kernel
theorem dX11_takeSpare_19 : decode cX11_takeSpare 19 = .ok (.iconst 1, 1) := by decide +kernel
theorem dX11_takeSpare_20 : decode cX11_takeSpare 20 = .ok (.putfield 99, 3) := by decide +kernel
theorem dX11_takeSpare_23 : decode cX11_takeSpare 23 = .ok (.aload_n 0, 1) := by decide +kernel
theorem dX11_takeSpare_24 : decode cX11_takeSpare 24 = .ok (.getfield 52, 3) := by decide +kernel
theorem dX11_takeSpare_27 : decode cX11_takeSpare 27 = .ok (.aload_n 0, 1) := by decide +kernel
theorem dX11_takeSpare_28 : decode cX11_takeSpare 28 = .ok (.getfield 31, 3) := by decide +kernel
theorem dX11_takeSpare_31 : decode cX11_takeSpare 31 = .ok (.invokevirtual 103, 3) := by decide +kernel
theorem dX11_takeSpare_34 : decode cX11_takeSpare 34 = .ok (.return_, 1) := by decide +kernel
def mX11_takeSpare (I : iT) (F : fT) : Option (iT × fT) := (mX6_start ((a_u2 (a_u2 F 1 5 (F 1 6)) 1 6 (F 1 5)) 1 5) (a_u2 I 1 7 1) (a_u2 (a_u2 F 1 5 (F 1 6)) 1 6 (F 1 5))).bind fun q3 => some (q3.1, q3.2)
set_option maxRecDepth 100000 in
set_option maxHeartbeats 4000000 in
theorem tX11_takeSpare {l : Launch} {K : a_KT} {g : a_GT} {IB : iT} (hko : a_kok K) (I : iT) (J : jT) (F : fT) (hF : FK F) (q : iT × fT) (hm : mX11_takeSpare I F = some q) : C l K g 6 0 0 yX11_takeSpare cX11_takeSpare 2 none [.ref 1] (hg I IB J F) (fun r2 h2 => r2 = none ∧ h2 = hg q.1 IB J q.2 ∧ FK q.2) := by
  unfold mX11_takeSpare at hm
  refine c_of [.ref 1, .null] (by decide) (Nat.le_of_ble_eq_true rfl) rfl ?_
  refine e_aload_n (i := 0) rfl dX11_takeSpare_0 ?_
  refine q_getF 11 5 (F 1 5) dX11_takeSpare_1 fl_RX11_31 rfl iz_1 rfl ?_
  refine q_astore_n (i := 1) (Nat.ne_of_gt (iz_bk hF.2.1).2.1) (by decide) rfl dX11_takeSpare_4 ?_
  refine e_aload_n (i := 0) rfl dX11_takeSpare_5 ?_
  refine e_aload_n (i := 0) rfl dX11_takeSpare_6 ?_
  refine q_getF 11 6 (F 1 6) dX11_takeSpare_7 fl_RX11_35 rfl iz_1 rfl ?_
  refine q_putF 11 5 dX11_takeSpare_10 fl_RX11_31 (Or.inl rfl) rfl iz_1 ?_
  have hF1 := fk_1_5 hF hF.2.2.1
  refine e_aload_n (i := 0) rfl dX11_takeSpare_13 ?_
  refine e_aload_n (i := 1) rfl dX11_takeSpare_14 ?_
  refine q_putF 11 6 dX11_takeSpare_15 fl_RX11_35 (Or.inl rfl) rfl iz_1 ?_
  have hF2 := fk_1_6 hF1 hF.2.1
  refine e_aload_n (i := 0) rfl dX11_takeSpare_18 ?_
  refine e_iconst (v := 1) (by decide) dX11_takeSpare_19 ?_
  refine k_putZ 11 7 dX11_takeSpare_20 fl_RX11_99 rfl rfl (by decide) iz_1 (by decide) ?_
  refine e_aload_n (i := 0) rfl dX11_takeSpare_23 ?_
  refine q_getF 11 4 148 dX11_takeSpare_24 fl_RX11_52 rfl iz_1 (fr_1_4 hF2.1) ?_
  refine e_aload_n (i := 0) rfl dX11_takeSpare_27 ?_
  refine q_getF 11 5 ((a_u2 (a_u2 F 1 5 (F 1 6)) 1 6 (F 1 5)) 1 5) dX11_takeSpare_28 fl_RX11_31 rfl iz_1 rfl ?_
  obtain ⟨q3, eq3, hm⟩ := ob_some hm
  refine e_cV1 hko dX11_takeSpare_31 ml_RX11_103 iz_148 (by decide) rfl (by omega) (Nat.le_of_ble_eq_true rfl) (tX6_start hko hF2.2.1 (a_u2 I 1 7 1) J (a_u2 (a_u2 F 1 5 (F 1 6)) 1 6 (F 1 5)) hF2 _ eq3) ?_
  rintro _ _ ⟨rfl, rfl, hF4⟩
  refine e_vret dX11_takeSpare_34 rfl ?_
  have hm := some_in hm
  subst hm
  exact ⟨rfl, rfl, hF4⟩
theorem dX11_load_0 : decode cX11_load 0 = .ok (.aload_n 0, 1) := by decide +kernel
theorem dX11_load_1 : decode cX11_load 1 = .ok (.getfield 24, 3) := by decide +kernel
theorem dX11_load_4 : decode cX11_load 4 = .ok (.aload_n 0, 1) := by decide +kernel
theorem dX11_load_5 : decode cX11_load 5 = .ok (.getfield 14, 3) := by decide +kernel
theorem dX11_load_8 : decode cX11_load 8 = .ok (.invokevirtual 66, 3) := by decide +kernel
theorem dX11_load_11 : decode cX11_load 11 = .ok (.aload_n 0, 1) := by decide +kernel
theorem dX11_load_12 : decode cX11_load 12 = .ok (.getfield 14, 3) := by decide +kernel
theorem dX11_load_15 : decode cX11_load 15 = .ok (.invokevirtual 70, 3) := by decide +kernel
theorem dX11_load_18 : decode cX11_load 18 = .ok (.aload_n 0, 1) := by decide +kernel
theorem dX11_load_19 : decode cX11_load 19 = .ok (.getfield 43, 3) := by decide +kernel
theorem dX11_load_22 : decode cX11_load 22 = .ok (.aload_n 0, 1) := by decide +kernel
theorem dX11_load_23 : decode cX11_load 23 = .ok (.getfield 35, 3) := by decide +kernel
theorem dX11_load_26 : decode cX11_load 26 = .ok (.invokevirtual 73, 3) := by decide +kernel
theorem dX11_load_29 : decode cX11_load 29 = .ok (.aload_n 0, 1) := by decide +kernel
theorem dX11_load_30 : decode cX11_load 30 = .ok (.getfield 43, 3) := by decide +kernel
theorem dX11_load_33 : decode cX11_load 33 = .ok (.invokevirtual 76, 3) := by decide +kernel
theorem dX11_load_36 : decode cX11_load 36 = .ok (.iconst 0, 1) := by decide +kernel
theorem dX11_load_37 : decode cX11_load 37 = .ok (.istore_n 1, 1) := by decide +kernel
theorem dX11_load_38 : decode cX11_load 38 = .ok (.iload_n 1, 1) := by decide +kernel
theorem dX11_load_39 : decode cX11_load 39 = .ok (.bipush 12, 2) := by decide +kernel
theorem dX11_load_41 : decode cX11_load 41 = .ok (.if_icmp .gt 42, 3) := by decide +kernel
theorem dX11_load_44 : decode cX11_load 44 = .ok (.aload_n 0, 1) := by decide +kernel
theorem dX11_load_45 : decode cX11_load 45 = .ok (.getfield 24, 3) := by decide +kernel
theorem dX11_load_48 : decode cX11_load 48 = .ok (.invokevirtual 79, 3) := by decide +kernel
theorem dX11_load_51 : decode cX11_load 51 = .ok (.ifCond .ne 32, 3) := by decide +kernel
theorem dX11_load_54 : decode cX11_load 54 = .ok (.aload_n 0, 1) := by decide +kernel
theorem dX11_load_55 : decode cX11_load 55 = .ok (.getfield 43, 3) := by decide +kernel
theorem dX11_load_58 : decode cX11_load 58 = .ok (.invokevirtual 83, 3) := by decide +kernel
theorem dX11_load_61 : decode cX11_load 61 = .ok (.aload_n 0, 1) := by decide +kernel
theorem dX11_load_62 : decode cX11_load 62 = .ok (.getfield 24, 3) := by decide +kernel
theorem dX11_load_65 : decode cX11_load 65 = .ok (.sipush 260, 3) := by decide +kernel
theorem dX11_load_68 : decode cX11_load 68 = .ok (.invokevirtual 86, 3) := by decide +kernel
theorem dX11_load_71 : decode cX11_load 71 = .ok (.ifCond .eq 6, 3) := by decide +kernel
theorem dX11_load_74 : decode cX11_load 74 = .ok (.goto 9, 3) := by decide +kernel
theorem dX11_load_77 : decode cX11_load 77 = .ok (.iinc 1 1, 3) := by decide +kernel
theorem dX11_load_80 : decode cX11_load 80 = .ok (.goto (-42), 3) := by decide +kernel
theorem dX11_load_83 : decode cX11_load 83 = .ok (.aload_n 0, 1) := by decide +kernel
theorem dX11_load_84 : decode cX11_load 84 = .ok (.getfield 43, 3) := by decide +kernel
theorem dX11_load_87 : decode cX11_load 87 = .ok (.invokevirtual 90, 3) := by decide +kernel
theorem dX11_load_90 : decode cX11_load 90 = .ok (.aload_n 0, 1) := by decide +kernel
theorem dX11_load_91 : decode cX11_load 91 = .ok (.getfield 24, 3) := by decide +kernel
theorem dX11_load_94 : decode cX11_load 94 = .ok (.invokevirtual 79, 3) := by decide +kernel
theorem dX11_load_97 : decode cX11_load 97 = .ok (.ifCond .eq 5, 3) := by decide +kernel
theorem dX11_load_100 : decode cX11_load 100 = .ok (.iconst (-1), 1) := by decide +kernel
theorem dX11_load_101 : decode cX11_load 101 = .ok (.ireturn, 1) := by decide +kernel
theorem dX11_load_102 : decode cX11_load 102 = .ok (.aload_n 0, 1) := by decide +kernel
theorem dX11_load_103 : decode cX11_load 103 = .ok (.invokevirtual 93, 3) := by decide +kernel
theorem dX11_load_106 : decode cX11_load 106 = .ok (.aload_n 0, 1) := by decide +kernel
theorem dX11_load_107 : decode cX11_load 107 = .ok (.getfield 31, 3) := by decide +kernel
theorem dX11_load_110 : decode cX11_load 110 = .ok (.getfield 96, 3) := by decide +kernel
theorem dX11_load_113 : decode cX11_load 113 = .ok (.invokevirtual 56, 3) := by decide +kernel
theorem dX11_load_116 : decode cX11_load 116 = .ok (.ireturn, 1) := by decide +kernel
def mX11_load_83 (I : iT) (F : fT) (x1 : Int32) : Option (Int32 × iT × fT) := (mX3_judgeLast I).bind fun q1 => (mX2_failed q1).bind fun q2 => if q2 = 0 then (mX11_takeSpare q1 F).bind fun q3 => (mX4_size ((q3.2 1 5) + 33) q3.1).bind fun q5 => some (q5, q3.1, q3.2) else some ((-1), q1, F)
def mX11_load_38 : Nat → iT → fT → Int32 → Option (Int32 × iT × fT)
  | 0, _, _, _ => none
  | n + 1, I, F, x1 => if 12 < x1 then mX11_load_83 I F x1 else (mX2_failed I).bind fun q6 => if q6 = 0 then (mX3_readDef I F).bind fun q7 => (mX2_is q7 260).bind fun q8 => if q8 = 0 then mX11_load_38 n q7 F (x1 + 1) else mX11_load_83 q7 F x1 else mX11_load_83 I F x1
def mX11_load (I : iT) (F : fT) : Option (Int32 × iT × fT) := (mX2_start 2 I).bind fun q9 => (mX4_clear 2 q9).bind fun q10 => (mX3_use (F 1 6) q10 F).bind fun q11 => (mX3_readTypes q11.1 q11.2).bind fun q13 => mX11_load_38 LF q13 q11.2 0
set_option maxRecDepth 100000 in
set_option maxHeartbeats 4000000 in
theorem tX11_load_83 {l : Launch} {K : a_KT} {g : a_GT} {IB : iT} (hko : a_kok K) (hS : StrOK l K g) {J : jT} (I : iT) (F : fT) (x1 : Int32) (hF : FK F) (q : Int32 × iT × fT) (hm : mX11_load_83 I F x1 = some q) : E l K g 907 0 0 yX11_load cX11_load 2 (some .int) 83 [.ref 1, .int x1] [] (hg I IB J F) (fun r2 h2 => r2 = some (.int q.1) ∧ h2 = hg q.2.1 IB J q.2.2 ∧ FK q.2.2) := by
  unfold mX11_load_83 at hm
  refine e_aload_n (i := 0) rfl dX11_load_83 ?_
  refine q_getF 11 3 134 dX11_load_84 fl_RX11_43 rfl iz_1 (fr_1_3 hF.1) ?_
  obtain ⟨q1, eq1, hm⟩ := ob_some hm
  refine e_cV0 hko dX11_load_87 ml_RX11_90 iz_134 (by decide) rfl (by omega) (Nat.le_of_ble_eq_true rfl) (tX3_judgeLast hko I J F hF _ eq1) ?_
  rintro _ _ ⟨rfl, rfl⟩
  refine e_aload_n (i := 0) rfl dX11_load_90 ?_
  refine q_getF 11 2 6 dX11_load_91 fl_RX11_24 rfl iz_1 (fr_1_2 hF.1) ?_
  obtain ⟨q2, eq2, hm⟩ := ob_some hm
  refine e_cV0 hko dX11_load_94 ml_RX11_79 iz_6 (by decide) rfl (by omega) (Nat.le_of_ble_eq_true rfl) (tX2_failed hko q1 J F hF _ eq2) ?_
  rintro _ _ ⟨rfl, rfl⟩
  refine e_if_eq 102 dX11_load_97 (by decide) (fun c_97 => ?_) (fun c_97 => ?_)
  · have hm := it_p c_97 hm
    refine e_aload_n (i := 0) rfl dX11_load_102 ?_
    obtain ⟨q3, eq3, hm⟩ := ob_some hm
    refine e_cV0 hko dX11_load_103 ml_RX11_93 iz_1 (by decide) rfl (by omega) (Nat.le_of_ble_eq_true rfl) (tX11_takeSpare hko q1 J F hF _ eq3) ?_
    rintro _ _ ⟨rfl, rfl, hF4⟩
    refine e_aload_n (i := 0) rfl dX11_load_106 ?_
    refine q_getF 11 5 (q3.2 1 5) dX11_load_107 fl_RX11_31 rfl iz_1 rfl ?_
    refine q_getF 0 4 ((q3.2 1 5) + 33) dX11_load_110 fl_RX11_96 rfl (iz_bk hF4.2.1) (frb_4 hF4.1 hF4.2.1) ?_
    obtain ⟨q5, eq5, hm⟩ := ob_some hm
    refine e_cV0 hko dX11_load_113 ml_RX11_56 (iz_row (rwb_33 hF4.2.1)) (by decide) rfl (by omega) (Nat.le_of_ble_eq_true rfl) (tX4_size hko (rwb_33 hF4.2.1) q3.1 J q3.2 hF4 _ eq5) ?_
    rintro _ _ ⟨rfl, rfl⟩
    refine e_iret dX11_load_116 rfl ?_
    have hm := some_in hm
    subst hm
    exact ⟨rfl, rfl, hF4⟩
  · have hm := it_n c_97 hm
    refine e_iconst (v := (-1)) (by decide) dX11_load_100 ?_
    refine e_iret dX11_load_101 rfl ?_
    have hm := some_in hm
    subst hm
    exact ⟨rfl, rfl, hF⟩
set_option maxRecDepth 100000 in
set_option maxHeartbeats 4000000 in
theorem tX11_load_38 {l : Launch} {K : a_KT} {g : a_GT} {IB : iT} (hko : a_kok K) (hS : StrOK l K g) {J : jT} : ∀ (n : Nat) (I : iT) (F : fT) (x1 : Int32) (hF : FK F) (q : Int32 × iT × fT), mX11_load_38 n I F x1 = some q → E l K g 907 0 0 yX11_load cX11_load 2 (some .int) 38 [.ref 1, .int x1] [] (hg I IB J F) (fun r2 h2 => r2 = some (.int q.1) ∧ h2 = hg q.2.1 IB J q.2.2 ∧ FK q.2.2) := by
  intro n
  induction n with
  | zero => intro I F x1 hF q hm; cases hm
  | succ n ih =>
    intro I F x1 hF q hm
    rw [mX11_load_38] at hm
    refine e_iload_n (i := 1) rfl dX11_load_38 ?_
    refine e_bipush (v := 12) (by decide) dX11_load_39 ?_
    refine e_icmp_gt 83 dX11_load_41 (by decide) (fun c_41 => ?_) (fun c_41 => ?_)
    · have hm := it_p c_41 hm
      refine e_weak [.ref 1, .int x1] ⟨rfl, ⟨rfl, trivial⟩⟩ ?_
      exact tX11_load_83 hko hS I F x1 hF _ hm
    · have hm := it_n c_41 hm
      refine e_aload_n (i := 0) rfl dX11_load_44 ?_
      refine q_getF 11 2 6 dX11_load_45 fl_RX11_24 rfl iz_1 (fr_1_2 hF.1) ?_
      obtain ⟨q6, eq6, hm⟩ := ob_some hm
      refine e_cV0 hko dX11_load_48 ml_RX11_79 iz_6 (by decide) rfl (by omega) (Nat.le_of_ble_eq_true rfl) (tX2_failed hko I J F hF _ eq6) ?_
      rintro _ _ ⟨rfl, rfl⟩
      refine e_if_ne 83 dX11_load_51 (by decide) (fun c_51 => ?_) (fun c_51 => ?_)
      · have hm := it_n c_51 hm
        refine e_weak [.ref 1, .int x1] ⟨rfl, ⟨rfl, trivial⟩⟩ ?_
        exact tX11_load_83 hko hS I F x1 hF _ hm
      · have hm := it_p c_51 hm
        refine e_aload_n (i := 0) rfl dX11_load_54 ?_
        refine q_getF 11 3 134 dX11_load_55 fl_RX11_43 rfl iz_1 (fr_1_3 hF.1) ?_
        obtain ⟨q7, eq7, hm⟩ := ob_some hm
        refine e_cV0 hko dX11_load_58 ml_RX11_83 iz_134 (by decide) rfl (by omega) (Nat.le_of_ble_eq_true rfl) (tX3_readDef hko I J F hF _ eq7) ?_
        rintro _ _ ⟨rfl, rfl⟩
        refine e_aload_n (i := 0) rfl dX11_load_61 ?_
        refine q_getF 11 2 6 dX11_load_62 fl_RX11_24 rfl iz_1 (fr_1_2 hF.1) ?_
        refine e_sipush (v := 260) (by decide) dX11_load_65 ?_
        obtain ⟨q8, eq8, hm⟩ := ob_some hm
        refine e_cV1 hko dX11_load_68 ml_RX11_86 iz_6 (by decide) rfl (by omega) (Nat.le_of_ble_eq_true rfl) (tX2_is hko q7 J F hF 260 _ eq8) ?_
        rintro _ _ ⟨rfl, rfl⟩
        refine e_if_eq 77 dX11_load_71 (by decide) (fun c_71 => ?_) (fun c_71 => ?_)
        · have hm := it_p c_71 hm
          refine q_iinc (i := 1) (x1 + 1) rfl ic_1 rfl dX11_load_77 ?_
          refine e_goto 38 dX11_load_80 (by decide) ?_
          refine e_weak [.ref 1, .int (x1 + 1)] ⟨rfl, ⟨rfl, trivial⟩⟩ ?_
          exact ih q7 F (x1 + 1) hF _ hm
        · have hm := it_n c_71 hm
          refine e_goto 83 dX11_load_74 (by decide) ?_
          refine e_weak [.ref 1, .int x1] ⟨rfl, ⟨rfl, trivial⟩⟩ ?_
          exact tX11_load_83 hko hS q7 F x1 hF _ hm
set_option maxRecDepth 100000 in
set_option maxHeartbeats 4000000 in
theorem tX11_load {l : Launch} {K : a_KT} {g : a_GT} {IB : iT} (hko : a_kok K) (hS : StrOK l K g) (I : iT) (J : jT) (F : fT) (hF : FK F) (q : Int32 × iT × fT) (hm : mX11_load I F = some q) : C l K g 907 0 0 yX11_load cX11_load 2 (some .int) [.ref 1] (hg I IB J F) (fun r2 h2 => r2 = some (.int q.1) ∧ h2 = hg q.2.1 IB J q.2.2 ∧ FK q.2.2) := by
  unfold mX11_load at hm
  refine c_of [.ref 1, .null] (by decide) (Nat.le_of_ble_eq_true rfl) rfl ?_
  refine e_aload_n (i := 0) rfl dX11_load_0 ?_
  refine q_getF 11 2 6 dX11_load_1 fl_RX11_24 rfl iz_1 (fr_1_2 hF.1) ?_
  refine e_aload_n (i := 0) rfl dX11_load_4 ?_
  refine q_getF 11 0 2 dX11_load_5 fl_RX11_14 rfl iz_1 (fr_1_0 hF.1) ?_
  obtain ⟨q9, eq9, hm⟩ := ob_some hm
  refine e_cV1 hko dX11_load_8 ml_RX11_66 iz_6 (by decide) rfl (by omega) (Nat.le_of_ble_eq_true rfl) (tX2_start hko hS rw_2 I J F hF _ eq9) ?_
  rintro _ _ ⟨rfl, rfl⟩
  refine e_aload_n (i := 0) rfl dX11_load_11 ?_
  refine q_getF 11 0 2 dX11_load_12 fl_RX11_14 rfl iz_1 (fr_1_0 hF.1) ?_
  obtain ⟨q10, eq10, hm⟩ := ob_some hm
  refine e_cV0 hko dX11_load_15 ml_RX11_70 iz_2 (by decide) rfl (by omega) (Nat.le_of_ble_eq_true rfl) (tX4_clear hko rw_2 q9 J F hF _ eq10) ?_
  rintro _ _ ⟨rfl, rfl⟩
  refine e_aload_n (i := 0) rfl dX11_load_18 ?_
  refine q_getF 11 3 134 dX11_load_19 fl_RX11_43 rfl iz_1 (fr_1_3 hF.1) ?_
  refine e_aload_n (i := 0) rfl dX11_load_22 ?_
  refine q_getF 11 6 (F 1 6) dX11_load_23 fl_RX11_35 rfl iz_1 rfl ?_
  obtain ⟨q11, eq11, hm⟩ := ob_some hm
  refine e_cV1 hko dX11_load_26 ml_RX11_73 iz_134 (by decide) rfl (by omega) (Nat.le_of_ble_eq_true rfl) (tX3_use hko hF.2.2.1 q10 J F hF _ eq11) ?_
  rintro _ _ ⟨rfl, rfl, hF12⟩
  refine e_aload_n (i := 0) rfl dX11_load_29 ?_
  refine q_getF 11 3 134 dX11_load_30 fl_RX11_43 rfl iz_1 (fr_1_3 hF12.1) ?_
  obtain ⟨q13, eq13, hm⟩ := ob_some hm
  refine e_cV0 hko dX11_load_33 ml_RX11_76 iz_134 (by decide) rfl (by omega) (Nat.le_of_ble_eq_true rfl) (tX3_readTypes hko q11.1 J q11.2 hF12 _ eq13) ?_
  rintro _ _ ⟨rfl, rfl⟩
  refine e_iconst (v := 0) (by decide) dX11_load_36 ?_
  refine q_istore_n (i := 1) (by decide) rfl dX11_load_37 ?_
  refine e_weak [.ref 1, .int 0] ⟨rfl, ⟨rfl, trivial⟩⟩ ?_
  exact tX11_load_38 hko hS LF q13 q11.2 0 hF12 _ hm
theorem dX6_alive_0 : decode cX6_alive 0 = .ok (.iconst 0, 1) := by decide +kernel
theorem dX6_alive_1 : decode cX6_alive 1 = .ok (.istore_n 1, 1) := by decide +kernel
theorem dX6_alive_2 : decode cX6_alive 2 = .ok (.iconst 0, 1) := by decide +kernel
theorem dX6_alive_3 : decode cX6_alive 3 = .ok (.istore_n 2, 1) := by decide +kernel
theorem dX6_alive_4 : decode cX6_alive 4 = .ok (.iload_n 2, 1) := by decide +kernel
theorem dX6_alive_5 : decode cX6_alive 5 = .ok (.aload_n 0, 1) := by decide +kernel
theorem dX6_alive_6 : decode cX6_alive 6 = .ok (.invokevirtual 101, 3) := by decide +kernel
theorem dX6_alive_9 : decode cX6_alive 9 = .ok (.if_icmp .ge 22, 3) := by decide +kernel
theorem dX6_alive_12 : decode cX6_alive 12 = .ok (.iload_n 1, 1) := by decide +kernel
theorem dX6_alive_13 : decode cX6_alive 13 = .ok (.iconst 1, 1) := by decide +kernel
theorem dX6_alive_14 : decode cX6_alive 14 = .ok (.aload_n 0, 1) := by decide +kernel
theorem dX6_alive_15 : decode cX6_alive 15 = .ok (.getfield 30, 3) := by decide +kernel
theorem dX6_alive_18 : decode cX6_alive 18 = .ok (.iload_n 2, 1) := by decide +kernel
theorem dX6_alive_19 : decode cX6_alive 19 = .ok (.invokevirtual 104, 3) := by decide +kernel
theorem dX6_alive_22 : decode cX6_alive 22 = .ok (.isub, 1) := by decide +kernel
theorem dX6_alive_23 : decode cX6_alive 23 = .ok (.iadd, 1) := by decide +kernel
theorem dX6_alive_24 : decode cX6_alive 24 = .ok (.istore_n 1, 1) := by decide +kernel
theorem dX6_alive_25 : decode cX6_alive 25 = .ok (.iinc 2 1, 3) := by decide +kernel
theorem dX6_alive_28 : decode cX6_alive 28 = .ok (.goto (-24), 3) := by decide +kernel
theorem dX6_alive_31 : decode cX6_alive 31 = .ok (.iload_n 1, 1) := by decide +kernel
theorem dX6_alive_32 : decode cX6_alive 32 = .ok (.ireturn, 1) := by decide +kernel
def mX6_alive_4 : Nat → iT → Int32 → Int32 → Option (Int32)
  | 0, _, _, _ => none
  | n + 1, I, x1, x2 => (mX6_made I).bind fun q1 => if q1 ≤ x2 then some x1 else (mX4_at 168 I x2).bind fun q2 => mX6_alive_4 n I (x1 + (1 - q2)) (x2 + 1)
def mX6_alive (I : iT) : Option (Int32) := mX6_alive_4 LF I 0 0
set_option maxRecDepth 100000 in
set_option maxHeartbeats 4000000 in
theorem tX6_alive_4 {l : Launch} {K : a_KT} {g : a_GT} {IB : iT} (hko : a_kok K) {J : jT} {F : fT} : ∀ (n : Nat) (I : iT) (x1 : Int32) (x2 : Int32) (hF : FK F) (q : Int32), mX6_alive_4 n I x1 x2 = some q → E l K g 2 0 0 yX6_alive cX6_alive 3 (some .int) 4 [.ref 148, .int x1, .int x2] [] (hg I IB J F) (fun r2 h2 => r2 = some (.int q) ∧ h2 = hg I IB J F) := by
  intro n
  induction n with
  | zero => intro I x1 x2 hF q hm; cases hm
  | succ n ih =>
    intro I x1 x2 hF q hm
    rw [mX6_alive_4] at hm
    refine e_iload_n (i := 2) rfl dX6_alive_4 ?_
    refine e_aload_n (i := 0) rfl dX6_alive_5 ?_
    obtain ⟨q1, eq1, hm⟩ := ob_some hm
    refine e_cV0 hko dX6_alive_6 ml_RX6_101 iz_148 (by decide) rfl (by omega) (Nat.le_of_ble_eq_true rfl) (tX6_made hko I J F hF _ eq1) ?_
    rintro _ _ ⟨rfl, rfl⟩
    refine e_icmp_ge 31 dX6_alive_9 (by decide) (fun c_9 => ?_) (fun c_9 => ?_)
    · have hm := it_p c_9 hm
      refine e_iload_n (i := 1) rfl dX6_alive_31 ?_
      refine e_iret dX6_alive_32 rfl ?_
      have hm := some_in hm
      subst hm
      exact ⟨rfl, rfl⟩
    · have hm := it_n c_9 hm
      refine e_iload_n (i := 1) rfl dX6_alive_12 ?_
      refine e_iconst (v := 1) (by decide) dX6_alive_13 ?_
      refine e_aload_n (i := 0) rfl dX6_alive_14 ?_
      refine q_getF 6 3 168 dX6_alive_15 fl_RX6_30 rfl iz_148 (fr_148_3 hF.1) ?_
      refine e_iload_n (i := 2) rfl dX6_alive_18 ?_
      obtain ⟨q2, eq2, hm⟩ := ob_some hm
      refine e_cV1 hko dX6_alive_19 ml_RX6_104 iz_168 (by decide) rfl (by omega) (Nat.le_of_ble_eq_true rfl) (tX4_at hko rw_168 I J F hF x2 _ eq2) ?_
      rintro _ _ ⟨rfl, rfl⟩
      refine e_isub dX6_alive_22 ?_
      refine e_iadd dX6_alive_23 ?_
      refine q_istore_n (i := 1) (by decide) rfl dX6_alive_24 ?_
      refine q_iinc (i := 2) (x2 + 1) rfl ic_1 rfl dX6_alive_25 ?_
      refine e_goto 4 dX6_alive_28 (by decide) ?_
      refine e_weak [.ref 148, .int (x1 + (1 - q2)), .int (x2 + 1)] ⟨rfl, ⟨rfl, ⟨rfl, trivial⟩⟩⟩ ?_
      exact ih I (x1 + (1 - q2)) (x2 + 1) hF _ hm
set_option maxRecDepth 100000 in
set_option maxHeartbeats 4000000 in
theorem tX6_alive {l : Launch} {K : a_KT} {g : a_GT} {IB : iT} (hko : a_kok K) (I : iT) (J : jT) (F : fT) (hF : FK F) (q : Int32) (hm : mX6_alive I = some q) : C l K g 2 0 0 yX6_alive cX6_alive 3 (some .int) [.ref 148] (hg I IB J F) (fun r2 h2 => r2 = some (.int q) ∧ h2 = hg I IB J F) := by
  unfold mX6_alive at hm
  refine c_of [.ref 148, .null, .null] (by decide) (Nat.le_of_ble_eq_true rfl) rfl ?_
  refine e_iconst (v := 0) (by decide) dX6_alive_0 ?_
  refine q_istore_n (i := 1) (by decide) rfl dX6_alive_1 ?_
  refine e_iconst (v := 0) (by decide) dX6_alive_2 ?_
  refine q_istore_n (i := 2) (by decide) rfl dX6_alive_3 ?_
  refine e_weak [.ref 148, .int 0, .int 0] ⟨rfl, ⟨rfl, ⟨rfl, trivial⟩⟩⟩ ?_
  exact tX6_alive_4 hko LF I 0 0 hF _ hm
theorem dX11_look_0 : decode cX11_look 0 = .ok (.iload_n 1, 1) := by decide +kernel
theorem dX11_look_1 : decode cX11_look 1 = .ok (.ifCond .lt 9, 3) := by decide +kernel
theorem dX11_look_4 : decode cX11_look 4 = .ok (.iload_n 1, 1) := by decide +kernel
theorem dX11_look_5 : decode cX11_look 5 = .ok (.bipush 7, 2) := by decide +kernel
theorem dX11_look_7 : decode cX11_look 7 = .ok (.if_icmp .le 5, 3) := by decide +kernel
theorem dX11_look_10 : decode cX11_look 10 = .ok (.iconst (-1), 1) := by decide +kernel
theorem dX11_look_11 : decode cX11_look 11 = .ok (.ireturn, 1) := by decide +kernel
theorem dX11_look_12 : decode cX11_look 12 = .ok (.aload_n 0, 1) := by decide +kernel
theorem dX11_look_13 : decode cX11_look 13 = .ok (.getfield 99, 3) := by decide +kernel
theorem dX11_look_16 : decode cX11_look 16 = .ok (.ifCond .ne 5, 3) := by decide +kernel
theorem dX11_look_19 : decode cX11_look 19 = .ok (.iconst 0, 1) := by decide +kernel
theorem dX11_look_20 : decode cX11_look 20 = .ok (.ireturn, 1) := by decide +kernel
theorem dX11_look_21 : decode cX11_look 21 = .ok (.iload_n 1, 1) := by decide +kernel
theorem dX11_look_22 : decode cX11_look 22 = .ok (.tableswitch 107 0 6 #[42, 53, 64, 72, 80, 91, 99], 42) := by decide +kernel
theorem dX11_look_64 : decode cX11_look 64 = .ok (.aload_n 0, 1) := by decide +kernel
theorem dX11_look_65 : decode cX11_look 65 = .ok (.getfield 31, 3) := by decide +kernel
theorem dX11_look_68 : decode cX11_look 68 = .ok (.getfield 112, 3) := by decide +kernel
theorem dX11_look_71 : decode cX11_look 71 = .ok (.invokevirtual 56, 3) := by decide +kernel
theorem dX11_look_74 : decode cX11_look 74 = .ok (.ireturn, 1) := by decide +kernel
theorem dX11_look_75 : decode cX11_look 75 = .ok (.aload_n 0, 1) := by decide +kernel
theorem dX11_look_76 : decode cX11_look 76 = .ok (.getfield 31, 3) := by decide +kernel
theorem dX11_look_79 : decode cX11_look 79 = .ok (.getfield 96, 3) := by decide +kernel
theorem dX11_look_82 : decode cX11_look 82 = .ok (.invokevirtual 56, 3) := by decide +kernel
theorem dX11_look_85 : decode cX11_look 85 = .ok (.ireturn, 1) := by decide +kernel
theorem dX11_look_86 : decode cX11_look 86 = .ok (.aload_n 0, 1) := by decide +kernel
theorem dX11_look_87 : decode cX11_look 87 = .ok (.getfield 52, 3) := by decide +kernel
theorem dX11_look_90 : decode cX11_look 90 = .ok (.invokevirtual 115, 3) := by decide +kernel
theorem dX11_look_93 : decode cX11_look 93 = .ok (.ireturn, 1) := by decide +kernel
theorem dX11_look_94 : decode cX11_look 94 = .ok (.aload_n 0, 1) := by decide +kernel
theorem dX11_look_95 : decode cX11_look 95 = .ok (.getfield 52, 3) := by decide +kernel
theorem dX11_look_98 : decode cX11_look 98 = .ok (.invokevirtual 118, 3) := by decide +kernel
theorem dX11_look_101 : decode cX11_look 101 = .ok (.ireturn, 1) := by decide +kernel
theorem dX11_look_102 : decode cX11_look 102 = .ok (.aload_n 0, 1) := by decide +kernel
theorem dX11_look_103 : decode cX11_look 103 = .ok (.getfield 52, 3) := by decide +kernel
theorem dX11_look_106 : decode cX11_look 106 = .ok (.getfield 121, 3) := by decide +kernel
theorem dX11_look_109 : decode cX11_look 109 = .ok (.invokevirtual 125, 3) := by decide +kernel
theorem dX11_look_112 : decode cX11_look 112 = .ok (.ireturn, 1) := by decide +kernel
theorem dX11_look_113 : decode cX11_look 113 = .ok (.aload_n 0, 1) := by decide +kernel
theorem dX11_look_114 : decode cX11_look 114 = .ok (.getfield 52, 3) := by decide +kernel
theorem dX11_look_117 : decode cX11_look 117 = .ok (.getfield 128, 3) := by decide +kernel
theorem dX11_look_120 : decode cX11_look 120 = .ok (.ireturn, 1) := by decide +kernel
theorem dX11_look_121 : decode cX11_look 121 = .ok (.aload_n 0, 1) := by decide +kernel
theorem dX11_look_122 : decode cX11_look 122 = .ok (.getfield 52, 3) := by decide +kernel
theorem dX11_look_125 : decode cX11_look 125 = .ok (.getfield 131, 3) := by decide +kernel
theorem dX11_look_128 : decode cX11_look 128 = .ok (.ireturn, 1) := by decide +kernel
theorem dX11_look_129 : decode cX11_look 129 = .ok (.aload_n 0, 1) := by decide +kernel
theorem dX11_look_130 : decode cX11_look 130 = .ok (.getfield 52, 3) := by decide +kernel
theorem dX11_look_133 : decode cX11_look 133 = .ok (.getfield 134, 3) := by decide +kernel
theorem dX11_look_136 : decode cX11_look 136 = .ok (.ifCond .eq 7, 3) := by decide +kernel
theorem dX11_look_139 : decode cX11_look 139 = .ok (.iconst 1, 1) := by decide +kernel
theorem dX11_look_140 : decode cX11_look 140 = .ok (.goto 4, 3) := by decide +kernel
theorem dX11_look_143 : decode cX11_look 143 = .ok (.iconst 0, 1) := by decide +kernel
theorem dX11_look_144 : decode cX11_look 144 = .ok (.ireturn, 1) := by decide +kernel
def mX11_look (I : iT) (F : fT) (x1 : Int32) : Option (Int32) := if x1 < 0 then some ((-1)) else if x1 ≤ 7 then if (I 1 7) = 0 then some 0 else if x1 = 0 then (mX4_size ((F 1 5) + 29) I).bind fun q1 => some q1 else if x1 = 1 then (mX4_size ((F 1 5) + 33) I).bind fun q2 => some q2 else if x1 = 2 then (mX6_made I).bind fun q3 => some q3 else if x1 = 3 then (mX6_alive I).bind fun q4 => some q4 else if x1 = 4 then (mX1_made I).bind fun q5 => some q5 else if x1 = 5 then some (I 148 14) else if x1 = 6 then some (I 148 13) else if (I 148 15) = 0 then some 0 else some 1 else some ((-1))
set_option maxRecDepth 100000 in
set_option maxHeartbeats 4000000 in
theorem tX11_look {l : Launch} {K : a_KT} {g : a_GT} {IB : iT} (hko : a_kok K) (I : iT) (J : jT) (F : fT) (hF : FK F) (x1 : Int32) (q : Int32) (hm : mX11_look I F x1 = some q) : C l K g 3 0 0 yX11_look cX11_look 2 (some .int) [.ref 1, .int x1] (hg I IB J F) (fun r2 h2 => r2 = some (.int q) ∧ h2 = hg I IB J F) := by
  unfold mX11_look at hm
  refine c_of [.ref 1, .int x1] (by decide) (Nat.le_of_ble_eq_true rfl) rfl ?_
  refine e_iload_n (i := 1) rfl dX11_look_0 ?_
  refine e_if_lt 10 dX11_look_1 (by decide) (fun c_1 => ?_) (fun c_1 => ?_)
  · have hm := it_p c_1 hm
    refine e_iconst (v := (-1)) (by decide) dX11_look_10 ?_
    refine e_iret dX11_look_11 rfl ?_
    have hm := some_in hm
    subst hm
    exact ⟨rfl, rfl⟩
  · have hm := it_n c_1 hm
    refine e_iload_n (i := 1) rfl dX11_look_4 ?_
    refine e_bipush (v := 7) (by decide) dX11_look_5 ?_
    refine e_icmp_le 12 dX11_look_7 (by decide) (fun c_7 => ?_) (fun c_7 => ?_)
    · have hm := it_p c_7 hm
      refine e_aload_n (i := 0) rfl dX11_look_12 ?_
      refine k_getI 11 7 dX11_look_13 fl_RX11_99 rfl iz_1 (by decide) ?_
      refine e_if_ne 21 dX11_look_16 (by decide) (fun c_16 => ?_) (fun c_16 => ?_)
      · have hm := it_n c_16 hm
        refine e_iload_n (i := 1) rfl dX11_look_21 ?_
        by_cases c_22_0 : x1 = 0
        · have hm := it_p c_22_0 hm
          refine e_tableIn 64 dX11_look_22 (by rw [c_22_0]; decide) (by rw [c_22_0]; decide) (off := 42) (by rw [c_22_0]; decide) (by decide) ?_
          refine e_aload_n (i := 0) rfl dX11_look_64 ?_
          refine q_getF 11 5 (F 1 5) dX11_look_65 fl_RX11_31 rfl iz_1 rfl ?_
          refine q_getF 0 2 ((F 1 5) + 29) dX11_look_68 fl_RX11_112 rfl (iz_bk hF.2.1) (frb_2 hF.1 hF.2.1) ?_
          obtain ⟨q1, eq1, hm⟩ := ob_some hm
          refine e_cV0 hko dX11_look_71 ml_RX11_56 (iz_row (rwb_29 hF.2.1)) (by decide) rfl (by omega) (Nat.le_of_ble_eq_true rfl) (tX4_size hko (rwb_29 hF.2.1) I J F hF _ eq1) ?_
          rintro _ _ ⟨rfl, rfl⟩
          refine e_iret dX11_look_74 rfl ?_
          have hm := some_in hm
          subst hm
          exact ⟨rfl, rfl⟩
        have hm := it_n c_22_0 hm
        by_cases c_22_1 : x1 = 1
        · have hm := it_p c_22_1 hm
          refine e_tableIn 75 dX11_look_22 (by rw [c_22_1]; decide) (by rw [c_22_1]; decide) (off := 53) (by rw [c_22_1]; decide) (by decide) ?_
          refine e_aload_n (i := 0) rfl dX11_look_75 ?_
          refine q_getF 11 5 (F 1 5) dX11_look_76 fl_RX11_31 rfl iz_1 rfl ?_
          refine q_getF 0 4 ((F 1 5) + 33) dX11_look_79 fl_RX11_96 rfl (iz_bk hF.2.1) (frb_4 hF.1 hF.2.1) ?_
          obtain ⟨q2, eq2, hm⟩ := ob_some hm
          refine e_cV0 hko dX11_look_82 ml_RX11_56 (iz_row (rwb_33 hF.2.1)) (by decide) rfl (by omega) (Nat.le_of_ble_eq_true rfl) (tX4_size hko (rwb_33 hF.2.1) I J F hF _ eq2) ?_
          rintro _ _ ⟨rfl, rfl⟩
          refine e_iret dX11_look_85 rfl ?_
          have hm := some_in hm
          subst hm
          exact ⟨rfl, rfl⟩
        have hm := it_n c_22_1 hm
        by_cases c_22_2 : x1 = 2
        · have hm := it_p c_22_2 hm
          refine e_tableIn 86 dX11_look_22 (by rw [c_22_2]; decide) (by rw [c_22_2]; decide) (off := 64) (by rw [c_22_2]; decide) (by decide) ?_
          refine e_aload_n (i := 0) rfl dX11_look_86 ?_
          refine q_getF 11 4 148 dX11_look_87 fl_RX11_52 rfl iz_1 (fr_1_4 hF.1) ?_
          obtain ⟨q3, eq3, hm⟩ := ob_some hm
          refine e_cV0 hko dX11_look_90 ml_RX11_115 iz_148 (by decide) rfl (by omega) (Nat.le_of_ble_eq_true rfl) (tX6_made hko I J F hF _ eq3) ?_
          rintro _ _ ⟨rfl, rfl⟩
          refine e_iret dX11_look_93 rfl ?_
          have hm := some_in hm
          subst hm
          exact ⟨rfl, rfl⟩
        have hm := it_n c_22_2 hm
        by_cases c_22_3 : x1 = 3
        · have hm := it_p c_22_3 hm
          refine e_tableIn 94 dX11_look_22 (by rw [c_22_3]; decide) (by rw [c_22_3]; decide) (off := 72) (by rw [c_22_3]; decide) (by decide) ?_
          refine e_aload_n (i := 0) rfl dX11_look_94 ?_
          refine q_getF 11 4 148 dX11_look_95 fl_RX11_52 rfl iz_1 (fr_1_4 hF.1) ?_
          obtain ⟨q4, eq4, hm⟩ := ob_some hm
          refine e_cV0 hko dX11_look_98 ml_RX11_118 iz_148 (by decide) rfl (by omega) (Nat.le_of_ble_eq_true rfl) (tX6_alive hko I J F hF _ eq4) ?_
          rintro _ _ ⟨rfl, rfl⟩
          refine e_iret dX11_look_101 rfl ?_
          have hm := some_in hm
          subst hm
          exact ⟨rfl, rfl⟩
        have hm := it_n c_22_3 hm
        by_cases c_22_4 : x1 = 4
        · have hm := it_p c_22_4 hm
          refine e_tableIn 102 dX11_look_22 (by rw [c_22_4]; decide) (by rw [c_22_4]; decide) (off := 80) (by rw [c_22_4]; decide) (by decide) ?_
          refine e_aload_n (i := 0) rfl dX11_look_102 ?_
          refine q_getF 11 4 148 dX11_look_103 fl_RX11_52 rfl iz_1 (fr_1_4 hF.1) ?_
          refine q_getF 6 0 149 dX11_look_106 fl_RX11_121 rfl iz_148 (fr_148_0 hF.1) ?_
          obtain ⟨q5, eq5, hm⟩ := ob_some hm
          refine e_cV0 hko dX11_look_109 ml_RX11_125 iz_149 (by decide) rfl (by omega) (Nat.le_of_ble_eq_true rfl) (tX1_made hko I J F hF _ eq5) ?_
          rintro _ _ ⟨rfl, rfl⟩
          refine e_iret dX11_look_112 rfl ?_
          have hm := some_in hm
          subst hm
          exact ⟨rfl, rfl⟩
        have hm := it_n c_22_4 hm
        by_cases c_22_5 : x1 = 5
        · have hm := it_p c_22_5 hm
          refine e_tableIn 113 dX11_look_22 (by rw [c_22_5]; decide) (by rw [c_22_5]; decide) (off := 91) (by rw [c_22_5]; decide) (by decide) ?_
          refine e_aload_n (i := 0) rfl dX11_look_113 ?_
          refine q_getF 11 4 148 dX11_look_114 fl_RX11_52 rfl iz_1 (fr_1_4 hF.1) ?_
          refine k_getI 6 14 dX11_look_117 fl_RX11_128 rfl iz_148 (by decide) ?_
          refine e_iret dX11_look_120 rfl ?_
          have hm := some_in hm
          subst hm
          exact ⟨rfl, rfl⟩
        have hm := it_n c_22_5 hm
        by_cases c_22_6 : x1 = 6
        · have hm := it_p c_22_6 hm
          refine e_tableIn 121 dX11_look_22 (by rw [c_22_6]; decide) (by rw [c_22_6]; decide) (off := 99) (by rw [c_22_6]; decide) (by decide) ?_
          refine e_aload_n (i := 0) rfl dX11_look_121 ?_
          refine q_getF 11 4 148 dX11_look_122 fl_RX11_52 rfl iz_1 (fr_1_4 hF.1) ?_
          refine k_getI 6 13 dX11_look_125 fl_RX11_131 rfl iz_148 (by decide) ?_
          refine e_iret dX11_look_128 rfl ?_
          have hm := some_in hm
          subst hm
          exact ⟨rfl, rfl⟩
        have hm := it_n c_22_6 hm
        have n_22_0 := lv_neT (a := 0) c_22_0 (by decide)
        have n_22_1 := lv_neT (a := 1) c_22_1 (by decide)
        have n_22_2 := lv_neT (a := 2) c_22_2 (by decide)
        have n_22_3 := lv_neT (a := 3) c_22_3 (by decide)
        have n_22_4 := lv_neT (a := 4) c_22_4 (by decide)
        have n_22_5 := lv_neT (a := 5) c_22_5 (by decide)
        have n_22_6 := lv_neT (a := 6) c_22_6 (by decide)
        refine e_tableOut 129 dX11_look_22 (by omega) (by decide) ?_
        refine e_aload_n (i := 0) rfl dX11_look_129 ?_
        refine q_getF 11 4 148 dX11_look_130 fl_RX11_52 rfl iz_1 (fr_1_4 hF.1) ?_
        refine k_getI 6 15 dX11_look_133 fl_RX11_134 rfl iz_148 (by decide) ?_
        refine e_if_eq 143 dX11_look_136 (by decide) (fun c_136 => ?_) (fun c_136 => ?_)
        · have hm := it_p c_136 hm
          refine e_iconst (v := 0) (by decide) dX11_look_143 ?_
          refine e_iret dX11_look_144 rfl ?_
          have hm := some_in hm
          subst hm
          exact ⟨rfl, rfl⟩
        · have hm := it_n c_136 hm
          refine e_iconst (v := 1) (by decide) dX11_look_139 ?_
          refine e_goto 144 dX11_look_140 (by decide) ?_
          refine e_iret dX11_look_144 rfl ?_
          have hm := some_in hm
          subst hm
          exact ⟨rfl, rfl⟩
      · have hm := it_p c_16 hm
        refine e_iconst (v := 0) (by decide) dX11_look_19 ?_
        refine e_iret dX11_look_20 rfl ?_
        have hm := some_in hm
        subst hm
        exact ⟨rfl, rfl⟩
    · have hm := it_n c_7 hm
      refine e_iconst (v := (-1)) (by decide) dX11_look_10 ?_
      refine e_iret dX11_look_11 rfl ?_
      have hm := some_in hm
      subst hm
      exact ⟨rfl, rfl⟩
theorem dX11_message_0 : decode cX11_message 0 = .ok (.aload_n 0, 1) := by decide +kernel
theorem dX11_message_1 : decode cX11_message 1 = .ok (.getfield 52, 3) := by decide +kernel
theorem dX11_message_4 : decode cX11_message 4 = .ok (.getfield 121, 3) := by decide +kernel
theorem dX11_message_7 : decode cX11_message 7 = .ok (.astore 4, 2) := by decide +kernel
theorem dX11_message_9 : decode cX11_message 9 = .ok (.aload 4, 2) := by decide +kernel
theorem dX11_message_11 : decode cX11_message 11 = .ok (.aload 4, 2) := by decide +kernel
theorem dX11_message_13 : decode cX11_message 13 = .ok (.iload_n 1, 1) := by decide +kernel
theorem dX11_message_14 : decode cX11_message 14 = .ok (.invokevirtual 204, 3) := by decide +kernel
theorem dX11_message_17 : decode cX11_message 17 = .ok (.iload_n 2, 1) := by decide +kernel
theorem dX11_message_18 : decode cX11_message 18 = .ok (.invokevirtual 210, 3) := by decide +kernel
theorem dX11_message_21 : decode cX11_message 21 = .ok (.istore 5, 2) := by decide +kernel
theorem dX11_message_23 : decode cX11_message 23 = .ok (.iload 5, 2) := by decide +kernel
theorem dX11_message_25 : decode cX11_message 25 = .ok (.iconst (-1), 1) := by decide +kernel
theorem dX11_message_26 : decode cX11_message 26 = .ok (.if_icmp .ne 5, 3) := by decide +kernel
theorem dX11_message_29 : decode cX11_message 29 = .ok (.iconst (-1), 1) := by decide +kernel
theorem dX11_message_30 : decode cX11_message 30 = .ok (.ireturn, 1) := by decide +kernel
theorem dX11_message_31 : decode cX11_message 31 = .ok (.aload 4, 2) := by decide +kernel
theorem dX11_message_33 : decode cX11_message 33 = .ok (.getfield 213, 3) := by decide +kernel
theorem dX11_message_36 : decode cX11_message 36 = .ok (.iload 5, 2) := by decide +kernel
theorem dX11_message_38 : decode cX11_message 38 = .ok (.invokevirtual 140, 3) := by decide +kernel
theorem dX11_message_41 : decode cX11_message 41 = .ok (.istore 6, 2) := by decide +kernel
theorem dX11_message_43 : decode cX11_message 43 = .ok (.aload 4, 2) := by decide +kernel
theorem dX11_message_45 : decode cX11_message 45 = .ok (.getfield 216, 3) := by decide +kernel
theorem dX11_message_48 : decode cX11_message 48 = .ok (.iload 5, 2) := by decide +kernel
theorem dX11_message_50 : decode cX11_message 50 = .ok (.invokevirtual 140, 3) := by decide +kernel
theorem dX11_message_53 : decode cX11_message 53 = .ok (.istore 7, 2) := by decide +kernel
theorem dX11_message_55 : decode cX11_message 55 = .ok (.iload_n 3, 1) := by decide +kernel
theorem dX11_message_56 : decode cX11_message 56 = .ok (.ifCond .ne 6, 3) := by decide +kernel
theorem dX11_message_59 : decode cX11_message 59 = .ok (.iload 6, 2) := by decide +kernel
theorem dX11_message_61 : decode cX11_message 61 = .ok (.ireturn, 1) := by decide +kernel
theorem dX11_message_62 : decode cX11_message 62 = .ok (.iload_n 3, 1) := by decide +kernel
theorem dX11_message_63 : decode cX11_message 63 = .ok (.iconst 1, 1) := by decide +kernel
theorem dX11_message_64 : decode cX11_message 64 = .ok (.if_icmp .ne 20, 3) := by decide +kernel
theorem dX11_message_67 : decode cX11_message 67 = .ok (.iload 6, 2) := by decide +kernel
theorem dX11_message_69 : decode cX11_message 69 = .ok (.iconst 2, 1) := by decide +kernel
theorem dX11_message_70 : decode cX11_message 70 = .ok (.if_icmp .ne 11, 3) := by decide +kernel
theorem dX11_message_73 : decode cX11_message 73 = .ok (.iload 7, 2) := by decide +kernel
theorem dX11_message_75 : decode cX11_message 75 = .ok (.invokestatic 219, 3) := by decide +kernel
theorem dX11_message_78 : decode cX11_message 78 = .ok (.goto 5, 3) := by decide +kernel
theorem dX11_message_81 : decode cX11_message 81 = .ok (.iload 7, 2) := by decide +kernel
theorem dX11_message_83 : decode cX11_message 83 = .ok (.ireturn, 1) := by decide +kernel
theorem dX11_message_84 : decode cX11_message 84 = .ok (.iload 6, 2) := by decide +kernel
theorem dX11_message_86 : decode cX11_message 86 = .ok (.iconst 2, 1) := by decide +kernel
theorem dX11_message_87 : decode cX11_message 87 = .ok (.if_icmp .ne 9, 3) := by decide +kernel
theorem dX11_message_90 : decode cX11_message 90 = .ok (.iload_n 3, 1) := by decide +kernel
theorem dX11_message_91 : decode cX11_message 91 = .ok (.bipush 100, 2) := by decide +kernel
theorem dX11_message_93 : decode cX11_message 93 = .ok (.if_icmp .ge 5, 3) := by decide +kernel
theorem dX11_message_96 : decode cX11_message 96 = .ok (.iconst (-1), 1) := by decide +kernel
theorem dX11_message_97 : decode cX11_message 97 = .ok (.ireturn, 1) := by decide +kernel
theorem dX11_message_98 : decode cX11_message 98 = .ok (.iload 7, 2) := by decide +kernel
theorem dX11_message_100 : decode cX11_message 100 = .ok (.iload_n 3, 1) := by decide +kernel
theorem dX11_message_101 : decode cX11_message 101 = .ok (.bipush 100, 2) := by decide +kernel
theorem dX11_message_103 : decode cX11_message 103 = .ok (.isub, 1) := by decide +kernel
theorem dX11_message_104 : decode cX11_message 104 = .ok (.invokestatic 222, 3) := by decide +kernel
theorem dX11_message_107 : decode cX11_message 107 = .ok (.ireturn, 1) := by decide +kernel
def mX11_message (I : iT) (x1 : Int32) (x2 : Int32) (x3 : Int32) : Option (Int32) := (mX1_follow I x1).bind fun q1 => (mX1_find I q1 x2).bind fun q2 => if q2 = ((-1)) then some ((-1)) else (mX4_at 158 I q2).bind fun q3 => (mX4_at 160 I q2).bind fun q4 => if x3 = 0 then some q3 else if x3 = 1 then if q3 = 2 then (mX11_lettersIn q4).bind fun q6 => some q6 else some q4 else if q3 = 2 then if 100 ≤ x3 then (mX11_letterOf q4 (x3 - 100)).bind fun q5 => some q5 else some ((-1)) else some ((-1))
set_option maxRecDepth 100000 in
set_option maxHeartbeats 4000000 in
theorem tX11_message {l : Launch} {K : a_KT} {g : a_GT} {IB : iT} (hko : a_kok K) (I : iT) (J : jT) (F : fT) (hF : FK F) (x1 : Int32) (x2 : Int32) (x3 : Int32) (q : Int32) (hm : mX11_message I x1 x2 x3 = some q) : C l K g 3 0 0 yX11_message cX11_message 8 (some .int) [.ref 1, .int x1, .int x2, .int x3] (hg I IB J F) (fun r2 h2 => r2 = some (.int q) ∧ h2 = hg I IB J F) := by
  unfold mX11_message at hm
  refine c_of [.ref 1, .int x1, .int x2, .int x3, .null, .null, .null, .null] (by decide) (Nat.le_of_ble_eq_true rfl) rfl ?_
  refine e_aload_n (i := 0) rfl dX11_message_0 ?_
  refine q_getF 11 4 148 dX11_message_1 fl_RX11_52 rfl iz_1 (fr_1_4 hF.1) ?_
  refine q_getF 6 0 149 dX11_message_4 fl_RX11_121 rfl iz_148 (fr_148_0 hF.1) ?_
  refine q_astore (i := 4) (by decide) (by decide) rfl dX11_message_7 ?_
  refine e_aload (i := 4) rfl dX11_message_9 ?_
  refine e_aload (i := 4) rfl dX11_message_11 ?_
  refine e_iload_n (i := 1) rfl dX11_message_13 ?_
  obtain ⟨q1, eq1, hm⟩ := ob_some hm
  refine e_cV1 hko dX11_message_14 ml_RX11_204 iz_149 (by decide) rfl (by omega) (Nat.le_of_ble_eq_true rfl) (tX1_follow hko I J F hF x1 _ eq1) ?_
  rintro _ _ ⟨rfl, rfl⟩
  refine e_iload_n (i := 2) rfl dX11_message_17 ?_
  obtain ⟨q2, eq2, hm⟩ := ob_some hm
  refine e_cV2 hko dX11_message_18 ml_RX11_210 iz_149 (by decide) rfl (by omega) (Nat.le_of_ble_eq_true rfl) (tX1_find hko I J F hF q1 x2 _ eq2) ?_
  rintro _ _ ⟨rfl, rfl⟩
  refine q_istore (i := 5) (by decide) rfl dX11_message_21 ?_
  refine e_iload (i := 5) rfl dX11_message_23 ?_
  refine e_iconst (v := (-1)) (by decide) dX11_message_25 ?_
  refine e_icmp_ne 31 dX11_message_26 (by decide) (fun c_26 => ?_) (fun c_26 => ?_)
  · have hm := it_n c_26 hm
    refine e_aload (i := 4) rfl dX11_message_31 ?_
    refine q_getF 1 4 158 dX11_message_33 fl_RX11_213 rfl iz_149 (fr_149_4 hF.1) ?_
    refine e_iload (i := 5) rfl dX11_message_36 ?_
    obtain ⟨q3, eq3, hm⟩ := ob_some hm
    refine e_cV1 hko dX11_message_38 ml_RX11_140 iz_158 (by decide) rfl (by omega) (Nat.le_of_ble_eq_true rfl) (tX4_at hko rw_158 I J F hF q2 _ eq3) ?_
    rintro _ _ ⟨rfl, rfl⟩
    refine q_istore (i := 6) (by decide) rfl dX11_message_41 ?_
    refine e_aload (i := 4) rfl dX11_message_43 ?_
    refine q_getF 1 5 160 dX11_message_45 fl_RX11_216 rfl iz_149 (fr_149_5 hF.1) ?_
    refine e_iload (i := 5) rfl dX11_message_48 ?_
    obtain ⟨q4, eq4, hm⟩ := ob_some hm
    refine e_cV1 hko dX11_message_50 ml_RX11_140 iz_160 (by decide) rfl (by omega) (Nat.le_of_ble_eq_true rfl) (tX4_at hko rw_160 I J F hF q2 _ eq4) ?_
    rintro _ _ ⟨rfl, rfl⟩
    refine q_istore (i := 7) (by decide) rfl dX11_message_53 ?_
    refine e_iload_n (i := 3) rfl dX11_message_55 ?_
    refine e_if_ne 62 dX11_message_56 (by decide) (fun c_56 => ?_) (fun c_56 => ?_)
    · have hm := it_n c_56 hm
      refine e_iload_n (i := 3) rfl dX11_message_62 ?_
      refine e_iconst (v := 1) (by decide) dX11_message_63 ?_
      refine e_icmp_ne 84 dX11_message_64 (by decide) (fun c_64 => ?_) (fun c_64 => ?_)
      · have hm := it_n c_64 hm
        refine e_iload (i := 6) rfl dX11_message_84 ?_
        refine e_iconst (v := 2) (by decide) dX11_message_86 ?_
        refine e_icmp_ne 96 dX11_message_87 (by decide) (fun c_87 => ?_) (fun c_87 => ?_)
        · have hm := it_n c_87 hm
          refine e_iconst (v := (-1)) (by decide) dX11_message_96 ?_
          refine e_iret dX11_message_97 rfl ?_
          have hm := some_in hm
          subst hm
          exact ⟨rfl, rfl⟩
        · have hm := it_p c_87 hm
          refine e_iload_n (i := 3) rfl dX11_message_90 ?_
          refine e_bipush (v := 100) (by decide) dX11_message_91 ?_
          refine e_icmp_ge 98 dX11_message_93 (by decide) (fun c_93 => ?_) (fun c_93 => ?_)
          · have hm := it_p c_93 hm
            refine e_iload (i := 7) rfl dX11_message_98 ?_
            refine e_iload_n (i := 3) rfl dX11_message_100 ?_
            refine e_bipush (v := 100) (by decide) dX11_message_101 ?_
            refine e_isub dX11_message_103 ?_
            obtain ⟨q5, eq5, hm⟩ := ob_some hm
            refine e_cS2 hko dX11_message_104 ml_RX11_222 (by omega) (Nat.le_of_ble_eq_true rfl) (tX11_letterOf hko I J F hF q4 (x3 - 100) _ eq5) ?_
            rintro _ _ ⟨rfl, rfl⟩
            refine e_iret dX11_message_107 rfl ?_
            have hm := some_in hm
            subst hm
            exact ⟨rfl, rfl⟩
          · have hm := it_n c_93 hm
            refine e_iconst (v := (-1)) (by decide) dX11_message_96 ?_
            refine e_iret dX11_message_97 rfl ?_
            have hm := some_in hm
            subst hm
            exact ⟨rfl, rfl⟩
      · have hm := it_p c_64 hm
        refine e_iload (i := 6) rfl dX11_message_67 ?_
        refine e_iconst (v := 2) (by decide) dX11_message_69 ?_
        refine e_icmp_ne 81 dX11_message_70 (by decide) (fun c_70 => ?_) (fun c_70 => ?_)
        · have hm := it_n c_70 hm
          refine e_iload (i := 7) rfl dX11_message_81 ?_
          refine e_iret dX11_message_83 rfl ?_
          have hm := some_in hm
          subst hm
          exact ⟨rfl, rfl⟩
        · have hm := it_p c_70 hm
          refine e_iload (i := 7) rfl dX11_message_73 ?_
          obtain ⟨q6, eq6, hm⟩ := ob_some hm
          refine e_cS1 hko dX11_message_75 ml_RX11_219 (by omega) (Nat.le_of_ble_eq_true rfl) (tX11_lettersIn hko I J F hF q4 _ eq6) ?_
          rintro _ _ ⟨rfl, rfl⟩
          refine e_goto 83 dX11_message_78 (by decide) ?_
          refine e_iret dX11_message_83 rfl ?_
          have hm := some_in hm
          subst hm
          exact ⟨rfl, rfl⟩
    · have hm := it_p c_56 hm
      refine e_iload (i := 6) rfl dX11_message_59 ?_
      refine e_iret dX11_message_61 rfl ?_
      have hm := some_in hm
      subst hm
      exact ⟨rfl, rfl⟩
  · have hm := it_p c_26 hm
    refine e_iconst (v := (-1)) (by decide) dX11_message_29 ?_
    refine e_iret dX11_message_30 rfl ?_
    have hm := some_in hm
    subst hm
    exact ⟨rfl, rfl⟩
theorem dX11_out_0 : decode cX11_out 0 = .ok (.aload_n 0, 1) := by decide +kernel
theorem dX11_out_1 : decode cX11_out 1 = .ok (.getfield 18, 3) := by decide +kernel
theorem dX11_out_4 : decode cX11_out 4 = .ok (.iload_n 1, 1) := by decide +kernel
theorem dX11_out_5 : decode cX11_out 5 = .ok (.invokevirtual 140, 3) := by decide +kernel
theorem dX11_out_8 : decode cX11_out 8 = .ok (.ireturn, 1) := by decide +kernel
def mX11_out (I : iT) (x1 : Int32) : Option (Int32) := (mX4_at 4 I x1).bind fun q1 => some q1
set_option maxRecDepth 100000 in
set_option maxHeartbeats 4000000 in
theorem tX11_out {l : Launch} {K : a_KT} {g : a_GT} {IB : iT} (hko : a_kok K) (I : iT) (J : jT) (F : fT) (hF : FK F) (x1 : Int32) (q : Int32) (hm : mX11_out I x1 = some q) : C l K g 1 0 0 yX11_out cX11_out 2 (some .int) [.ref 1, .int x1] (hg I IB J F) (fun r2 h2 => r2 = some (.int q) ∧ h2 = hg I IB J F) := by
  unfold mX11_out at hm
  refine c_of [.ref 1, .int x1] (by decide) (Nat.le_of_ble_eq_true rfl) rfl ?_
  refine e_aload_n (i := 0) rfl dX11_out_0 ?_
  refine q_getF 11 1 4 dX11_out_1 fl_RX11_18 rfl iz_1 (fr_1_1 hF.1) ?_
  refine e_iload_n (i := 1) rfl dX11_out_4 ?_
  obtain ⟨q1, eq1, hm⟩ := ob_some hm
  refine e_cV1 hko dX11_out_5 ml_RX11_140 iz_4 (by decide) rfl (by omega) (Nat.le_of_ble_eq_true rfl) (tX4_at hko rw_4 I J F hF x1 _ eq1) ?_
  rintro _ _ ⟨rfl, rfl⟩
  refine e_iret dX11_out_8 rfl ?_
  have hm := some_in hm
  subst hm
  exact ⟨rfl, rfl⟩
theorem dX11_talkOf_0 : decode cX11_talkOf 0 = .ok (.aload_n 0, 1) := by decide +kernel
theorem dX11_talkOf_1 : decode cX11_talkOf 1 = .ok (.getfield 99, 3) := by decide +kernel
theorem dX11_talkOf_4 : decode cX11_talkOf 4 = .ok (.ifCond .ne 5, 3) := by decide +kernel
theorem dX11_talkOf_7 : decode cX11_talkOf 7 = .ok (.iconst (-1), 1) := by decide +kernel
theorem dX11_talkOf_8 : decode cX11_talkOf 8 = .ok (.ireturn, 1) := by decide +kernel
theorem dX11_talkOf_9 : decode cX11_talkOf 9 = .ok (.iload_n 2, 1) := by decide +kernel
theorem dX11_talkOf_10 : decode cX11_talkOf 10 = .ok (.iconst (-1), 1) := by decide +kernel
theorem dX11_talkOf_11 : decode cX11_talkOf 11 = .ok (.if_icmp .ne 17, 3) := by decide +kernel
theorem dX11_talkOf_14 : decode cX11_talkOf 14 = .ok (.aload_n 0, 1) := by decide +kernel
theorem dX11_talkOf_15 : decode cX11_talkOf 15 = .ok (.getfield 31, 3) := by decide +kernel
theorem dX11_talkOf_18 : decode cX11_talkOf 18 = .ok (.getfield 170, 3) := by decide +kernel
theorem dX11_talkOf_21 : decode cX11_talkOf 21 = .ok (.iload_n 1, 1) := by decide +kernel
theorem dX11_talkOf_22 : decode cX11_talkOf 22 = .ok (.invokevirtual 140, 3) := by decide +kernel
theorem dX11_talkOf_25 : decode cX11_talkOf 25 = .ok (.goto 12, 3) := by decide +kernel
theorem dX11_talkOf_28 : decode cX11_talkOf 28 = .ok (.aload_n 0, 1) := by decide +kernel
theorem dX11_talkOf_29 : decode cX11_talkOf 29 = .ok (.getfield 31, 3) := by decide +kernel
theorem dX11_talkOf_32 : decode cX11_talkOf 32 = .ok (.iload_n 1, 1) := by decide +kernel
theorem dX11_talkOf_33 : decode cX11_talkOf 33 = .ok (.iload_n 2, 1) := by decide +kernel
theorem dX11_talkOf_34 : decode cX11_talkOf 34 = .ok (.invokevirtual 173, 3) := by decide +kernel
theorem dX11_talkOf_37 : decode cX11_talkOf 37 = .ok (.ireturn, 1) := by decide +kernel
def mX11_talkOf (I : iT) (F : fT) (x1 : Int32) (x2 : Int32) : Option (Int32) := if (I 1 7) = 0 then some ((-1)) else if x2 = ((-1)) then (mX4_at ((F 1 5) + 35) I x1).bind fun q2 => some q2 else (mX0_paramT (F 1 5) I x1 x2).bind fun q1 => some q1
set_option maxRecDepth 100000 in
set_option maxHeartbeats 4000000 in
theorem tX11_talkOf {l : Launch} {K : a_KT} {g : a_GT} {IB : iT} (hko : a_kok K) (I : iT) (J : jT) (F : fT) (hF : FK F) (x1 : Int32) (x2 : Int32) (q : Int32) (hm : mX11_talkOf I F x1 x2 = some q) : C l K g 2 0 0 yX11_talkOf cX11_talkOf 3 (some .int) [.ref 1, .int x1, .int x2] (hg I IB J F) (fun r2 h2 => r2 = some (.int q) ∧ h2 = hg I IB J F) := by
  unfold mX11_talkOf at hm
  refine c_of [.ref 1, .int x1, .int x2] (by decide) (Nat.le_of_ble_eq_true rfl) rfl ?_
  refine e_aload_n (i := 0) rfl dX11_talkOf_0 ?_
  refine k_getI 11 7 dX11_talkOf_1 fl_RX11_99 rfl iz_1 (by decide) ?_
  refine e_if_ne 9 dX11_talkOf_4 (by decide) (fun c_4 => ?_) (fun c_4 => ?_)
  · have hm := it_n c_4 hm
    refine e_iload_n (i := 2) rfl dX11_talkOf_9 ?_
    refine e_iconst (v := (-1)) (by decide) dX11_talkOf_10 ?_
    refine e_icmp_ne 28 dX11_talkOf_11 (by decide) (fun c_11 => ?_) (fun c_11 => ?_)
    · have hm := it_n c_11 hm
      refine e_aload_n (i := 0) rfl dX11_talkOf_28 ?_
      refine q_getF 11 5 (F 1 5) dX11_talkOf_29 fl_RX11_31 rfl iz_1 rfl ?_
      refine e_iload_n (i := 1) rfl dX11_talkOf_32 ?_
      refine e_iload_n (i := 2) rfl dX11_talkOf_33 ?_
      obtain ⟨q1, eq1, hm⟩ := ob_some hm
      refine e_cV2 hko dX11_talkOf_34 ml_RX11_173 (iz_bk hF.2.1) (by decide) rfl (by omega) (Nat.le_of_ble_eq_true rfl) (tX0_paramT hko hF.2.1 I J F hF x1 x2 _ eq1) ?_
      rintro _ _ ⟨rfl, rfl⟩
      refine e_iret dX11_talkOf_37 rfl ?_
      have hm := some_in hm
      subst hm
      exact ⟨rfl, rfl⟩
    · have hm := it_p c_11 hm
      refine e_aload_n (i := 0) rfl dX11_talkOf_14 ?_
      refine q_getF 11 5 (F 1 5) dX11_talkOf_15 fl_RX11_31 rfl iz_1 rfl ?_
      refine q_getF 0 5 ((F 1 5) + 35) dX11_talkOf_18 fl_RX11_170 rfl (iz_bk hF.2.1) (frb_5 hF.1 hF.2.1) ?_
      refine e_iload_n (i := 1) rfl dX11_talkOf_21 ?_
      obtain ⟨q2, eq2, hm⟩ := ob_some hm
      refine e_cV1 hko dX11_talkOf_22 ml_RX11_140 (iz_row (rwb_35 hF.2.1)) (by decide) rfl (by omega) (Nat.le_of_ble_eq_true rfl) (tX4_at hko (rwb_35 hF.2.1) I J F hF x1 _ eq2) ?_
      rintro _ _ ⟨rfl, rfl⟩
      refine e_goto 37 dX11_talkOf_25 (by decide) ?_
      refine e_iret dX11_talkOf_37 rfl ?_
      have hm := some_in hm
      subst hm
      exact ⟨rfl, rfl⟩
  · have hm := it_p c_4 hm
    refine e_iconst (v := (-1)) (by decide) dX11_talkOf_7 ?_
    refine e_iret dX11_talkOf_8 rfl ?_
    have hm := some_in hm
    subst hm
    exact ⟨rfl, rfl⟩
theorem dX11_print_0 : decode cX11_print 0 = .ok (.aload_n 0, 1) := by decide +kernel
theorem dX11_print_1 : decode cX11_print 1 = .ok (.iload_n 1, 1) := by decide +kernel
theorem dX11_print_2 : decode cX11_print 2 = .ok (.iload_n 2, 1) := by decide +kernel
theorem dX11_print_3 : decode cX11_print 3 = .ok (.invokevirtual 156, 3) := by decide +kernel
theorem dX11_print_6 : decode cX11_print 6 = .ok (.istore_n 3, 1) := by decide +kernel
theorem dX11_print_7 : decode cX11_print 7 = .ok (.iload_n 3, 1) := by decide +kernel
theorem dX11_print_8 : decode cX11_print 8 = .ok (.iconst (-1), 1) := by decide +kernel
theorem dX11_print_9 : decode cX11_print 9 = .ok (.if_icmp .ne 5, 3) := by decide +kernel
theorem dX11_print_12 : decode cX11_print 12 = .ok (.iconst (-1), 1) := by decide +kernel
theorem dX11_print_13 : decode cX11_print 13 = .ok (.ireturn, 1) := by decide +kernel
theorem dX11_print_14 : decode cX11_print 14 = .ok (.aload_n 0, 1) := by decide +kernel
theorem dX11_print_15 : decode cX11_print 15 = .ok (.getfield 18, 3) := by decide +kernel
theorem dX11_print_18 : decode cX11_print 18 = .ok (.invokevirtual 70, 3) := by decide +kernel
theorem dX11_print_21 : decode cX11_print 21 = .ok (.aload_n 0, 1) := by decide +kernel
theorem dX11_print_22 : decode cX11_print 22 = .ok (.getfield 31, 3) := by decide +kernel
theorem dX11_print_25 : decode cX11_print 25 = .ok (.getfield 160, 3) := by decide +kernel
theorem dX11_print_28 : decode cX11_print 28 = .ok (.iload_n 3, 1) := by decide +kernel
theorem dX11_print_29 : decode cX11_print 29 = .ok (.aload_n 0, 1) := by decide +kernel
theorem dX11_print_30 : decode cX11_print 30 = .ok (.getfield 18, 3) := by decide +kernel
theorem dX11_print_33 : decode cX11_print 33 = .ok (.invokevirtual 164, 3) := by decide +kernel
theorem dX11_print_36 : decode cX11_print 36 = .ok (.aload_n 0, 1) := by decide +kernel
theorem dX11_print_37 : decode cX11_print 37 = .ok (.getfield 18, 3) := by decide +kernel
theorem dX11_print_40 : decode cX11_print 40 = .ok (.invokevirtual 56, 3) := by decide +kernel
theorem dX11_print_43 : decode cX11_print 43 = .ok (.ireturn, 1) := by decide +kernel
def mX11_print (I : iT) (F : fT) (x1 : Int32) (x2 : Int32) : Option (Int32 × iT) := (mX11_talkOf I F x1 x2).bind fun q1 => if q1 = ((-1)) then some ((-1), I) else (mX4_clear 4 I).bind fun q2 => (mX10_write ((F 1 5) + 1) 4 q2 q1).bind fun q3 => (mX4_size 4 q3).bind fun q4 => some (q4, q3)
set_option maxRecDepth 100000 in
set_option maxHeartbeats 4000000 in
theorem tX11_print {l : Launch} {K : a_KT} {g : a_GT} {IB : iT} (hko : a_kok K) (hS : StrOK l K g) (I : iT) (J : jT) (F : fT) (hF : FK F) (x1 : Int32) (x2 : Int32) (q : Int32 × iT) (hm : mX11_print I F x1 x2 = some q) : C l K g 17 0 0 yX11_print cX11_print 4 (some .int) [.ref 1, .int x1, .int x2] (hg I IB J F) (fun r2 h2 => r2 = some (.int q.1) ∧ h2 = hg q.2 IB J F) := by
  unfold mX11_print at hm
  refine c_of [.ref 1, .int x1, .int x2, .null] (by decide) (Nat.le_of_ble_eq_true rfl) rfl ?_
  refine e_aload_n (i := 0) rfl dX11_print_0 ?_
  refine e_iload_n (i := 1) rfl dX11_print_1 ?_
  refine e_iload_n (i := 2) rfl dX11_print_2 ?_
  obtain ⟨q1, eq1, hm⟩ := ob_some hm
  refine e_cV2 hko dX11_print_3 ml_RX11_156 iz_1 (by decide) rfl (by omega) (Nat.le_of_ble_eq_true rfl) (tX11_talkOf hko I J F hF x1 x2 _ eq1) ?_
  rintro _ _ ⟨rfl, rfl⟩
  refine q_istore_n (i := 3) (by decide) rfl dX11_print_6 ?_
  refine e_iload_n (i := 3) rfl dX11_print_7 ?_
  refine e_iconst (v := (-1)) (by decide) dX11_print_8 ?_
  refine e_icmp_ne 14 dX11_print_9 (by decide) (fun c_9 => ?_) (fun c_9 => ?_)
  · have hm := it_n c_9 hm
    refine e_aload_n (i := 0) rfl dX11_print_14 ?_
    refine q_getF 11 1 4 dX11_print_15 fl_RX11_18 rfl iz_1 (fr_1_1 hF.1) ?_
    obtain ⟨q2, eq2, hm⟩ := ob_some hm
    refine e_cV0 hko dX11_print_18 ml_RX11_70 iz_4 (by decide) rfl (by omega) (Nat.le_of_ble_eq_true rfl) (tX4_clear hko rw_4 I J F hF _ eq2) ?_
    rintro _ _ ⟨rfl, rfl⟩
    refine e_aload_n (i := 0) rfl dX11_print_21 ?_
    refine q_getF 11 5 (F 1 5) dX11_print_22 fl_RX11_31 rfl iz_1 rfl ?_
    refine q_getF 0 0 ((F 1 5) + 1) dX11_print_25 fl_RX11_160 rfl (iz_bk hF.2.1) (frb_0 hF.1 hF.2.1) ?_
    refine e_iload_n (i := 3) rfl dX11_print_28 ?_
    refine e_aload_n (i := 0) rfl dX11_print_29 ?_
    refine q_getF 11 1 4 dX11_print_30 fl_RX11_18 rfl iz_1 (fr_1_1 hF.1) ?_
    obtain ⟨q3, eq3, hm⟩ := ob_some hm
    refine e_cV2 hko dX11_print_33 ml_RX11_164 (iz_ty (bk_ty hF.2.1)) (by decide) rfl (by omega) (Nat.le_of_ble_eq_true rfl) (tX10_write hko hS (bk_ty hF.2.1) rw_4 q2 J F hF q1 _ eq3) ?_
    rintro _ _ ⟨rfl, rfl⟩
    refine e_aload_n (i := 0) rfl dX11_print_36 ?_
    refine q_getF 11 1 4 dX11_print_37 fl_RX11_18 rfl iz_1 (fr_1_1 hF.1) ?_
    obtain ⟨q4, eq4, hm⟩ := ob_some hm
    refine e_cV0 hko dX11_print_40 ml_RX11_56 iz_4 (by decide) rfl (by omega) (Nat.le_of_ble_eq_true rfl) (tX4_size hko rw_4 q3 J F hF _ eq4) ?_
    rintro _ _ ⟨rfl, rfl⟩
    refine e_iret dX11_print_43 rfl ?_
    have hm := some_in hm
    subst hm
    exact ⟨rfl, rfl⟩
  · have hm := it_p c_9 hm
    refine e_iconst (v := (-1)) (by decide) dX11_print_12 ?_
    refine e_iret dX11_print_13 rfl ?_
    have hm := some_in hm
    subst hm
    exact ⟨rfl, rfl⟩
theorem dX6_givenBy_0 : decode cX6_givenBy 0 = .ok (.aload_n 0, 1) := by decide +kernel
theorem dX6_givenBy_1 : decode cX6_givenBy 1 = .ok (.getfield 30, 3) := by decide +kernel
theorem dX6_givenBy_4 : decode cX6_givenBy 4 = .ok (.iload_n 1, 1) := by decide +kernel
theorem dX6_givenBy_5 : decode cX6_givenBy 5 = .ok (.invokevirtual 104, 3) := by decide +kernel
theorem dX6_givenBy_8 : decode cX6_givenBy 8 = .ok (.ifCond .ne 19, 3) := by decide +kernel
theorem dX6_givenBy_11 : decode cX6_givenBy 11 = .ok (.aload_n 0, 1) := by decide +kernel
theorem dX6_givenBy_12 : decode cX6_givenBy 12 = .ok (.getfield 12, 3) := by decide +kernel
theorem dX6_givenBy_15 : decode cX6_givenBy 15 = .ok (.aload_n 0, 1) := by decide +kernel
theorem dX6_givenBy_16 : decode cX6_givenBy 16 = .ok (.iload_n 1, 1) := by decide +kernel
theorem dX6_givenBy_17 : decode cX6_givenBy 17 = .ok (.iconst 0, 1) := by decide +kernel
theorem dX6_givenBy_18 : decode cX6_givenBy 18 = .ok (.invokevirtual 108, 3) := by decide +kernel
theorem dX6_givenBy_21 : decode cX6_givenBy 21 = .ok (.invokevirtual 112, 3) := by decide +kernel
theorem dX6_givenBy_24 : decode cX6_givenBy 24 = .ok (.goto 4, 3) := by decide +kernel
theorem dX6_givenBy_27 : decode cX6_givenBy 27 = .ok (.iconst (-1), 1) := by decide +kernel
theorem dX6_givenBy_28 : decode cX6_givenBy 28 = .ok (.ireturn, 1) := by decide +kernel
def mX6_givenBy (I : iT) (x1 : Int32) : Option (Int32) := (mX4_at 168 I x1).bind fun q1 => if q1 = 0 then (mX6_slotOf I x1 0).bind fun q2 => (mX1_follow I q2).bind fun q3 => some q3 else some ((-1))
set_option maxRecDepth 100000 in
set_option maxHeartbeats 4000000 in
theorem tX6_givenBy {l : Launch} {K : a_KT} {g : a_GT} {IB : iT} (hko : a_kok K) (I : iT) (J : jT) (F : fT) (hF : FK F) (x1 : Int32) (q : Int32) (hm : mX6_givenBy I x1 = some q) : C l K g 2 0 0 yX6_givenBy cX6_givenBy 2 (some .int) [.ref 148, .int x1] (hg I IB J F) (fun r2 h2 => r2 = some (.int q) ∧ h2 = hg I IB J F) := by
  unfold mX6_givenBy at hm
  refine c_of [.ref 148, .int x1] (by decide) (Nat.le_of_ble_eq_true rfl) rfl ?_
  refine e_aload_n (i := 0) rfl dX6_givenBy_0 ?_
  refine q_getF 6 3 168 dX6_givenBy_1 fl_RX6_30 rfl iz_148 (fr_148_3 hF.1) ?_
  refine e_iload_n (i := 1) rfl dX6_givenBy_4 ?_
  obtain ⟨q1, eq1, hm⟩ := ob_some hm
  refine e_cV1 hko dX6_givenBy_5 ml_RX6_104 iz_168 (by decide) rfl (by omega) (Nat.le_of_ble_eq_true rfl) (tX4_at hko rw_168 I J F hF x1 _ eq1) ?_
  rintro _ _ ⟨rfl, rfl⟩
  refine e_if_ne 27 dX6_givenBy_8 (by decide) (fun c_8 => ?_) (fun c_8 => ?_)
  · have hm := it_n c_8 hm
    refine e_iconst (v := (-1)) (by decide) dX6_givenBy_27 ?_
    refine e_iret dX6_givenBy_28 rfl ?_
    have hm := some_in hm
    subst hm
    exact ⟨rfl, rfl⟩
  · have hm := it_p c_8 hm
    refine e_aload_n (i := 0) rfl dX6_givenBy_11 ?_
    refine q_getF 6 0 149 dX6_givenBy_12 fl_RX6_12 rfl iz_148 (fr_148_0 hF.1) ?_
    refine e_aload_n (i := 0) rfl dX6_givenBy_15 ?_
    refine e_iload_n (i := 1) rfl dX6_givenBy_16 ?_
    refine e_iconst (v := 0) (by decide) dX6_givenBy_17 ?_
    obtain ⟨q2, eq2, hm⟩ := ob_some hm
    refine e_cV2 hko dX6_givenBy_18 ml_RX6_108 iz_148 (by decide) rfl (by omega) (Nat.le_of_ble_eq_true rfl) (tX6_slotOf hko I J F hF x1 0 _ eq2) ?_
    rintro _ _ ⟨rfl, rfl⟩
    obtain ⟨q3, eq3, hm⟩ := ob_some hm
    refine e_cV1 hko dX6_givenBy_21 ml_RX6_112 iz_149 (by decide) rfl (by omega) (Nat.le_of_ble_eq_true rfl) (tX1_follow hko I J F hF q2 _ eq3) ?_
    rintro _ _ ⟨rfl, rfl⟩
    refine e_goto 28 dX6_givenBy_24 (by decide) ?_
    refine e_iret dX6_givenBy_28 rfl ?_
    have hm := some_in hm
    subst hm
    exact ⟨rfl, rfl⟩
theorem dX11_process_0 : decode cX11_process 0 = .ok (.iload_n 1, 1) := by decide +kernel
theorem dX11_process_1 : decode cX11_process 1 = .ok (.ifCond .lt 14, 3) := by decide +kernel
theorem dX11_process_4 : decode cX11_process 4 = .ok (.iload_n 1, 1) := by decide +kernel
theorem dX11_process_5 : decode cX11_process 5 = .ok (.aload_n 0, 1) := by decide +kernel
theorem dX11_process_6 : decode cX11_process 6 = .ok (.getfield 52, 3) := by decide +kernel
theorem dX11_process_9 : decode cX11_process 9 = .ok (.invokevirtual 115, 3) := by decide +kernel
theorem dX11_process_12 : decode cX11_process 12 = .ok (.if_icmp .lt 5, 3) := by decide +kernel
theorem dX11_process_15 : decode cX11_process 15 = .ok (.iconst (-1), 1) := by decide +kernel
theorem dX11_process_16 : decode cX11_process 16 = .ok (.ireturn, 1) := by decide +kernel
theorem dX11_process_17 : decode cX11_process 17 = .ok (.iload_n 2, 1) := by decide +kernel
theorem dX11_process_18 : decode cX11_process 18 = .ok (.tableswitch 128 0 6 #[42, 54, 66, 83, 95, 104, 116], 42) := by decide +kernel
theorem dX11_process_60 : decode cX11_process 60 = .ok (.aload_n 0, 1) := by decide +kernel
theorem dX11_process_61 : decode cX11_process 61 = .ok (.getfield 52, 3) := by decide +kernel
theorem dX11_process_64 : decode cX11_process 64 = .ok (.getfield 183, 3) := by decide +kernel
theorem dX11_process_67 : decode cX11_process 67 = .ok (.iload_n 1, 1) := by decide +kernel
theorem dX11_process_68 : decode cX11_process 68 = .ok (.invokevirtual 140, 3) := by decide +kernel
theorem dX11_process_71 : decode cX11_process 71 = .ok (.ireturn, 1) := by decide +kernel
theorem dX11_process_72 : decode cX11_process 72 = .ok (.aload_n 0, 1) := by decide +kernel
theorem dX11_process_73 : decode cX11_process 73 = .ok (.getfield 52, 3) := by decide +kernel
theorem dX11_process_76 : decode cX11_process 76 = .ok (.getfield 186, 3) := by decide +kernel
theorem dX11_process_79 : decode cX11_process 79 = .ok (.iload_n 1, 1) := by decide +kernel
theorem dX11_process_80 : decode cX11_process 80 = .ok (.invokevirtual 140, 3) := by decide +kernel
theorem dX11_process_83 : decode cX11_process 83 = .ok (.ireturn, 1) := by decide +kernel
theorem dX11_process_84 : decode cX11_process 84 = .ok (.aload_n 0, 1) := by decide +kernel
theorem dX11_process_85 : decode cX11_process 85 = .ok (.getfield 52, 3) := by decide +kernel
theorem dX11_process_88 : decode cX11_process 88 = .ok (.iload_n 1, 1) := by decide +kernel
theorem dX11_process_89 : decode cX11_process 89 = .ok (.invokevirtual 189, 3) := by decide +kernel
theorem dX11_process_92 : decode cX11_process 92 = .ok (.ifCond .eq 7, 3) := by decide +kernel
theorem dX11_process_95 : decode cX11_process 95 = .ok (.iconst 1, 1) := by decide +kernel
theorem dX11_process_96 : decode cX11_process 96 = .ok (.goto 4, 3) := by decide +kernel
theorem dX11_process_99 : decode cX11_process 99 = .ok (.iconst 0, 1) := by decide +kernel
theorem dX11_process_100 : decode cX11_process 100 = .ok (.ireturn, 1) := by decide +kernel
theorem dX11_process_101 : decode cX11_process 101 = .ok (.aload_n 0, 1) := by decide +kernel
theorem dX11_process_102 : decode cX11_process 102 = .ok (.getfield 52, 3) := by decide +kernel
theorem dX11_process_105 : decode cX11_process 105 = .ok (.getfield 192, 3) := by decide +kernel
theorem dX11_process_108 : decode cX11_process 108 = .ok (.iload_n 1, 1) := by decide +kernel
theorem dX11_process_109 : decode cX11_process 109 = .ok (.invokevirtual 140, 3) := by decide +kernel
theorem dX11_process_112 : decode cX11_process 112 = .ok (.ireturn, 1) := by decide +kernel
theorem dX11_process_113 : decode cX11_process 113 = .ok (.aload_n 0, 1) := by decide +kernel
theorem dX11_process_114 : decode cX11_process 114 = .ok (.getfield 52, 3) := by decide +kernel
theorem dX11_process_117 : decode cX11_process 117 = .ok (.iload_n 1, 1) := by decide +kernel
theorem dX11_process_118 : decode cX11_process 118 = .ok (.invokevirtual 195, 3) := by decide +kernel
theorem dX11_process_121 : decode cX11_process 121 = .ok (.ireturn, 1) := by decide +kernel
theorem dX11_process_122 : decode cX11_process 122 = .ok (.aload_n 0, 1) := by decide +kernel
theorem dX11_process_123 : decode cX11_process 123 = .ok (.getfield 52, 3) := by decide +kernel
theorem dX11_process_126 : decode cX11_process 126 = .ok (.getfield 198, 3) := by decide +kernel
theorem dX11_process_129 : decode cX11_process 129 = .ok (.iload_n 1, 1) := by decide +kernel
theorem dX11_process_130 : decode cX11_process 130 = .ok (.invokevirtual 140, 3) := by decide +kernel
theorem dX11_process_133 : decode cX11_process 133 = .ok (.ireturn, 1) := by decide +kernel
theorem dX11_process_134 : decode cX11_process 134 = .ok (.aload_n 0, 1) := by decide +kernel
theorem dX11_process_135 : decode cX11_process 135 = .ok (.getfield 52, 3) := by decide +kernel
theorem dX11_process_138 : decode cX11_process 138 = .ok (.getfield 201, 3) := by decide +kernel
theorem dX11_process_141 : decode cX11_process 141 = .ok (.iload_n 1, 1) := by decide +kernel
theorem dX11_process_142 : decode cX11_process 142 = .ok (.invokevirtual 140, 3) := by decide +kernel
theorem dX11_process_145 : decode cX11_process 145 = .ok (.ireturn, 1) := by decide +kernel
theorem dX11_process_146 : decode cX11_process 146 = .ok (.iconst (-1), 1) := by decide +kernel
theorem dX11_process_147 : decode cX11_process 147 = .ok (.ireturn, 1) := by decide +kernel
def mX11_process (I : iT) (F : fT) (x1 : Int32) (x2 : Int32) : Option (Int32) := if x1 < 0 then some ((-1)) else (mX6_made I).bind fun q1 => if x1 < q1 then if x2 = 0 then (mX4_at 164 I x1).bind fun q2 => some q2 else if x2 = 1 then (mX4_at 168 I x1).bind fun q3 => some q3 else if x2 = 2 then (mX6_isWaiting I F x1).bind fun q4 => if q4 = 0 then some 0 else some 1 else if x2 = 3 then (mX4_at 170 I x1).bind fun q5 => some q5 else if x2 = 4 then (mX6_givenBy I x1).bind fun q6 => some q6 else if x2 = 5 then (mX4_at 172 I x1).bind fun q7 => some q7 else if x2 = 6 then (mX4_at 174 I x1).bind fun q8 => some q8 else some ((-1)) else some ((-1))
set_option maxRecDepth 100000 in
set_option maxHeartbeats 4000000 in
theorem tX11_process {l : Launch} {K : a_KT} {g : a_GT} {IB : iT} (hko : a_kok K) (I : iT) (J : jT) (F : fT) (hF : FK F) (x1 : Int32) (x2 : Int32) (q : Int32) (hm : mX11_process I F x1 x2 = some q) : C l K g 4 0 0 yX11_process cX11_process 3 (some .int) [.ref 1, .int x1, .int x2] (hg I IB J F) (fun r2 h2 => r2 = some (.int q) ∧ h2 = hg I IB J F) := by
  unfold mX11_process at hm
  refine c_of [.ref 1, .int x1, .int x2] (by decide) (Nat.le_of_ble_eq_true rfl) rfl ?_
  refine e_iload_n (i := 1) rfl dX11_process_0 ?_
  refine e_if_lt 15 dX11_process_1 (by decide) (fun c_1 => ?_) (fun c_1 => ?_)
  · have hm := it_p c_1 hm
    refine e_iconst (v := (-1)) (by decide) dX11_process_15 ?_
    refine e_iret dX11_process_16 rfl ?_
    have hm := some_in hm
    subst hm
    exact ⟨rfl, rfl⟩
  · have hm := it_n c_1 hm
    refine e_iload_n (i := 1) rfl dX11_process_4 ?_
    refine e_aload_n (i := 0) rfl dX11_process_5 ?_
    refine q_getF 11 4 148 dX11_process_6 fl_RX11_52 rfl iz_1 (fr_1_4 hF.1) ?_
    obtain ⟨q1, eq1, hm⟩ := ob_some hm
    refine e_cV0 hko dX11_process_9 ml_RX11_115 iz_148 (by decide) rfl (by omega) (Nat.le_of_ble_eq_true rfl) (tX6_made hko I J F hF _ eq1) ?_
    rintro _ _ ⟨rfl, rfl⟩
    refine e_icmp_lt 17 dX11_process_12 (by decide) (fun c_12 => ?_) (fun c_12 => ?_)
    · have hm := it_p c_12 hm
      refine e_iload_n (i := 2) rfl dX11_process_17 ?_
      by_cases c_18_0 : x2 = 0
      · have hm := it_p c_18_0 hm
        refine e_tableIn 60 dX11_process_18 (by rw [c_18_0]; decide) (by rw [c_18_0]; decide) (off := 42) (by rw [c_18_0]; decide) (by decide) ?_
        refine e_aload_n (i := 0) rfl dX11_process_60 ?_
        refine q_getF 11 4 148 dX11_process_61 fl_RX11_52 rfl iz_1 (fr_1_4 hF.1) ?_
        refine q_getF 6 1 164 dX11_process_64 fl_RX11_183 rfl iz_148 (fr_148_1 hF.1) ?_
        refine e_iload_n (i := 1) rfl dX11_process_67 ?_
        obtain ⟨q2, eq2, hm⟩ := ob_some hm
        refine e_cV1 hko dX11_process_68 ml_RX11_140 iz_164 (by decide) rfl (by omega) (Nat.le_of_ble_eq_true rfl) (tX4_at hko rw_164 I J F hF x1 _ eq2) ?_
        rintro _ _ ⟨rfl, rfl⟩
        refine e_iret dX11_process_71 rfl ?_
        have hm := some_in hm
        subst hm
        exact ⟨rfl, rfl⟩
      have hm := it_n c_18_0 hm
      by_cases c_18_1 : x2 = 1
      · have hm := it_p c_18_1 hm
        refine e_tableIn 72 dX11_process_18 (by rw [c_18_1]; decide) (by rw [c_18_1]; decide) (off := 54) (by rw [c_18_1]; decide) (by decide) ?_
        refine e_aload_n (i := 0) rfl dX11_process_72 ?_
        refine q_getF 11 4 148 dX11_process_73 fl_RX11_52 rfl iz_1 (fr_1_4 hF.1) ?_
        refine q_getF 6 3 168 dX11_process_76 fl_RX11_186 rfl iz_148 (fr_148_3 hF.1) ?_
        refine e_iload_n (i := 1) rfl dX11_process_79 ?_
        obtain ⟨q3, eq3, hm⟩ := ob_some hm
        refine e_cV1 hko dX11_process_80 ml_RX11_140 iz_168 (by decide) rfl (by omega) (Nat.le_of_ble_eq_true rfl) (tX4_at hko rw_168 I J F hF x1 _ eq3) ?_
        rintro _ _ ⟨rfl, rfl⟩
        refine e_iret dX11_process_83 rfl ?_
        have hm := some_in hm
        subst hm
        exact ⟨rfl, rfl⟩
      have hm := it_n c_18_1 hm
      by_cases c_18_2 : x2 = 2
      · have hm := it_p c_18_2 hm
        refine e_tableIn 84 dX11_process_18 (by rw [c_18_2]; decide) (by rw [c_18_2]; decide) (off := 66) (by rw [c_18_2]; decide) (by decide) ?_
        refine e_aload_n (i := 0) rfl dX11_process_84 ?_
        refine q_getF 11 4 148 dX11_process_85 fl_RX11_52 rfl iz_1 (fr_1_4 hF.1) ?_
        refine e_iload_n (i := 1) rfl dX11_process_88 ?_
        obtain ⟨q4, eq4, hm⟩ := ob_some hm
        refine e_cV1 hko dX11_process_89 ml_RX11_189 iz_148 (by decide) rfl (by omega) (Nat.le_of_ble_eq_true rfl) (tX6_isWaiting hko I J F hF x1 _ eq4) ?_
        rintro _ _ ⟨rfl, rfl⟩
        refine e_if_eq 99 dX11_process_92 (by decide) (fun c_92 => ?_) (fun c_92 => ?_)
        · have hm := it_p c_92 hm
          refine e_iconst (v := 0) (by decide) dX11_process_99 ?_
          refine e_iret dX11_process_100 rfl ?_
          have hm := some_in hm
          subst hm
          exact ⟨rfl, rfl⟩
        · have hm := it_n c_92 hm
          refine e_iconst (v := 1) (by decide) dX11_process_95 ?_
          refine e_goto 100 dX11_process_96 (by decide) ?_
          refine e_iret dX11_process_100 rfl ?_
          have hm := some_in hm
          subst hm
          exact ⟨rfl, rfl⟩
      have hm := it_n c_18_2 hm
      by_cases c_18_3 : x2 = 3
      · have hm := it_p c_18_3 hm
        refine e_tableIn 101 dX11_process_18 (by rw [c_18_3]; decide) (by rw [c_18_3]; decide) (off := 83) (by rw [c_18_3]; decide) (by decide) ?_
        refine e_aload_n (i := 0) rfl dX11_process_101 ?_
        refine q_getF 11 4 148 dX11_process_102 fl_RX11_52 rfl iz_1 (fr_1_4 hF.1) ?_
        refine q_getF 6 4 170 dX11_process_105 fl_RX11_192 rfl iz_148 (fr_148_4 hF.1) ?_
        refine e_iload_n (i := 1) rfl dX11_process_108 ?_
        obtain ⟨q5, eq5, hm⟩ := ob_some hm
        refine e_cV1 hko dX11_process_109 ml_RX11_140 iz_170 (by decide) rfl (by omega) (Nat.le_of_ble_eq_true rfl) (tX4_at hko rw_170 I J F hF x1 _ eq5) ?_
        rintro _ _ ⟨rfl, rfl⟩
        refine e_iret dX11_process_112 rfl ?_
        have hm := some_in hm
        subst hm
        exact ⟨rfl, rfl⟩
      have hm := it_n c_18_3 hm
      by_cases c_18_4 : x2 = 4
      · have hm := it_p c_18_4 hm
        refine e_tableIn 113 dX11_process_18 (by rw [c_18_4]; decide) (by rw [c_18_4]; decide) (off := 95) (by rw [c_18_4]; decide) (by decide) ?_
        refine e_aload_n (i := 0) rfl dX11_process_113 ?_
        refine q_getF 11 4 148 dX11_process_114 fl_RX11_52 rfl iz_1 (fr_1_4 hF.1) ?_
        refine e_iload_n (i := 1) rfl dX11_process_117 ?_
        obtain ⟨q6, eq6, hm⟩ := ob_some hm
        refine e_cV1 hko dX11_process_118 ml_RX11_195 iz_148 (by decide) rfl (by omega) (Nat.le_of_ble_eq_true rfl) (tX6_givenBy hko I J F hF x1 _ eq6) ?_
        rintro _ _ ⟨rfl, rfl⟩
        refine e_iret dX11_process_121 rfl ?_
        have hm := some_in hm
        subst hm
        exact ⟨rfl, rfl⟩
      have hm := it_n c_18_4 hm
      by_cases c_18_5 : x2 = 5
      · have hm := it_p c_18_5 hm
        refine e_tableIn 122 dX11_process_18 (by rw [c_18_5]; decide) (by rw [c_18_5]; decide) (off := 104) (by rw [c_18_5]; decide) (by decide) ?_
        refine e_aload_n (i := 0) rfl dX11_process_122 ?_
        refine q_getF 11 4 148 dX11_process_123 fl_RX11_52 rfl iz_1 (fr_1_4 hF.1) ?_
        refine q_getF 6 5 172 dX11_process_126 fl_RX11_198 rfl iz_148 (fr_148_5 hF.1) ?_
        refine e_iload_n (i := 1) rfl dX11_process_129 ?_
        obtain ⟨q7, eq7, hm⟩ := ob_some hm
        refine e_cV1 hko dX11_process_130 ml_RX11_140 iz_172 (by decide) rfl (by omega) (Nat.le_of_ble_eq_true rfl) (tX4_at hko rw_172 I J F hF x1 _ eq7) ?_
        rintro _ _ ⟨rfl, rfl⟩
        refine e_iret dX11_process_133 rfl ?_
        have hm := some_in hm
        subst hm
        exact ⟨rfl, rfl⟩
      have hm := it_n c_18_5 hm
      by_cases c_18_6 : x2 = 6
      · have hm := it_p c_18_6 hm
        refine e_tableIn 134 dX11_process_18 (by rw [c_18_6]; decide) (by rw [c_18_6]; decide) (off := 116) (by rw [c_18_6]; decide) (by decide) ?_
        refine e_aload_n (i := 0) rfl dX11_process_134 ?_
        refine q_getF 11 4 148 dX11_process_135 fl_RX11_52 rfl iz_1 (fr_1_4 hF.1) ?_
        refine q_getF 6 6 174 dX11_process_138 fl_RX11_201 rfl iz_148 (fr_148_6 hF.1) ?_
        refine e_iload_n (i := 1) rfl dX11_process_141 ?_
        obtain ⟨q8, eq8, hm⟩ := ob_some hm
        refine e_cV1 hko dX11_process_142 ml_RX11_140 iz_174 (by decide) rfl (by omega) (Nat.le_of_ble_eq_true rfl) (tX4_at hko rw_174 I J F hF x1 _ eq8) ?_
        rintro _ _ ⟨rfl, rfl⟩
        refine e_iret dX11_process_145 rfl ?_
        have hm := some_in hm
        subst hm
        exact ⟨rfl, rfl⟩
      have hm := it_n c_18_6 hm
      have n_18_0 := lv_neT (a := 0) c_18_0 (by decide)
      have n_18_1 := lv_neT (a := 1) c_18_1 (by decide)
      have n_18_2 := lv_neT (a := 2) c_18_2 (by decide)
      have n_18_3 := lv_neT (a := 3) c_18_3 (by decide)
      have n_18_4 := lv_neT (a := 4) c_18_4 (by decide)
      have n_18_5 := lv_neT (a := 5) c_18_5 (by decide)
      have n_18_6 := lv_neT (a := 6) c_18_6 (by decide)
      refine e_tableOut 146 dX11_process_18 (by omega) (by decide) ?_
      refine e_iconst (v := (-1)) (by decide) dX11_process_146 ?_
      refine e_iret dX11_process_147 rfl ?_
      have hm := some_in hm
      subst hm
      exact ⟨rfl, rfl⟩
    · have hm := it_n c_12 hm
      refine e_iconst (v := (-1)) (by decide) dX11_process_15 ?_
      refine e_iret dX11_process_16 rfl ?_
      have hm := some_in hm
      subst hm
      exact ⟨rfl, rfl⟩
theorem dX11_ready_0 : decode cX11_ready 0 = .ok (.aload_n 0, 1) := by decide +kernel
theorem dX11_ready_1 : decode cX11_ready 1 = .ok (.getfield 52, 3) := by decide +kernel
theorem dX11_ready_4 : decode cX11_ready 4 = .ok (.getfield 176, 3) := by decide +kernel
theorem dX11_ready_7 : decode cX11_ready 7 = .ok (.invokevirtual 56, 3) := by decide +kernel
theorem dX11_ready_10 : decode cX11_ready 10 = .ok (.ireturn, 1) := by decide +kernel
def mX11_ready (I : iT) : Option (Int32) := (mX4_size 180 I).bind fun q1 => some q1
set_option maxRecDepth 100000 in
set_option maxHeartbeats 4000000 in
theorem tX11_ready {l : Launch} {K : a_KT} {g : a_GT} {IB : iT} (hko : a_kok K) (I : iT) (J : jT) (F : fT) (hF : FK F) (q : Int32) (hm : mX11_ready I = some q) : C l K g 1 0 0 yX11_ready cX11_ready 1 (some .int) [.ref 1] (hg I IB J F) (fun r2 h2 => r2 = some (.int q) ∧ h2 = hg I IB J F) := by
  unfold mX11_ready at hm
  refine c_of [.ref 1] (by decide) (Nat.le_of_ble_eq_true rfl) rfl ?_
  refine e_aload_n (i := 0) rfl dX11_ready_0 ?_
  refine q_getF 11 4 148 dX11_ready_1 fl_RX11_52 rfl iz_1 (fr_1_4 hF.1) ?_
  refine q_getF 6 9 180 dX11_ready_4 fl_RX11_176 rfl iz_148 (fr_148_9 hF.1) ?_
  obtain ⟨q1, eq1, hm⟩ := ob_some hm
  refine e_cV0 hko dX11_ready_7 ml_RX11_56 iz_180 (by decide) rfl (by omega) (Nat.le_of_ble_eq_true rfl) (tX4_size hko rw_180 I J F hF _ eq1) ?_
  rintro _ _ ⟨rfl, rfl⟩
  refine e_iret dX11_ready_10 rfl ?_
  have hm := some_in hm
  subst hm
  exact ⟨rfl, rfl⟩
theorem dX6_finish_0 : decode cX6_finish 0 = .ok (.aload_n 0, 1) := by decide +kernel
theorem dX6_finish_1 : decode cX6_finish 1 = .ok (.getfield 30, 3) := by decide +kernel
theorem dX6_finish_4 : decode cX6_finish 4 = .ok (.iload_n 1, 1) := by decide +kernel
theorem dX6_finish_5 : decode cX6_finish 5 = .ok (.iconst 1, 1) := by decide +kernel
theorem dX6_finish_6 : decode cX6_finish 6 = .ok (.invokevirtual 115, 3) := by decide +kernel
theorem dX6_finish_9 : decode cX6_finish 9 = .ok (.aload_n 0, 1) := by decide +kernel
theorem dX6_finish_10 : decode cX6_finish 10 = .ok (.getfield 36, 3) := by decide +kernel
theorem dX6_finish_13 : decode cX6_finish 13 = .ok (.iload_n 1, 1) := by decide +kernel
theorem dX6_finish_14 : decode cX6_finish 14 = .ok (.iconst 0, 1) := by decide +kernel
theorem dX6_finish_15 : decode cX6_finish 15 = .ok (.invokevirtual 115, 3) := by decide +kernel
theorem dX6_finish_18 : decode cX6_finish 18 = .ok (.return_, 1) := by decide +kernel
def mX6_finish (I : iT) (x1 : Int32) : Option (iT) := (mX4_put 168 I x1 1).bind fun q1 => (mX4_put 172 q1 x1 0).bind fun q2 => some q2
set_option maxRecDepth 100000 in
set_option maxHeartbeats 4000000 in
theorem tX6_finish {l : Launch} {K : a_KT} {g : a_GT} {IB : iT} (hko : a_kok K) (I : iT) (J : jT) (F : fT) (hF : FK F) (x1 : Int32) (q : iT) (hm : mX6_finish I x1 = some q) : C l K g 1 0 0 yX6_finish cX6_finish 2 none [.ref 148, .int x1] (hg I IB J F) (fun r2 h2 => r2 = none ∧ h2 = hg q IB J F) := by
  unfold mX6_finish at hm
  refine c_of [.ref 148, .int x1] (by decide) (Nat.le_of_ble_eq_true rfl) rfl ?_
  refine e_aload_n (i := 0) rfl dX6_finish_0 ?_
  refine q_getF 6 3 168 dX6_finish_1 fl_RX6_30 rfl iz_148 (fr_148_3 hF.1) ?_
  refine e_iload_n (i := 1) rfl dX6_finish_4 ?_
  refine e_iconst (v := 1) (by decide) dX6_finish_5 ?_
  obtain ⟨q1, eq1, hm⟩ := ob_some hm
  refine e_cV2 hko dX6_finish_6 ml_RX6_115 iz_168 (by decide) rfl (by omega) (Nat.le_of_ble_eq_true rfl) (tX4_put hko rw_168 I J F hF x1 1 _ eq1) ?_
  rintro _ _ ⟨rfl, rfl⟩
  refine e_aload_n (i := 0) rfl dX6_finish_9 ?_
  refine q_getF 6 5 172 dX6_finish_10 fl_RX6_36 rfl iz_148 (fr_148_5 hF.1) ?_
  refine e_iload_n (i := 1) rfl dX6_finish_13 ?_
  refine e_iconst (v := 0) (by decide) dX6_finish_14 ?_
  obtain ⟨q2, eq2, hm⟩ := ob_some hm
  refine e_cV2 hko dX6_finish_15 ml_RX6_115 iz_172 (by decide) rfl (by omega) (Nat.le_of_ble_eq_true rfl) (tX4_put hko rw_172 q1 J F hF x1 0 _ eq2) ?_
  rintro _ _ ⟨rfl, rfl⟩
  refine e_vret dX6_finish_18 rfl ?_
  have hm := some_in hm
  subst hm
  exact ⟨rfl, rfl⟩
theorem dX6_gatherArgs_0 : decode cX6_gatherArgs 0 = .ok (.aload_n 0, 1) := by decide +kernel
theorem dX6_gatherArgs_1 : decode cX6_gatherArgs 1 = .ok (.getfield 57, 3) := by decide +kernel
theorem dX6_gatherArgs_4 : decode cX6_gatherArgs 4 = .ok (.getfield 143, 3) := by decide +kernel
theorem dX6_gatherArgs_7 : decode cX6_gatherArgs 7 = .ok (.iload_n 2, 1) := by decide +kernel
theorem dX6_gatherArgs_8 : decode cX6_gatherArgs 8 = .ok (.invokevirtual 104, 3) := by decide +kernel
theorem dX6_gatherArgs_11 : decode cX6_gatherArgs 11 = .ok (.istore_n 3, 1) := by decide +kernel
theorem dX6_gatherArgs_12 : decode cX6_gatherArgs 12 = .ok (.aload_n 0, 1) := by decide +kernel
theorem dX6_gatherArgs_13 : decode cX6_gatherArgs 13 = .ok (.getfield 57, 3) := by decide +kernel
theorem dX6_gatherArgs_16 : decode cX6_gatherArgs 16 = .ok (.getfield 137, 3) := by decide +kernel
theorem dX6_gatherArgs_19 : decode cX6_gatherArgs 19 = .ok (.iload_n 2, 1) := by decide +kernel
theorem dX6_gatherArgs_20 : decode cX6_gatherArgs 20 = .ok (.invokevirtual 104, 3) := by decide +kernel
theorem dX6_gatherArgs_23 : decode cX6_gatherArgs 23 = .ok (.istore 4, 2) := by decide +kernel
theorem dX6_gatherArgs_25 : decode cX6_gatherArgs 25 = .ok (.aload_n 0, 1) := by decide +kernel
theorem dX6_gatherArgs_26 : decode cX6_gatherArgs 26 = .ok (.getfield 45, 3) := by decide +kernel
theorem dX6_gatherArgs_29 : decode cX6_gatherArgs 29 = .ok (.invokevirtual 67, 3) := by decide +kernel
theorem dX6_gatherArgs_32 : decode cX6_gatherArgs 32 = .ok (.iconst 0, 1) := by decide +kernel
theorem dX6_gatherArgs_33 : decode cX6_gatherArgs 33 = .ok (.istore 5, 2) := by decide +kernel
theorem dX6_gatherArgs_35 : decode cX6_gatherArgs 35 = .ok (.iload 5, 2) := by decide +kernel
theorem dX6_gatherArgs_37 : decode cX6_gatherArgs 37 = .ok (.aload_n 0, 1) := by decide +kernel
theorem dX6_gatherArgs_38 : decode cX6_gatherArgs 38 = .ok (.getfield 57, 3) := by decide +kernel
theorem dX6_gatherArgs_41 : decode cX6_gatherArgs 41 = .ok (.getfield 206, 3) := by decide +kernel
theorem dX6_gatherArgs_44 : decode cX6_gatherArgs 44 = .ok (.iload_n 3, 1) := by decide +kernel
theorem dX6_gatherArgs_45 : decode cX6_gatherArgs 45 = .ok (.invokevirtual 104, 3) := by decide +kernel
theorem dX6_gatherArgs_48 : decode cX6_gatherArgs 48 = .ok (.if_icmp .ge 65, 3) := by decide +kernel
theorem dX6_gatherArgs_51 : decode cX6_gatherArgs 51 = .ok (.aload_n 0, 1) := by decide +kernel
theorem dX6_gatherArgs_52 : decode cX6_gatherArgs 52 = .ok (.getfield 57, 3) := by decide +kernel
theorem dX6_gatherArgs_55 : decode cX6_gatherArgs 55 = .ok (.getfield 209, 3) := by decide +kernel
theorem dX6_gatherArgs_58 : decode cX6_gatherArgs 58 = .ok (.iload 4, 2) := by decide +kernel
theorem dX6_gatherArgs_60 : decode cX6_gatherArgs 60 = .ok (.iload 5, 2) := by decide +kernel
theorem dX6_gatherArgs_62 : decode cX6_gatherArgs 62 = .ok (.iadd, 1) := by decide +kernel
theorem dX6_gatherArgs_63 : decode cX6_gatherArgs 63 = .ok (.invokevirtual 104, 3) := by decide +kernel
theorem dX6_gatherArgs_66 : decode cX6_gatherArgs 66 = .ok (.istore 6, 2) := by decide +kernel
theorem dX6_gatherArgs_68 : decode cX6_gatherArgs 68 = .ok (.aload_n 0, 1) := by decide +kernel
theorem dX6_gatherArgs_69 : decode cX6_gatherArgs 69 = .ok (.getfield 45, 3) := by decide +kernel
theorem dX6_gatherArgs_72 : decode cX6_gatherArgs 72 = .ok (.aload_n 0, 1) := by decide +kernel
theorem dX6_gatherArgs_73 : decode cX6_gatherArgs 73 = .ok (.getfield 57, 3) := by decide +kernel
theorem dX6_gatherArgs_76 : decode cX6_gatherArgs 76 = .ok (.iload_n 3, 1) := by decide +kernel
theorem dX6_gatherArgs_77 : decode cX6_gatherArgs 77 = .ok (.iload 5, 2) := by decide +kernel
theorem dX6_gatherArgs_79 : decode cX6_gatherArgs 79 = .ok (.invokevirtual 212, 3) := by decide +kernel
theorem dX6_gatherArgs_82 : decode cX6_gatherArgs 82 = .ok (.iconst (-1), 1) := by decide +kernel
theorem dX6_gatherArgs_83 : decode cX6_gatherArgs 83 = .ok (.if_icmp .ne 13, 3) := by decide +kernel
theorem dX6_gatherArgs_86 : decode cX6_gatherArgs 86 = .ok (.aload_n 0, 1) := by decide +kernel
theorem dX6_gatherArgs_87 : decode cX6_gatherArgs 87 = .ok (.iload_n 1, 1) := by decide +kernel
theorem dX6_gatherArgs_88 : decode cX6_gatherArgs 88 = .ok (.iload 6, 2) := by decide +kernel
theorem dX6_gatherArgs_90 : decode cX6_gatherArgs 90 = .ok (.invokevirtual 140, 3) := by decide +kernel
theorem dX6_gatherArgs_93 : decode cX6_gatherArgs 93 = .ok (.goto 10, 3) := by decide +kernel
theorem dX6_gatherArgs_96 : decode cX6_gatherArgs 96 = .ok (.aload_n 0, 1) := by decide +kernel
theorem dX6_gatherArgs_97 : decode cX6_gatherArgs 97 = .ok (.iload_n 1, 1) := by decide +kernel
theorem dX6_gatherArgs_98 : decode cX6_gatherArgs 98 = .ok (.iload 6, 2) := by decide +kernel
theorem dX6_gatherArgs_100 : decode cX6_gatherArgs 100 = .ok (.invokevirtual 108, 3) := by decide +kernel
theorem dX6_gatherArgs_103 : decode cX6_gatherArgs 103 = .ok (.invokevirtual 118, 3) := by decide +kernel
theorem dX6_gatherArgs_106 : decode cX6_gatherArgs 106 = .ok (.pop, 1) := by decide +kernel
theorem dX6_gatherArgs_107 : decode cX6_gatherArgs 107 = .ok (.iinc 5 1, 3) := by decide +kernel
theorem dX6_gatherArgs_110 : decode cX6_gatherArgs 110 = .ok (.goto (-75), 3) := by decide +kernel
theorem dX6_gatherArgs_113 : decode cX6_gatherArgs 113 = .ok (.return_, 1) := by decide +kernel
def mX6_gatherArgs_103 (k35 : iT → fT → Int32 → Int32 → Int32 → Int32 → Int32 → Option (iT)) (I : iT) (F : fT) (x1 : Int32) (x2 : Int32) (x3 : Int32) (x4 : Int32) (x5 : Int32) (x6 : Int32) (s0 : Int32) : Option (iT) := (mX4_add 178 I s0).bind fun q1 => k35 q1.2 F x1 x2 x3 x4 (x5 + 1)
def mX6_gatherArgs_35 : Nat → iT → fT → Int32 → Int32 → Int32 → Int32 → Int32 → Option (iT)
  | 0, _, _, _, _, _, _, _ => none
  | n + 1, I, F, x1, x2, x3, x4, x5 => (mX4_at ((F 148 12) + 43) I x3).bind fun q2 => if q2 ≤ x5 then some I else (mX4_at ((F 148 12) + 59) I (x4 + x5)).bind fun q3 => (mX0_paramT (F 148 12) I x3 x5).bind fun q4 => if q4 = ((-1)) then (mX6_numberOf I F x1 q3).bind fun q6 => mX6_gatherArgs_103 (mX6_gatherArgs_35 n) q6.2 F x1 x2 x3 x4 x5 q3 q6.1 else (mX6_slotOf I x1 q3).bind fun q5 => mX6_gatherArgs_103 (mX6_gatherArgs_35 n) I F x1 x2 x3 x4 x5 q3 q5
def mX6_gatherArgs (I : iT) (F : fT) (x1 : Int32) (x2 : Int32) : Option (iT) := (mX4_at ((F 148 12) + 51) I x2).bind fun q7 => (mX4_at ((F 148 12) + 53) I x2).bind fun q8 => (mX4_clear 178 I).bind fun q9 => mX6_gatherArgs_35 LF q9 F x1 x2 q7 q8 0
set_option maxRecDepth 100000 in
set_option maxHeartbeats 4000000 in
theorem tX6_gatherArgs_103 {l : Launch} {K : a_KT} {g : a_GT} {IB : iT} (hko : a_kok K) {J : jT} {k35 : iT → fT → Int32 → Int32 → Int32 → Int32 → Int32 → Option (iT)} (hk35 : ∀ (I : iT) (F : fT) (x1 : Int32) (x2 : Int32) (x3 : Int32) (x4 : Int32) (x5 : Int32) (_ : FK F) (q : iT), k35 I F x1 x2 x3 x4 x5 = some q → E l K g 4 0 0 yX6_gatherArgs cX6_gatherArgs 7 none 35 [.ref 148, .int x1, .int x2, .int x3, .int x4, .int x5, .null] [] (hg I IB J F) (fun r2 h2 => r2 = none ∧ h2 = hg q IB J F)) (I : iT) (F : fT) (x1 : Int32) (x2 : Int32) (x3 : Int32) (x4 : Int32) (x5 : Int32) (x6 : Int32) (s0 : Int32) (hF : FK F) (q : iT) (hm : mX6_gatherArgs_103 k35 I F x1 x2 x3 x4 x5 x6 s0 = some q) : E l K g 4 0 0 yX6_gatherArgs cX6_gatherArgs 7 none 103 [.ref 148, .int x1, .int x2, .int x3, .int x4, .int x5, .int x6] [.int s0, .ref 178] (hg I IB J F) (fun r2 h2 => r2 = none ∧ h2 = hg q IB J F) := by
  unfold mX6_gatherArgs_103 at hm
  obtain ⟨q1, eq1, hm⟩ := ob_some hm
  refine e_cV1 hko dX6_gatherArgs_103 ml_RX6_118 iz_178 (by decide) rfl (by omega) (Nat.le_of_ble_eq_true rfl) (tX4_add hko rw_178 I J F hF s0 _ eq1) ?_
  rintro _ _ ⟨rfl, rfl⟩
  refine e_pop rfl dX6_gatherArgs_106 ?_
  refine q_iinc (i := 5) (x5 + 1) rfl ic_1 rfl dX6_gatherArgs_107 ?_
  refine e_goto 35 dX6_gatherArgs_110 (by decide) ?_
  refine e_weak [.ref 148, .int x1, .int x2, .int x3, .int x4, .int (x5 + 1), .null] ⟨rfl, ⟨rfl, ⟨rfl, ⟨rfl, ⟨rfl, ⟨rfl, ⟨trivial, trivial⟩⟩⟩⟩⟩⟩⟩ ?_
  exact hk35 q1.2 F x1 x2 x3 x4 (x5 + 1) hF _ hm
set_option maxRecDepth 100000 in
set_option maxHeartbeats 4000000 in
theorem tX6_gatherArgs_35 {l : Launch} {K : a_KT} {g : a_GT} {IB : iT} (hko : a_kok K) {J : jT} : ∀ (n : Nat) (I : iT) (F : fT) (x1 : Int32) (x2 : Int32) (x3 : Int32) (x4 : Int32) (x5 : Int32) (hF : FK F) (q : iT), mX6_gatherArgs_35 n I F x1 x2 x3 x4 x5 = some q → E l K g 4 0 0 yX6_gatherArgs cX6_gatherArgs 7 none 35 [.ref 148, .int x1, .int x2, .int x3, .int x4, .int x5, .null] [] (hg I IB J F) (fun r2 h2 => r2 = none ∧ h2 = hg q IB J F) := by
  intro n
  induction n with
  | zero => intro I F x1 x2 x3 x4 x5 hF q hm; cases hm
  | succ n ih =>
    intro I F x1 x2 x3 x4 x5 hF q hm
    rw [mX6_gatherArgs_35] at hm
    refine e_iload (i := 5) rfl dX6_gatherArgs_35 ?_
    refine e_aload_n (i := 0) rfl dX6_gatherArgs_37 ?_
    refine q_getF 6 12 (F 148 12) dX6_gatherArgs_38 fl_RX6_57 rfl iz_148 rfl ?_
    refine q_getF 0 9 ((F 148 12) + 43) dX6_gatherArgs_41 fl_RX6_206 rfl (iz_bk hF.2.2.2.2.2.2) (frb_9 hF.1 hF.2.2.2.2.2.2) ?_
    refine e_iload_n (i := 3) rfl dX6_gatherArgs_44 ?_
    obtain ⟨q2, eq2, hm⟩ := ob_some hm
    refine e_cV1 hko dX6_gatherArgs_45 ml_RX6_104 (iz_row (rwb_43 hF.2.2.2.2.2.2)) (by decide) rfl (by omega) (Nat.le_of_ble_eq_true rfl) (tX4_at hko (rwb_43 hF.2.2.2.2.2.2) I J F hF x3 _ eq2) ?_
    rintro _ _ ⟨rfl, rfl⟩
    refine e_icmp_ge 113 dX6_gatherArgs_48 (by decide) (fun c_48 => ?_) (fun c_48 => ?_)
    · have hm := it_p c_48 hm
      refine e_vret dX6_gatherArgs_113 rfl ?_
      have hm := some_in hm
      subst hm
      exact ⟨rfl, rfl⟩
    · have hm := it_n c_48 hm
      refine e_aload_n (i := 0) rfl dX6_gatherArgs_51 ?_
      refine q_getF 6 12 (F 148 12) dX6_gatherArgs_52 fl_RX6_57 rfl iz_148 rfl ?_
      refine q_getF 0 17 ((F 148 12) + 59) dX6_gatherArgs_55 fl_RX6_209 rfl (iz_bk hF.2.2.2.2.2.2) (frb_17 hF.1 hF.2.2.2.2.2.2) ?_
      refine e_iload (i := 4) rfl dX6_gatherArgs_58 ?_
      refine e_iload (i := 5) rfl dX6_gatherArgs_60 ?_
      refine e_iadd dX6_gatherArgs_62 ?_
      obtain ⟨q3, eq3, hm⟩ := ob_some hm
      refine e_cV1 hko dX6_gatherArgs_63 ml_RX6_104 (iz_row (rwb_59 hF.2.2.2.2.2.2)) (by decide) rfl (by omega) (Nat.le_of_ble_eq_true rfl) (tX4_at hko (rwb_59 hF.2.2.2.2.2.2) I J F hF (x4 + x5) _ eq3) ?_
      rintro _ _ ⟨rfl, rfl⟩
      refine q_istore (i := 6) (by decide) rfl dX6_gatherArgs_66 ?_
      refine e_aload_n (i := 0) rfl dX6_gatherArgs_68 ?_
      refine q_getF 6 8 178 dX6_gatherArgs_69 fl_RX6_45 rfl iz_148 (fr_148_8 hF.1) ?_
      refine e_aload_n (i := 0) rfl dX6_gatherArgs_72 ?_
      refine q_getF 6 12 (F 148 12) dX6_gatherArgs_73 fl_RX6_57 rfl iz_148 rfl ?_
      refine e_iload_n (i := 3) rfl dX6_gatherArgs_76 ?_
      refine e_iload (i := 5) rfl dX6_gatherArgs_77 ?_
      obtain ⟨q4, eq4, hm⟩ := ob_some hm
      refine e_cV2 hko dX6_gatherArgs_79 ml_RX6_212 (iz_bk hF.2.2.2.2.2.2) (by decide) rfl (by omega) (Nat.le_of_ble_eq_true rfl) (tX0_paramT hko hF.2.2.2.2.2.2 I J F hF x3 x5 _ eq4) ?_
      rintro _ _ ⟨rfl, rfl⟩
      refine e_iconst (v := (-1)) (by decide) dX6_gatherArgs_82 ?_
      refine e_icmp_ne 96 dX6_gatherArgs_83 (by decide) (fun c_83 => ?_) (fun c_83 => ?_)
      · have hm := it_n c_83 hm
        refine e_aload_n (i := 0) rfl dX6_gatherArgs_96 ?_
        refine e_iload_n (i := 1) rfl dX6_gatherArgs_97 ?_
        refine e_iload (i := 6) rfl dX6_gatherArgs_98 ?_
        obtain ⟨q5, eq5, hm⟩ := ob_some hm
        refine e_cV2 hko dX6_gatherArgs_100 ml_RX6_108 iz_148 (by decide) rfl (by omega) (Nat.le_of_ble_eq_true rfl) (tX6_slotOf hko I J F hF x1 q3 _ eq5) ?_
        rintro _ _ ⟨rfl, rfl⟩
        refine e_weak [.ref 148, .int x1, .int x2, .int x3, .int x4, .int x5, .int q3] ⟨rfl, ⟨rfl, ⟨rfl, ⟨rfl, ⟨rfl, ⟨rfl, ⟨rfl, trivial⟩⟩⟩⟩⟩⟩⟩ ?_
        exact tX6_gatherArgs_103 hko (ih) I F x1 x2 x3 x4 x5 q3 q5 hF _ hm
      · have hm := it_p c_83 hm
        refine e_aload_n (i := 0) rfl dX6_gatherArgs_86 ?_
        refine e_iload_n (i := 1) rfl dX6_gatherArgs_87 ?_
        refine e_iload (i := 6) rfl dX6_gatherArgs_88 ?_
        obtain ⟨q6, eq6, hm⟩ := ob_some hm
        refine e_cV2 hko dX6_gatherArgs_90 ml_RX6_140 iz_148 (by decide) rfl (by omega) (Nat.le_of_ble_eq_true rfl) (tX6_numberOf hko I J F hF x1 q3 _ eq6) ?_
        rintro _ _ ⟨rfl, rfl⟩
        refine e_goto 103 dX6_gatherArgs_93 (by decide) ?_
        refine e_weak [.ref 148, .int x1, .int x2, .int x3, .int x4, .int x5, .int q3] ⟨rfl, ⟨rfl, ⟨rfl, ⟨rfl, ⟨rfl, ⟨rfl, ⟨rfl, trivial⟩⟩⟩⟩⟩⟩⟩ ?_
        exact tX6_gatherArgs_103 hko (ih) q6.2 F x1 x2 x3 x4 x5 q3 q6.1 hF _ hm
set_option maxRecDepth 100000 in
set_option maxHeartbeats 4000000 in
theorem tX6_gatherArgs {l : Launch} {K : a_KT} {g : a_GT} {IB : iT} (hko : a_kok K) (I : iT) (J : jT) (F : fT) (hF : FK F) (x1 : Int32) (x2 : Int32) (q : iT) (hm : mX6_gatherArgs I F x1 x2 = some q) : C l K g 4 0 0 yX6_gatherArgs cX6_gatherArgs 7 none [.ref 148, .int x1, .int x2] (hg I IB J F) (fun r2 h2 => r2 = none ∧ h2 = hg q IB J F) := by
  unfold mX6_gatherArgs at hm
  refine c_of [.ref 148, .int x1, .int x2, .null, .null, .null, .null] (by decide) (Nat.le_of_ble_eq_true rfl) rfl ?_
  refine e_aload_n (i := 0) rfl dX6_gatherArgs_0 ?_
  refine q_getF 6 12 (F 148 12) dX6_gatherArgs_1 fl_RX6_57 rfl iz_148 rfl ?_
  refine q_getF 0 13 ((F 148 12) + 51) dX6_gatherArgs_4 fl_RX6_143 rfl (iz_bk hF.2.2.2.2.2.2) (frb_13 hF.1 hF.2.2.2.2.2.2) ?_
  refine e_iload_n (i := 2) rfl dX6_gatherArgs_7 ?_
  obtain ⟨q7, eq7, hm⟩ := ob_some hm
  refine e_cV1 hko dX6_gatherArgs_8 ml_RX6_104 (iz_row (rwb_51 hF.2.2.2.2.2.2)) (by decide) rfl (by omega) (Nat.le_of_ble_eq_true rfl) (tX4_at hko (rwb_51 hF.2.2.2.2.2.2) I J F hF x2 _ eq7) ?_
  rintro _ _ ⟨rfl, rfl⟩
  refine q_istore_n (i := 3) (by decide) rfl dX6_gatherArgs_11 ?_
  refine e_aload_n (i := 0) rfl dX6_gatherArgs_12 ?_
  refine q_getF 6 12 (F 148 12) dX6_gatherArgs_13 fl_RX6_57 rfl iz_148 rfl ?_
  refine q_getF 0 14 ((F 148 12) + 53) dX6_gatherArgs_16 fl_RX6_137 rfl (iz_bk hF.2.2.2.2.2.2) (frb_14 hF.1 hF.2.2.2.2.2.2) ?_
  refine e_iload_n (i := 2) rfl dX6_gatherArgs_19 ?_
  obtain ⟨q8, eq8, hm⟩ := ob_some hm
  refine e_cV1 hko dX6_gatherArgs_20 ml_RX6_104 (iz_row (rwb_53 hF.2.2.2.2.2.2)) (by decide) rfl (by omega) (Nat.le_of_ble_eq_true rfl) (tX4_at hko (rwb_53 hF.2.2.2.2.2.2) I J F hF x2 _ eq8) ?_
  rintro _ _ ⟨rfl, rfl⟩
  refine q_istore (i := 4) (by decide) rfl dX6_gatherArgs_23 ?_
  refine e_aload_n (i := 0) rfl dX6_gatherArgs_25 ?_
  refine q_getF 6 8 178 dX6_gatherArgs_26 fl_RX6_45 rfl iz_148 (fr_148_8 hF.1) ?_
  obtain ⟨q9, eq9, hm⟩ := ob_some hm
  refine e_cV0 hko dX6_gatherArgs_29 ml_RX6_67 iz_178 (by decide) rfl (by omega) (Nat.le_of_ble_eq_true rfl) (tX4_clear hko rw_178 I J F hF _ eq9) ?_
  rintro _ _ ⟨rfl, rfl⟩
  refine e_iconst (v := 0) (by decide) dX6_gatherArgs_32 ?_
  refine q_istore (i := 5) (by decide) rfl dX6_gatherArgs_33 ?_
  refine e_weak [.ref 148, .int x1, .int x2, .int q7, .int q8, .int 0, .null] ⟨rfl, ⟨rfl, ⟨rfl, ⟨rfl, ⟨rfl, ⟨rfl, ⟨trivial, trivial⟩⟩⟩⟩⟩⟩⟩ ?_
  exact tX6_gatherArgs_35 hko LF q9 F x1 x2 q7 q8 0 hF _ hm
theorem dX6_keepSaid_0 : decode cX6_keepSaid 0 = .ok (.aload_n 0, 1) := by decide +kernel
theorem dX6_keepSaid_1 : decode cX6_keepSaid 1 = .ok (.dup, 1) := by decide +kernel
theorem dX6_keepSaid_2 : decode cX6_keepSaid 2 = .ok (.getfield 68, 3) := by decide +kernel
theorem dX6_keepSaid_5 : decode cX6_keepSaid 5 = .ok (.iconst 1, 1) := by decide +kernel
theorem dX6_keepSaid_6 : decode cX6_keepSaid 6 = .ok (.iadd, 1) := by decide +kernel
theorem dX6_keepSaid_7 : decode cX6_keepSaid 7 = .ok (.putfield 68, 3) := by decide +kernel
theorem dX6_keepSaid_10 : decode cX6_keepSaid 10 = .ok (.aload_n 0, 1) := by decide +kernel
theorem dX6_keepSaid_11 : decode cX6_keepSaid 11 = .ok (.getfield 39, 3) := by decide +kernel
theorem dX6_keepSaid_14 : decode cX6_keepSaid 14 = .ok (.iload_n 1, 1) := by decide +kernel
theorem dX6_keepSaid_15 : decode cX6_keepSaid 15 = .ok (.iconst 1, 1) := by decide +kernel
theorem dX6_keepSaid_16 : decode cX6_keepSaid 16 = .ok (.invokevirtual 171, 3) := by decide +kernel
theorem dX6_keepSaid_19 : decode cX6_keepSaid 19 = .ok (.aload_n 0, 1) := by decide +kernel
theorem dX6_keepSaid_20 : decode cX6_keepSaid 20 = .ok (.getfield 51, 3) := by decide +kernel
theorem dX6_keepSaid_23 : decode cX6_keepSaid 23 = .ok (.invokevirtual 88, 3) := by decide +kernel
theorem dX6_keepSaid_26 : decode cX6_keepSaid 26 = .ok (.sipush 200, 3) := by decide +kernel
theorem dX6_keepSaid_29 : decode cX6_keepSaid 29 = .ok (.if_icmp .ge 21, 3) := by decide +kernel
theorem dX6_keepSaid_32 : decode cX6_keepSaid 32 = .ok (.aload_n 0, 1) := by decide +kernel
theorem dX6_keepSaid_33 : decode cX6_keepSaid 33 = .ok (.getfield 51, 3) := by decide +kernel
theorem dX6_keepSaid_36 : decode cX6_keepSaid 36 = .ok (.iload_n 2, 1) := by decide +kernel
theorem dX6_keepSaid_37 : decode cX6_keepSaid 37 = .ok (.invokevirtual 118, 3) := by decide +kernel
theorem dX6_keepSaid_40 : decode cX6_keepSaid 40 = .ok (.pop, 1) := by decide +kernel
theorem dX6_keepSaid_41 : decode cX6_keepSaid 41 = .ok (.aload_n 0, 1) := by decide +kernel
theorem dX6_keepSaid_42 : decode cX6_keepSaid 42 = .ok (.getfield 54, 3) := by decide +kernel
theorem dX6_keepSaid_45 : decode cX6_keepSaid 45 = .ok (.iload_n 1, 1) := by decide +kernel
theorem dX6_keepSaid_46 : decode cX6_keepSaid 46 = .ok (.invokevirtual 118, 3) := by decide +kernel
theorem dX6_keepSaid_49 : decode cX6_keepSaid 49 = .ok (.pop, 1) := by decide +kernel
theorem dX6_keepSaid_50 : decode cX6_keepSaid 50 = .ok (.return_, 1) := by decide +kernel
def mX6_keepSaid (I : iT) (x1 : Int32) (x2 : Int32) : Option (iT) := (mX4_bump 174 (a_u2 I 148 13 ((I 148 13) + 1)) x1 1).bind fun q1 => (mX4_size 182 q1).bind fun q2 => if 200 ≤ q2 then some q1 else (mX4_add 182 q1 x2).bind fun q3 => (mX4_add 184 q3.2 x1).bind fun q4 => some q4.2
set_option maxRecDepth 100000 in
set_option maxHeartbeats 4000000 in
theorem tX6_keepSaid {l : Launch} {K : a_KT} {g : a_GT} {IB : iT} (hko : a_kok K) (I : iT) (J : jT) (F : fT) (hF : FK F) (x1 : Int32) (x2 : Int32) (q : iT) (hm : mX6_keepSaid I x1 x2 = some q) : C l K g 1 0 0 yX6_keepSaid cX6_keepSaid 3 none [.ref 148, .int x1, .int x2] (hg I IB J F) (fun r2 h2 => r2 = none ∧ h2 = hg q IB J F) := by
  unfold mX6_keepSaid at hm
  refine c_of [.ref 148, .int x1, .int x2] (by decide) (Nat.le_of_ble_eq_true rfl) rfl ?_
  refine e_aload_n (i := 0) rfl dX6_keepSaid_0 ?_
  refine e_dup rfl dX6_keepSaid_1 ?_
  refine k_getI 6 13 dX6_keepSaid_2 fl_RX6_68 rfl iz_148 (by decide) ?_
  refine e_iconst (v := 1) (by decide) dX6_keepSaid_5 ?_
  refine e_iadd dX6_keepSaid_6 ?_
  refine k_putI 6 13 dX6_keepSaid_7 fl_RX6_68 rfl rfl iz_148 (by decide) ?_
  refine e_aload_n (i := 0) rfl dX6_keepSaid_10 ?_
  refine q_getF 6 6 174 dX6_keepSaid_11 fl_RX6_39 rfl iz_148 (fr_148_6 hF.1) ?_
  refine e_iload_n (i := 1) rfl dX6_keepSaid_14 ?_
  refine e_iconst (v := 1) (by decide) dX6_keepSaid_15 ?_
  obtain ⟨q1, eq1, hm⟩ := ob_some hm
  refine e_cV2 hko dX6_keepSaid_16 ml_RX6_171 iz_174 (by decide) rfl (by omega) (Nat.le_of_ble_eq_true rfl) (tX4_bump hko rw_174 (a_u2 I 148 13 ((I 148 13) + 1)) J F hF x1 1 _ eq1) ?_
  rintro _ _ ⟨rfl, rfl⟩
  refine e_aload_n (i := 0) rfl dX6_keepSaid_19 ?_
  refine q_getF 6 10 182 dX6_keepSaid_20 fl_RX6_51 rfl iz_148 (fr_148_10 hF.1) ?_
  obtain ⟨q2, eq2, hm⟩ := ob_some hm
  refine e_cV0 hko dX6_keepSaid_23 ml_RX6_88 iz_182 (by decide) rfl (by omega) (Nat.le_of_ble_eq_true rfl) (tX4_size hko rw_182 q1 J F hF _ eq2) ?_
  rintro _ _ ⟨rfl, rfl⟩
  refine e_sipush (v := 200) (by decide) dX6_keepSaid_26 ?_
  refine e_icmp_ge 50 dX6_keepSaid_29 (by decide) (fun c_29 => ?_) (fun c_29 => ?_)
  · have hm := it_p c_29 hm
    refine e_vret dX6_keepSaid_50 rfl ?_
    have hm := some_in hm
    subst hm
    exact ⟨rfl, rfl⟩
  · have hm := it_n c_29 hm
    refine e_aload_n (i := 0) rfl dX6_keepSaid_32 ?_
    refine q_getF 6 10 182 dX6_keepSaid_33 fl_RX6_51 rfl iz_148 (fr_148_10 hF.1) ?_
    refine e_iload_n (i := 2) rfl dX6_keepSaid_36 ?_
    obtain ⟨q3, eq3, hm⟩ := ob_some hm
    refine e_cV1 hko dX6_keepSaid_37 ml_RX6_118 iz_182 (by decide) rfl (by omega) (Nat.le_of_ble_eq_true rfl) (tX4_add hko rw_182 q1 J F hF x2 _ eq3) ?_
    rintro _ _ ⟨rfl, rfl⟩
    refine e_pop rfl dX6_keepSaid_40 ?_
    refine e_aload_n (i := 0) rfl dX6_keepSaid_41 ?_
    refine q_getF 6 11 184 dX6_keepSaid_42 fl_RX6_54 rfl iz_148 (fr_148_11 hF.1) ?_
    refine e_iload_n (i := 1) rfl dX6_keepSaid_45 ?_
    obtain ⟨q4, eq4, hm⟩ := ob_some hm
    refine e_cV1 hko dX6_keepSaid_46 ml_RX6_118 iz_184 (by decide) rfl (by omega) (Nat.le_of_ble_eq_true rfl) (tX4_add hko rw_184 q3.2 J F hF x1 _ eq4) ?_
    rintro _ _ ⟨rfl, rfl⟩
    refine e_pop rfl dX6_keepSaid_49 ?_
    refine e_vret dX6_keepSaid_50 rfl ?_
    have hm := some_in hm
    subst hm
    exact ⟨rfl, rfl⟩
theorem dX6_lay_0 : decode cX6_lay 0 = .ok (.aload_n 0, 1) := by decide +kernel
theorem dX6_lay_1 : decode cX6_lay 1 = .ok (.getfield 57, 3) := by decide +kernel
theorem dX6_lay_4 : decode cX6_lay 4 = .ok (.getfield 165, 3) := by decide +kernel
theorem dX6_lay_7 : decode cX6_lay 7 = .ok (.iload_n 2, 1) := by decide +kernel
theorem dX6_lay_8 : decode cX6_lay 8 = .ok (.invokevirtual 104, 3) := by decide +kernel
theorem dX6_lay_11 : decode cX6_lay 11 = .ok (.ifCond .ne 7, 3) := by decide +kernel
theorem dX6_lay_14 : decode cX6_lay 14 = .ok (.iconst 0, 1) := by decide +kernel
theorem dX6_lay_15 : decode cX6_lay 15 = .ok (.goto 4, 3) := by decide +kernel
theorem dX6_lay_18 : decode cX6_lay 18 = .ok (.iconst 1, 1) := by decide +kernel
theorem dX6_lay_19 : decode cX6_lay 19 = .ok (.istore 5, 2) := by decide +kernel
theorem dX6_lay_21 : decode cX6_lay 21 = .ok (.aload_n 0, 1) := by decide +kernel
theorem dX6_lay_22 : decode cX6_lay 22 = .ok (.getfield 12, 3) := by decide +kernel
theorem dX6_lay_25 : decode cX6_lay 25 = .ok (.aload_n 0, 1) := by decide +kernel
theorem dX6_lay_26 : decode cX6_lay 26 = .ok (.iload_n 1, 1) := by decide +kernel
theorem dX6_lay_27 : decode cX6_lay 27 = .ok (.iload_n 2, 1) := by decide +kernel
theorem dX6_lay_28 : decode cX6_lay 28 = .ok (.invokevirtual 156, 3) := by decide +kernel
theorem dX6_lay_31 : decode cX6_lay 31 = .ok (.iload 5, 2) := by decide +kernel
theorem dX6_lay_33 : decode cX6_lay 33 = .ok (.iload_n 3, 1) := by decide +kernel
theorem dX6_lay_34 : decode cX6_lay 34 = .ok (.iload 4, 2) := by decide +kernel
theorem dX6_lay_36 : decode cX6_lay 36 = .ok (.invokevirtual 199, 3) := by decide +kernel
theorem dX6_lay_39 : decode cX6_lay 39 = .ok (.return_, 1) := by decide +kernel
def mX6_lay_19 (I : iT) (F : fT) (x1 : Int32) (x2 : Int32) (x3 : Int32) (x4 : Int32) (s0 : Int32) : Option (iT) := (mX6_talkedOver I F x1 x2).bind fun q1 => (mX1_lay I q1 s0 x3 x4).bind fun q2 => some q2
def mX6_lay (I : iT) (F : fT) (x1 : Int32) (x2 : Int32) (x3 : Int32) (x4 : Int32) : Option (iT) := (mX4_at ((F 148 12) + 49) I x2).bind fun q3 => if q3 = 0 then mX6_lay_19 I F x1 x2 x3 x4 0 else mX6_lay_19 I F x1 x2 x3 x4 1
set_option maxRecDepth 100000 in
set_option maxHeartbeats 4000000 in
theorem tX6_lay_19 {l : Launch} {K : a_KT} {g : a_GT} {IB : iT} (hko : a_kok K) {J : jT} (I : iT) (F : fT) (x1 : Int32) (x2 : Int32) (x3 : Int32) (x4 : Int32) (s0 : Int32) (hF : FK F) (q : iT) (hm : mX6_lay_19 I F x1 x2 x3 x4 s0 = some q) : E l K g 3 0 0 yX6_lay cX6_lay 6 none 19 [.ref 148, .int x1, .int x2, .int x3, .int x4, .null] [.int s0] (hg I IB J F) (fun r2 h2 => r2 = none ∧ h2 = hg q IB J F) := by
  unfold mX6_lay_19 at hm
  refine q_istore (i := 5) (by decide) rfl dX6_lay_19 ?_
  refine e_aload_n (i := 0) rfl dX6_lay_21 ?_
  refine q_getF 6 0 149 dX6_lay_22 fl_RX6_12 rfl iz_148 (fr_148_0 hF.1) ?_
  refine e_aload_n (i := 0) rfl dX6_lay_25 ?_
  refine e_iload_n (i := 1) rfl dX6_lay_26 ?_
  refine e_iload_n (i := 2) rfl dX6_lay_27 ?_
  obtain ⟨q1, eq1, hm⟩ := ob_some hm
  refine e_cV2 hko dX6_lay_28 ml_RX6_156 iz_148 (by decide) rfl (by omega) (Nat.le_of_ble_eq_true rfl) (tX6_talkedOver hko I J F hF x1 x2 _ eq1) ?_
  rintro _ _ ⟨rfl, rfl⟩
  refine e_iload (i := 5) rfl dX6_lay_31 ?_
  refine e_iload_n (i := 3) rfl dX6_lay_33 ?_
  refine e_iload (i := 4) rfl dX6_lay_34 ?_
  obtain ⟨q2, eq2, hm⟩ := ob_some hm
  refine e_cV4 hko dX6_lay_36 ml_RX6_199 iz_149 (by decide) rfl (by omega) (Nat.le_of_ble_eq_true rfl) (tX1_lay hko I J F hF q1 s0 x3 x4 _ eq2) ?_
  rintro _ _ ⟨rfl, rfl⟩
  refine e_vret dX6_lay_39 rfl ?_
  have hm := some_in hm
  subst hm
  exact ⟨rfl, rfl⟩
set_option maxRecDepth 100000 in
set_option maxHeartbeats 4000000 in
theorem tX6_lay {l : Launch} {K : a_KT} {g : a_GT} {IB : iT} (hko : a_kok K) (I : iT) (J : jT) (F : fT) (hF : FK F) (x1 : Int32) (x2 : Int32) (x3 : Int32) (x4 : Int32) (q : iT) (hm : mX6_lay I F x1 x2 x3 x4 = some q) : C l K g 3 0 0 yX6_lay cX6_lay 6 none [.ref 148, .int x1, .int x2, .int x3, .int x4] (hg I IB J F) (fun r2 h2 => r2 = none ∧ h2 = hg q IB J F) := by
  unfold mX6_lay at hm
  refine c_of [.ref 148, .int x1, .int x2, .int x3, .int x4, .null] (by decide) (Nat.le_of_ble_eq_true rfl) rfl ?_
  refine e_aload_n (i := 0) rfl dX6_lay_0 ?_
  refine q_getF 6 12 (F 148 12) dX6_lay_1 fl_RX6_57 rfl iz_148 rfl ?_
  refine q_getF 0 12 ((F 148 12) + 49) dX6_lay_4 fl_RX6_165 rfl (iz_bk hF.2.2.2.2.2.2) (frb_12 hF.1 hF.2.2.2.2.2.2) ?_
  refine e_iload_n (i := 2) rfl dX6_lay_7 ?_
  obtain ⟨q3, eq3, hm⟩ := ob_some hm
  refine e_cV1 hko dX6_lay_8 ml_RX6_104 (iz_row (rwb_49 hF.2.2.2.2.2.2)) (by decide) rfl (by omega) (Nat.le_of_ble_eq_true rfl) (tX4_at hko (rwb_49 hF.2.2.2.2.2.2) I J F hF x2 _ eq3) ?_
  rintro _ _ ⟨rfl, rfl⟩
  refine e_if_ne 18 dX6_lay_11 (by decide) (fun c_11 => ?_) (fun c_11 => ?_)
  · have hm := it_n c_11 hm
    refine e_iconst (v := 1) (by decide) dX6_lay_18 ?_
    refine e_weak [.ref 148, .int x1, .int x2, .int x3, .int x4, .null] ⟨rfl, ⟨rfl, ⟨rfl, ⟨rfl, ⟨rfl, ⟨trivial, trivial⟩⟩⟩⟩⟩⟩ ?_
    exact tX6_lay_19 hko I F x1 x2 x3 x4 1 hF _ hm
  · have hm := it_p c_11 hm
    refine e_iconst (v := 0) (by decide) dX6_lay_14 ?_
    refine e_goto 19 dX6_lay_15 (by decide) ?_
    refine e_weak [.ref 148, .int x1, .int x2, .int x3, .int x4, .null] ⟨rfl, ⟨rfl, ⟨rfl, ⟨rfl, ⟨rfl, ⟨trivial, trivial⟩⟩⟩⟩⟩⟩ ?_
    exact tX6_lay_19 hko I F x1 x2 x3 x4 0 hF _ hm
theorem dX6_makeProcess_0 : decode cX6_makeProcess 0 = .ok (.aload_n 0, 1) := by decide +kernel
theorem dX6_makeProcess_1 : decode cX6_makeProcess 1 = .ok (.getfield 57, 3) := by decide +kernel
theorem dX6_makeProcess_4 : decode cX6_makeProcess 4 = .ok (.getfield 143, 3) := by decide +kernel
theorem dX6_makeProcess_7 : decode cX6_makeProcess 7 = .ok (.iload_n 2, 1) := by decide +kernel
theorem dX6_makeProcess_8 : decode cX6_makeProcess 8 = .ok (.invokevirtual 104, 3) := by decide +kernel
theorem dX6_makeProcess_11 : decode cX6_makeProcess 11 = .ok (.istore_n 3, 1) := by decide +kernel
theorem dX6_makeProcess_12 : decode cX6_makeProcess 12 = .ok (.aload_n 0, 1) := by decide +kernel
theorem dX6_makeProcess_13 : decode cX6_makeProcess 13 = .ok (.invokevirtual 79, 3) := by decide +kernel
theorem dX6_makeProcess_16 : decode cX6_makeProcess 16 = .ok (.istore 4, 2) := by decide +kernel
theorem dX6_makeProcess_18 : decode cX6_makeProcess 18 = .ok (.aload_n 0, 1) := by decide +kernel
theorem dX6_makeProcess_19 : decode cX6_makeProcess 19 = .ok (.iload 4, 2) := by decide +kernel
theorem dX6_makeProcess_21 : decode cX6_makeProcess 21 = .ok (.iload_n 3, 1) := by decide +kernel
theorem dX6_makeProcess_22 : decode cX6_makeProcess 22 = .ok (.invokevirtual 91, 3) := by decide +kernel
theorem dX6_makeProcess_25 : decode cX6_makeProcess 25 = .ok (.aload_n 0, 1) := by decide +kernel
theorem dX6_makeProcess_26 : decode cX6_makeProcess 26 = .ok (.getfield 36, 3) := by decide +kernel
theorem dX6_makeProcess_29 : decode cX6_makeProcess 29 = .ok (.iload_n 1, 1) := by decide +kernel
theorem dX6_makeProcess_30 : decode cX6_makeProcess 30 = .ok (.iconst 1, 1) := by decide +kernel
theorem dX6_makeProcess_31 : decode cX6_makeProcess 31 = .ok (.aload_n 0, 1) := by decide +kernel
theorem dX6_makeProcess_32 : decode cX6_makeProcess 32 = .ok (.getfield 57, 3) := by decide +kernel
theorem dX6_makeProcess_35 : decode cX6_makeProcess 35 = .ok (.iload_n 3, 1) := by decide +kernel
theorem dX6_makeProcess_36 : decode cX6_makeProcess 36 = .ok (.invokevirtual 131, 3) := by decide +kernel
theorem dX6_makeProcess_39 : decode cX6_makeProcess 39 = .ok (.isub, 1) := by decide +kernel
theorem dX6_makeProcess_40 : decode cX6_makeProcess 40 = .ok (.invokevirtual 171, 3) := by decide +kernel
theorem dX6_makeProcess_43 : decode cX6_makeProcess 43 = .ok (.aload_n 0, 1) := by decide +kernel
theorem dX6_makeProcess_44 : decode cX6_makeProcess 44 = .ok (.iload_n 1, 1) := by decide +kernel
theorem dX6_makeProcess_45 : decode cX6_makeProcess 45 = .ok (.aload_n 0, 1) := by decide +kernel
theorem dX6_makeProcess_46 : decode cX6_makeProcess 46 = .ok (.getfield 57, 3) := by decide +kernel
theorem dX6_makeProcess_49 : decode cX6_makeProcess 49 = .ok (.getfield 165, 3) := by decide +kernel
theorem dX6_makeProcess_52 : decode cX6_makeProcess 52 = .ok (.iload_n 2, 1) := by decide +kernel
theorem dX6_makeProcess_53 : decode cX6_makeProcess 53 = .ok (.invokevirtual 104, 3) := by decide +kernel
theorem dX6_makeProcess_56 : decode cX6_makeProcess 56 = .ok (.aload_n 0, 1) := by decide +kernel
theorem dX6_makeProcess_57 : decode cX6_makeProcess 57 = .ok (.iload 4, 2) := by decide +kernel
theorem dX6_makeProcess_59 : decode cX6_makeProcess 59 = .ok (.iconst 0, 1) := by decide +kernel
theorem dX6_makeProcess_60 : decode cX6_makeProcess 60 = .ok (.invokevirtual 108, 3) := by decide +kernel
theorem dX6_makeProcess_63 : decode cX6_makeProcess 63 = .ok (.invokevirtual 124, 3) := by decide +kernel
theorem dX6_makeProcess_66 : decode cX6_makeProcess 66 = .ok (.return_, 1) := by decide +kernel
def mX6_makeProcess (I : iT) (F : fT) (x1 : Int32) (x2 : Int32) : Option (iT) := (mX4_at ((F 148 12) + 51) I x2).bind fun q1 => (mX6_addProcess I).bind fun q2 => (mX6_goOn q2.2 F q2.1 q1).bind fun q3 => (mX0_channelParams (F 148 12) q3 q1).bind fun q4 => (mX4_bump 172 q3 x1 (1 - q4)).bind fun q5 => (mX4_at ((F 148 12) + 49) q5 x2).bind fun q6 => (mX6_slotOf q5 q2.1 0).bind fun q7 => (mX6_setSlot q5 x1 q6 q7).bind fun q8 => some q8
set_option maxRecDepth 100000 in
set_option maxHeartbeats 4000000 in
theorem tX6_makeProcess {l : Launch} {K : a_KT} {g : a_GT} {IB : iT} (hko : a_kok K) (I : iT) (J : jT) (F : fT) (hF : FK F) (x1 : Int32) (x2 : Int32) (q : iT) (hm : mX6_makeProcess I F x1 x2 = some q) : C l K g 4 0 0 yX6_makeProcess cX6_makeProcess 5 none [.ref 148, .int x1, .int x2] (hg I IB J F) (fun r2 h2 => r2 = none ∧ h2 = hg q IB J F) := by
  unfold mX6_makeProcess at hm
  refine c_of [.ref 148, .int x1, .int x2, .null, .null] (by decide) (Nat.le_of_ble_eq_true rfl) rfl ?_
  refine e_aload_n (i := 0) rfl dX6_makeProcess_0 ?_
  refine q_getF 6 12 (F 148 12) dX6_makeProcess_1 fl_RX6_57 rfl iz_148 rfl ?_
  refine q_getF 0 13 ((F 148 12) + 51) dX6_makeProcess_4 fl_RX6_143 rfl (iz_bk hF.2.2.2.2.2.2) (frb_13 hF.1 hF.2.2.2.2.2.2) ?_
  refine e_iload_n (i := 2) rfl dX6_makeProcess_7 ?_
  obtain ⟨q1, eq1, hm⟩ := ob_some hm
  refine e_cV1 hko dX6_makeProcess_8 ml_RX6_104 (iz_row (rwb_51 hF.2.2.2.2.2.2)) (by decide) rfl (by omega) (Nat.le_of_ble_eq_true rfl) (tX4_at hko (rwb_51 hF.2.2.2.2.2.2) I J F hF x2 _ eq1) ?_
  rintro _ _ ⟨rfl, rfl⟩
  refine q_istore_n (i := 3) (by decide) rfl dX6_makeProcess_11 ?_
  refine e_aload_n (i := 0) rfl dX6_makeProcess_12 ?_
  obtain ⟨q2, eq2, hm⟩ := ob_some hm
  refine e_cV0 hko dX6_makeProcess_13 ml_RX6_79 iz_148 (by decide) rfl (by omega) (Nat.le_of_ble_eq_true rfl) (tX6_addProcess hko I J F hF _ eq2) ?_
  rintro _ _ ⟨rfl, rfl⟩
  refine q_istore (i := 4) (by decide) rfl dX6_makeProcess_16 ?_
  refine e_aload_n (i := 0) rfl dX6_makeProcess_18 ?_
  refine e_iload (i := 4) rfl dX6_makeProcess_19 ?_
  refine e_iload_n (i := 3) rfl dX6_makeProcess_21 ?_
  obtain ⟨q3, eq3, hm⟩ := ob_some hm
  refine e_cV2 hko dX6_makeProcess_22 ml_RX6_91 iz_148 (by decide) rfl (by omega) (Nat.le_of_ble_eq_true rfl) (tX6_goOn hko q2.2 J F hF q2.1 q1 _ eq3) ?_
  rintro _ _ ⟨rfl, rfl⟩
  refine e_aload_n (i := 0) rfl dX6_makeProcess_25 ?_
  refine q_getF 6 5 172 dX6_makeProcess_26 fl_RX6_36 rfl iz_148 (fr_148_5 hF.1) ?_
  refine e_iload_n (i := 1) rfl dX6_makeProcess_29 ?_
  refine e_iconst (v := 1) (by decide) dX6_makeProcess_30 ?_
  refine e_aload_n (i := 0) rfl dX6_makeProcess_31 ?_
  refine q_getF 6 12 (F 148 12) dX6_makeProcess_32 fl_RX6_57 rfl iz_148 rfl ?_
  refine e_iload_n (i := 3) rfl dX6_makeProcess_35 ?_
  obtain ⟨q4, eq4, hm⟩ := ob_some hm
  refine e_cV1 hko dX6_makeProcess_36 ml_RX6_131 (iz_bk hF.2.2.2.2.2.2) (by decide) rfl (by omega) (Nat.le_of_ble_eq_true rfl) (tX0_channelParams hko hF.2.2.2.2.2.2 q3 J F hF q1 _ eq4) ?_
  rintro _ _ ⟨rfl, rfl⟩
  refine e_isub dX6_makeProcess_39 ?_
  obtain ⟨q5, eq5, hm⟩ := ob_some hm
  refine e_cV2 hko dX6_makeProcess_40 ml_RX6_171 iz_172 (by decide) rfl (by omega) (Nat.le_of_ble_eq_true rfl) (tX4_bump hko rw_172 q3 J F hF x1 (1 - q4) _ eq5) ?_
  rintro _ _ ⟨rfl, rfl⟩
  refine e_aload_n (i := 0) rfl dX6_makeProcess_43 ?_
  refine e_iload_n (i := 1) rfl dX6_makeProcess_44 ?_
  refine e_aload_n (i := 0) rfl dX6_makeProcess_45 ?_
  refine q_getF 6 12 (F 148 12) dX6_makeProcess_46 fl_RX6_57 rfl iz_148 rfl ?_
  refine q_getF 0 12 ((F 148 12) + 49) dX6_makeProcess_49 fl_RX6_165 rfl (iz_bk hF.2.2.2.2.2.2) (frb_12 hF.1 hF.2.2.2.2.2.2) ?_
  refine e_iload_n (i := 2) rfl dX6_makeProcess_52 ?_
  obtain ⟨q6, eq6, hm⟩ := ob_some hm
  refine e_cV1 hko dX6_makeProcess_53 ml_RX6_104 (iz_row (rwb_49 hF.2.2.2.2.2.2)) (by decide) rfl (by omega) (Nat.le_of_ble_eq_true rfl) (tX4_at hko (rwb_49 hF.2.2.2.2.2.2) q5 J F hF x2 _ eq6) ?_
  rintro _ _ ⟨rfl, rfl⟩
  refine e_aload_n (i := 0) rfl dX6_makeProcess_56 ?_
  refine e_iload (i := 4) rfl dX6_makeProcess_57 ?_
  refine e_iconst (v := 0) (by decide) dX6_makeProcess_59 ?_
  obtain ⟨q7, eq7, hm⟩ := ob_some hm
  refine e_cV2 hko dX6_makeProcess_60 ml_RX6_108 iz_148 (by decide) rfl (by omega) (Nat.le_of_ble_eq_true rfl) (tX6_slotOf hko q5 J F hF q2.1 0 _ eq7) ?_
  rintro _ _ ⟨rfl, rfl⟩
  obtain ⟨q8, eq8, hm⟩ := ob_some hm
  refine e_cV3 hko dX6_makeProcess_63 ml_RX6_124 iz_148 (by decide) rfl (by omega) (Nat.le_of_ble_eq_true rfl) (tX6_setSlot hko q5 J F hF x1 q6 q7 _ eq8) ?_
  rintro _ _ ⟨rfl, rfl⟩
  refine e_vret dX6_makeProcess_66 rfl ?_
  have hm := some_in hm
  subst hm
  exact ⟨rfl, rfl⟩
theorem dX6_takeMessage_0 : decode cX6_takeMessage 0 = .ok (.aload_n 0, 1) := by decide +kernel
theorem dX6_takeMessage_1 : decode cX6_takeMessage 1 = .ok (.getfield 12, 3) := by decide +kernel
theorem dX6_takeMessage_4 : decode cX6_takeMessage 4 = .ok (.aload_n 0, 1) := by decide +kernel
theorem dX6_takeMessage_5 : decode cX6_takeMessage 5 = .ok (.iload_n 1, 1) := by decide +kernel
theorem dX6_takeMessage_6 : decode cX6_takeMessage 6 = .ok (.iload_n 2, 1) := by decide +kernel
theorem dX6_takeMessage_7 : decode cX6_takeMessage 7 = .ok (.invokevirtual 156, 3) := by decide +kernel
theorem dX6_takeMessage_10 : decode cX6_takeMessage 10 = .ok (.aload_n 0, 1) := by decide +kernel
theorem dX6_takeMessage_11 : decode cX6_takeMessage 11 = .ok (.iload_n 2, 1) := by decide +kernel
theorem dX6_takeMessage_12 : decode cX6_takeMessage 12 = .ok (.invokevirtual 159, 3) := by decide +kernel
theorem dX6_takeMessage_15 : decode cX6_takeMessage 15 = .ok (.invokevirtual 200, 3) := by decide +kernel
theorem dX6_takeMessage_18 : decode cX6_takeMessage 18 = .ok (.istore_n 3, 1) := by decide +kernel
theorem dX6_takeMessage_19 : decode cX6_takeMessage 19 = .ok (.aload_n 0, 1) := by decide +kernel
theorem dX6_takeMessage_20 : decode cX6_takeMessage 20 = .ok (.getfield 57, 3) := by decide +kernel
theorem dX6_takeMessage_23 : decode cX6_takeMessage 23 = .ok (.getfield 134, 3) := by decide +kernel
theorem dX6_takeMessage_26 : decode cX6_takeMessage 26 = .ok (.iload_n 2, 1) := by decide +kernel
theorem dX6_takeMessage_27 : decode cX6_takeMessage 27 = .ok (.invokevirtual 104, 3) := by decide +kernel
theorem dX6_takeMessage_30 : decode cX6_takeMessage 30 = .ok (.lookupswitch 95 #[(306, 66), (308, 34), (316, 54)], 34) := by decide +kernel
theorem dX6_takeMessage_64 : decode cX6_takeMessage 64 = .ok (.aload_n 0, 1) := by decide +kernel
theorem dX6_takeMessage_65 : decode cX6_takeMessage 65 = .ok (.getfield 27, 3) := by decide +kernel
theorem dX6_takeMessage_68 : decode cX6_takeMessage 68 = .ok (.iload_n 1, 1) := by decide +kernel
theorem dX6_takeMessage_69 : decode cX6_takeMessage 69 = .ok (.aload_n 0, 1) := by decide +kernel
theorem dX6_takeMessage_70 : decode cX6_takeMessage 70 = .ok (.getfield 57, 3) := by decide +kernel
theorem dX6_takeMessage_73 : decode cX6_takeMessage 73 = .ok (.iload_n 2, 1) := by decide +kernel
theorem dX6_takeMessage_74 : decode cX6_takeMessage 74 = .ok (.iload_n 3, 1) := by decide +kernel
theorem dX6_takeMessage_75 : decode cX6_takeMessage 75 = .ok (.invokevirtual 203, 3) := by decide +kernel
theorem dX6_takeMessage_78 : decode cX6_takeMessage 78 = .ok (.invokevirtual 115, 3) := by decide +kernel
theorem dX6_takeMessage_81 : decode cX6_takeMessage 81 = .ok (.goto 61, 3) := by decide +kernel
theorem dX6_takeMessage_84 : decode cX6_takeMessage 84 = .ok (.aload_n 0, 1) := by decide +kernel
theorem dX6_takeMessage_85 : decode cX6_takeMessage 85 = .ok (.getfield 36, 3) := by decide +kernel
theorem dX6_takeMessage_88 : decode cX6_takeMessage 88 = .ok (.iload_n 1, 1) := by decide +kernel
theorem dX6_takeMessage_89 : decode cX6_takeMessage 89 = .ok (.iconst (-1), 1) := by decide +kernel
theorem dX6_takeMessage_90 : decode cX6_takeMessage 90 = .ok (.invokevirtual 171, 3) := by decide +kernel
theorem dX6_takeMessage_93 : decode cX6_takeMessage 93 = .ok (.goto 49, 3) := by decide +kernel
theorem dX6_takeMessage_96 : decode cX6_takeMessage 96 = .ok (.aload_n 0, 1) := by decide +kernel
theorem dX6_takeMessage_97 : decode cX6_takeMessage 97 = .ok (.getfield 36, 3) := by decide +kernel
theorem dX6_takeMessage_100 : decode cX6_takeMessage 100 = .ok (.iload_n 1, 1) := by decide +kernel
theorem dX6_takeMessage_101 : decode cX6_takeMessage 101 = .ok (.iconst 1, 1) := by decide +kernel
theorem dX6_takeMessage_102 : decode cX6_takeMessage 102 = .ok (.invokevirtual 171, 3) := by decide +kernel
theorem dX6_takeMessage_105 : decode cX6_takeMessage 105 = .ok (.aload_n 0, 1) := by decide +kernel
theorem dX6_takeMessage_106 : decode cX6_takeMessage 106 = .ok (.iload_n 1, 1) := by decide +kernel
theorem dX6_takeMessage_107 : decode cX6_takeMessage 107 = .ok (.aload_n 0, 1) := by decide +kernel
theorem dX6_takeMessage_108 : decode cX6_takeMessage 108 = .ok (.getfield 57, 3) := by decide +kernel
theorem dX6_takeMessage_111 : decode cX6_takeMessage 111 = .ok (.getfield 143, 3) := by decide +kernel
theorem dX6_takeMessage_114 : decode cX6_takeMessage 114 = .ok (.iload_n 2, 1) := by decide +kernel
theorem dX6_takeMessage_115 : decode cX6_takeMessage 115 = .ok (.invokevirtual 104, 3) := by decide +kernel
theorem dX6_takeMessage_118 : decode cX6_takeMessage 118 = .ok (.iload_n 3, 1) := by decide +kernel
theorem dX6_takeMessage_119 : decode cX6_takeMessage 119 = .ok (.invokevirtual 124, 3) := by decide +kernel
theorem dX6_takeMessage_122 : decode cX6_takeMessage 122 = .ok (.goto 20, 3) := by decide +kernel
theorem dX6_takeMessage_125 : decode cX6_takeMessage 125 = .ok (.aload_n 0, 1) := by decide +kernel
theorem dX6_takeMessage_126 : decode cX6_takeMessage 126 = .ok (.iload_n 1, 1) := by decide +kernel
theorem dX6_takeMessage_127 : decode cX6_takeMessage 127 = .ok (.aload_n 0, 1) := by decide +kernel
theorem dX6_takeMessage_128 : decode cX6_takeMessage 128 = .ok (.getfield 57, 3) := by decide +kernel
theorem dX6_takeMessage_131 : decode cX6_takeMessage 131 = .ok (.getfield 143, 3) := by decide +kernel
theorem dX6_takeMessage_134 : decode cX6_takeMessage 134 = .ok (.iload_n 2, 1) := by decide +kernel
theorem dX6_takeMessage_135 : decode cX6_takeMessage 135 = .ok (.invokevirtual 104, 3) := by decide +kernel
theorem dX6_takeMessage_138 : decode cX6_takeMessage 138 = .ok (.iload_n 3, 1) := by decide +kernel
theorem dX6_takeMessage_139 : decode cX6_takeMessage 139 = .ok (.invokevirtual 124, 3) := by decide +kernel
theorem dX6_takeMessage_142 : decode cX6_takeMessage 142 = .ok (.return_, 1) := by decide +kernel
def mX6_takeMessage (I : iT) (F : fT) (x1 : Int32) (x2 : Int32) : Option (iT) := (mX6_talkedOver I F x1 x2).bind fun q1 => (mX6_sideTaken I F x2).bind fun q2 => (mX1_takeFirst I q1 q2).bind fun q3 => (mX4_at ((F 148 12) + 47) q3.2 x2).bind fun q4 => if q4 = 306 then (mX4_bump 172 q3.2 x1 1).bind fun q5 => (mX4_at ((F 148 12) + 51) q5 x2).bind fun q6 => (mX6_setSlot q5 x1 q6 q3.1).bind fun q7 => some q7 else if q4 = 308 then (mX0_alternative (F 148 12) q3.2 x2 q3.1).bind fun q8 => (mX4_put 166 q3.2 x1 q8).bind fun q9 => some q9 else if q4 = 316 then (mX4_bump 172 q3.2 x1 ((-1))).bind fun q10 => some q10 else (mX4_at ((F 148 12) + 51) q3.2 x2).bind fun q11 => (mX6_setSlot q3.2 x1 q11 q3.1).bind fun q12 => some q12
set_option maxRecDepth 100000 in
set_option maxHeartbeats 4000000 in
theorem tX6_takeMessage {l : Launch} {K : a_KT} {g : a_GT} {IB : iT} (hko : a_kok K) (I : iT) (J : jT) (F : fT) (hF : FK F) (x1 : Int32) (x2 : Int32) (q : iT) (hm : mX6_takeMessage I F x1 x2 = some q) : C l K g 3 0 0 yX6_takeMessage cX6_takeMessage 4 none [.ref 148, .int x1, .int x2] (hg I IB J F) (fun r2 h2 => r2 = none ∧ h2 = hg q IB J F) := by
  unfold mX6_takeMessage at hm
  refine c_of [.ref 148, .int x1, .int x2, .null] (by decide) (Nat.le_of_ble_eq_true rfl) rfl ?_
  refine e_aload_n (i := 0) rfl dX6_takeMessage_0 ?_
  refine q_getF 6 0 149 dX6_takeMessage_1 fl_RX6_12 rfl iz_148 (fr_148_0 hF.1) ?_
  refine e_aload_n (i := 0) rfl dX6_takeMessage_4 ?_
  refine e_iload_n (i := 1) rfl dX6_takeMessage_5 ?_
  refine e_iload_n (i := 2) rfl dX6_takeMessage_6 ?_
  obtain ⟨q1, eq1, hm⟩ := ob_some hm
  refine e_cV2 hko dX6_takeMessage_7 ml_RX6_156 iz_148 (by decide) rfl (by omega) (Nat.le_of_ble_eq_true rfl) (tX6_talkedOver hko I J F hF x1 x2 _ eq1) ?_
  rintro _ _ ⟨rfl, rfl⟩
  refine e_aload_n (i := 0) rfl dX6_takeMessage_10 ?_
  refine e_iload_n (i := 2) rfl dX6_takeMessage_11 ?_
  obtain ⟨q2, eq2, hm⟩ := ob_some hm
  refine e_cV1 hko dX6_takeMessage_12 ml_RX6_159 iz_148 (by decide) rfl (by omega) (Nat.le_of_ble_eq_true rfl) (tX6_sideTaken hko I J F hF x2 _ eq2) ?_
  rintro _ _ ⟨rfl, rfl⟩
  obtain ⟨q3, eq3, hm⟩ := ob_some hm
  refine e_cV2 hko dX6_takeMessage_15 ml_RX6_200 iz_149 (by decide) rfl (by omega) (Nat.le_of_ble_eq_true rfl) (tX1_takeFirst hko I J F hF q1 q2 _ eq3) ?_
  rintro _ _ ⟨rfl, rfl⟩
  refine q_istore_n (i := 3) (by decide) rfl dX6_takeMessage_18 ?_
  refine e_aload_n (i := 0) rfl dX6_takeMessage_19 ?_
  refine q_getF 6 12 (F 148 12) dX6_takeMessage_20 fl_RX6_57 rfl iz_148 rfl ?_
  refine q_getF 0 11 ((F 148 12) + 47) dX6_takeMessage_23 fl_RX6_134 rfl (iz_bk hF.2.2.2.2.2.2) (frb_11 hF.1 hF.2.2.2.2.2.2) ?_
  refine e_iload_n (i := 2) rfl dX6_takeMessage_26 ?_
  obtain ⟨q4, eq4, hm⟩ := ob_some hm
  refine e_cV1 hko dX6_takeMessage_27 ml_RX6_104 (iz_row (rwb_47 hF.2.2.2.2.2.2)) (by decide) rfl (by omega) (Nat.le_of_ble_eq_true rfl) (tX4_at hko (rwb_47 hF.2.2.2.2.2.2) q3.2 J F hF x2 _ eq4) ?_
  rintro _ _ ⟨rfl, rfl⟩
  by_cases c_30_0 : q4 = 306
  · have hm := it_p c_30_0 hm
    refine e_lookup 96 dX6_takeMessage_30 (by decide) (off := 66) (by rw [c_30_0]; decide) (by decide) ?_
    refine e_aload_n (i := 0) rfl dX6_takeMessage_96 ?_
    refine q_getF 6 5 172 dX6_takeMessage_97 fl_RX6_36 rfl iz_148 (fr_148_5 hF.1) ?_
    refine e_iload_n (i := 1) rfl dX6_takeMessage_100 ?_
    refine e_iconst (v := 1) (by decide) dX6_takeMessage_101 ?_
    obtain ⟨q5, eq5, hm⟩ := ob_some hm
    refine e_cV2 hko dX6_takeMessage_102 ml_RX6_171 iz_172 (by decide) rfl (by omega) (Nat.le_of_ble_eq_true rfl) (tX4_bump hko rw_172 q3.2 J F hF x1 1 _ eq5) ?_
    rintro _ _ ⟨rfl, rfl⟩
    refine e_aload_n (i := 0) rfl dX6_takeMessage_105 ?_
    refine e_iload_n (i := 1) rfl dX6_takeMessage_106 ?_
    refine e_aload_n (i := 0) rfl dX6_takeMessage_107 ?_
    refine q_getF 6 12 (F 148 12) dX6_takeMessage_108 fl_RX6_57 rfl iz_148 rfl ?_
    refine q_getF 0 13 ((F 148 12) + 51) dX6_takeMessage_111 fl_RX6_143 rfl (iz_bk hF.2.2.2.2.2.2) (frb_13 hF.1 hF.2.2.2.2.2.2) ?_
    refine e_iload_n (i := 2) rfl dX6_takeMessage_114 ?_
    obtain ⟨q6, eq6, hm⟩ := ob_some hm
    refine e_cV1 hko dX6_takeMessage_115 ml_RX6_104 (iz_row (rwb_51 hF.2.2.2.2.2.2)) (by decide) rfl (by omega) (Nat.le_of_ble_eq_true rfl) (tX4_at hko (rwb_51 hF.2.2.2.2.2.2) q5 J F hF x2 _ eq6) ?_
    rintro _ _ ⟨rfl, rfl⟩
    refine e_iload_n (i := 3) rfl dX6_takeMessage_118 ?_
    obtain ⟨q7, eq7, hm⟩ := ob_some hm
    refine e_cV3 hko dX6_takeMessage_119 ml_RX6_124 iz_148 (by decide) rfl (by omega) (Nat.le_of_ble_eq_true rfl) (tX6_setSlot hko q5 J F hF x1 q6 q3.1 _ eq7) ?_
    rintro _ _ ⟨rfl, rfl⟩
    refine e_goto 142 dX6_takeMessage_122 (by decide) ?_
    refine e_vret dX6_takeMessage_142 rfl ?_
    have hm := some_in hm
    subst hm
    exact ⟨rfl, rfl⟩
  have hm := it_n c_30_0 hm
  by_cases c_30_1 : q4 = 308
  · have hm := it_p c_30_1 hm
    refine e_lookup 64 dX6_takeMessage_30 (by decide) (off := 34) (by rw [c_30_1]; decide) (by decide) ?_
    refine e_aload_n (i := 0) rfl dX6_takeMessage_64 ?_
    refine q_getF 6 2 166 dX6_takeMessage_65 fl_RX6_27 rfl iz_148 (fr_148_2 hF.1) ?_
    refine e_iload_n (i := 1) rfl dX6_takeMessage_68 ?_
    refine e_aload_n (i := 0) rfl dX6_takeMessage_69 ?_
    refine q_getF 6 12 (F 148 12) dX6_takeMessage_70 fl_RX6_57 rfl iz_148 rfl ?_
    refine e_iload_n (i := 2) rfl dX6_takeMessage_73 ?_
    refine e_iload_n (i := 3) rfl dX6_takeMessage_74 ?_
    obtain ⟨q8, eq8, hm⟩ := ob_some hm
    refine e_cV2 hko dX6_takeMessage_75 ml_RX6_203 (iz_bk hF.2.2.2.2.2.2) (by decide) rfl (by omega) (Nat.le_of_ble_eq_true rfl) (tX0_alternative hko hF.2.2.2.2.2.2 q3.2 J F hF x2 q3.1 _ eq8) ?_
    rintro _ _ ⟨rfl, rfl⟩
    obtain ⟨q9, eq9, hm⟩ := ob_some hm
    refine e_cV2 hko dX6_takeMessage_78 ml_RX6_115 iz_166 (by decide) rfl (by omega) (Nat.le_of_ble_eq_true rfl) (tX4_put hko rw_166 q3.2 J F hF x1 q8 _ eq9) ?_
    rintro _ _ ⟨rfl, rfl⟩
    refine e_goto 142 dX6_takeMessage_81 (by decide) ?_
    refine e_vret dX6_takeMessage_142 rfl ?_
    have hm := some_in hm
    subst hm
    exact ⟨rfl, rfl⟩
  have hm := it_n c_30_1 hm
  by_cases c_30_2 : q4 = 316
  · have hm := it_p c_30_2 hm
    refine e_lookup 84 dX6_takeMessage_30 (by decide) (off := 54) (by rw [c_30_2]; decide) (by decide) ?_
    refine e_aload_n (i := 0) rfl dX6_takeMessage_84 ?_
    refine q_getF 6 5 172 dX6_takeMessage_85 fl_RX6_36 rfl iz_148 (fr_148_5 hF.1) ?_
    refine e_iload_n (i := 1) rfl dX6_takeMessage_88 ?_
    refine e_iconst (v := (-1)) (by decide) dX6_takeMessage_89 ?_
    obtain ⟨q10, eq10, hm⟩ := ob_some hm
    refine e_cV2 hko dX6_takeMessage_90 ml_RX6_171 iz_172 (by decide) rfl (by omega) (Nat.le_of_ble_eq_true rfl) (tX4_bump hko rw_172 q3.2 J F hF x1 ((-1)) _ eq10) ?_
    rintro _ _ ⟨rfl, rfl⟩
    refine e_goto 142 dX6_takeMessage_93 (by decide) ?_
    refine e_vret dX6_takeMessage_142 rfl ?_
    have hm := some_in hm
    subst hm
    exact ⟨rfl, rfl⟩
  have hm := it_n c_30_2 hm
  refine e_lookup 125 dX6_takeMessage_30 (by decide) (off := 95) (by show Op.lookupswitch.offset [(306, 66), (308, 34), (316, 54)] 95 _ = _; rw [lv_osw c_30_0 (by decide), lv_osw c_30_1 (by decide), lv_osw c_30_2 (by decide)]; try rfl) (by decide) ?_
  refine e_aload_n (i := 0) rfl dX6_takeMessage_125 ?_
  refine e_iload_n (i := 1) rfl dX6_takeMessage_126 ?_
  refine e_aload_n (i := 0) rfl dX6_takeMessage_127 ?_
  refine q_getF 6 12 (F 148 12) dX6_takeMessage_128 fl_RX6_57 rfl iz_148 rfl ?_
  refine q_getF 0 13 ((F 148 12) + 51) dX6_takeMessage_131 fl_RX6_143 rfl (iz_bk hF.2.2.2.2.2.2) (frb_13 hF.1 hF.2.2.2.2.2.2) ?_
  refine e_iload_n (i := 2) rfl dX6_takeMessage_134 ?_
  obtain ⟨q11, eq11, hm⟩ := ob_some hm
  refine e_cV1 hko dX6_takeMessage_135 ml_RX6_104 (iz_row (rwb_51 hF.2.2.2.2.2.2)) (by decide) rfl (by omega) (Nat.le_of_ble_eq_true rfl) (tX4_at hko (rwb_51 hF.2.2.2.2.2.2) q3.2 J F hF x2 _ eq11) ?_
  rintro _ _ ⟨rfl, rfl⟩
  refine e_iload_n (i := 3) rfl dX6_takeMessage_138 ?_
  obtain ⟨q12, eq12, hm⟩ := ob_some hm
  refine e_cV3 hko dX6_takeMessage_139 ml_RX6_124 iz_148 (by decide) rfl (by omega) (Nat.le_of_ble_eq_true rfl) (tX6_setSlot hko q3.2 J F hF x1 q11 q3.1 _ eq12) ?_
  rintro _ _ ⟨rfl, rfl⟩
  refine e_vret dX6_takeMessage_142 rfl ?_
  have hm := some_in hm
  subst hm
  exact ⟨rfl, rfl⟩
theorem dX6_doStep_0 : decode cX6_doStep 0 = .ok (.aload_n 0, 1) := by decide +kernel
theorem dX6_doStep_1 : decode cX6_doStep 1 = .ok (.getfield 27, 3) := by decide +kernel
theorem dX6_doStep_4 : decode cX6_doStep 4 = .ok (.iload_n 1, 1) := by decide +kernel
theorem dX6_doStep_5 : decode cX6_doStep 5 = .ok (.invokevirtual 104, 3) := by decide +kernel
theorem dX6_doStep_8 : decode cX6_doStep 8 = .ok (.istore_n 2, 1) := by decide +kernel
theorem dX6_doStep_9 : decode cX6_doStep 9 = .ok (.aload_n 0, 1) := by decide +kernel
theorem dX6_doStep_10 : decode cX6_doStep 10 = .ok (.getfield 57, 3) := by decide +kernel
theorem dX6_doStep_13 : decode cX6_doStep 13 = .ok (.getfield 143, 3) := by decide +kernel
theorem dX6_doStep_16 : decode cX6_doStep 16 = .ok (.iload_n 2, 1) := by decide +kernel
theorem dX6_doStep_17 : decode cX6_doStep 17 = .ok (.invokevirtual 104, 3) := by decide +kernel
theorem dX6_doStep_20 : decode cX6_doStep 20 = .ok (.istore_n 3, 1) := by decide +kernel
theorem dX6_doStep_21 : decode cX6_doStep 21 = .ok (.aload_n 0, 1) := by decide +kernel
theorem dX6_doStep_22 : decode cX6_doStep 22 = .ok (.getfield 27, 3) := by decide +kernel
theorem dX6_doStep_25 : decode cX6_doStep 25 = .ok (.iload_n 1, 1) := by decide +kernel
theorem dX6_doStep_26 : decode cX6_doStep 26 = .ok (.iload_n 2, 1) := by decide +kernel
theorem dX6_doStep_27 : decode cX6_doStep 27 = .ok (.iconst 1, 1) := by decide +kernel
theorem dX6_doStep_28 : decode cX6_doStep 28 = .ok (.iadd, 1) := by decide +kernel
theorem dX6_doStep_29 : decode cX6_doStep 29 = .ok (.invokevirtual 115, 3) := by decide +kernel
theorem dX6_doStep_32 : decode cX6_doStep 32 = .ok (.aload_n 0, 1) := by decide +kernel
theorem dX6_doStep_33 : decode cX6_doStep 33 = .ok (.getfield 57, 3) := by decide +kernel
theorem dX6_doStep_36 : decode cX6_doStep 36 = .ok (.getfield 134, 3) := by decide +kernel
theorem dX6_doStep_39 : decode cX6_doStep 39 = .ok (.iload_n 2, 1) := by decide +kernel
theorem dX6_doStep_40 : decode cX6_doStep 40 = .ok (.invokevirtual 104, 3) := by decide +kernel
theorem dX6_doStep_43 : decode cX6_doStep 43 = .ok (.tableswitch 218 303 315 #[65, 218, 81, 218, 113, 218, 140, 170, 155, 218, 218, 204, 124], 65) := by decide +kernel
theorem dX6_doStep_108 : decode cX6_doStep 108 = .ok (.aload_n 0, 1) := by decide +kernel
theorem dX6_doStep_109 : decode cX6_doStep 109 = .ok (.iload_n 1, 1) := by decide +kernel
theorem dX6_doStep_110 : decode cX6_doStep 110 = .ok (.iload_n 2, 1) := by decide +kernel
theorem dX6_doStep_111 : decode cX6_doStep 111 = .ok (.iconst 0, 1) := by decide +kernel
theorem dX6_doStep_112 : decode cX6_doStep 112 = .ok (.aload_n 0, 1) := by decide +kernel
theorem dX6_doStep_113 : decode cX6_doStep 113 = .ok (.iload_n 1, 1) := by decide +kernel
theorem dX6_doStep_114 : decode cX6_doStep 114 = .ok (.iload_n 3, 1) := by decide +kernel
theorem dX6_doStep_115 : decode cX6_doStep 115 = .ok (.invokevirtual 140, 3) := by decide +kernel
theorem dX6_doStep_118 : decode cX6_doStep 118 = .ok (.invokevirtual 177, 3) := by decide +kernel
theorem dX6_doStep_121 : decode cX6_doStep 121 = .ok (.goto 146, 3) := by decide +kernel
theorem dX6_doStep_124 : decode cX6_doStep 124 = .ok (.aload_n 0, 1) := by decide +kernel
theorem dX6_doStep_125 : decode cX6_doStep 125 = .ok (.iload_n 1, 1) := by decide +kernel
theorem dX6_doStep_126 : decode cX6_doStep 126 = .ok (.iload_n 2, 1) := by decide +kernel
theorem dX6_doStep_127 : decode cX6_doStep 127 = .ok (.iconst 1, 1) := by decide +kernel
theorem dX6_doStep_128 : decode cX6_doStep 128 = .ok (.aload_n 0, 1) := by decide +kernel
theorem dX6_doStep_129 : decode cX6_doStep 129 = .ok (.getfield 12, 3) := by decide +kernel
theorem dX6_doStep_132 : decode cX6_doStep 132 = .ok (.aload_n 0, 1) := by decide +kernel
theorem dX6_doStep_133 : decode cX6_doStep 133 = .ok (.iload_n 1, 1) := by decide +kernel
theorem dX6_doStep_134 : decode cX6_doStep 134 = .ok (.iload_n 3, 1) := by decide +kernel
theorem dX6_doStep_135 : decode cX6_doStep 135 = .ok (.invokevirtual 108, 3) := by decide +kernel
theorem dX6_doStep_138 : decode cX6_doStep 138 = .ok (.invokevirtual 112, 3) := by decide +kernel
theorem dX6_doStep_141 : decode cX6_doStep 141 = .ok (.invokevirtual 177, 3) := by decide +kernel
theorem dX6_doStep_144 : decode cX6_doStep 144 = .ok (.aload_n 0, 1) := by decide +kernel
theorem dX6_doStep_145 : decode cX6_doStep 145 = .ok (.getfield 36, 3) := by decide +kernel
theorem dX6_doStep_148 : decode cX6_doStep 148 = .ok (.iload_n 1, 1) := by decide +kernel
theorem dX6_doStep_149 : decode cX6_doStep 149 = .ok (.iconst (-1), 1) := by decide +kernel
theorem dX6_doStep_150 : decode cX6_doStep 150 = .ok (.invokevirtual 171, 3) := by decide +kernel
theorem dX6_doStep_153 : decode cX6_doStep 153 = .ok (.goto 114, 3) := by decide +kernel
theorem dX6_doStep_156 : decode cX6_doStep 156 = .ok (.aload_n 0, 1) := by decide +kernel
theorem dX6_doStep_157 : decode cX6_doStep 157 = .ok (.iload_n 1, 1) := by decide +kernel
theorem dX6_doStep_158 : decode cX6_doStep 158 = .ok (.iload_n 2, 1) := by decide +kernel
theorem dX6_doStep_159 : decode cX6_doStep 159 = .ok (.iconst 2, 1) := by decide +kernel
theorem dX6_doStep_160 : decode cX6_doStep 160 = .ok (.iload_n 3, 1) := by decide +kernel
theorem dX6_doStep_161 : decode cX6_doStep 161 = .ok (.invokevirtual 177, 3) := by decide +kernel
theorem dX6_doStep_164 : decode cX6_doStep 164 = .ok (.goto 103, 3) := by decide +kernel
theorem dX6_doStep_167 : decode cX6_doStep 167 = .ok (.aload_n 0, 1) := by decide +kernel
theorem dX6_doStep_168 : decode cX6_doStep 168 = .ok (.iload_n 1, 1) := by decide +kernel
theorem dX6_doStep_169 : decode cX6_doStep 169 = .ok (.iload_n 2, 1) := by decide +kernel
theorem dX6_doStep_170 : decode cX6_doStep 170 = .ok (.iconst 3, 1) := by decide +kernel
theorem dX6_doStep_171 : decode cX6_doStep 171 = .ok (.iconst 0, 1) := by decide +kernel
theorem dX6_doStep_172 : decode cX6_doStep 172 = .ok (.invokevirtual 177, 3) := by decide +kernel
theorem dX6_doStep_175 : decode cX6_doStep 175 = .ok (.aload_n 0, 1) := by decide +kernel
theorem dX6_doStep_176 : decode cX6_doStep 176 = .ok (.iload_n 1, 1) := by decide +kernel
theorem dX6_doStep_177 : decode cX6_doStep 177 = .ok (.invokevirtual 181, 3) := by decide +kernel
theorem dX6_doStep_180 : decode cX6_doStep 180 = .ok (.goto 87, 3) := by decide +kernel
theorem dX6_doStep_183 : decode cX6_doStep 183 = .ok (.aload_n 0, 1) := by decide +kernel
theorem dX6_doStep_184 : decode cX6_doStep 184 = .ok (.iload_n 1, 1) := by decide +kernel
theorem dX6_doStep_185 : decode cX6_doStep 185 = .ok (.iload_n 2, 1) := by decide +kernel
theorem dX6_doStep_186 : decode cX6_doStep 186 = .ok (.invokevirtual 184, 3) := by decide +kernel
theorem dX6_doStep_189 : decode cX6_doStep 189 = .ok (.aload_n 0, 1) := by decide +kernel
theorem dX6_doStep_190 : decode cX6_doStep 190 = .ok (.iload_n 1, 1) := by decide +kernel
theorem dX6_doStep_191 : decode cX6_doStep 191 = .ok (.iload_n 2, 1) := by decide +kernel
theorem dX6_doStep_192 : decode cX6_doStep 192 = .ok (.invokevirtual 187, 3) := by decide +kernel
theorem dX6_doStep_195 : decode cX6_doStep 195 = .ok (.goto 72, 3) := by decide +kernel
theorem dX6_doStep_198 : decode cX6_doStep 198 = .ok (.aload_n 0, 1) := by decide +kernel
theorem dX6_doStep_199 : decode cX6_doStep 199 = .ok (.iload_n 1, 1) := by decide +kernel
theorem dX6_doStep_200 : decode cX6_doStep 200 = .ok (.iload_n 2, 1) := by decide +kernel
theorem dX6_doStep_201 : decode cX6_doStep 201 = .ok (.invokevirtual 184, 3) := by decide +kernel
theorem dX6_doStep_204 : decode cX6_doStep 204 = .ok (.aload_n 0, 1) := by decide +kernel
theorem dX6_doStep_205 : decode cX6_doStep 205 = .ok (.iload_n 1, 1) := by decide +kernel
theorem dX6_doStep_206 : decode cX6_doStep 206 = .ok (.iload_n 3, 1) := by decide +kernel
theorem dX6_doStep_207 : decode cX6_doStep 207 = .ok (.invokevirtual 91, 3) := by decide +kernel
theorem dX6_doStep_210 : decode cX6_doStep 210 = .ok (.goto 57, 3) := by decide +kernel
theorem dX6_doStep_213 : decode cX6_doStep 213 = .ok (.aload_n 0, 1) := by decide +kernel
theorem dX6_doStep_214 : decode cX6_doStep 214 = .ok (.getfield 12, 3) := by decide +kernel
theorem dX6_doStep_217 : decode cX6_doStep 217 = .ok (.aload_n 0, 1) := by decide +kernel
theorem dX6_doStep_218 : decode cX6_doStep 218 = .ok (.iload_n 1, 1) := by decide +kernel
theorem dX6_doStep_219 : decode cX6_doStep 219 = .ok (.iload_n 2, 1) := by decide +kernel
theorem dX6_doStep_220 : decode cX6_doStep 220 = .ok (.invokevirtual 156, 3) := by decide +kernel
theorem dX6_doStep_223 : decode cX6_doStep 223 = .ok (.aload_n 0, 1) := by decide +kernel
theorem dX6_doStep_224 : decode cX6_doStep 224 = .ok (.getfield 12, 3) := by decide +kernel
theorem dX6_doStep_227 : decode cX6_doStep 227 = .ok (.aload_n 0, 1) := by decide +kernel
theorem dX6_doStep_228 : decode cX6_doStep 228 = .ok (.iload_n 1, 1) := by decide +kernel
theorem dX6_doStep_229 : decode cX6_doStep 229 = .ok (.iload_n 3, 1) := by decide +kernel
theorem dX6_doStep_230 : decode cX6_doStep 230 = .ok (.invokevirtual 108, 3) := by decide +kernel
theorem dX6_doStep_233 : decode cX6_doStep 233 = .ok (.invokevirtual 112, 3) := by decide +kernel
theorem dX6_doStep_236 : decode cX6_doStep 236 = .ok (.invokevirtual 190, 3) := by decide +kernel
theorem dX6_doStep_239 : decode cX6_doStep 239 = .ok (.aload_n 0, 1) := by decide +kernel
theorem dX6_doStep_240 : decode cX6_doStep 240 = .ok (.iload_n 1, 1) := by decide +kernel
theorem dX6_doStep_241 : decode cX6_doStep 241 = .ok (.invokevirtual 181, 3) := by decide +kernel
theorem dX6_doStep_244 : decode cX6_doStep 244 = .ok (.goto 23, 3) := by decide +kernel
theorem dX6_doStep_247 : decode cX6_doStep 247 = .ok (.aload_n 0, 1) := by decide +kernel
theorem dX6_doStep_248 : decode cX6_doStep 248 = .ok (.iload_n 1, 1) := by decide +kernel
theorem dX6_doStep_249 : decode cX6_doStep 249 = .ok (.aload_n 0, 1) := by decide +kernel
theorem dX6_doStep_250 : decode cX6_doStep 250 = .ok (.iload_n 1, 1) := by decide +kernel
theorem dX6_doStep_251 : decode cX6_doStep 251 = .ok (.iload_n 3, 1) := by decide +kernel
theorem dX6_doStep_252 : decode cX6_doStep 252 = .ok (.invokevirtual 140, 3) := by decide +kernel
theorem dX6_doStep_255 : decode cX6_doStep 255 = .ok (.invokevirtual 193, 3) := by decide +kernel
theorem dX6_doStep_258 : decode cX6_doStep 258 = .ok (.goto 9, 3) := by decide +kernel
theorem dX6_doStep_261 : decode cX6_doStep 261 = .ok (.aload_n 0, 1) := by decide +kernel
theorem dX6_doStep_262 : decode cX6_doStep 262 = .ok (.iload_n 1, 1) := by decide +kernel
theorem dX6_doStep_263 : decode cX6_doStep 263 = .ok (.iload_n 2, 1) := by decide +kernel
theorem dX6_doStep_264 : decode cX6_doStep 264 = .ok (.invokevirtual 196, 3) := by decide +kernel
theorem dX6_doStep_267 : decode cX6_doStep 267 = .ok (.return_, 1) := by decide +kernel
def mX6_doStep (I : iT) (F : fT) (x1 : Int32) : Option (iT) := (mX4_at 166 I x1).bind fun q1 => (mX4_at ((F 148 12) + 51) I q1).bind fun q2 => (mX4_put 166 I x1 (q1 + 1)).bind fun q3 => (mX4_at ((F 148 12) + 47) q3 q1).bind fun q4 => if q4 = 303 then (mX6_numberOf q3 F x1 q2).bind fun q5 => (mX6_lay q5.2 F x1 q1 0 q5.1).bind fun q6 => some q6 else if q4 = 304 then (mX6_takeMessage q3 F x1 q1).bind fun q7 => some q7 else if q4 = 305 then (mX6_slotOf q3 x1 q2).bind fun q8 => (mX1_follow q3 q8).bind fun q9 => (mX6_lay q3 F x1 q1 1 q9).bind fun q10 => (mX4_bump 172 q10 x1 ((-1))).bind fun q11 => some q11 else if q4 = 306 then (mX6_takeMessage q3 F x1 q1).bind fun q12 => some q12 else if q4 = 307 then (mX6_lay q3 F x1 q1 2 q2).bind fun q13 => some q13 else if q4 = 308 then (mX6_takeMessage q3 F x1 q1).bind fun q14 => some q14 else if q4 = 309 then (mX6_gatherArgs q3 F x1 q1).bind fun q15 => (mX6_makeProcess q15 F x1 q1).bind fun q16 => some q16 else if q4 = 310 then (mX6_talkedOver q3 F x1 q1).bind fun q17 => (mX6_slotOf q3 x1 q2).bind fun q18 => (mX1_follow q3 q18).bind fun q19 => (mX1_join q3 q17 q19).bind fun q20 => (mX6_finish q20 x1).bind fun q21 => some q21 else if q4 = 311 then (mX6_gatherArgs q3 F x1 q1).bind fun q22 => (mX6_goOn q22 F x1 q2).bind fun q23 => some q23 else if q4 = 312 then (mX6_takeMessage q3 F x1 q1).bind fun q24 => some q24 else if q4 = 313 then (mX6_takeMessage q3 F x1 q1).bind fun q25 => some q25 else if q4 = 314 then (mX6_numberOf q3 F x1 q2).bind fun q26 => (mX6_keepSaid q26.2 x1 q26.1).bind fun q27 => some q27 else if q4 = 315 then (mX6_lay q3 F x1 q1 3 0).bind fun q28 => (mX6_finish q28 x1).bind fun q29 => some q29 else (mX6_takeMessage q3 F x1 q1).bind fun q30 => some q30
set_option maxRecDepth 100000 in
set_option maxHeartbeats 4000000 in
theorem tX6_doStep {l : Launch} {K : a_KT} {g : a_GT} {IB : iT} (hko : a_kok K) (I : iT) (J : jT) (F : fT) (hF : FK F) (x1 : Int32) (q : iT) (hm : mX6_doStep I F x1 = some q) : C l K g 5 0 0 yX6_doStep cX6_doStep 4 none [.ref 148, .int x1] (hg I IB J F) (fun r2 h2 => r2 = none ∧ h2 = hg q IB J F) := by
  unfold mX6_doStep at hm
  refine c_of [.ref 148, .int x1, .null, .null] (by decide) (Nat.le_of_ble_eq_true rfl) rfl ?_
  refine e_aload_n (i := 0) rfl dX6_doStep_0 ?_
  refine q_getF 6 2 166 dX6_doStep_1 fl_RX6_27 rfl iz_148 (fr_148_2 hF.1) ?_
  refine e_iload_n (i := 1) rfl dX6_doStep_4 ?_
  obtain ⟨q1, eq1, hm⟩ := ob_some hm
  refine e_cV1 hko dX6_doStep_5 ml_RX6_104 iz_166 (by decide) rfl (by omega) (Nat.le_of_ble_eq_true rfl) (tX4_at hko rw_166 I J F hF x1 _ eq1) ?_
  rintro _ _ ⟨rfl, rfl⟩
  refine q_istore_n (i := 2) (by decide) rfl dX6_doStep_8 ?_
  refine e_aload_n (i := 0) rfl dX6_doStep_9 ?_
  refine q_getF 6 12 (F 148 12) dX6_doStep_10 fl_RX6_57 rfl iz_148 rfl ?_
  refine q_getF 0 13 ((F 148 12) + 51) dX6_doStep_13 fl_RX6_143 rfl (iz_bk hF.2.2.2.2.2.2) (frb_13 hF.1 hF.2.2.2.2.2.2) ?_
  refine e_iload_n (i := 2) rfl dX6_doStep_16 ?_
  obtain ⟨q2, eq2, hm⟩ := ob_some hm
  refine e_cV1 hko dX6_doStep_17 ml_RX6_104 (iz_row (rwb_51 hF.2.2.2.2.2.2)) (by decide) rfl (by omega) (Nat.le_of_ble_eq_true rfl) (tX4_at hko (rwb_51 hF.2.2.2.2.2.2) I J F hF q1 _ eq2) ?_
  rintro _ _ ⟨rfl, rfl⟩
  refine q_istore_n (i := 3) (by decide) rfl dX6_doStep_20 ?_
  refine e_aload_n (i := 0) rfl dX6_doStep_21 ?_
  refine q_getF 6 2 166 dX6_doStep_22 fl_RX6_27 rfl iz_148 (fr_148_2 hF.1) ?_
  refine e_iload_n (i := 1) rfl dX6_doStep_25 ?_
  refine e_iload_n (i := 2) rfl dX6_doStep_26 ?_
  refine e_iconst (v := 1) (by decide) dX6_doStep_27 ?_
  refine e_iadd dX6_doStep_28 ?_
  obtain ⟨q3, eq3, hm⟩ := ob_some hm
  refine e_cV2 hko dX6_doStep_29 ml_RX6_115 iz_166 (by decide) rfl (by omega) (Nat.le_of_ble_eq_true rfl) (tX4_put hko rw_166 I J F hF x1 (q1 + 1) _ eq3) ?_
  rintro _ _ ⟨rfl, rfl⟩
  refine e_aload_n (i := 0) rfl dX6_doStep_32 ?_
  refine q_getF 6 12 (F 148 12) dX6_doStep_33 fl_RX6_57 rfl iz_148 rfl ?_
  refine q_getF 0 11 ((F 148 12) + 47) dX6_doStep_36 fl_RX6_134 rfl (iz_bk hF.2.2.2.2.2.2) (frb_11 hF.1 hF.2.2.2.2.2.2) ?_
  refine e_iload_n (i := 2) rfl dX6_doStep_39 ?_
  obtain ⟨q4, eq4, hm⟩ := ob_some hm
  refine e_cV1 hko dX6_doStep_40 ml_RX6_104 (iz_row (rwb_47 hF.2.2.2.2.2.2)) (by decide) rfl (by omega) (Nat.le_of_ble_eq_true rfl) (tX4_at hko (rwb_47 hF.2.2.2.2.2.2) q3 J F hF q1 _ eq4) ?_
  rintro _ _ ⟨rfl, rfl⟩
  by_cases c_43_0 : q4 = 303
  · have hm := it_p c_43_0 hm
    refine e_tableIn 108 dX6_doStep_43 (by rw [c_43_0]; decide) (by rw [c_43_0]; decide) (off := 65) (by rw [c_43_0]; decide) (by decide) ?_
    refine e_aload_n (i := 0) rfl dX6_doStep_108 ?_
    refine e_iload_n (i := 1) rfl dX6_doStep_109 ?_
    refine e_iload_n (i := 2) rfl dX6_doStep_110 ?_
    refine e_iconst (v := 0) (by decide) dX6_doStep_111 ?_
    refine e_aload_n (i := 0) rfl dX6_doStep_112 ?_
    refine e_iload_n (i := 1) rfl dX6_doStep_113 ?_
    refine e_iload_n (i := 3) rfl dX6_doStep_114 ?_
    obtain ⟨q5, eq5, hm⟩ := ob_some hm
    refine e_cV2 hko dX6_doStep_115 ml_RX6_140 iz_148 (by decide) rfl (by omega) (Nat.le_of_ble_eq_true rfl) (tX6_numberOf hko q3 J F hF x1 q2 _ eq5) ?_
    rintro _ _ ⟨rfl, rfl⟩
    obtain ⟨q6, eq6, hm⟩ := ob_some hm
    refine e_cV4 hko dX6_doStep_118 ml_RX6_177 iz_148 (by decide) rfl (by omega) (Nat.le_of_ble_eq_true rfl) (tX6_lay hko q5.2 J F hF x1 q1 0 q5.1 _ eq6) ?_
    rintro _ _ ⟨rfl, rfl⟩
    refine e_goto 267 dX6_doStep_121 (by decide) ?_
    refine e_vret dX6_doStep_267 rfl ?_
    have hm := some_in hm
    subst hm
    exact ⟨rfl, rfl⟩
  have hm := it_n c_43_0 hm
  by_cases c_43_1 : q4 = 304
  · have hm := it_p c_43_1 hm
    refine e_tableIn 261 dX6_doStep_43 (by rw [c_43_1]; decide) (by rw [c_43_1]; decide) (off := 218) (by rw [c_43_1]; decide) (by decide) ?_
    refine e_aload_n (i := 0) rfl dX6_doStep_261 ?_
    refine e_iload_n (i := 1) rfl dX6_doStep_262 ?_
    refine e_iload_n (i := 2) rfl dX6_doStep_263 ?_
    obtain ⟨q7, eq7, hm⟩ := ob_some hm
    refine e_cV2 hko dX6_doStep_264 ml_RX6_196 iz_148 (by decide) rfl (by omega) (Nat.le_of_ble_eq_true rfl) (tX6_takeMessage hko q3 J F hF x1 q1 _ eq7) ?_
    rintro _ _ ⟨rfl, rfl⟩
    refine e_vret dX6_doStep_267 rfl ?_
    have hm := some_in hm
    subst hm
    exact ⟨rfl, rfl⟩
  have hm := it_n c_43_1 hm
  by_cases c_43_2 : q4 = 305
  · have hm := it_p c_43_2 hm
    refine e_tableIn 124 dX6_doStep_43 (by rw [c_43_2]; decide) (by rw [c_43_2]; decide) (off := 81) (by rw [c_43_2]; decide) (by decide) ?_
    refine e_aload_n (i := 0) rfl dX6_doStep_124 ?_
    refine e_iload_n (i := 1) rfl dX6_doStep_125 ?_
    refine e_iload_n (i := 2) rfl dX6_doStep_126 ?_
    refine e_iconst (v := 1) (by decide) dX6_doStep_127 ?_
    refine e_aload_n (i := 0) rfl dX6_doStep_128 ?_
    refine q_getF 6 0 149 dX6_doStep_129 fl_RX6_12 rfl iz_148 (fr_148_0 hF.1) ?_
    refine e_aload_n (i := 0) rfl dX6_doStep_132 ?_
    refine e_iload_n (i := 1) rfl dX6_doStep_133 ?_
    refine e_iload_n (i := 3) rfl dX6_doStep_134 ?_
    obtain ⟨q8, eq8, hm⟩ := ob_some hm
    refine e_cV2 hko dX6_doStep_135 ml_RX6_108 iz_148 (by decide) rfl (by omega) (Nat.le_of_ble_eq_true rfl) (tX6_slotOf hko q3 J F hF x1 q2 _ eq8) ?_
    rintro _ _ ⟨rfl, rfl⟩
    obtain ⟨q9, eq9, hm⟩ := ob_some hm
    refine e_cV1 hko dX6_doStep_138 ml_RX6_112 iz_149 (by decide) rfl (by omega) (Nat.le_of_ble_eq_true rfl) (tX1_follow hko q3 J F hF q8 _ eq9) ?_
    rintro _ _ ⟨rfl, rfl⟩
    obtain ⟨q10, eq10, hm⟩ := ob_some hm
    refine e_cV4 hko dX6_doStep_141 ml_RX6_177 iz_148 (by decide) rfl (by omega) (Nat.le_of_ble_eq_true rfl) (tX6_lay hko q3 J F hF x1 q1 1 q9 _ eq10) ?_
    rintro _ _ ⟨rfl, rfl⟩
    refine e_aload_n (i := 0) rfl dX6_doStep_144 ?_
    refine q_getF 6 5 172 dX6_doStep_145 fl_RX6_36 rfl iz_148 (fr_148_5 hF.1) ?_
    refine e_iload_n (i := 1) rfl dX6_doStep_148 ?_
    refine e_iconst (v := (-1)) (by decide) dX6_doStep_149 ?_
    obtain ⟨q11, eq11, hm⟩ := ob_some hm
    refine e_cV2 hko dX6_doStep_150 ml_RX6_171 iz_172 (by decide) rfl (by omega) (Nat.le_of_ble_eq_true rfl) (tX4_bump hko rw_172 q10 J F hF x1 ((-1)) _ eq11) ?_
    rintro _ _ ⟨rfl, rfl⟩
    refine e_goto 267 dX6_doStep_153 (by decide) ?_
    refine e_vret dX6_doStep_267 rfl ?_
    have hm := some_in hm
    subst hm
    exact ⟨rfl, rfl⟩
  have hm := it_n c_43_2 hm
  by_cases c_43_3 : q4 = 306
  · have hm := it_p c_43_3 hm
    refine e_tableIn 261 dX6_doStep_43 (by rw [c_43_3]; decide) (by rw [c_43_3]; decide) (off := 218) (by rw [c_43_3]; decide) (by decide) ?_
    refine e_aload_n (i := 0) rfl dX6_doStep_261 ?_
    refine e_iload_n (i := 1) rfl dX6_doStep_262 ?_
    refine e_iload_n (i := 2) rfl dX6_doStep_263 ?_
    obtain ⟨q12, eq12, hm⟩ := ob_some hm
    refine e_cV2 hko dX6_doStep_264 ml_RX6_196 iz_148 (by decide) rfl (by omega) (Nat.le_of_ble_eq_true rfl) (tX6_takeMessage hko q3 J F hF x1 q1 _ eq12) ?_
    rintro _ _ ⟨rfl, rfl⟩
    refine e_vret dX6_doStep_267 rfl ?_
    have hm := some_in hm
    subst hm
    exact ⟨rfl, rfl⟩
  have hm := it_n c_43_3 hm
  by_cases c_43_4 : q4 = 307
  · have hm := it_p c_43_4 hm
    refine e_tableIn 156 dX6_doStep_43 (by rw [c_43_4]; decide) (by rw [c_43_4]; decide) (off := 113) (by rw [c_43_4]; decide) (by decide) ?_
    refine e_aload_n (i := 0) rfl dX6_doStep_156 ?_
    refine e_iload_n (i := 1) rfl dX6_doStep_157 ?_
    refine e_iload_n (i := 2) rfl dX6_doStep_158 ?_
    refine e_iconst (v := 2) (by decide) dX6_doStep_159 ?_
    refine e_iload_n (i := 3) rfl dX6_doStep_160 ?_
    obtain ⟨q13, eq13, hm⟩ := ob_some hm
    refine e_cV4 hko dX6_doStep_161 ml_RX6_177 iz_148 (by decide) rfl (by omega) (Nat.le_of_ble_eq_true rfl) (tX6_lay hko q3 J F hF x1 q1 2 q2 _ eq13) ?_
    rintro _ _ ⟨rfl, rfl⟩
    refine e_goto 267 dX6_doStep_164 (by decide) ?_
    refine e_vret dX6_doStep_267 rfl ?_
    have hm := some_in hm
    subst hm
    exact ⟨rfl, rfl⟩
  have hm := it_n c_43_4 hm
  by_cases c_43_5 : q4 = 308
  · have hm := it_p c_43_5 hm
    refine e_tableIn 261 dX6_doStep_43 (by rw [c_43_5]; decide) (by rw [c_43_5]; decide) (off := 218) (by rw [c_43_5]; decide) (by decide) ?_
    refine e_aload_n (i := 0) rfl dX6_doStep_261 ?_
    refine e_iload_n (i := 1) rfl dX6_doStep_262 ?_
    refine e_iload_n (i := 2) rfl dX6_doStep_263 ?_
    obtain ⟨q14, eq14, hm⟩ := ob_some hm
    refine e_cV2 hko dX6_doStep_264 ml_RX6_196 iz_148 (by decide) rfl (by omega) (Nat.le_of_ble_eq_true rfl) (tX6_takeMessage hko q3 J F hF x1 q1 _ eq14) ?_
    rintro _ _ ⟨rfl, rfl⟩
    refine e_vret dX6_doStep_267 rfl ?_
    have hm := some_in hm
    subst hm
    exact ⟨rfl, rfl⟩
  have hm := it_n c_43_5 hm
  by_cases c_43_6 : q4 = 309
  · have hm := it_p c_43_6 hm
    refine e_tableIn 183 dX6_doStep_43 (by rw [c_43_6]; decide) (by rw [c_43_6]; decide) (off := 140) (by rw [c_43_6]; decide) (by decide) ?_
    refine e_aload_n (i := 0) rfl dX6_doStep_183 ?_
    refine e_iload_n (i := 1) rfl dX6_doStep_184 ?_
    refine e_iload_n (i := 2) rfl dX6_doStep_185 ?_
    obtain ⟨q15, eq15, hm⟩ := ob_some hm
    refine e_cV2 hko dX6_doStep_186 ml_RX6_184 iz_148 (by decide) rfl (by omega) (Nat.le_of_ble_eq_true rfl) (tX6_gatherArgs hko q3 J F hF x1 q1 _ eq15) ?_
    rintro _ _ ⟨rfl, rfl⟩
    refine e_aload_n (i := 0) rfl dX6_doStep_189 ?_
    refine e_iload_n (i := 1) rfl dX6_doStep_190 ?_
    refine e_iload_n (i := 2) rfl dX6_doStep_191 ?_
    obtain ⟨q16, eq16, hm⟩ := ob_some hm
    refine e_cV2 hko dX6_doStep_192 ml_RX6_187 iz_148 (by decide) rfl (by omega) (Nat.le_of_ble_eq_true rfl) (tX6_makeProcess hko q15 J F hF x1 q1 _ eq16) ?_
    rintro _ _ ⟨rfl, rfl⟩
    refine e_goto 267 dX6_doStep_195 (by decide) ?_
    refine e_vret dX6_doStep_267 rfl ?_
    have hm := some_in hm
    subst hm
    exact ⟨rfl, rfl⟩
  have hm := it_n c_43_6 hm
  by_cases c_43_7 : q4 = 310
  · have hm := it_p c_43_7 hm
    refine e_tableIn 213 dX6_doStep_43 (by rw [c_43_7]; decide) (by rw [c_43_7]; decide) (off := 170) (by rw [c_43_7]; decide) (by decide) ?_
    refine e_aload_n (i := 0) rfl dX6_doStep_213 ?_
    refine q_getF 6 0 149 dX6_doStep_214 fl_RX6_12 rfl iz_148 (fr_148_0 hF.1) ?_
    refine e_aload_n (i := 0) rfl dX6_doStep_217 ?_
    refine e_iload_n (i := 1) rfl dX6_doStep_218 ?_
    refine e_iload_n (i := 2) rfl dX6_doStep_219 ?_
    obtain ⟨q17, eq17, hm⟩ := ob_some hm
    refine e_cV2 hko dX6_doStep_220 ml_RX6_156 iz_148 (by decide) rfl (by omega) (Nat.le_of_ble_eq_true rfl) (tX6_talkedOver hko q3 J F hF x1 q1 _ eq17) ?_
    rintro _ _ ⟨rfl, rfl⟩
    refine e_aload_n (i := 0) rfl dX6_doStep_223 ?_
    refine q_getF 6 0 149 dX6_doStep_224 fl_RX6_12 rfl iz_148 (fr_148_0 hF.1) ?_
    refine e_aload_n (i := 0) rfl dX6_doStep_227 ?_
    refine e_iload_n (i := 1) rfl dX6_doStep_228 ?_
    refine e_iload_n (i := 3) rfl dX6_doStep_229 ?_
    obtain ⟨q18, eq18, hm⟩ := ob_some hm
    refine e_cV2 hko dX6_doStep_230 ml_RX6_108 iz_148 (by decide) rfl (by omega) (Nat.le_of_ble_eq_true rfl) (tX6_slotOf hko q3 J F hF x1 q2 _ eq18) ?_
    rintro _ _ ⟨rfl, rfl⟩
    obtain ⟨q19, eq19, hm⟩ := ob_some hm
    refine e_cV1 hko dX6_doStep_233 ml_RX6_112 iz_149 (by decide) rfl (by omega) (Nat.le_of_ble_eq_true rfl) (tX1_follow hko q3 J F hF q18 _ eq19) ?_
    rintro _ _ ⟨rfl, rfl⟩
    obtain ⟨q20, eq20, hm⟩ := ob_some hm
    refine e_cV2 hko dX6_doStep_236 ml_RX6_190 iz_149 (by decide) rfl (by omega) (Nat.le_of_ble_eq_true rfl) (tX1_join hko q3 J F hF q17 q19 _ eq20) ?_
    rintro _ _ ⟨rfl, rfl⟩
    refine e_aload_n (i := 0) rfl dX6_doStep_239 ?_
    refine e_iload_n (i := 1) rfl dX6_doStep_240 ?_
    obtain ⟨q21, eq21, hm⟩ := ob_some hm
    refine e_cV1 hko dX6_doStep_241 ml_RX6_181 iz_148 (by decide) rfl (by omega) (Nat.le_of_ble_eq_true rfl) (tX6_finish hko q20 J F hF x1 _ eq21) ?_
    rintro _ _ ⟨rfl, rfl⟩
    refine e_goto 267 dX6_doStep_244 (by decide) ?_
    refine e_vret dX6_doStep_267 rfl ?_
    have hm := some_in hm
    subst hm
    exact ⟨rfl, rfl⟩
  have hm := it_n c_43_7 hm
  by_cases c_43_8 : q4 = 311
  · have hm := it_p c_43_8 hm
    refine e_tableIn 198 dX6_doStep_43 (by rw [c_43_8]; decide) (by rw [c_43_8]; decide) (off := 155) (by rw [c_43_8]; decide) (by decide) ?_
    refine e_aload_n (i := 0) rfl dX6_doStep_198 ?_
    refine e_iload_n (i := 1) rfl dX6_doStep_199 ?_
    refine e_iload_n (i := 2) rfl dX6_doStep_200 ?_
    obtain ⟨q22, eq22, hm⟩ := ob_some hm
    refine e_cV2 hko dX6_doStep_201 ml_RX6_184 iz_148 (by decide) rfl (by omega) (Nat.le_of_ble_eq_true rfl) (tX6_gatherArgs hko q3 J F hF x1 q1 _ eq22) ?_
    rintro _ _ ⟨rfl, rfl⟩
    refine e_aload_n (i := 0) rfl dX6_doStep_204 ?_
    refine e_iload_n (i := 1) rfl dX6_doStep_205 ?_
    refine e_iload_n (i := 3) rfl dX6_doStep_206 ?_
    obtain ⟨q23, eq23, hm⟩ := ob_some hm
    refine e_cV2 hko dX6_doStep_207 ml_RX6_91 iz_148 (by decide) rfl (by omega) (Nat.le_of_ble_eq_true rfl) (tX6_goOn hko q22 J F hF x1 q2 _ eq23) ?_
    rintro _ _ ⟨rfl, rfl⟩
    refine e_goto 267 dX6_doStep_210 (by decide) ?_
    refine e_vret dX6_doStep_267 rfl ?_
    have hm := some_in hm
    subst hm
    exact ⟨rfl, rfl⟩
  have hm := it_n c_43_8 hm
  by_cases c_43_9 : q4 = 312
  · have hm := it_p c_43_9 hm
    refine e_tableIn 261 dX6_doStep_43 (by rw [c_43_9]; decide) (by rw [c_43_9]; decide) (off := 218) (by rw [c_43_9]; decide) (by decide) ?_
    refine e_aload_n (i := 0) rfl dX6_doStep_261 ?_
    refine e_iload_n (i := 1) rfl dX6_doStep_262 ?_
    refine e_iload_n (i := 2) rfl dX6_doStep_263 ?_
    obtain ⟨q24, eq24, hm⟩ := ob_some hm
    refine e_cV2 hko dX6_doStep_264 ml_RX6_196 iz_148 (by decide) rfl (by omega) (Nat.le_of_ble_eq_true rfl) (tX6_takeMessage hko q3 J F hF x1 q1 _ eq24) ?_
    rintro _ _ ⟨rfl, rfl⟩
    refine e_vret dX6_doStep_267 rfl ?_
    have hm := some_in hm
    subst hm
    exact ⟨rfl, rfl⟩
  have hm := it_n c_43_9 hm
  by_cases c_43_10 : q4 = 313
  · have hm := it_p c_43_10 hm
    refine e_tableIn 261 dX6_doStep_43 (by rw [c_43_10]; decide) (by rw [c_43_10]; decide) (off := 218) (by rw [c_43_10]; decide) (by decide) ?_
    refine e_aload_n (i := 0) rfl dX6_doStep_261 ?_
    refine e_iload_n (i := 1) rfl dX6_doStep_262 ?_
    refine e_iload_n (i := 2) rfl dX6_doStep_263 ?_
    obtain ⟨q25, eq25, hm⟩ := ob_some hm
    refine e_cV2 hko dX6_doStep_264 ml_RX6_196 iz_148 (by decide) rfl (by omega) (Nat.le_of_ble_eq_true rfl) (tX6_takeMessage hko q3 J F hF x1 q1 _ eq25) ?_
    rintro _ _ ⟨rfl, rfl⟩
    refine e_vret dX6_doStep_267 rfl ?_
    have hm := some_in hm
    subst hm
    exact ⟨rfl, rfl⟩
  have hm := it_n c_43_10 hm
  by_cases c_43_11 : q4 = 314
  · have hm := it_p c_43_11 hm
    refine e_tableIn 247 dX6_doStep_43 (by rw [c_43_11]; decide) (by rw [c_43_11]; decide) (off := 204) (by rw [c_43_11]; decide) (by decide) ?_
    refine e_aload_n (i := 0) rfl dX6_doStep_247 ?_
    refine e_iload_n (i := 1) rfl dX6_doStep_248 ?_
    refine e_aload_n (i := 0) rfl dX6_doStep_249 ?_
    refine e_iload_n (i := 1) rfl dX6_doStep_250 ?_
    refine e_iload_n (i := 3) rfl dX6_doStep_251 ?_
    obtain ⟨q26, eq26, hm⟩ := ob_some hm
    refine e_cV2 hko dX6_doStep_252 ml_RX6_140 iz_148 (by decide) rfl (by omega) (Nat.le_of_ble_eq_true rfl) (tX6_numberOf hko q3 J F hF x1 q2 _ eq26) ?_
    rintro _ _ ⟨rfl, rfl⟩
    obtain ⟨q27, eq27, hm⟩ := ob_some hm
    refine e_cV2 hko dX6_doStep_255 ml_RX6_193 iz_148 (by decide) rfl (by omega) (Nat.le_of_ble_eq_true rfl) (tX6_keepSaid hko q26.2 J F hF x1 q26.1 _ eq27) ?_
    rintro _ _ ⟨rfl, rfl⟩
    refine e_goto 267 dX6_doStep_258 (by decide) ?_
    refine e_vret dX6_doStep_267 rfl ?_
    have hm := some_in hm
    subst hm
    exact ⟨rfl, rfl⟩
  have hm := it_n c_43_11 hm
  by_cases c_43_12 : q4 = 315
  · have hm := it_p c_43_12 hm
    refine e_tableIn 167 dX6_doStep_43 (by rw [c_43_12]; decide) (by rw [c_43_12]; decide) (off := 124) (by rw [c_43_12]; decide) (by decide) ?_
    refine e_aload_n (i := 0) rfl dX6_doStep_167 ?_
    refine e_iload_n (i := 1) rfl dX6_doStep_168 ?_
    refine e_iload_n (i := 2) rfl dX6_doStep_169 ?_
    refine e_iconst (v := 3) (by decide) dX6_doStep_170 ?_
    refine e_iconst (v := 0) (by decide) dX6_doStep_171 ?_
    obtain ⟨q28, eq28, hm⟩ := ob_some hm
    refine e_cV4 hko dX6_doStep_172 ml_RX6_177 iz_148 (by decide) rfl (by omega) (Nat.le_of_ble_eq_true rfl) (tX6_lay hko q3 J F hF x1 q1 3 0 _ eq28) ?_
    rintro _ _ ⟨rfl, rfl⟩
    refine e_aload_n (i := 0) rfl dX6_doStep_175 ?_
    refine e_iload_n (i := 1) rfl dX6_doStep_176 ?_
    obtain ⟨q29, eq29, hm⟩ := ob_some hm
    refine e_cV1 hko dX6_doStep_177 ml_RX6_181 iz_148 (by decide) rfl (by omega) (Nat.le_of_ble_eq_true rfl) (tX6_finish hko q28 J F hF x1 _ eq29) ?_
    rintro _ _ ⟨rfl, rfl⟩
    refine e_goto 267 dX6_doStep_180 (by decide) ?_
    refine e_vret dX6_doStep_267 rfl ?_
    have hm := some_in hm
    subst hm
    exact ⟨rfl, rfl⟩
  have hm := it_n c_43_12 hm
  have n_43_0 := lv_neT (a := 303) c_43_0 (by decide)
  have n_43_1 := lv_neT (a := 304) c_43_1 (by decide)
  have n_43_2 := lv_neT (a := 305) c_43_2 (by decide)
  have n_43_3 := lv_neT (a := 306) c_43_3 (by decide)
  have n_43_4 := lv_neT (a := 307) c_43_4 (by decide)
  have n_43_5 := lv_neT (a := 308) c_43_5 (by decide)
  have n_43_6 := lv_neT (a := 309) c_43_6 (by decide)
  have n_43_7 := lv_neT (a := 310) c_43_7 (by decide)
  have n_43_8 := lv_neT (a := 311) c_43_8 (by decide)
  have n_43_9 := lv_neT (a := 312) c_43_9 (by decide)
  have n_43_10 := lv_neT (a := 313) c_43_10 (by decide)
  have n_43_11 := lv_neT (a := 314) c_43_11 (by decide)
  have n_43_12 := lv_neT (a := 315) c_43_12 (by decide)
  refine e_tableOut 261 dX6_doStep_43 (by omega) (by decide) ?_
  refine e_aload_n (i := 0) rfl dX6_doStep_261 ?_
  refine e_iload_n (i := 1) rfl dX6_doStep_262 ?_
  refine e_iload_n (i := 2) rfl dX6_doStep_263 ?_
  obtain ⟨q30, eq30, hm⟩ := ob_some hm
  refine e_cV2 hko dX6_doStep_264 ml_RX6_196 iz_148 (by decide) rfl (by omega) (Nat.le_of_ble_eq_true rfl) (tX6_takeMessage hko q3 J F hF x1 q1 _ eq30) ?_
  rintro _ _ ⟨rfl, rfl⟩
  refine e_vret dX6_doStep_267 rfl ?_
  have hm := some_in hm
  subst hm
  exact ⟨rfl, rfl⟩
theorem dX6_advance_0 : decode cX6_advance 0 = .ok (.aload_n 0, 1) := by decide +kernel
theorem dX6_advance_1 : decode cX6_advance 1 = .ok (.getfield 48, 3) := by decide +kernel
theorem dX6_advance_4 : decode cX6_advance 4 = .ok (.iload_n 1, 1) := by decide +kernel
theorem dX6_advance_5 : decode cX6_advance 5 = .ok (.invokevirtual 104, 3) := by decide +kernel
theorem dX6_advance_8 : decode cX6_advance 8 = .ok (.istore_n 2, 1) := by decide +kernel
theorem dX6_advance_9 : decode cX6_advance 9 = .ok (.iload_n 2, 1) := by decide +kernel
theorem dX6_advance_10 : decode cX6_advance 10 = .ok (.iconst (-1), 1) := by decide +kernel
theorem dX6_advance_11 : decode cX6_advance 11 = .ok (.if_icmp .ne 5, 3) := by decide +kernel
theorem dX6_advance_14 : decode cX6_advance 14 = .ok (.iconst (-1), 1) := by decide +kernel
theorem dX6_advance_15 : decode cX6_advance 15 = .ok (.ireturn, 1) := by decide +kernel
theorem dX6_advance_16 : decode cX6_advance 16 = .ok (.aload_n 0, 1) := by decide +kernel
theorem dX6_advance_17 : decode cX6_advance 17 = .ok (.getfield 57, 3) := by decide +kernel
theorem dX6_advance_20 : decode cX6_advance 20 = .ok (.getfield 134, 3) := by decide +kernel
theorem dX6_advance_23 : decode cX6_advance 23 = .ok (.aload_n 0, 1) := by decide +kernel
theorem dX6_advance_24 : decode cX6_advance 24 = .ok (.getfield 27, 3) := by decide +kernel
theorem dX6_advance_27 : decode cX6_advance 27 = .ok (.iload_n 2, 1) := by decide +kernel
theorem dX6_advance_28 : decode cX6_advance 28 = .ok (.invokevirtual 104, 3) := by decide +kernel
theorem dX6_advance_31 : decode cX6_advance 31 = .ok (.invokevirtual 104, 3) := by decide +kernel
theorem dX6_advance_34 : decode cX6_advance 34 = .ok (.sipush 309, 3) := by decide +kernel
theorem dX6_advance_37 : decode cX6_advance 37 = .ok (.if_icmp .ne 7, 3) := by decide +kernel
theorem dX6_advance_40 : decode cX6_advance 40 = .ok (.iconst 1, 1) := by decide +kernel
theorem dX6_advance_41 : decode cX6_advance 41 = .ok (.goto 4, 3) := by decide +kernel
theorem dX6_advance_44 : decode cX6_advance 44 = .ok (.iconst 0, 1) := by decide +kernel
theorem dX6_advance_45 : decode cX6_advance 45 = .ok (.istore_n 3, 1) := by decide +kernel
theorem dX6_advance_46 : decode cX6_advance 46 = .ok (.aload_n 0, 1) := by decide +kernel
theorem dX6_advance_47 : decode cX6_advance 47 = .ok (.getfield 72, 3) := by decide +kernel
theorem dX6_advance_50 : decode cX6_advance 50 = .ok (.sipush 600, 3) := by decide +kernel
theorem dX6_advance_53 : decode cX6_advance 53 = .ok (.if_icmp .ge 16, 3) := by decide +kernel
theorem dX6_advance_56 : decode cX6_advance 56 = .ok (.iload_n 3, 1) := by decide +kernel
theorem dX6_advance_57 : decode cX6_advance 57 = .ok (.ifCond .eq 26, 3) := by decide +kernel
theorem dX6_advance_60 : decode cX6_advance 60 = .ok (.aload_n 0, 1) := by decide +kernel
theorem dX6_advance_61 : decode cX6_advance 61 = .ok (.invokevirtual 101, 3) := by decide +kernel
theorem dX6_advance_64 : decode cX6_advance 64 = .ok (.bipush 80, 2) := by decide +kernel
theorem dX6_advance_66 : decode cX6_advance 66 = .ok (.if_icmp .lt 17, 3) := by decide +kernel
theorem dX6_advance_69 : decode cX6_advance 69 = .ok (.aload_n 0, 1) := by decide +kernel
theorem dX6_advance_70 : decode cX6_advance 70 = .ok (.iconst 1, 1) := by decide +kernel
theorem dX6_advance_71 : decode cX6_advance 71 = .ok (.putfield 75, 3) := by decide +kernel
theorem dX6_advance_74 : decode cX6_advance 74 = .ok (.aload_n 0, 1) := by decide +kernel
theorem dX6_advance_75 : decode cX6_advance 75 = .ok (.getfield 48, 3) := by decide +kernel
theorem dX6_advance_78 : decode cX6_advance 78 = .ok (.invokevirtual 67, 3) := by decide +kernel
theorem dX6_advance_81 : decode cX6_advance 81 = .ok (.iconst (-1), 1) := by decide +kernel
theorem dX6_advance_82 : decode cX6_advance 82 = .ok (.ireturn, 1) := by decide +kernel
theorem dX6_advance_83 : decode cX6_advance 83 = .ok (.aload_n 0, 1) := by decide +kernel
theorem dX6_advance_84 : decode cX6_advance 84 = .ok (.dup, 1) := by decide +kernel
theorem dX6_advance_85 : decode cX6_advance 85 = .ok (.getfield 72, 3) := by decide +kernel
theorem dX6_advance_88 : decode cX6_advance 88 = .ok (.iconst 1, 1) := by decide +kernel
theorem dX6_advance_89 : decode cX6_advance 89 = .ok (.iadd, 1) := by decide +kernel
theorem dX6_advance_90 : decode cX6_advance 90 = .ok (.putfield 72, 3) := by decide +kernel
theorem dX6_advance_93 : decode cX6_advance 93 = .ok (.aload_n 0, 1) := by decide +kernel
theorem dX6_advance_94 : decode cX6_advance 94 = .ok (.getfield 33, 3) := by decide +kernel
theorem dX6_advance_97 : decode cX6_advance 97 = .ok (.iload_n 2, 1) := by decide +kernel
theorem dX6_advance_98 : decode cX6_advance 98 = .ok (.iconst 1, 1) := by decide +kernel
theorem dX6_advance_99 : decode cX6_advance 99 = .ok (.invokevirtual 171, 3) := by decide +kernel
theorem dX6_advance_102 : decode cX6_advance 102 = .ok (.aload_n 0, 1) := by decide +kernel
theorem dX6_advance_103 : decode cX6_advance 103 = .ok (.iload_n 2, 1) := by decide +kernel
theorem dX6_advance_104 : decode cX6_advance 104 = .ok (.invokevirtual 174, 3) := by decide +kernel
theorem dX6_advance_107 : decode cX6_advance 107 = .ok (.aload_n 0, 1) := by decide +kernel
theorem dX6_advance_108 : decode cX6_advance 108 = .ok (.iload_n 2, 1) := by decide +kernel
theorem dX6_advance_109 : decode cX6_advance 109 = .ok (.invokevirtual 95, 3) := by decide +kernel
theorem dX6_advance_112 : decode cX6_advance 112 = .ok (.aload_n 0, 1) := by decide +kernel
theorem dX6_advance_113 : decode cX6_advance 113 = .ok (.aload_n 0, 1) := by decide +kernel
theorem dX6_advance_114 : decode cX6_advance 114 = .ok (.invokevirtual 101, 3) := by decide +kernel
theorem dX6_advance_117 : decode cX6_advance 117 = .ok (.iconst 1, 1) := by decide +kernel
theorem dX6_advance_118 : decode cX6_advance 118 = .ok (.isub, 1) := by decide +kernel
theorem dX6_advance_119 : decode cX6_advance 119 = .ok (.invokevirtual 95, 3) := by decide +kernel
theorem dX6_advance_122 : decode cX6_advance 122 = .ok (.aload_n 0, 1) := by decide +kernel
theorem dX6_advance_123 : decode cX6_advance 123 = .ok (.invokevirtual 98, 3) := by decide +kernel
theorem dX6_advance_126 : decode cX6_advance 126 = .ok (.iload_n 2, 1) := by decide +kernel
theorem dX6_advance_127 : decode cX6_advance 127 = .ok (.ireturn, 1) := by decide +kernel
def mX6_advance_69 (I : iT) (F : fT) (x1 : Int32) (x2 : Int32) (x3 : Int32) : Option (Int32 × iT) := (mX4_clear 180 (a_u2 I 148 15 1)).bind fun q1 => some ((-1), q1)
def mX6_advance_83 (I : iT) (F : fT) (x1 : Int32) (x2 : Int32) (x3 : Int32) : Option (Int32 × iT) := (mX4_bump 170 (a_u2 I 148 14 ((I 148 14) + 1)) x2 1).bind fun q2 => (mX6_doStep q2 F x2).bind fun q3 => (mX6_settle q3 F x2).bind fun q4 => (mX6_made q4).bind fun q5 => (mX6_settle q4 F (q5 - 1)).bind fun q6 => (mX6_findReady q6 F).bind fun q7 => some (x2, q7)
def mX6_advance_45 (I : iT) (F : fT) (x1 : Int32) (x2 : Int32) (s0 : Int32) : Option (Int32 × iT) := if 600 ≤ (I 148 14) then mX6_advance_69 I F x1 x2 s0 else if s0 = 0 then mX6_advance_83 I F x1 x2 s0 else (mX6_made I).bind fun q8 => if q8 < 80 then mX6_advance_83 I F x1 x2 s0 else mX6_advance_69 I F x1 x2 s0
def mX6_advance (I : iT) (F : fT) (x1 : Int32) : Option (Int32 × iT) := (mX4_at 180 I x1).bind fun q9 => if q9 = ((-1)) then some ((-1), I) else (mX4_at 166 I q9).bind fun q10 => (mX4_at ((F 148 12) + 47) I q10).bind fun q11 => if q11 = 309 then mX6_advance_45 I F x1 q9 1 else mX6_advance_45 I F x1 q9 0
set_option maxRecDepth 100000 in
set_option maxHeartbeats 4000000 in
theorem tX6_advance_69 {l : Launch} {K : a_KT} {g : a_GT} {IB : iT} (hko : a_kok K) {J : jT} (I : iT) (F : fT) (x1 : Int32) (x2 : Int32) (x3 : Int32) (hF : FK F) (q : Int32 × iT) (hm : mX6_advance_69 I F x1 x2 x3 = some q) : E l K g 6 0 0 yX6_advance cX6_advance 4 (some .int) 69 [.ref 148, .int x1, .int x2, .int x3] [] (hg I IB J F) (fun r2 h2 => r2 = some (.int q.1) ∧ h2 = hg q.2 IB J F) := by
  unfold mX6_advance_69 at hm
  refine e_aload_n (i := 0) rfl dX6_advance_69 ?_
  refine e_iconst (v := 1) (by decide) dX6_advance_70 ?_
  refine k_putZ 6 15 dX6_advance_71 fl_RX6_75 rfl rfl (by decide) iz_148 (by decide) ?_
  refine e_aload_n (i := 0) rfl dX6_advance_74 ?_
  refine q_getF 6 9 180 dX6_advance_75 fl_RX6_48 rfl iz_148 (fr_148_9 hF.1) ?_
  obtain ⟨q1, eq1, hm⟩ := ob_some hm
  refine e_cV0 hko dX6_advance_78 ml_RX6_67 iz_180 (by decide) rfl (by omega) (Nat.le_of_ble_eq_true rfl) (tX4_clear hko rw_180 (a_u2 I 148 15 1) J F hF _ eq1) ?_
  rintro _ _ ⟨rfl, rfl⟩
  refine e_iconst (v := (-1)) (by decide) dX6_advance_81 ?_
  refine e_iret dX6_advance_82 rfl ?_
  have hm := some_in hm
  subst hm
  exact ⟨rfl, rfl⟩
set_option maxRecDepth 100000 in
set_option maxHeartbeats 4000000 in
theorem tX6_advance_83 {l : Launch} {K : a_KT} {g : a_GT} {IB : iT} (hko : a_kok K) {J : jT} (I : iT) (F : fT) (x1 : Int32) (x2 : Int32) (x3 : Int32) (hF : FK F) (q : Int32 × iT) (hm : mX6_advance_83 I F x1 x2 x3 = some q) : E l K g 6 0 0 yX6_advance cX6_advance 4 (some .int) 83 [.ref 148, .int x1, .int x2, .int x3] [] (hg I IB J F) (fun r2 h2 => r2 = some (.int q.1) ∧ h2 = hg q.2 IB J F) := by
  unfold mX6_advance_83 at hm
  refine e_aload_n (i := 0) rfl dX6_advance_83 ?_
  refine e_dup rfl dX6_advance_84 ?_
  refine k_getI 6 14 dX6_advance_85 fl_RX6_72 rfl iz_148 (by decide) ?_
  refine e_iconst (v := 1) (by decide) dX6_advance_88 ?_
  refine e_iadd dX6_advance_89 ?_
  refine k_putI 6 14 dX6_advance_90 fl_RX6_72 rfl rfl iz_148 (by decide) ?_
  refine e_aload_n (i := 0) rfl dX6_advance_93 ?_
  refine q_getF 6 4 170 dX6_advance_94 fl_RX6_33 rfl iz_148 (fr_148_4 hF.1) ?_
  refine e_iload_n (i := 2) rfl dX6_advance_97 ?_
  refine e_iconst (v := 1) (by decide) dX6_advance_98 ?_
  obtain ⟨q2, eq2, hm⟩ := ob_some hm
  refine e_cV2 hko dX6_advance_99 ml_RX6_171 iz_170 (by decide) rfl (by omega) (Nat.le_of_ble_eq_true rfl) (tX4_bump hko rw_170 (a_u2 I 148 14 ((I 148 14) + 1)) J F hF x2 1 _ eq2) ?_
  rintro _ _ ⟨rfl, rfl⟩
  refine e_aload_n (i := 0) rfl dX6_advance_102 ?_
  refine e_iload_n (i := 2) rfl dX6_advance_103 ?_
  obtain ⟨q3, eq3, hm⟩ := ob_some hm
  refine e_cV1 hko dX6_advance_104 ml_RX6_174 iz_148 (by decide) rfl (by omega) (Nat.le_of_ble_eq_true rfl) (tX6_doStep hko q2 J F hF x2 _ eq3) ?_
  rintro _ _ ⟨rfl, rfl⟩
  refine e_aload_n (i := 0) rfl dX6_advance_107 ?_
  refine e_iload_n (i := 2) rfl dX6_advance_108 ?_
  obtain ⟨q4, eq4, hm⟩ := ob_some hm
  refine e_cV1 hko dX6_advance_109 ml_RX6_95 iz_148 (by decide) rfl (by omega) (Nat.le_of_ble_eq_true rfl) (tX6_settle hko q3 J F hF x2 _ eq4) ?_
  rintro _ _ ⟨rfl, rfl⟩
  refine e_aload_n (i := 0) rfl dX6_advance_112 ?_
  refine e_aload_n (i := 0) rfl dX6_advance_113 ?_
  obtain ⟨q5, eq5, hm⟩ := ob_some hm
  refine e_cV0 hko dX6_advance_114 ml_RX6_101 iz_148 (by decide) rfl (by omega) (Nat.le_of_ble_eq_true rfl) (tX6_made hko q4 J F hF _ eq5) ?_
  rintro _ _ ⟨rfl, rfl⟩
  refine e_iconst (v := 1) (by decide) dX6_advance_117 ?_
  refine e_isub dX6_advance_118 ?_
  obtain ⟨q6, eq6, hm⟩ := ob_some hm
  refine e_cV1 hko dX6_advance_119 ml_RX6_95 iz_148 (by decide) rfl (by omega) (Nat.le_of_ble_eq_true rfl) (tX6_settle hko q4 J F hF (q5 - 1) _ eq6) ?_
  rintro _ _ ⟨rfl, rfl⟩
  refine e_aload_n (i := 0) rfl dX6_advance_122 ?_
  obtain ⟨q7, eq7, hm⟩ := ob_some hm
  refine e_cV0 hko dX6_advance_123 ml_RX6_98 iz_148 (by decide) rfl (by omega) (Nat.le_of_ble_eq_true rfl) (tX6_findReady hko q6 J F hF _ eq7) ?_
  rintro _ _ ⟨rfl, rfl⟩
  refine e_iload_n (i := 2) rfl dX6_advance_126 ?_
  refine e_iret dX6_advance_127 rfl ?_
  have hm := some_in hm
  subst hm
  exact ⟨rfl, rfl⟩
set_option maxRecDepth 100000 in
set_option maxHeartbeats 4000000 in
theorem tX6_advance_45 {l : Launch} {K : a_KT} {g : a_GT} {IB : iT} (hko : a_kok K) {J : jT} (I : iT) (F : fT) (x1 : Int32) (x2 : Int32) (s0 : Int32) (hF : FK F) (q : Int32 × iT) (hm : mX6_advance_45 I F x1 x2 s0 = some q) : E l K g 6 0 0 yX6_advance cX6_advance 4 (some .int) 45 [.ref 148, .int x1, .int x2, .null] [.int s0] (hg I IB J F) (fun r2 h2 => r2 = some (.int q.1) ∧ h2 = hg q.2 IB J F) := by
  unfold mX6_advance_45 at hm
  refine q_istore_n (i := 3) (by decide) rfl dX6_advance_45 ?_
  refine e_aload_n (i := 0) rfl dX6_advance_46 ?_
  refine k_getI 6 14 dX6_advance_47 fl_RX6_72 rfl iz_148 (by decide) ?_
  refine e_sipush (v := 600) (by decide) dX6_advance_50 ?_
  refine e_icmp_ge 69 dX6_advance_53 (by decide) (fun c_53 => ?_) (fun c_53 => ?_)
  · have hm := it_p c_53 hm
    refine e_weak [.ref 148, .int x1, .int x2, .int s0] ⟨rfl, ⟨rfl, ⟨rfl, ⟨rfl, trivial⟩⟩⟩⟩ ?_
    exact tX6_advance_69 hko I F x1 x2 s0 hF _ hm
  · have hm := it_n c_53 hm
    refine e_iload_n (i := 3) rfl dX6_advance_56 ?_
    refine e_if_eq 83 dX6_advance_57 (by decide) (fun c_57 => ?_) (fun c_57 => ?_)
    · have hm := it_p c_57 hm
      refine e_weak [.ref 148, .int x1, .int x2, .int s0] ⟨rfl, ⟨rfl, ⟨rfl, ⟨rfl, trivial⟩⟩⟩⟩ ?_
      exact tX6_advance_83 hko I F x1 x2 s0 hF _ hm
    · have hm := it_n c_57 hm
      refine e_aload_n (i := 0) rfl dX6_advance_60 ?_
      obtain ⟨q8, eq8, hm⟩ := ob_some hm
      refine e_cV0 hko dX6_advance_61 ml_RX6_101 iz_148 (by decide) rfl (by omega) (Nat.le_of_ble_eq_true rfl) (tX6_made hko I J F hF _ eq8) ?_
      rintro _ _ ⟨rfl, rfl⟩
      refine e_bipush (v := 80) (by decide) dX6_advance_64 ?_
      refine e_icmp_lt 83 dX6_advance_66 (by decide) (fun c_66 => ?_) (fun c_66 => ?_)
      · have hm := it_p c_66 hm
        refine e_weak [.ref 148, .int x1, .int x2, .int s0] ⟨rfl, ⟨rfl, ⟨rfl, ⟨rfl, trivial⟩⟩⟩⟩ ?_
        exact tX6_advance_83 hko I F x1 x2 s0 hF _ hm
      · have hm := it_n c_66 hm
        refine e_weak [.ref 148, .int x1, .int x2, .int s0] ⟨rfl, ⟨rfl, ⟨rfl, ⟨rfl, trivial⟩⟩⟩⟩ ?_
        exact tX6_advance_69 hko I F x1 x2 s0 hF _ hm
set_option maxRecDepth 100000 in
set_option maxHeartbeats 4000000 in
theorem tX6_advance {l : Launch} {K : a_KT} {g : a_GT} {IB : iT} (hko : a_kok K) (I : iT) (J : jT) (F : fT) (hF : FK F) (x1 : Int32) (q : Int32 × iT) (hm : mX6_advance I F x1 = some q) : C l K g 6 0 0 yX6_advance cX6_advance 4 (some .int) [.ref 148, .int x1] (hg I IB J F) (fun r2 h2 => r2 = some (.int q.1) ∧ h2 = hg q.2 IB J F) := by
  unfold mX6_advance at hm
  refine c_of [.ref 148, .int x1, .null, .null] (by decide) (Nat.le_of_ble_eq_true rfl) rfl ?_
  refine e_aload_n (i := 0) rfl dX6_advance_0 ?_
  refine q_getF 6 9 180 dX6_advance_1 fl_RX6_48 rfl iz_148 (fr_148_9 hF.1) ?_
  refine e_iload_n (i := 1) rfl dX6_advance_4 ?_
  obtain ⟨q9, eq9, hm⟩ := ob_some hm
  refine e_cV1 hko dX6_advance_5 ml_RX6_104 iz_180 (by decide) rfl (by omega) (Nat.le_of_ble_eq_true rfl) (tX4_at hko rw_180 I J F hF x1 _ eq9) ?_
  rintro _ _ ⟨rfl, rfl⟩
  refine q_istore_n (i := 2) (by decide) rfl dX6_advance_8 ?_
  refine e_iload_n (i := 2) rfl dX6_advance_9 ?_
  refine e_iconst (v := (-1)) (by decide) dX6_advance_10 ?_
  refine e_icmp_ne 16 dX6_advance_11 (by decide) (fun c_11 => ?_) (fun c_11 => ?_)
  · have hm := it_n c_11 hm
    refine e_aload_n (i := 0) rfl dX6_advance_16 ?_
    refine q_getF 6 12 (F 148 12) dX6_advance_17 fl_RX6_57 rfl iz_148 rfl ?_
    refine q_getF 0 11 ((F 148 12) + 47) dX6_advance_20 fl_RX6_134 rfl (iz_bk hF.2.2.2.2.2.2) (frb_11 hF.1 hF.2.2.2.2.2.2) ?_
    refine e_aload_n (i := 0) rfl dX6_advance_23 ?_
    refine q_getF 6 2 166 dX6_advance_24 fl_RX6_27 rfl iz_148 (fr_148_2 hF.1) ?_
    refine e_iload_n (i := 2) rfl dX6_advance_27 ?_
    obtain ⟨q10, eq10, hm⟩ := ob_some hm
    refine e_cV1 hko dX6_advance_28 ml_RX6_104 iz_166 (by decide) rfl (by omega) (Nat.le_of_ble_eq_true rfl) (tX4_at hko rw_166 I J F hF q9 _ eq10) ?_
    rintro _ _ ⟨rfl, rfl⟩
    obtain ⟨q11, eq11, hm⟩ := ob_some hm
    refine e_cV1 hko dX6_advance_31 ml_RX6_104 (iz_row (rwb_47 hF.2.2.2.2.2.2)) (by decide) rfl (by omega) (Nat.le_of_ble_eq_true rfl) (tX4_at hko (rwb_47 hF.2.2.2.2.2.2) I J F hF q10 _ eq11) ?_
    rintro _ _ ⟨rfl, rfl⟩
    refine e_sipush (v := 309) (by decide) dX6_advance_34 ?_
    refine e_icmp_ne 44 dX6_advance_37 (by decide) (fun c_37 => ?_) (fun c_37 => ?_)
    · have hm := it_n c_37 hm
      refine e_iconst (v := 0) (by decide) dX6_advance_44 ?_
      refine e_weak [.ref 148, .int x1, .int q9, .null] ⟨rfl, ⟨rfl, ⟨rfl, ⟨trivial, trivial⟩⟩⟩⟩ ?_
      exact tX6_advance_45 hko I F x1 q9 0 hF _ hm
    · have hm := it_p c_37 hm
      refine e_iconst (v := 1) (by decide) dX6_advance_40 ?_
      refine e_goto 45 dX6_advance_41 (by decide) ?_
      refine e_weak [.ref 148, .int x1, .int q9, .null] ⟨rfl, ⟨rfl, ⟨rfl, ⟨trivial, trivial⟩⟩⟩⟩ ?_
      exact tX6_advance_45 hko I F x1 q9 1 hF _ hm
  · have hm := it_p c_11 hm
    refine e_iconst (v := (-1)) (by decide) dX6_advance_14 ?_
    refine e_iret dX6_advance_15 rfl ?_
    have hm := some_in hm
    subst hm
    exact ⟨rfl, rfl⟩
theorem dX11_run_0 : decode cX11_run 0 = .ok (.iload_n 2, 1) := by decide +kernel
theorem dX11_run_1 : decode cX11_run 1 = .ok (.ifCond .lt 10, 3) := by decide +kernel
theorem dX11_run_4 : decode cX11_run 4 = .ok (.iload_n 2, 1) := by decide +kernel
theorem dX11_run_5 : decode cX11_run 5 = .ok (.sipush 600, 3) := by decide +kernel
theorem dX11_run_8 : decode cX11_run 8 = .ok (.if_icmp .le 5, 3) := by decide +kernel
theorem dX11_run_11 : decode cX11_run 11 = .ok (.iconst (-1), 1) := by decide +kernel
theorem dX11_run_12 : decode cX11_run 12 = .ok (.ireturn, 1) := by decide +kernel
theorem dX11_run_13 : decode cX11_run 13 = .ok (.iload_n 1, 1) := by decide +kernel
theorem dX11_run_14 : decode cX11_run 14 = .ok (.istore_n 3, 1) := by decide +kernel
theorem dX11_run_15 : decode cX11_run 15 = .ok (.iconst 0, 1) := by decide +kernel
theorem dX11_run_16 : decode cX11_run 16 = .ok (.istore 4, 2) := by decide +kernel
theorem dX11_run_18 : decode cX11_run 18 = .ok (.iconst 0, 1) := by decide +kernel
theorem dX11_run_19 : decode cX11_run 19 = .ok (.istore 5, 2) := by decide +kernel
theorem dX11_run_21 : decode cX11_run 21 = .ok (.iload 5, 2) := by decide +kernel
theorem dX11_run_23 : decode cX11_run 23 = .ok (.iload_n 2, 1) := by decide +kernel
theorem dX11_run_24 : decode cX11_run 24 = .ok (.if_icmp .ge 59, 3) := by decide +kernel
theorem dX11_run_27 : decode cX11_run 27 = .ok (.aload_n 0, 1) := by decide +kernel
theorem dX11_run_28 : decode cX11_run 28 = .ok (.getfield 52, 3) := by decide +kernel
theorem dX11_run_31 : decode cX11_run 31 = .ok (.getfield 176, 3) := by decide +kernel
theorem dX11_run_34 : decode cX11_run 34 = .ok (.invokevirtual 56, 3) := by decide +kernel
theorem dX11_run_37 : decode cX11_run 37 = .ok (.istore 6, 2) := by decide +kernel
theorem dX11_run_39 : decode cX11_run 39 = .ok (.iload 6, 2) := by decide +kernel
theorem dX11_run_41 : decode cX11_run 41 = .ok (.ifCond .gt 6, 3) := by decide +kernel
theorem dX11_run_44 : decode cX11_run 44 = .ok (.goto 39, 3) := by decide +kernel
theorem dX11_run_47 : decode cX11_run 47 = .ok (.iload_n 3, 1) := by decide +kernel
theorem dX11_run_48 : decode cX11_run 48 = .ok (.ldc 182, 2) := by decide +kernel
theorem dX11_run_50 : decode cX11_run 50 = .ok (.imul, 1) := by decide +kernel
theorem dX11_run_51 : decode cX11_run 51 = .ok (.sipush 12345, 3) := by decide +kernel
theorem dX11_run_54 : decode cX11_run 54 = .ok (.iadd, 1) := by decide +kernel
theorem dX11_run_55 : decode cX11_run 55 = .ok (.istore_n 3, 1) := by decide +kernel
theorem dX11_run_56 : decode cX11_run 56 = .ok (.aload_n 0, 1) := by decide +kernel
theorem dX11_run_57 : decode cX11_run 57 = .ok (.getfield 52, 3) := by decide +kernel
theorem dX11_run_60 : decode cX11_run 60 = .ok (.iload_n 3, 1) := by decide +kernel
theorem dX11_run_61 : decode cX11_run 61 = .ok (.bipush 16, 2) := by decide +kernel
theorem dX11_run_63 : decode cX11_run 63 = .ok (.iushr, 1) := by decide +kernel
theorem dX11_run_64 : decode cX11_run 64 = .ok (.iload 6, 2) := by decide +kernel
theorem dX11_run_66 : decode cX11_run 66 = .ok (.irem, 1) := by decide +kernel
theorem dX11_run_67 : decode cX11_run 67 = .ok (.invokevirtual 179, 3) := by decide +kernel
theorem dX11_run_70 : decode cX11_run 70 = .ok (.iconst (-1), 1) := by decide +kernel
theorem dX11_run_71 : decode cX11_run 71 = .ok (.if_icmp .eq 6, 3) := by decide +kernel
theorem dX11_run_74 : decode cX11_run 74 = .ok (.iinc 4 1, 3) := by decide +kernel
theorem dX11_run_77 : decode cX11_run 77 = .ok (.iinc 5 1, 3) := by decide +kernel
theorem dX11_run_80 : decode cX11_run 80 = .ok (.goto (-59), 3) := by decide +kernel
theorem dX11_run_83 : decode cX11_run 83 = .ok (.iload 4, 2) := by decide +kernel
theorem dX11_run_85 : decode cX11_run 85 = .ok (.ireturn, 1) := by decide +kernel
def mX11_run_77 (k21 : iT → fT → Int32 → Int32 → Int32 → Int32 → Int32 → Option (Int32 × iT)) (I : iT) (F : fT) (x1 : Int32) (x2 : Int32) (x3 : Int32) (x4 : Int32) (x5 : Int32) (x6 : Int32) : Option (Int32 × iT) := k21 I F x1 x2 x3 x4 (x5 + 1)
def mX11_run_21 : Nat → iT → fT → Int32 → Int32 → Int32 → Int32 → Int32 → Option (Int32 × iT)
  | 0, _, _, _, _, _, _, _ => none
  | n + 1, I, F, x1, x2, x3, x4, x5 => if x2 ≤ x5 then some (x4, I) else (mX4_size 180 I).bind fun q1 => if 0 < q1 then if ¬ (q1 : Int32) = 0 then (mX6_advance I F (((((x3 * 1103515245) + 12345).toUInt32 >>> (Int32.toUInt32 16 &&& Int32.toUInt32 31)).toInt32) - ((((x3 * 1103515245) + 12345).toUInt32 >>> (Int32.toUInt32 16 &&& Int32.toUInt32 31)).toInt32) / q1 * q1)).bind fun q2 => if q2.1 = ((-1)) then mX11_run_77 (mX11_run_21 n) q2.2 F x1 x2 ((x3 * 1103515245) + 12345) x4 x5 q1 else mX11_run_77 (mX11_run_21 n) q2.2 F x1 x2 ((x3 * 1103515245) + 12345) (x4 + 1) x5 q1 else none else some (x4, I)
def mX11_run (I : iT) (F : fT) (x1 : Int32) (x2 : Int32) : Option (Int32 × iT) := if x2 < 0 then some ((-1), I) else if x2 ≤ 600 then mX11_run_21 LF I F x1 x2 x1 0 0 else some ((-1), I)
set_option maxRecDepth 100000 in
set_option maxHeartbeats 4000000 in
theorem tX11_run_77 {l : Launch} {K : a_KT} {g : a_GT} {IB : iT} (hko : a_kok K) {J : jT} {k21 : iT → fT → Int32 → Int32 → Int32 → Int32 → Int32 → Option (Int32 × iT)} (hk21 : ∀ (I : iT) (F : fT) (x1 : Int32) (x2 : Int32) (x3 : Int32) (x4 : Int32) (x5 : Int32) (_ : FK F) (q : Int32 × iT), k21 I F x1 x2 x3 x4 x5 = some q → E l K g 7 0 0 yX11_run cX11_run 7 (some .int) 21 [.ref 1, .int x1, .int x2, .int x3, .int x4, .int x5, .null] [] (hg I IB J F) (fun r2 h2 => r2 = some (.int q.1) ∧ h2 = hg q.2 IB J F)) (I : iT) (F : fT) (x1 : Int32) (x2 : Int32) (x3 : Int32) (x4 : Int32) (x5 : Int32) (x6 : Int32) (hF : FK F) (q : Int32 × iT) (hm : mX11_run_77 k21 I F x1 x2 x3 x4 x5 x6 = some q) : E l K g 7 0 0 yX11_run cX11_run 7 (some .int) 77 [.ref 1, .int x1, .int x2, .int x3, .int x4, .int x5, .int x6] [] (hg I IB J F) (fun r2 h2 => r2 = some (.int q.1) ∧ h2 = hg q.2 IB J F) := by
  unfold mX11_run_77 at hm
  refine q_iinc (i := 5) (x5 + 1) rfl ic_1 rfl dX11_run_77 ?_
  refine e_goto 21 dX11_run_80 (by decide) ?_
  refine e_weak [.ref 1, .int x1, .int x2, .int x3, .int x4, .int (x5 + 1), .null] ⟨rfl, ⟨rfl, ⟨rfl, ⟨rfl, ⟨rfl, ⟨rfl, ⟨trivial, trivial⟩⟩⟩⟩⟩⟩⟩ ?_
  exact hk21 I F x1 x2 x3 x4 (x5 + 1) hF _ hm
set_option maxRecDepth 100000 in
set_option maxHeartbeats 4000000 in
theorem tX11_run_21 {l : Launch} {K : a_KT} {g : a_GT} {IB : iT} (hko : a_kok K) {J : jT} : ∀ (n : Nat) (I : iT) (F : fT) (x1 : Int32) (x2 : Int32) (x3 : Int32) (x4 : Int32) (x5 : Int32) (hF : FK F) (q : Int32 × iT), mX11_run_21 n I F x1 x2 x3 x4 x5 = some q → E l K g 7 0 0 yX11_run cX11_run 7 (some .int) 21 [.ref 1, .int x1, .int x2, .int x3, .int x4, .int x5, .null] [] (hg I IB J F) (fun r2 h2 => r2 = some (.int q.1) ∧ h2 = hg q.2 IB J F) := by
  intro n
  induction n with
  | zero => intro I F x1 x2 x3 x4 x5 hF q hm; cases hm
  | succ n ih =>
    intro I F x1 x2 x3 x4 x5 hF q hm
    rw [mX11_run_21] at hm
    refine e_iload (i := 5) rfl dX11_run_21 ?_
    refine e_iload_n (i := 2) rfl dX11_run_23 ?_
    refine e_icmp_ge 83 dX11_run_24 (by decide) (fun c_24 => ?_) (fun c_24 => ?_)
    · have hm := it_p c_24 hm
      refine e_iload (i := 4) rfl dX11_run_83 ?_
      refine e_iret dX11_run_85 rfl ?_
      have hm := some_in hm
      subst hm
      exact ⟨rfl, rfl⟩
    · have hm := it_n c_24 hm
      refine e_aload_n (i := 0) rfl dX11_run_27 ?_
      refine q_getF 11 4 148 dX11_run_28 fl_RX11_52 rfl iz_1 (fr_1_4 hF.1) ?_
      refine q_getF 6 9 180 dX11_run_31 fl_RX11_176 rfl iz_148 (fr_148_9 hF.1) ?_
      obtain ⟨q1, eq1, hm⟩ := ob_some hm
      refine e_cV0 hko dX11_run_34 ml_RX11_56 iz_180 (by decide) rfl (by omega) (Nat.le_of_ble_eq_true rfl) (tX4_size hko rw_180 I J F hF _ eq1) ?_
      rintro _ _ ⟨rfl, rfl⟩
      refine q_istore (i := 6) (by decide) rfl dX11_run_37 ?_
      refine e_iload (i := 6) rfl dX11_run_39 ?_
      refine e_if_gt 47 dX11_run_41 (by decide) (fun c_41 => ?_) (fun c_41 => ?_)
      · have hm := it_p c_41 hm
        refine e_iload_n (i := 3) rfl dX11_run_47 ?_
        refine e_ldc kc_RX11_182 dX11_run_48 ?_
        refine e_imul dX11_run_50 ?_
        refine e_sipush (v := 12345) (by decide) dX11_run_51 ?_
        refine e_iadd dX11_run_54 ?_
        refine q_istore_n (i := 3) (by decide) rfl dX11_run_55 ?_
        refine e_aload_n (i := 0) rfl dX11_run_56 ?_
        refine q_getF 11 4 148 dX11_run_57 fl_RX11_52 rfl iz_1 (fr_1_4 hF.1) ?_
        refine e_iload_n (i := 3) rfl dX11_run_60 ?_
        refine e_bipush (v := 16) (by decide) dX11_run_61 ?_
        refine e_iushr dX11_run_63 ?_
        refine e_iload (i := 6) rfl dX11_run_64 ?_
        obtain ⟨c_66, hm⟩ := gd_s hm
        refine e_irem c_66 dX11_run_66 ?_
        obtain ⟨q2, eq2, hm⟩ := ob_some hm
        refine e_cV1 hko dX11_run_67 ml_RX11_179 iz_148 (by decide) rfl (by omega) (Nat.le_of_ble_eq_true rfl) (tX6_advance hko I J F hF (((((x3 * 1103515245) + 12345).toUInt32 >>> (Int32.toUInt32 16 &&& Int32.toUInt32 31)).toInt32) - ((((x3 * 1103515245) + 12345).toUInt32 >>> (Int32.toUInt32 16 &&& Int32.toUInt32 31)).toInt32) / q1 * q1) _ eq2) ?_
        rintro _ _ ⟨rfl, rfl⟩
        refine e_iconst (v := (-1)) (by decide) dX11_run_70 ?_
        refine e_icmp_eq 77 dX11_run_71 (by decide) (fun c_71 => ?_) (fun c_71 => ?_)
        · have hm := it_p c_71 hm
          refine e_weak [.ref 1, .int x1, .int x2, .int ((x3 * 1103515245) + 12345), .int x4, .int x5, .int q1] ⟨rfl, ⟨rfl, ⟨rfl, ⟨rfl, ⟨rfl, ⟨rfl, ⟨rfl, trivial⟩⟩⟩⟩⟩⟩⟩ ?_
          exact tX11_run_77 hko (ih) q2.2 F x1 x2 ((x3 * 1103515245) + 12345) x4 x5 q1 hF _ hm
        · have hm := it_n c_71 hm
          refine q_iinc (i := 4) (x4 + 1) rfl ic_1 rfl dX11_run_74 ?_
          refine e_weak [.ref 1, .int x1, .int x2, .int ((x3 * 1103515245) + 12345), .int (x4 + 1), .int x5, .int q1] ⟨rfl, ⟨rfl, ⟨rfl, ⟨rfl, ⟨rfl, ⟨rfl, ⟨rfl, trivial⟩⟩⟩⟩⟩⟩⟩ ?_
          exact tX11_run_77 hko (ih) q2.2 F x1 x2 ((x3 * 1103515245) + 12345) (x4 + 1) x5 q1 hF _ hm
      · have hm := it_n c_41 hm
        refine e_goto 83 dX11_run_44 (by decide) ?_
        refine e_iload (i := 4) rfl dX11_run_83 ?_
        refine e_iret dX11_run_85 rfl ?_
        have hm := some_in hm
        subst hm
        exact ⟨rfl, rfl⟩
set_option maxRecDepth 100000 in
set_option maxHeartbeats 4000000 in
theorem tX11_run {l : Launch} {K : a_KT} {g : a_GT} {IB : iT} (hko : a_kok K) (I : iT) (J : jT) (F : fT) (hF : FK F) (x1 : Int32) (x2 : Int32) (q : Int32 × iT) (hm : mX11_run I F x1 x2 = some q) : C l K g 7 0 0 yX11_run cX11_run 7 (some .int) [.ref 1, .int x1, .int x2] (hg I IB J F) (fun r2 h2 => r2 = some (.int q.1) ∧ h2 = hg q.2 IB J F) := by
  unfold mX11_run at hm
  refine c_of [.ref 1, .int x1, .int x2, .null, .null, .null, .null] (by decide) (Nat.le_of_ble_eq_true rfl) rfl ?_
  refine e_iload_n (i := 2) rfl dX11_run_0 ?_
  refine e_if_lt 11 dX11_run_1 (by decide) (fun c_1 => ?_) (fun c_1 => ?_)
  · have hm := it_p c_1 hm
    refine e_iconst (v := (-1)) (by decide) dX11_run_11 ?_
    refine e_iret dX11_run_12 rfl ?_
    have hm := some_in hm
    subst hm
    exact ⟨rfl, rfl⟩
  · have hm := it_n c_1 hm
    refine e_iload_n (i := 2) rfl dX11_run_4 ?_
    refine e_sipush (v := 600) (by decide) dX11_run_5 ?_
    refine e_icmp_le 13 dX11_run_8 (by decide) (fun c_8 => ?_) (fun c_8 => ?_)
    · have hm := it_p c_8 hm
      refine e_iload_n (i := 1) rfl dX11_run_13 ?_
      refine q_istore_n (i := 3) (by decide) rfl dX11_run_14 ?_
      refine e_iconst (v := 0) (by decide) dX11_run_15 ?_
      refine q_istore (i := 4) (by decide) rfl dX11_run_16 ?_
      refine e_iconst (v := 0) (by decide) dX11_run_18 ?_
      refine q_istore (i := 5) (by decide) rfl dX11_run_19 ?_
      refine e_weak [.ref 1, .int x1, .int x2, .int x1, .int 0, .int 0, .null] ⟨rfl, ⟨rfl, ⟨rfl, ⟨rfl, ⟨rfl, ⟨rfl, ⟨trivial, trivial⟩⟩⟩⟩⟩⟩⟩ ?_
      exact tX11_run_21 hko LF I F x1 x2 x1 0 0 hF _ hm
    · have hm := it_n c_8 hm
      refine e_iconst (v := (-1)) (by decide) dX11_run_11 ?_
      refine e_iret dX11_run_12 rfl ?_
      have hm := some_in hm
      subst hm
      exact ⟨rfl, rfl⟩
theorem dX11_said_0 : decode cX11_said 0 = .ok (.iload_n 2, 1) := by decide +kernel
theorem dX11_said_1 : decode cX11_said 1 = .ok (.lookupswitch 51 #[(0, 27), (1, 39)], 27) := by decide +kernel
theorem dX11_said_28 : decode cX11_said 28 = .ok (.aload_n 0, 1) := by decide +kernel
theorem dX11_said_29 : decode cX11_said 29 = .ok (.getfield 52, 3) := by decide +kernel
theorem dX11_said_32 : decode cX11_said 32 = .ok (.getfield 225, 3) := by decide +kernel
theorem dX11_said_35 : decode cX11_said 35 = .ok (.iload_n 1, 1) := by decide +kernel
theorem dX11_said_36 : decode cX11_said 36 = .ok (.invokevirtual 140, 3) := by decide +kernel
theorem dX11_said_39 : decode cX11_said 39 = .ok (.ireturn, 1) := by decide +kernel
theorem dX11_said_40 : decode cX11_said 40 = .ok (.aload_n 0, 1) := by decide +kernel
theorem dX11_said_41 : decode cX11_said 41 = .ok (.getfield 52, 3) := by decide +kernel
theorem dX11_said_44 : decode cX11_said 44 = .ok (.getfield 228, 3) := by decide +kernel
theorem dX11_said_47 : decode cX11_said 47 = .ok (.iload_n 1, 1) := by decide +kernel
theorem dX11_said_48 : decode cX11_said 48 = .ok (.invokevirtual 140, 3) := by decide +kernel
theorem dX11_said_51 : decode cX11_said 51 = .ok (.ireturn, 1) := by decide +kernel
theorem dX11_said_52 : decode cX11_said 52 = .ok (.iconst (-1), 1) := by decide +kernel
theorem dX11_said_53 : decode cX11_said 53 = .ok (.ireturn, 1) := by decide +kernel
def mX11_said (I : iT) (x1 : Int32) (x2 : Int32) : Option (Int32) := if x2 = 0 then (mX4_at 182 I x1).bind fun q1 => some q1 else if x2 = 1 then (mX4_at 184 I x1).bind fun q2 => some q2 else some ((-1))
set_option maxRecDepth 100000 in
set_option maxHeartbeats 4000000 in
theorem tX11_said {l : Launch} {K : a_KT} {g : a_GT} {IB : iT} (hko : a_kok K) (I : iT) (J : jT) (F : fT) (hF : FK F) (x1 : Int32) (x2 : Int32) (q : Int32) (hm : mX11_said I x1 x2 = some q) : C l K g 1 0 0 yX11_said cX11_said 3 (some .int) [.ref 1, .int x1, .int x2] (hg I IB J F) (fun r2 h2 => r2 = some (.int q) ∧ h2 = hg I IB J F) := by
  unfold mX11_said at hm
  refine c_of [.ref 1, .int x1, .int x2] (by decide) (Nat.le_of_ble_eq_true rfl) rfl ?_
  refine e_iload_n (i := 2) rfl dX11_said_0 ?_
  by_cases c_1_0 : x2 = 0
  · have hm := it_p c_1_0 hm
    refine e_lookup 28 dX11_said_1 (by decide) (off := 27) (by rw [c_1_0]; decide) (by decide) ?_
    refine e_aload_n (i := 0) rfl dX11_said_28 ?_
    refine q_getF 11 4 148 dX11_said_29 fl_RX11_52 rfl iz_1 (fr_1_4 hF.1) ?_
    refine q_getF 6 10 182 dX11_said_32 fl_RX11_225 rfl iz_148 (fr_148_10 hF.1) ?_
    refine e_iload_n (i := 1) rfl dX11_said_35 ?_
    obtain ⟨q1, eq1, hm⟩ := ob_some hm
    refine e_cV1 hko dX11_said_36 ml_RX11_140 iz_182 (by decide) rfl (by omega) (Nat.le_of_ble_eq_true rfl) (tX4_at hko rw_182 I J F hF x1 _ eq1) ?_
    rintro _ _ ⟨rfl, rfl⟩
    refine e_iret dX11_said_39 rfl ?_
    have hm := some_in hm
    subst hm
    exact ⟨rfl, rfl⟩
  have hm := it_n c_1_0 hm
  by_cases c_1_1 : x2 = 1
  · have hm := it_p c_1_1 hm
    refine e_lookup 40 dX11_said_1 (by decide) (off := 39) (by rw [c_1_1]; decide) (by decide) ?_
    refine e_aload_n (i := 0) rfl dX11_said_40 ?_
    refine q_getF 11 4 148 dX11_said_41 fl_RX11_52 rfl iz_1 (fr_1_4 hF.1) ?_
    refine q_getF 6 11 184 dX11_said_44 fl_RX11_228 rfl iz_148 (fr_148_11 hF.1) ?_
    refine e_iload_n (i := 1) rfl dX11_said_47 ?_
    obtain ⟨q2, eq2, hm⟩ := ob_some hm
    refine e_cV1 hko dX11_said_48 ml_RX11_140 iz_184 (by decide) rfl (by omega) (Nat.le_of_ble_eq_true rfl) (tX4_at hko rw_184 I J F hF x1 _ eq2) ?_
    rintro _ _ ⟨rfl, rfl⟩
    refine e_iret dX11_said_51 rfl ?_
    have hm := some_in hm
    subst hm
    exact ⟨rfl, rfl⟩
  have hm := it_n c_1_1 hm
  refine e_lookup 52 dX11_said_1 (by decide) (off := 51) (by show Op.lookupswitch.offset [(0, 27), (1, 39)] 51 _ = _; rw [lv_osw c_1_0 (by decide), lv_osw c_1_1 (by decide)]; try rfl) (by decide) ?_
  refine e_iconst (v := (-1)) (by decide) dX11_said_52 ?_
  refine e_iret dX11_said_53 rfl ?_
  have hm := some_in hm
  subst hm
  exact ⟨rfl, rfl⟩
theorem dX11_same_0 : decode cX11_same 0 = .ok (.aload_n 0, 1) := by decide +kernel
theorem dX11_same_1 : decode cX11_same 1 = .ok (.iload_n 1, 1) := by decide +kernel
theorem dX11_same_2 : decode cX11_same 2 = .ok (.iload_n 2, 1) := by decide +kernel
theorem dX11_same_3 : decode cX11_same 3 = .ok (.invokevirtual 156, 3) := by decide +kernel
theorem dX11_same_6 : decode cX11_same 6 = .ok (.istore 5, 2) := by decide +kernel
theorem dX11_same_8 : decode cX11_same 8 = .ok (.iload 5, 2) := by decide +kernel
theorem dX11_same_10 : decode cX11_same 10 = .ok (.iconst (-1), 1) := by decide +kernel
theorem dX11_same_11 : decode cX11_same 11 = .ok (.if_icmp .eq 19, 3) := by decide +kernel
theorem dX11_same_14 : decode cX11_same 14 = .ok (.iload 5, 2) := by decide +kernel
theorem dX11_same_16 : decode cX11_same 16 = .ok (.aload_n 0, 1) := by decide +kernel
theorem dX11_same_17 : decode cX11_same 17 = .ok (.iload_n 3, 1) := by decide +kernel
theorem dX11_same_18 : decode cX11_same 18 = .ok (.iload 4, 2) := by decide +kernel
theorem dX11_same_20 : decode cX11_same 20 = .ok (.invokevirtual 156, 3) := by decide +kernel
theorem dX11_same_23 : decode cX11_same 23 = .ok (.if_icmp .ne 7, 3) := by decide +kernel
theorem dX11_same_26 : decode cX11_same 26 = .ok (.iconst 1, 1) := by decide +kernel
theorem dX11_same_27 : decode cX11_same 27 = .ok (.goto 4, 3) := by decide +kernel
theorem dX11_same_30 : decode cX11_same 30 = .ok (.iconst 0, 1) := by decide +kernel
theorem dX11_same_31 : decode cX11_same 31 = .ok (.ireturn, 1) := by decide +kernel
def mX11_same (I : iT) (F : fT) (x1 : Int32) (x2 : Int32) (x3 : Int32) (x4 : Int32) : Option (Int32) := (mX11_talkOf I F x1 x2).bind fun q1 => if q1 = ((-1)) then some 0 else (mX11_talkOf I F x3 x4).bind fun q2 => if q1 = q2 then some 1 else some 0
set_option maxRecDepth 100000 in
set_option maxHeartbeats 4000000 in
theorem tX11_same {l : Launch} {K : a_KT} {g : a_GT} {IB : iT} (hko : a_kok K) (I : iT) (J : jT) (F : fT) (hF : FK F) (x1 : Int32) (x2 : Int32) (x3 : Int32) (x4 : Int32) (q : Int32) (hm : mX11_same I F x1 x2 x3 x4 = some q) : C l K g 3 0 0 yX11_same cX11_same 6 (some .boolean) [.ref 1, .int x1, .int x2, .int x3, .int x4] (hg I IB J F) (fun r2 h2 => r2 = some (.int q) ∧ h2 = hg I IB J F) := by
  unfold mX11_same at hm
  refine c_of [.ref 1, .int x1, .int x2, .int x3, .int x4, .null] (by decide) (Nat.le_of_ble_eq_true rfl) rfl ?_
  refine e_aload_n (i := 0) rfl dX11_same_0 ?_
  refine e_iload_n (i := 1) rfl dX11_same_1 ?_
  refine e_iload_n (i := 2) rfl dX11_same_2 ?_
  obtain ⟨q1, eq1, hm⟩ := ob_some hm
  refine e_cV2 hko dX11_same_3 ml_RX11_156 iz_1 (by decide) rfl (by omega) (Nat.le_of_ble_eq_true rfl) (tX11_talkOf hko I J F hF x1 x2 _ eq1) ?_
  rintro _ _ ⟨rfl, rfl⟩
  refine q_istore (i := 5) (by decide) rfl dX11_same_6 ?_
  refine e_iload (i := 5) rfl dX11_same_8 ?_
  refine e_iconst (v := (-1)) (by decide) dX11_same_10 ?_
  refine e_icmp_eq 30 dX11_same_11 (by decide) (fun c_11 => ?_) (fun c_11 => ?_)
  · have hm := it_p c_11 hm
    refine e_iconst (v := 0) (by decide) dX11_same_30 ?_
    refine e_zret dX11_same_31 rfl rfl ?_
    have hm := some_in hm
    subst hm
    exact ⟨rfl, rfl⟩
  · have hm := it_n c_11 hm
    refine e_iload (i := 5) rfl dX11_same_14 ?_
    refine e_aload_n (i := 0) rfl dX11_same_16 ?_
    refine e_iload_n (i := 3) rfl dX11_same_17 ?_
    refine e_iload (i := 4) rfl dX11_same_18 ?_
    obtain ⟨q2, eq2, hm⟩ := ob_some hm
    refine e_cV2 hko dX11_same_20 ml_RX11_156 iz_1 (by decide) rfl (by omega) (Nat.le_of_ble_eq_true rfl) (tX11_talkOf hko I J F hF x3 x4 _ eq2) ?_
    rintro _ _ ⟨rfl, rfl⟩
    refine e_icmp_ne 30 dX11_same_23 (by decide) (fun c_23 => ?_) (fun c_23 => ?_)
    · have hm := it_n c_23 hm
      refine e_iconst (v := 0) (by decide) dX11_same_30 ?_
      refine e_zret dX11_same_31 rfl rfl ?_
      have hm := some_in hm
      subst hm
      exact ⟨rfl, rfl⟩
    · have hm := it_p c_23 hm
      refine e_iconst (v := 1) (by decide) dX11_same_26 ?_
      refine e_goto 31 dX11_same_27 (by decide) ?_
      refine e_zret dX11_same_31 rfl rfl ?_
      have hm := some_in hm
      subst hm
      exact ⟨rfl, rfl⟩
theorem dX11_step_0 : decode cX11_step 0 = .ok (.aload_n 0, 1) := by decide +kernel
theorem dX11_step_1 : decode cX11_step 1 = .ok (.getfield 52, 3) := by decide +kernel
theorem dX11_step_4 : decode cX11_step 4 = .ok (.iload_n 1, 1) := by decide +kernel
theorem dX11_step_5 : decode cX11_step 5 = .ok (.invokevirtual 179, 3) := by decide +kernel
theorem dX11_step_8 : decode cX11_step 8 = .ok (.ireturn, 1) := by decide +kernel
def mX11_step (I : iT) (F : fT) (x1 : Int32) : Option (Int32 × iT) := (mX6_advance I F x1).bind fun q1 => some (q1.1, q1.2)
set_option maxRecDepth 100000 in
set_option maxHeartbeats 4000000 in
theorem tX11_step {l : Launch} {K : a_KT} {g : a_GT} {IB : iT} (hko : a_kok K) (I : iT) (J : jT) (F : fT) (hF : FK F) (x1 : Int32) (q : Int32 × iT) (hm : mX11_step I F x1 = some q) : C l K g 7 0 0 yX11_step cX11_step 2 (some .int) [.ref 1, .int x1] (hg I IB J F) (fun r2 h2 => r2 = some (.int q.1) ∧ h2 = hg q.2 IB J F) := by
  unfold mX11_step at hm
  refine c_of [.ref 1, .int x1] (by decide) (Nat.le_of_ble_eq_true rfl) rfl ?_
  refine e_aload_n (i := 0) rfl dX11_step_0 ?_
  refine q_getF 11 4 148 dX11_step_1 fl_RX11_52 rfl iz_1 (fr_1_4 hF.1) ?_
  refine e_iload_n (i := 1) rfl dX11_step_4 ?_
  obtain ⟨q1, eq1, hm⟩ := ob_some hm
  refine e_cV1 hko dX11_step_5 ml_RX11_179 iz_148 (by decide) rfl (by omega) (Nat.le_of_ble_eq_true rfl) (tX6_advance hko I J F hF x1 _ eq1) ?_
  rintro _ _ ⟨rfl, rfl⟩
  refine e_iret dX11_step_8 rfl ?_
  have hm := some_in hm
  subst hm
  exact ⟨rfl, rfl⟩
theorem dX11_which_0 : decode cX11_which 0 = .ok (.aload_n 0, 1) := by decide +kernel
theorem dX11_which_1 : decode cX11_which 1 = .ok (.getfield 52, 3) := by decide +kernel
theorem dX11_which_4 : decode cX11_which 4 = .ok (.getfield 176, 3) := by decide +kernel
theorem dX11_which_7 : decode cX11_which 7 = .ok (.iload_n 1, 1) := by decide +kernel
theorem dX11_which_8 : decode cX11_which 8 = .ok (.invokevirtual 140, 3) := by decide +kernel
theorem dX11_which_11 : decode cX11_which 11 = .ok (.ireturn, 1) := by decide +kernel
def mX11_which (I : iT) (x1 : Int32) : Option (Int32) := (mX4_at 180 I x1).bind fun q1 => some q1
set_option maxRecDepth 100000 in
set_option maxHeartbeats 4000000 in
theorem tX11_which {l : Launch} {K : a_KT} {g : a_GT} {IB : iT} (hko : a_kok K) (I : iT) (J : jT) (F : fT) (hF : FK F) (x1 : Int32) (q : Int32) (hm : mX11_which I x1 = some q) : C l K g 1 0 0 yX11_which cX11_which 2 (some .int) [.ref 1, .int x1] (hg I IB J F) (fun r2 h2 => r2 = some (.int q) ∧ h2 = hg I IB J F) := by
  unfold mX11_which at hm
  refine c_of [.ref 1, .int x1] (by decide) (Nat.le_of_ble_eq_true rfl) rfl ?_
  refine e_aload_n (i := 0) rfl dX11_which_0 ?_
  refine q_getF 11 4 148 dX11_which_1 fl_RX11_52 rfl iz_1 (fr_1_4 hF.1) ?_
  refine q_getF 6 9 180 dX11_which_4 fl_RX11_176 rfl iz_148 (fr_148_9 hF.1) ?_
  refine e_iload_n (i := 1) rfl dX11_which_7 ?_
  obtain ⟨q1, eq1, hm⟩ := ob_some hm
  refine e_cV1 hko dX11_which_8 ml_RX11_140 iz_180 (by decide) rfl (by omega) (Nat.le_of_ble_eq_true rfl) (tX4_at hko rw_180 I J F hF x1 _ eq1) ?_
  rintro _ _ ⟨rfl, rfl⟩
  refine e_iret dX11_which_11 rfl ?_
  have hm := some_in hm
  subst hm
  exact ⟨rfl, rfl⟩
