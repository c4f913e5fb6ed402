/-! DECOMPILED: printed by wip/whole/gen_dec.py -/
theorem dX3_judgeLast_0 : decode cX3_judgeLast 0 = .ok (.aload_n 0, 1) := by decide +kernel
theorem dX3_judgeLast_1 : decode cX3_judgeLast 1 = .ok (.getfield 18, 3) := by decide +kernel
theorem dX3_judgeLast_4 : decode cX3_judgeLast 4 = .ok (.iconst (-1), 1) := by decide +kernel
theorem dX3_judgeLast_5 : decode cX3_judgeLast 5 = .ok (.if_icmp .eq 16, 3) := by decide +kernel
theorem dX3_judgeLast_8 : decode cX3_judgeLast 8 = .ok (.aload_n 0, 1) := by decide +kernel
theorem dX3_judgeLast_9 : decode cX3_judgeLast 9 = .ok (.getfield 22, 3) := by decide +kernel
theorem dX3_judgeLast_12 : decode cX3_judgeLast 12 = .ok (.bipush 7, 2) := by decide +kernel
theorem dX3_judgeLast_14 : decode cX3_judgeLast 14 = .ok (.aload_n 0, 1) := by decide +kernel
theorem dX3_judgeLast_15 : decode cX3_judgeLast 15 = .ok (.getfield 18, 3) := by decide +kernel
theorem dX3_judgeLast_18 : decode cX3_judgeLast 18 = .ok (.invokevirtual 104, 3) := by decide +kernel
theorem dX3_judgeLast_21 : decode cX3_judgeLast 21 = .ok (.return_, 1) := by decide +kernel
def mX3_judgeLast (I : iT) : Option (iT) := if (I 134 6) = ((-1)) then some I else (mX2_refuse I 7 (I 134 6)).bind fun q1 => some q1
set_option maxRecDepth 100000 in
set_option maxHeartbeats 4000000 in
theorem tX3_judgeLast {l : Launch} {K : a_KT} {g : a_GT} {IB : iT} (hko : a_kok K) (I : iT) (J : jT) (F : fT) (hF : FK F) (q : iT) (hm : mX3_judgeLast I = some q) : C l K g 1 0 0 yX3_judgeLast cX3_judgeLast 1 none [.ref 134] (hg I IB J F) (fun r2 h2 => r2 = none ∧ h2 = hg q IB J F) := by
  unfold mX3_judgeLast at hm
  refine c_of [.ref 134] (by decide) (Nat.le_of_ble_eq_true rfl) rfl ?_
  refine e_aload_n (i := 0) rfl dX3_judgeLast_0 ?_
  refine k_getI 3 6 dX3_judgeLast_1 fl_RX3_18 rfl iz_134 (by decide) ?_
  refine e_iconst (v := (-1)) (by decide) dX3_judgeLast_4 ?_
  refine e_icmp_eq 21 dX3_judgeLast_5 (by decide) (fun c_5 => ?_) (fun c_5 => ?_)
  · have hm := it_p c_5 hm
    refine e_vret dX3_judgeLast_21 rfl ?_
    have hm := some_in hm
    subst hm
    exact ⟨rfl, rfl⟩
  · have hm := it_n c_5 hm
    refine e_aload_n (i := 0) rfl dX3_judgeLast_8 ?_
    refine q_getF 3 0 6 dX3_judgeLast_9 fl_RX3_22 rfl iz_134 (fr_134_0 hF.1) ?_
    refine e_bipush (v := 7) (by decide) dX3_judgeLast_12 ?_
    refine e_aload_n (i := 0) rfl dX3_judgeLast_14 ?_
    refine k_getI 3 6 dX3_judgeLast_15 fl_RX3_18 rfl iz_134 (by decide) ?_
    obtain ⟨q1, eq1, hm⟩ := ob_some hm
    refine e_cV2 hko dX3_judgeLast_18 ml_RX3_104 iz_6 (by decide) rfl (by omega) (Nat.le_of_ble_eq_true rfl) (tX2_refuse hko I J F hF 7 (I 134 6) _ eq1) ?_
    rintro _ _ ⟨rfl, rfl⟩
    refine e_vret dX3_judgeLast_21 rfl ?_
    have hm := some_in hm
    subst hm
    exact ⟨rfl, rfl⟩
theorem dX3_readFresh_0 : decode cX3_readFresh 0 = .ok (.aload_n 0, 1) := by decide +kernel
theorem dX3_readFresh_1 : decode cX3_readFresh 1 = .ok (.getfield 22, 3) := by decide +kernel
theorem dX3_readFresh_4 : decode cX3_readFresh 4 = .ok (.getfield 95, 3) := by decide +kernel
theorem dX3_readFresh_7 : decode cX3_readFresh 7 = .ok (.istore_n 3, 1) := by decide +kernel
theorem dX3_readFresh_8 : decode cX3_readFresh 8 = .ok (.aload_n 0, 1) := by decide +kernel
theorem dX3_readFresh_9 : decode cX3_readFresh 9 = .ok (.getfield 22, 3) := by decide +kernel
theorem dX3_readFresh_12 : decode cX3_readFresh 12 = .ok (.invokevirtual 98, 3) := by decide +kernel
theorem dX3_readFresh_15 : decode cX3_readFresh 15 = .ok (.istore 4, 2) := by decide +kernel
theorem dX3_readFresh_17 : decode cX3_readFresh 17 = .ok (.aload_n 1, 1) := by decide +kernel
theorem dX3_readFresh_18 : decode cX3_readFresh 18 = .ok (.iload 4, 2) := by decide +kernel
theorem dX3_readFresh_20 : decode cX3_readFresh 20 = .ok (.invokevirtual 101, 3) := by decide +kernel
theorem dX3_readFresh_23 : decode cX3_readFresh 23 = .ok (.iconst (-1), 1) := by decide +kernel
theorem dX3_readFresh_24 : decode cX3_readFresh 24 = .ok (.if_icmp .eq 12, 3) := by decide +kernel
theorem dX3_readFresh_27 : decode cX3_readFresh 27 = .ok (.aload_n 0, 1) := by decide +kernel
theorem dX3_readFresh_28 : decode cX3_readFresh 28 = .ok (.getfield 22, 3) := by decide +kernel
theorem dX3_readFresh_31 : decode cX3_readFresh 31 = .ok (.iconst 2, 1) := by decide +kernel
theorem dX3_readFresh_32 : decode cX3_readFresh 32 = .ok (.iload_n 3, 1) := by decide +kernel
theorem dX3_readFresh_33 : decode cX3_readFresh 33 = .ok (.invokevirtual 104, 3) := by decide +kernel
theorem dX3_readFresh_36 : decode cX3_readFresh 36 = .ok (.aload_n 1, 1) := by decide +kernel
theorem dX3_readFresh_37 : decode cX3_readFresh 37 = .ok (.invokevirtual 108, 3) := by decide +kernel
theorem dX3_readFresh_40 : decode cX3_readFresh 40 = .ok (.iload_n 2, 1) := by decide +kernel
theorem dX3_readFresh_41 : decode cX3_readFresh 41 = .ok (.if_icmp .lt 12, 3) := by decide +kernel
theorem dX3_readFresh_44 : decode cX3_readFresh 44 = .ok (.aload_n 0, 1) := by decide +kernel
theorem dX3_readFresh_45 : decode cX3_readFresh 45 = .ok (.getfield 22, 3) := by decide +kernel
theorem dX3_readFresh_48 : decode cX3_readFresh 48 = .ok (.iconst 5, 1) := by decide +kernel
theorem dX3_readFresh_49 : decode cX3_readFresh 49 = .ok (.iload_n 3, 1) := by decide +kernel
theorem dX3_readFresh_50 : decode cX3_readFresh 50 = .ok (.invokevirtual 104, 3) := by decide +kernel
theorem dX3_readFresh_53 : decode cX3_readFresh 53 = .ok (.iload 4, 2) := by decide +kernel
theorem dX3_readFresh_55 : decode cX3_readFresh 55 = .ok (.ireturn, 1) := by decide +kernel
def mX3_readFresh_36 (a1 : Nat) (I : iT) (x2 : Int32) (x3 : Int32) (x4 : Int32) : Option (Int32 × iT) := (mX4_size a1 I).bind fun q1 => if q1 < x2 then some (x4, I) else (mX2_refuse I 5 x3).bind fun q2 => some (x4, q2)
def mX3_readFresh (a1 : Nat) (I : iT) (x2 : Int32) : Option (Int32 × iT) := (mX2_takeName I).bind fun q3 => (mX4_find a1 q3.2 q3.1).bind fun q4 => if q4 = ((-1)) then mX3_readFresh_36 a1 q3.2 x2 (I 6 8) q3.1 else (mX2_refuse q3.2 2 (I 6 8)).bind fun q5 => mX3_readFresh_36 a1 q5 x2 (I 6 8) q3.1
set_option maxRecDepth 100000 in
set_option maxHeartbeats 4000000 in
theorem tX3_readFresh_36 {l : Launch} {K : a_KT} {g : a_GT} {IB : iT} (hko : a_kok K) {a1 : Nat} (ha1 : isRow a1) {J : jT} {F : fT} (I : iT) (x2 : Int32) (x3 : Int32) (x4 : Int32) (hF : FK F) (q : Int32 × iT) (hm : mX3_readFresh_36 a1 I x2 x3 x4 = some q) : E l K g 2 0 0 yX3_readFresh cX3_readFresh 5 (some .int) 36 [.ref 134, .ref a1, .int x2, .int x3, .int x4] [] (hg I IB J F) (fun r2 h2 => r2 = some (.int q.1) ∧ h2 = hg q.2 IB J F) := by
  unfold mX3_readFresh_36 at hm
  refine e_aload_n (i := 1) rfl dX3_readFresh_36 ?_
  obtain ⟨q1, eq1, hm⟩ := ob_some hm
  refine e_cV0 hko dX3_readFresh_37 ml_RX3_108 (iz_row ha1) (by decide) rfl (by omega) (Nat.le_of_ble_eq_true rfl) (tX4_size hko ha1 I J F hF _ eq1) ?_
  rintro _ _ ⟨rfl, rfl⟩
  refine e_iload_n (i := 2) rfl dX3_readFresh_40 ?_
  refine e_icmp_lt 53 dX3_readFresh_41 (by decide) (fun c_41 => ?_) (fun c_41 => ?_)
  · have hm := it_p c_41 hm
    refine e_iload (i := 4) rfl dX3_readFresh_53 ?_
    refine e_iret dX3_readFresh_55 rfl ?_
    have hm := some_in hm
    subst hm
    exact ⟨rfl, rfl⟩
  · have hm := it_n c_41 hm
    refine e_aload_n (i := 0) rfl dX3_readFresh_44 ?_
    refine q_getF 3 0 6 dX3_readFresh_45 fl_RX3_22 rfl iz_134 (fr_134_0 hF.1) ?_
    refine e_iconst (v := 5) (by decide) dX3_readFresh_48 ?_
    refine e_iload_n (i := 3) rfl dX3_readFresh_49 ?_
    obtain ⟨q2, eq2, hm⟩ := ob_some hm
    refine e_cV2 hko dX3_readFresh_50 ml_RX3_104 iz_6 (by decide) rfl (by omega) (Nat.le_of_ble_eq_true rfl) (tX2_refuse hko I J F hF 5 x3 _ eq2) ?_
    rintro _ _ ⟨rfl, rfl⟩
    refine e_iload (i := 4) rfl dX3_readFresh_53 ?_
    refine e_iret dX3_readFresh_55 rfl ?_
    have hm := some_in hm
    subst hm
    exact ⟨rfl, rfl⟩
set_option maxRecDepth 100000 in
set_option maxHeartbeats 4000000 in
theorem tX3_readFresh {l : Launch} {K : a_KT} {g : a_GT} {IB : iT} (hko : a_kok K) {a1 : Nat} (ha1 : isRow a1) (I : iT) (J : jT) (F : fT) (hF : FK F) (x2 : Int32) (q : Int32 × iT) (hm : mX3_readFresh a1 I x2 = some q) : C l K g 2 0 0 yX3_readFresh cX3_readFresh 5 (some .int) [.ref 134, .ref a1, .int x2] (hg I IB J F) (fun r2 h2 => r2 = some (.int q.1) ∧ h2 = hg q.2 IB J F) := by
  unfold mX3_readFresh at hm
  refine c_of [.ref 134, .ref a1, .int x2, .null, .null] (by decide) (Nat.le_of_ble_eq_true rfl) rfl ?_
  refine e_aload_n (i := 0) rfl dX3_readFresh_0 ?_
  refine q_getF 3 0 6 dX3_readFresh_1 fl_RX3_22 rfl iz_134 (fr_134_0 hF.1) ?_
  refine k_getI 2 8 dX3_readFresh_4 fl_RX3_95 rfl iz_6 (by decide) ?_
  refine q_istore_n (i := 3) (by decide) rfl dX3_readFresh_7 ?_
  refine e_aload_n (i := 0) rfl dX3_readFresh_8 ?_
  refine q_getF 3 0 6 dX3_readFresh_9 fl_RX3_22 rfl iz_134 (fr_134_0 hF.1) ?_
  obtain ⟨q3, eq3, hm⟩ := ob_some hm
  refine e_cV0 hko dX3_readFresh_12 ml_RX3_98 iz_6 (by decide) rfl (by omega) (Nat.le_of_ble_eq_true rfl) (tX2_takeName hko I J F hF _ eq3) ?_
  rintro _ _ ⟨rfl, rfl⟩
  refine q_istore (i := 4) (by decide) rfl dX3_readFresh_15 ?_
  refine e_aload_n (i := 1) rfl dX3_readFresh_17 ?_
  refine e_iload (i := 4) rfl dX3_readFresh_18 ?_
  obtain ⟨q4, eq4, hm⟩ := ob_some hm
  refine e_cV1 hko dX3_readFresh_20 ml_RX3_101 (iz_row ha1) (by decide) rfl (by omega) (Nat.le_of_ble_eq_true rfl) (tX4_find hko ha1 q3.2 J F hF q3.1 _ eq4) ?_
  rintro _ _ ⟨rfl, rfl⟩
  refine e_iconst (v := (-1)) (by decide) dX3_readFresh_23 ?_
  refine e_icmp_eq 36 dX3_readFresh_24 (by decide) (fun c_24 => ?_) (fun c_24 => ?_)
  · have hm := it_p c_24 hm
    refine e_weak [.ref 134, .ref a1, .int x2, .int (I 6 8), .int q3.1] ⟨rfl, ⟨rfl, ⟨rfl, ⟨rfl, ⟨rfl, trivial⟩⟩⟩⟩⟩ ?_
    exact tX3_readFresh_36 hko ha1 q3.2 x2 (I 6 8) q3.1 hF _ hm
  · have hm := it_n c_24 hm
    refine e_aload_n (i := 0) rfl dX3_readFresh_27 ?_
    refine q_getF 3 0 6 dX3_readFresh_28 fl_RX3_22 rfl iz_134 (fr_134_0 hF.1) ?_
    refine e_iconst (v := 2) (by decide) dX3_readFresh_31 ?_
    refine e_iload_n (i := 3) rfl dX3_readFresh_32 ?_
    obtain ⟨q5, eq5, hm⟩ := ob_some hm
    refine e_cV2 hko dX3_readFresh_33 ml_RX3_104 iz_6 (by decide) rfl (by omega) (Nat.le_of_ble_eq_true rfl) (tX2_refuse hko q3.2 J F hF 2 (I 6 8) _ eq5) ?_
    rintro _ _ ⟨rfl, rfl⟩
    refine e_weak [.ref 134, .ref a1, .int x2, .int (I 6 8), .int q3.1] ⟨rfl, ⟨rfl, ⟨rfl, ⟨rfl, ⟨rfl, trivial⟩⟩⟩⟩⟩ ?_
    exact tX3_readFresh_36 hko ha1 q5 x2 (I 6 8) q3.1 hF _ hm
theorem dX3_readFreshThing_0 : decode cX3_readFreshThing 0 = .ok (.aload_n 0, 1) := by decide +kernel
theorem dX3_readFreshThing_1 : decode cX3_readFreshThing 1 = .ok (.getfield 22, 3) := by decide +kernel
theorem dX3_readFreshThing_4 : decode cX3_readFreshThing 4 = .ok (.getfield 95, 3) := by decide +kernel
theorem dX3_readFreshThing_7 : decode cX3_readFreshThing 7 = .ok (.istore_n 1, 1) := by decide +kernel
theorem dX3_readFreshThing_8 : decode cX3_readFreshThing 8 = .ok (.aload_n 0, 1) := by decide +kernel
theorem dX3_readFreshThing_9 : decode cX3_readFreshThing 9 = .ok (.getfield 22, 3) := by decide +kernel
theorem dX3_readFreshThing_12 : decode cX3_readFreshThing 12 = .ok (.invokevirtual 98, 3) := by decide +kernel
theorem dX3_readFreshThing_15 : decode cX3_readFreshThing 15 = .ok (.istore_n 2, 1) := by decide +kernel
theorem dX3_readFreshThing_16 : decode cX3_readFreshThing 16 = .ok (.aload_n 0, 1) := by decide +kernel
theorem dX3_readFreshThing_17 : decode cX3_readFreshThing 17 = .ok (.getfield 12, 3) := by decide +kernel
theorem dX3_readFreshThing_20 : decode cX3_readFreshThing 20 = .ok (.iload_n 2, 1) := by decide +kernel
theorem dX3_readFreshThing_21 : decode cX3_readFreshThing 21 = .ok (.invokevirtual 163, 3) := by decide +kernel
theorem dX3_readFreshThing_24 : decode cX3_readFreshThing 24 = .ok (.iconst (-1), 1) := by decide +kernel
theorem dX3_readFreshThing_25 : decode cX3_readFreshThing 25 = .ok (.if_icmp .eq 12, 3) := by decide +kernel
theorem dX3_readFreshThing_28 : decode cX3_readFreshThing 28 = .ok (.aload_n 0, 1) := by decide +kernel
theorem dX3_readFreshThing_29 : decode cX3_readFreshThing 29 = .ok (.getfield 22, 3) := by decide +kernel
theorem dX3_readFreshThing_32 : decode cX3_readFreshThing 32 = .ok (.iconst 2, 1) := by decide +kernel
theorem dX3_readFreshThing_33 : decode cX3_readFreshThing 33 = .ok (.iload_n 1, 1) := by decide +kernel
theorem dX3_readFreshThing_34 : decode cX3_readFreshThing 34 = .ok (.invokevirtual 104, 3) := by decide +kernel
theorem dX3_readFreshThing_37 : decode cX3_readFreshThing 37 = .ok (.iload_n 2, 1) := by decide +kernel
theorem dX3_readFreshThing_38 : decode cX3_readFreshThing 38 = .ok (.ireturn, 1) := by decide +kernel
def mX3_readFreshThing (I : iT) : Option (Int32 × iT) := (mX2_takeName I).bind fun q1 => (mX5_find q1.2 q1.1).bind fun q2 => if q2 = ((-1)) then some (q1.1, q1.2) else (mX2_refuse q1.2 2 (I 6 8)).bind fun q3 => some (q1.1, q3)
set_option maxRecDepth 100000 in
set_option maxHeartbeats 4000000 in
theorem tX3_readFreshThing {l : Launch} {K : a_KT} {g : a_GT} {IB : iT} (hko : a_kok K) (I : iT) (J : jT) (F : fT) (hF : FK F) (q : Int32 × iT) (hm : mX3_readFreshThing I = some q) : C l K g 2 0 0 yX3_readFreshThing cX3_readFreshThing 3 (some .int) [.ref 134] (hg I IB J F) (fun r2 h2 => r2 = some (.int q.1) ∧ h2 = hg q.2 IB J F) := by
  unfold mX3_readFreshThing at hm
  refine c_of [.ref 134, .null, .null] (by decide) (Nat.le_of_ble_eq_true rfl) rfl ?_
  refine e_aload_n (i := 0) rfl dX3_readFreshThing_0 ?_
  refine q_getF 3 0 6 dX3_readFreshThing_1 fl_RX3_22 rfl iz_134 (fr_134_0 hF.1) ?_
  refine k_getI 2 8 dX3_readFreshThing_4 fl_RX3_95 rfl iz_6 (by decide) ?_
  refine q_istore_n (i := 1) (by decide) rfl dX3_readFreshThing_7 ?_
  refine e_aload_n (i := 0) rfl dX3_readFreshThing_8 ?_
  refine q_getF 3 0 6 dX3_readFreshThing_9 fl_RX3_22 rfl iz_134 (fr_134_0 hF.1) ?_
  obtain ⟨q1, eq1, hm⟩ := ob_some hm
  refine e_cV0 hko dX3_readFreshThing_12 ml_RX3_98 iz_6 (by decide) rfl (by omega) (Nat.le_of_ble_eq_true rfl) (tX2_takeName hko I J F hF _ eq1) ?_
  rintro _ _ ⟨rfl, rfl⟩
  refine q_istore_n (i := 2) (by decide) rfl dX3_readFreshThing_15 ?_
  refine e_aload_n (i := 0) rfl dX3_readFreshThing_16 ?_
  refine q_getF 3 1 135 dX3_readFreshThing_17 fl_RX3_12 rfl iz_134 (fr_134_1 hF.1) ?_
  refine e_iload_n (i := 2) rfl dX3_readFreshThing_20 ?_
  obtain ⟨q2, eq2, hm⟩ := ob_some hm
  refine e_cV1 hko dX3_readFreshThing_21 ml_RX3_163 iz_135 (by decide) rfl (by omega) (Nat.le_of_ble_eq_true rfl) (tX5_find hko q1.2 J F hF q1.1 _ eq2) ?_
  rintro _ _ ⟨rfl, rfl⟩
  refine e_iconst (v := (-1)) (by decide) dX3_readFreshThing_24 ?_
  refine e_icmp_eq 37 dX3_readFreshThing_25 (by decide) (fun c_25 => ?_) (fun c_25 => ?_)
  · have hm := it_p c_25 hm
    refine e_iload_n (i := 2) rfl dX3_readFreshThing_37 ?_
    refine e_iret dX3_readFreshThing_38 rfl ?_
    have hm := some_in hm
    subst hm
    exact ⟨rfl, rfl⟩
  · have hm := it_n c_25 hm
    refine e_aload_n (i := 0) rfl dX3_readFreshThing_28 ?_
    refine q_getF 3 0 6 dX3_readFreshThing_29 fl_RX3_22 rfl iz_134 (fr_134_0 hF.1) ?_
    refine e_iconst (v := 2) (by decide) dX3_readFreshThing_32 ?_
    refine e_iload_n (i := 1) rfl dX3_readFreshThing_33 ?_
    obtain ⟨q3, eq3, hm⟩ := ob_some hm
    refine e_cV2 hko dX3_readFreshThing_34 ml_RX3_104 iz_6 (by decide) rfl (by omega) (Nat.le_of_ble_eq_true rfl) (tX2_refuse hko q1.2 J F hF 2 (I 6 8) _ eq3) ?_
    rintro _ _ ⟨rfl, rfl⟩
    refine e_iload_n (i := 2) rfl dX3_readFreshThing_37 ?_
    refine e_iret dX3_readFreshThing_38 rfl ?_
    have hm := some_in hm
    subst hm
    exact ⟨rfl, rfl⟩
theorem dX3_readParams_0 : decode cX3_readParams 0 = .ok (.aload_n 0, 1) := by decide +kernel
theorem dX3_readParams_1 : decode cX3_readParams 1 = .ok (.iconst (-1), 1) := by decide +kernel
theorem dX3_readParams_2 : decode cX3_readParams 2 = .ok (.putfield 18, 3) := by decide +kernel
theorem dX3_readParams_5 : decode cX3_readParams 5 = .ok (.aload_n 0, 1) := by decide +kernel
theorem dX3_readParams_6 : decode cX3_readParams 6 = .ok (.getfield 26, 3) := by decide +kernel
theorem dX3_readParams_9 : decode cX3_readParams 9 = .ok (.getfield 148, 3) := by decide +kernel
theorem dX3_readParams_12 : decode cX3_readParams 12 = .ok (.invokevirtual 108, 3) := by decide +kernel
theorem dX3_readParams_15 : decode cX3_readParams 15 = .ok (.istore_n 1, 1) := by decide +kernel
theorem dX3_readParams_16 : decode cX3_readParams 16 = .ok (.iconst 0, 1) := by decide +kernel
theorem dX3_readParams_17 : decode cX3_readParams 17 = .ok (.istore_n 2, 1) := by decide +kernel
theorem dX3_readParams_18 : decode cX3_readParams 18 = .ok (.iload_n 2, 1) := by decide +kernel
theorem dX3_readParams_19 : decode cX3_readParams 19 = .ok (.iconst 4, 1) := by decide +kernel
theorem dX3_readParams_20 : decode cX3_readParams 20 = .ok (.if_icmp .ge 21, 3) := by decide +kernel
theorem dX3_readParams_23 : decode cX3_readParams 23 = .ok (.aload_n 0, 1) := by decide +kernel
theorem dX3_readParams_24 : decode cX3_readParams 24 = .ok (.getfield 26, 3) := by decide +kernel
theorem dX3_readParams_27 : decode cX3_readParams 27 = .ok (.getfield 148, 3) := by decide +kernel
theorem dX3_readParams_30 : decode cX3_readParams 30 = .ok (.iconst (-1), 1) := by decide +kernel
theorem dX3_readParams_31 : decode cX3_readParams 31 = .ok (.invokevirtual 86, 3) := by decide +kernel
theorem dX3_readParams_34 : decode cX3_readParams 34 = .ok (.pop, 1) := by decide +kernel
theorem dX3_readParams_35 : decode cX3_readParams 35 = .ok (.iinc 2 1, 3) := by decide +kernel
theorem dX3_readParams_38 : decode cX3_readParams 38 = .ok (.goto (-20), 3) := by decide +kernel
theorem dX3_readParams_41 : decode cX3_readParams 41 = .ok (.aload_n 0, 1) := by decide +kernel
theorem dX3_readParams_42 : decode cX3_readParams 42 = .ok (.getfield 22, 3) := by decide +kernel
theorem dX3_readParams_45 : decode cX3_readParams 45 = .ok (.bipush 40, 2) := by decide +kernel
theorem dX3_readParams_47 : decode cX3_readParams 47 = .ok (.invokevirtual 78, 3) := by decide +kernel
theorem dX3_readParams_50 : decode cX3_readParams 50 = .ok (.iconst 0, 1) := by decide +kernel
theorem dX3_readParams_51 : decode cX3_readParams 51 = .ok (.istore_n 2, 1) := by decide +kernel
theorem dX3_readParams_52 : decode cX3_readParams 52 = .ok (.aload_n 0, 1) := by decide +kernel
theorem dX3_readParams_53 : decode cX3_readParams 53 = .ok (.getfield 22, 3) := by decide +kernel
theorem dX3_readParams_56 : decode cX3_readParams 56 = .ok (.sipush 256, 3) := by decide +kernel
theorem dX3_readParams_59 : decode cX3_readParams 59 = .ok (.invokevirtual 151, 3) := by decide +kernel
theorem dX3_readParams_62 : decode cX3_readParams 62 = .ok (.ifCond .eq 14, 3) := by decide +kernel
theorem dX3_readParams_65 : decode cX3_readParams 65 = .ok (.aload_n 0, 1) := by decide +kernel
theorem dX3_readParams_66 : decode cX3_readParams 66 = .ok (.aload_n 0, 1) := by decide +kernel
theorem dX3_readParams_67 : decode cX3_readParams 67 = .ok (.getfield 22, 3) := by decide +kernel
theorem dX3_readParams_70 : decode cX3_readParams 70 = .ok (.getfield 95, 3) := by decide +kernel
theorem dX3_readParams_73 : decode cX3_readParams 73 = .ok (.putfield 18, 3) := by decide +kernel
theorem dX3_readParams_76 : decode cX3_readParams 76 = .ok (.iconst 0, 1) := by decide +kernel
theorem dX3_readParams_77 : decode cX3_readParams 77 = .ok (.istore_n 3, 1) := by decide +kernel
theorem dX3_readParams_78 : decode cX3_readParams 78 = .ok (.iload_n 3, 1) := by decide +kernel
theorem dX3_readParams_79 : decode cX3_readParams 79 = .ok (.iconst 4, 1) := by decide +kernel
theorem dX3_readParams_80 : decode cX3_readParams 80 = .ok (.if_icmp .gt 125, 3) := by decide +kernel
theorem dX3_readParams_83 : decode cX3_readParams 83 = .ok (.iload_n 3, 1) := by decide +kernel
theorem dX3_readParams_84 : decode cX3_readParams 84 = .ok (.ifCond .gt 15, 3) := by decide +kernel
theorem dX3_readParams_87 : decode cX3_readParams 87 = .ok (.aload_n 0, 1) := by decide +kernel
theorem dX3_readParams_88 : decode cX3_readParams 88 = .ok (.getfield 22, 3) := by decide +kernel
theorem dX3_readParams_91 : decode cX3_readParams 91 = .ok (.bipush 41, 2) := by decide +kernel
theorem dX3_readParams_93 : decode cX3_readParams 93 = .ok (.invokevirtual 151, 3) := by decide +kernel
theorem dX3_readParams_96 : decode cX3_readParams 96 = .ok (.ifCond .ne 109, 3) := by decide +kernel
theorem dX3_readParams_99 : decode cX3_readParams 99 = .ok (.aload_n 0, 1) := by decide +kernel
theorem dX3_readParams_100 : decode cX3_readParams 100 = .ok (.getfield 22, 3) := by decide +kernel
theorem dX3_readParams_103 : decode cX3_readParams 103 = .ok (.getfield 95, 3) := by decide +kernel
theorem dX3_readParams_106 : decode cX3_readParams 106 = .ok (.istore 4, 2) := by decide +kernel
theorem dX3_readParams_108 : decode cX3_readParams 108 = .ok (.aload_n 0, 1) := by decide +kernel
theorem dX3_readParams_109 : decode cX3_readParams 109 = .ok (.invokevirtual 120, 3) := by decide +kernel
theorem dX3_readParams_112 : decode cX3_readParams 112 = .ok (.istore 5, 2) := by decide +kernel
theorem dX3_readParams_114 : decode cX3_readParams 114 = .ok (.iload_n 3, 1) := by decide +kernel
theorem dX3_readParams_115 : decode cX3_readParams 115 = .ok (.iconst 4, 1) := by decide +kernel
theorem dX3_readParams_116 : decode cX3_readParams 116 = .ok (.if_icmp .lt 13, 3) := by decide +kernel
theorem dX3_readParams_119 : decode cX3_readParams 119 = .ok (.aload_n 0, 1) := by decide +kernel
theorem dX3_readParams_120 : decode cX3_readParams 120 = .ok (.getfield 22, 3) := by decide +kernel
theorem dX3_readParams_123 : decode cX3_readParams 123 = .ok (.iconst 5, 1) := by decide +kernel
theorem dX3_readParams_124 : decode cX3_readParams 124 = .ok (.iload 4, 2) := by decide +kernel
theorem dX3_readParams_126 : decode cX3_readParams 126 = .ok (.invokevirtual 104, 3) := by decide +kernel
theorem dX3_readParams_129 : decode cX3_readParams 129 = .ok (.aload_n 0, 1) := by decide +kernel
theorem dX3_readParams_130 : decode cX3_readParams 130 = .ok (.getfield 22, 3) := by decide +kernel
theorem dX3_readParams_133 : decode cX3_readParams 133 = .ok (.bipush 58, 2) := by decide +kernel
theorem dX3_readParams_135 : decode cX3_readParams 135 = .ok (.invokevirtual 64, 3) := by decide +kernel
theorem dX3_readParams_138 : decode cX3_readParams 138 = .ok (.ifCond .eq 13, 3) := by decide +kernel
theorem dX3_readParams_141 : decode cX3_readParams 141 = .ok (.aload_n 0, 1) := by decide +kernel
theorem dX3_readParams_142 : decode cX3_readParams 142 = .ok (.getfield 35, 3) := by decide +kernel
theorem dX3_readParams_145 : decode cX3_readParams 145 = .ok (.invokevirtual 82, 3) := by decide +kernel
theorem dX3_readParams_148 : decode cX3_readParams 148 = .ok (.goto 4, 3) := by decide +kernel
theorem dX3_readParams_151 : decode cX3_readParams 151 = .ok (.iconst (-1), 1) := by decide +kernel
theorem dX3_readParams_152 : decode cX3_readParams 152 = .ok (.istore 6, 2) := by decide +kernel
theorem dX3_readParams_154 : decode cX3_readParams 154 = .ok (.aload_n 0, 1) := by decide +kernel
theorem dX3_readParams_155 : decode cX3_readParams 155 = .ok (.getfield 26, 3) := by decide +kernel
theorem dX3_readParams_158 : decode cX3_readParams 158 = .ok (.getfield 148, 3) := by decide +kernel
theorem dX3_readParams_161 : decode cX3_readParams 161 = .ok (.iload_n 1, 1) := by decide +kernel
theorem dX3_readParams_162 : decode cX3_readParams 162 = .ok (.iload_n 3, 1) := by decide +kernel
theorem dX3_readParams_163 : decode cX3_readParams 163 = .ok (.iadd, 1) := by decide +kernel
theorem dX3_readParams_164 : decode cX3_readParams 164 = .ok (.iload 6, 2) := by decide +kernel
theorem dX3_readParams_166 : decode cX3_readParams 166 = .ok (.invokevirtual 154, 3) := by decide +kernel
theorem dX3_readParams_169 : decode cX3_readParams 169 = .ok (.aload_n 0, 1) := by decide +kernel
theorem dX3_readParams_170 : decode cX3_readParams 170 = .ok (.getfield 12, 3) := by decide +kernel
theorem dX3_readParams_173 : decode cX3_readParams 173 = .ok (.iload 5, 2) := by decide +kernel
theorem dX3_readParams_175 : decode cX3_readParams 175 = .ok (.iload 6, 2) := by decide +kernel
theorem dX3_readParams_177 : decode cX3_readParams 177 = .ok (.invokevirtual 157, 3) := by decide +kernel
theorem dX3_readParams_180 : decode cX3_readParams 180 = .ok (.pop, 1) := by decide +kernel
theorem dX3_readParams_181 : decode cX3_readParams 181 = .ok (.iinc 2 1, 3) := by decide +kernel
theorem dX3_readParams_184 : decode cX3_readParams 184 = .ok (.aload_n 0, 1) := by decide +kernel
theorem dX3_readParams_185 : decode cX3_readParams 185 = .ok (.getfield 22, 3) := by decide +kernel
theorem dX3_readParams_188 : decode cX3_readParams 188 = .ok (.bipush 44, 2) := by decide +kernel
theorem dX3_readParams_190 : decode cX3_readParams 190 = .ok (.invokevirtual 64, 3) := by decide +kernel
theorem dX3_readParams_193 : decode cX3_readParams 193 = .ok (.ifCond .ne 6, 3) := by decide +kernel
theorem dX3_readParams_196 : decode cX3_readParams 196 = .ok (.goto 9, 3) := by decide +kernel
theorem dX3_readParams_199 : decode cX3_readParams 199 = .ok (.iinc 3 1, 3) := by decide +kernel
theorem dX3_readParams_202 : decode cX3_readParams 202 = .ok (.goto (-124), 3) := by decide +kernel
theorem dX3_readParams_205 : decode cX3_readParams 205 = .ok (.aload_n 0, 1) := by decide +kernel
theorem dX3_readParams_206 : decode cX3_readParams 206 = .ok (.getfield 22, 3) := by decide +kernel
theorem dX3_readParams_209 : decode cX3_readParams 209 = .ok (.bipush 41, 2) := by decide +kernel
theorem dX3_readParams_211 : decode cX3_readParams 211 = .ok (.invokevirtual 78, 3) := by decide +kernel
theorem dX3_readParams_214 : decode cX3_readParams 214 = .ok (.aload_n 0, 1) := by decide +kernel
theorem dX3_readParams_215 : decode cX3_readParams 215 = .ok (.getfield 26, 3) := by decide +kernel
theorem dX3_readParams_218 : decode cX3_readParams 218 = .ok (.getfield 160, 3) := by decide +kernel
theorem dX3_readParams_221 : decode cX3_readParams 221 = .ok (.iload_n 2, 1) := by decide +kernel
theorem dX3_readParams_222 : decode cX3_readParams 222 = .ok (.invokevirtual 86, 3) := by decide +kernel
theorem dX3_readParams_225 : decode cX3_readParams 225 = .ok (.pop, 1) := by decide +kernel
theorem dX3_readParams_226 : decode cX3_readParams 226 = .ok (.return_, 1) := by decide +kernel
def mX3_readParams_205 (I : iT) (F : fT) (x1 : Int32) (x2 : Int32) (x3 : Int32) : Option (iT) := (mX2_want I 41).bind fun q1 => (mX4_add ((F 134 4) + 43) q1 x2).bind fun q2 => some q2.2
def mX3_readParams_152 (k78 : iT → fT → Int32 → Int32 → Int32 → Option (iT)) (I : iT) (F : fT) (x1 : Int32) (x2 : Int32) (x3 : Int32) (x4 : Int32) (x5 : Int32) (s0 : Int32) : Option (iT) := (mX4_put ((F 134 4) + 45) I (x1 + x3) s0).bind fun q3 => (mX5_add q3 x5 s0).bind fun q4 => (mX2_skip q4.2 44).bind fun q5 => if q5.1 = 0 then mX3_readParams_205 q5.2 F x1 (x2 + 1) x3 else k78 q5.2 F x1 (x2 + 1) (x3 + 1)
def mX3_readParams_129 (k78 : iT → fT → Int32 → Int32 → Int32 → Option (iT)) (I : iT) (F : fT) (x1 : Int32) (x2 : Int32) (x3 : Int32) (x4 : Int32) (x5 : Int32) : Option (iT) := (mX2_skip I 58).bind fun q6 => if q6.1 = 0 then mX3_readParams_152 (k78) q6.2 F x1 x2 x3 x4 x5 ((-1)) else (mX9_readWhole q6.2 F).bind fun q7 => mX3_readParams_152 (k78) q7.2 F x1 x2 x3 x4 x5 q7.1
def mX3_readParams_99 (k78 : iT → fT → Int32 → Int32 → Int32 → Option (iT)) (I : iT) (F : fT) (x1 : Int32) (x2 : Int32) (x3 : Int32) : Option (iT) := (mX3_readFreshThing I).bind fun q8 => if x3 < 4 then mX3_readParams_129 (k78) q8.2 F x1 x2 x3 (I 6 8) q8.1 else (mX2_refuse q8.2 5 (I 6 8)).bind fun q9 => mX3_readParams_129 (k78) q9 F x1 x2 x3 (I 6 8) q8.1
def mX3_readParams_78 : Nat → iT → fT → Int32 → Int32 → Int32 → Option (iT)
  | 0, _, _, _, _, _ => none
  | n + 1, I, F, x1, x2, x3 => if 4 < x3 then mX3_readParams_205 I F x1 x2 x3 else if 0 < x3 then mX3_readParams_99 (mX3_readParams_78 n) I F x1 x2 x3 else (mX2_is I 41).bind fun q10 => if q10 = 0 then mX3_readParams_99 (mX3_readParams_78 n) I F x1 x2 x3 else mX3_readParams_205 I F x1 x2 x3
def mX3_readParams_76 (I : iT) (F : fT) (x1 : Int32) (x2 : Int32) : Option (iT) := mX3_readParams_78 LF I F x1 x2 0
def mX3_readParams_18 : Nat → iT → fT → Int32 → Int32 → Option (iT)
  | 0, _, _, _, _ => none
  | n + 1, I, F, x1, x2 => if 4 ≤ x2 then (mX2_want I 40).bind fun q11 => (mX2_is q11 256).bind fun q12 => if q12 = 0 then mX3_readParams_76 q11 F x1 0 else mX3_readParams_76 (a_u2 q11 134 6 (q11 6 8)) F x1 0 else (mX4_add ((F 134 4) + 45) I ((-1))).bind fun q13 => mX3_readParams_18 n q13.2 F x1 (x2 + 1)
def mX3_readParams (I : iT) (F : fT) : Option (iT) := (mX4_size ((F 134 4) + 45) (a_u2 I 134 6 ((-1)))).bind fun q14 => mX3_readParams_18 LF (a_u2 I 134 6 ((-1))) F q14 0
set_option maxRecDepth 100000 in
set_option maxHeartbeats 4000000 in
theorem tX3_readParams_205 {l : Launch} {K : a_KT} {g : a_GT} {IB : iT} (hko : a_kok K) {J : jT} (I : iT) (F : fT) (x1 : Int32) (x2 : Int32) (x3 : Int32) (hF : FK F) (q : iT) (hm : mX3_readParams_205 I F x1 x2 x3 = some q) : E l K g 455 0 0 yX3_readParams cX3_readParams 7 none 205 [.ref 134, .int x1, .int x2, .int x3, .null, .null, .null] [] (hg I IB J F) (fun r2 h2 => r2 = none ∧ h2 = hg q IB J F) := by
  unfold mX3_readParams_205 at hm
  refine e_aload_n (i := 0) rfl dX3_readParams_205 ?_
  refine q_getF 3 0 6 dX3_readParams_206 fl_RX3_22 rfl iz_134 (fr_134_0 hF.1) ?_
  refine e_bipush (v := 41) (by decide) dX3_readParams_209 ?_
  obtain ⟨q1, eq1, hm⟩ := ob_some hm
  refine e_cV1 hko dX3_readParams_211 ml_RX3_78 iz_6 (by decide) rfl (by omega) (Nat.le_of_ble_eq_true rfl) (tX2_want hko I J F hF 41 _ eq1) ?_
  rintro _ _ ⟨rfl, rfl⟩
  refine e_aload_n (i := 0) rfl dX3_readParams_214 ?_
  refine q_getF 3 4 (F 134 4) dX3_readParams_215 fl_RX3_26 rfl iz_134 rfl ?_
  refine q_getF 0 9 ((F 134 4) + 43) dX3_readParams_218 fl_RX3_160 rfl (iz_bk hF.2.2.2.1) (frb_9 hF.1 hF.2.2.2.1) ?_
  refine e_iload_n (i := 2) rfl dX3_readParams_221 ?_
  obtain ⟨q2, eq2, hm⟩ := ob_some hm
  refine e_cV1 hko dX3_readParams_222 ml_RX3_86 (iz_row (rwb_43 hF.2.2.2.1)) (by decide) rfl (by omega) (Nat.le_of_ble_eq_true rfl) (tX4_add hko (rwb_43 hF.2.2.2.1) q1 J F hF x2 _ eq2) ?_
  rintro _ _ ⟨rfl, rfl⟩
  refine e_pop rfl dX3_readParams_225 ?_
  refine e_vret dX3_readParams_226 rfl ?_
  have hm := some_in hm
  subst hm
  exact ⟨rfl, rfl⟩
set_option maxRecDepth 100000 in
set_option maxHeartbeats 4000000 in
theorem tX3_readParams_152 {l : Launch} {K : a_KT} {g : a_GT} {IB : iT} (hko : a_kok K) {J : jT} {k78 : iT → fT → Int32 → Int32 → Int32 → Option (iT)} (hk78 : ∀ (I : iT) (F : fT) (x1 : Int32) (x2 : Int32) (x3 : Int32) (_ : FK F) (q : iT), k78 I F x1 x2 x3 = some q → E l K g 455 0 0 yX3_readParams cX3_readParams 7 none 78 [.ref 134, .int x1, .int x2, .int x3, .null, .null, .null] [] (hg I IB J F) (fun r2 h2 => r2 = none ∧ h2 = hg q IB J F)) (I : iT) (F : fT) (x1 : Int32) (x2 : Int32) (x3 : Int32) (x4 : Int32) (x5 : Int32) (s0 : Int32) (hF : FK F) (q : iT) (hm : mX3_readParams_152 k78 I F x1 x2 x3 x4 x5 s0 = some q) : E l K g 455 0 0 yX3_readParams cX3_readParams 7 none 152 [.ref 134, .int x1, .int x2, .int x3, .int x4, .int x5, .null] [.int s0] (hg I IB J F) (fun r2 h2 => r2 = none ∧ h2 = hg q IB J F) := by
  unfold mX3_readParams_152 at hm
  refine q_istore (i := 6) (by decide) rfl dX3_readParams_152 ?_
  refine e_aload_n (i := 0) rfl dX3_readParams_154 ?_
  refine q_getF 3 4 (F 134 4) dX3_readParams_155 fl_RX3_26 rfl iz_134 rfl ?_
  refine q_getF 0 10 ((F 134 4) + 45) dX3_readParams_158 fl_RX3_148 rfl (iz_bk hF.2.2.2.1) (frb_10 hF.1 hF.2.2.2.1) ?_
  refine e_iload_n (i := 1) rfl dX3_readParams_161 ?_
  refine e_iload_n (i := 3) rfl dX3_readParams_162 ?_
  refine e_iadd dX3_readParams_163 ?_
  refine e_iload (i := 6) rfl dX3_readParams_164 ?_
  obtain ⟨q3, eq3, hm⟩ := ob_some hm
  refine e_cV2 hko dX3_readParams_166 ml_RX3_154 (iz_row (rwb_45 hF.2.2.2.1)) (by decide) rfl (by omega) (Nat.le_of_ble_eq_true rfl) (tX4_put hko (rwb_45 hF.2.2.2.1) I J F hF (x1 + x3) s0 _ eq3) ?_
  rintro _ _ ⟨rfl, rfl⟩
  refine e_aload_n (i := 0) rfl dX3_readParams_169 ?_
  refine q_getF 3 1 135 dX3_readParams_170 fl_RX3_12 rfl iz_134 (fr_134_1 hF.1) ?_
  refine e_iload (i := 5) rfl dX3_readParams_173 ?_
  refine e_iload (i := 6) rfl dX3_readParams_175 ?_
  obtain ⟨q4, eq4, hm⟩ := ob_some hm
  refine e_cV2 hko dX3_readParams_177 ml_RX3_157 iz_135 (by decide) rfl (by omega) (Nat.le_of_ble_eq_true rfl) (tX5_add hko q3 J F hF x5 s0 _ eq4) ?_
  rintro _ _ ⟨rfl, rfl⟩
  refine e_pop rfl dX3_readParams_180 ?_
  refine q_iinc (i := 2) (x2 + 1) rfl ic_1 rfl dX3_readParams_181 ?_
  refine e_aload_n (i := 0) rfl dX3_readParams_184 ?_
  refine q_getF 3 0 6 dX3_readParams_185 fl_RX3_22 rfl iz_134 (fr_134_0 hF.1) ?_
  refine e_bipush (v := 44) (by decide) dX3_readParams_188 ?_
  obtain ⟨q5, eq5, hm⟩ := ob_some hm
  refine e_cV1 hko dX3_readParams_190 ml_RX3_64 iz_6 (by decide) rfl (by omega) (Nat.le_of_ble_eq_true rfl) (tX2_skip hko q4.2 J F hF 44 _ eq5) ?_
  rintro _ _ ⟨rfl, rfl⟩
  refine e_if_ne 199 dX3_readParams_193 (by decide) (fun c_193 => ?_) (fun c_193 => ?_)
  · have hm := it_n c_193 hm
    refine q_iinc (i := 3) (x3 + 1) rfl ic_1 rfl dX3_readParams_199 ?_
    refine e_goto 78 dX3_readParams_202 (by decide) ?_
    refine e_weak [.ref 134, .int x1, .int (x2 + 1), .int (x3 + 1), .null, .null, .null] ⟨rfl, ⟨rfl, ⟨rfl, ⟨rfl, ⟨trivial, ⟨trivial, ⟨trivial, trivial⟩⟩⟩⟩⟩⟩⟩ ?_
    exact hk78 q5.2 F x1 (x2 + 1) (x3 + 1) hF _ hm
  · have hm := it_p c_193 hm
    refine e_goto 205 dX3_readParams_196 (by decide) ?_
    refine e_weak [.ref 134, .int x1, .int (x2 + 1), .int x3, .null, .null, .null] ⟨rfl, ⟨rfl, ⟨rfl, ⟨rfl, ⟨trivial, ⟨trivial, ⟨trivial, trivial⟩⟩⟩⟩⟩⟩⟩ ?_
    exact tX3_readParams_205 hko q5.2 F x1 (x2 + 1) x3 hF _ hm
set_option maxRecDepth 100000 in
set_option maxHeartbeats 4000000 in
theorem tX3_readParams_129 {l : Launch} {K : a_KT} {g : a_GT} {IB : iT} (hko : a_kok K) {J : jT} {k78 : iT → fT → Int32 → Int32 → Int32 → Option (iT)} (hk78 : ∀ (I : iT) (F : fT) (x1 : Int32) (x2 : Int32) (x3 : Int32) (_ : FK F) (q : iT), k78 I F x1 x2 x3 = some q → E l K g 455 0 0 yX3_readParams cX3_readParams 7 none 78 [.ref 134, .int x1, .int x2, .int x3, .null, .null, .null] [] (hg I IB J F) (fun r2 h2 => r2 = none ∧ h2 = hg q IB J F)) (I : iT) (F : fT) (x1 : Int32) (x2 : Int32) (x3 : Int32) (x4 : Int32) (x5 : Int32) (hF : FK F) (q : iT) (hm : mX3_readParams_129 k78 I F x1 x2 x3 x4 x5 = some q) : E l K g 455 0 0 yX3_readParams cX3_readParams 7 none 129 [.ref 134, .int x1, .int x2, .int x3, .int x4, .int x5, .null] [] (hg I IB J F) (fun r2 h2 => r2 = none ∧ h2 = hg q IB J F) := by
  unfold mX3_readParams_129 at hm
  refine e_aload_n (i := 0) rfl dX3_readParams_129 ?_
  refine q_getF 3 0 6 dX3_readParams_130 fl_RX3_22 rfl iz_134 (fr_134_0 hF.1) ?_
  refine e_bipush (v := 58) (by decide) dX3_readParams_133 ?_
  obtain ⟨q6, eq6, hm⟩ := ob_some hm
  refine e_cV1 hko dX3_readParams_135 ml_RX3_64 iz_6 (by decide) rfl (by omega) (Nat.le_of_ble_eq_true rfl) (tX2_skip hko I J F hF 58 _ eq6) ?_
  rintro _ _ ⟨rfl, rfl⟩
  refine e_if_eq 151 dX3_readParams_138 (by decide) (fun c_138 => ?_) (fun c_138 => ?_)
  · have hm := it_p c_138 hm
    refine e_iconst (v := (-1)) (by decide) dX3_readParams_151 ?_
    refine e_weak [.ref 134, .int x1, .int x2, .int x3, .int x4, .int x5, .null] ⟨rfl, ⟨rfl, ⟨rfl, ⟨rfl, ⟨rfl, ⟨rfl, ⟨trivial, trivial⟩⟩⟩⟩⟩⟩⟩ ?_
    exact tX3_readParams_152 hko (hk78) q6.2 F x1 x2 x3 x4 x5 ((-1)) hF _ hm
  · have hm := it_n c_138 hm
    refine e_aload_n (i := 0) rfl dX3_readParams_141 ?_
    refine q_getF 3 2 142 dX3_readParams_142 fl_RX3_35 rfl iz_134 (fr_134_2 hF.1) ?_
    obtain ⟨q7, eq7, hm⟩ := ob_some hm
    refine e_cV0 hko dX3_readParams_145 ml_RX3_82 iz_142 (by decide) rfl (by omega) (Nat.le_of_ble_eq_true rfl) (tX9_readWhole hko q6.2 J F hF _ eq7) ?_
    rintro _ _ ⟨rfl, rfl⟩
    refine e_goto 152 dX3_readParams_148 (by decide) ?_
    refine e_weak [.ref 134, .int x1, .int x2, .int x3, .int x4, .int x5, .null] ⟨rfl, ⟨rfl, ⟨rfl, ⟨rfl, ⟨rfl, ⟨rfl, ⟨trivial, trivial⟩⟩⟩⟩⟩⟩⟩ ?_
    exact tX3_readParams_152 hko (hk78) q7.2 F x1 x2 x3 x4 x5 q7.1 hF _ hm
set_option maxRecDepth 100000 in
set_option maxHeartbeats 4000000 in
theorem tX3_readParams_99 {l : Launch} {K : a_KT} {g : a_GT} {IB : iT} (hko : a_kok K) {J : jT} {k78 : iT → fT → Int32 → Int32 → Int32 → Option (iT)} (hk78 : ∀ (I : iT) (F : fT) (x1 : Int32) (x2 : Int32) (x3 : Int32) (_ : FK F) (q : iT), k78 I F x1 x2 x3 = some q → E l K g 455 0 0 yX3_readParams cX3_readParams 7 none 78 [.ref 134, .int x1, .int x2, .int x3, .null, .null, .null] [] (hg I IB J F) (fun r2 h2 => r2 = none ∧ h2 = hg q IB J F)) (I : iT) (F : fT) (x1 : Int32) (x2 : Int32) (x3 : Int32) (hF : FK F) (q : iT) (hm : mX3_readParams_99 k78 I F x1 x2 x3 = some q) : E l K g 455 0 0 yX3_readParams cX3_readParams 7 none 99 [.ref 134, .int x1, .int x2, .int x3, .null, .null, .null] [] (hg I IB J F) (fun r2 h2 => r2 = none ∧ h2 = hg q IB J F) := by
  unfold mX3_readParams_99 at hm
  refine e_aload_n (i := 0) rfl dX3_readParams_99 ?_
  refine q_getF 3 0 6 dX3_readParams_100 fl_RX3_22 rfl iz_134 (fr_134_0 hF.1) ?_
  refine k_getI 2 8 dX3_readParams_103 fl_RX3_95 rfl iz_6 (by decide) ?_
  refine q_istore (i := 4) (by decide) rfl dX3_readParams_106 ?_
  refine e_aload_n (i := 0) rfl dX3_readParams_108 ?_
  obtain ⟨q8, eq8, hm⟩ := ob_some hm
  refine e_cV0 hko dX3_readParams_109 ml_RX3_120 iz_134 (by decide) rfl (by omega) (Nat.le_of_ble_eq_true rfl) (tX3_readFreshThing hko I J F hF _ eq8) ?_
  rintro _ _ ⟨rfl, rfl⟩
  refine q_istore (i := 5) (by decide) rfl dX3_readParams_112 ?_
  refine e_iload_n (i := 3) rfl dX3_readParams_114 ?_
  refine e_iconst (v := 4) (by decide) dX3_readParams_115 ?_
  refine e_icmp_lt 129 dX3_readParams_116 (by decide) (fun c_116 => ?_) (fun c_116 => ?_)
  · have hm := it_p c_116 hm
    refine e_weak [.ref 134, .int x1, .int x2, .int x3, .int (I 6 8), .int q8.1, .null] ⟨rfl, ⟨rfl, ⟨rfl, ⟨rfl, ⟨rfl, ⟨rfl, ⟨trivial, trivial⟩⟩⟩⟩⟩⟩⟩ ?_
    exact tX3_readParams_129 hko (hk78) q8.2 F x1 x2 x3 (I 6 8) q8.1 hF _ hm
  · have hm := it_n c_116 hm
    refine e_aload_n (i := 0) rfl dX3_readParams_119 ?_
    refine q_getF 3 0 6 dX3_readParams_120 fl_RX3_22 rfl iz_134 (fr_134_0 hF.1) ?_
    refine e_iconst (v := 5) (by decide) dX3_readParams_123 ?_
    refine e_iload (i := 4) rfl dX3_readParams_124 ?_
    obtain ⟨q9, eq9, hm⟩ := ob_some hm
    refine e_cV2 hko dX3_readParams_126 ml_RX3_104 iz_6 (by decide) rfl (by omega) (Nat.le_of_ble_eq_true rfl) (tX2_refuse hko q8.2 J F hF 5 (I 6 8) _ eq9) ?_
    rintro _ _ ⟨rfl, rfl⟩
    refine e_weak [.ref 134, .int x1, .int x2, .int x3, .int (I 6 8), .int q8.1, .null] ⟨rfl, ⟨rfl, ⟨rfl, ⟨rfl, ⟨rfl, ⟨rfl, ⟨trivial, trivial⟩⟩⟩⟩⟩⟩⟩ ?_
    exact tX3_readParams_129 hko (hk78) q9 F x1 x2 x3 (I 6 8) q8.1 hF _ hm
set_option maxRecDepth 100000 in
set_option maxHeartbeats 4000000 in
theorem tX3_readParams_78 {l : Launch} {K : a_KT} {g : a_GT} {IB : iT} (hko : a_kok K) {J : jT} : ∀ (n : Nat) (I : iT) (F : fT) (x1 : Int32) (x2 : Int32) (x3 : Int32) (hF : FK F) (q : iT), mX3_readParams_78 n I F x1 x2 x3 = some q → E l K g 455 0 0 yX3_readParams cX3_readParams 7 none 78 [.ref 134, .int x1, .int x2, .int x3, .null, .null, .null] [] (hg I IB J F) (fun r2 h2 => r2 = none ∧ h2 = hg q IB J F) := by
  intro n
  induction n with
  | zero => intro I F x1 x2 x3 hF q hm; cases hm
  | succ n ih =>
    intro I F x1 x2 x3 hF q hm
    rw [mX3_readParams_78] at hm
    refine e_iload_n (i := 3) rfl dX3_readParams_78 ?_
    refine e_iconst (v := 4) (by decide) dX3_readParams_79 ?_
    refine e_icmp_gt 205 dX3_readParams_80 (by decide) (fun c_80 => ?_) (fun c_80 => ?_)
    · have hm := it_p c_80 hm
      refine e_weak [.ref 134, .int x1, .int x2, .int x3, .null, .null, .null] ⟨rfl, ⟨rfl, ⟨rfl, ⟨rfl, ⟨trivial, ⟨trivial, ⟨trivial, trivial⟩⟩⟩⟩⟩⟩⟩ ?_
      exact tX3_readParams_205 hko I F x1 x2 x3 hF _ hm
    · have hm := it_n c_80 hm
      refine e_iload_n (i := 3) rfl dX3_readParams_83 ?_
      refine e_if_gt 99 dX3_readParams_84 (by decide) (fun c_84 => ?_) (fun c_84 => ?_)
      · have hm := it_p c_84 hm
        refine e_weak [.ref 134, .int x1, .int x2, .int x3, .null, .null, .null] ⟨rfl, ⟨rfl, ⟨rfl, ⟨rfl, ⟨trivial, ⟨trivial, ⟨trivial, trivial⟩⟩⟩⟩⟩⟩⟩ ?_
        exact tX3_readParams_99 hko (ih) I F x1 x2 x3 hF _ hm
      · have hm := it_n c_84 hm
        refine e_aload_n (i := 0) rfl dX3_readParams_87 ?_
        refine q_getF 3 0 6 dX3_readParams_88 fl_RX3_22 rfl iz_134 (fr_134_0 hF.1) ?_
        refine e_bipush (v := 41) (by decide) dX3_readParams_91 ?_
        obtain ⟨q10, eq10, hm⟩ := ob_some hm
        refine e_cV1 hko dX3_readParams_93 ml_RX3_151 iz_6 (by decide) rfl (by omega) (Nat.le_of_ble_eq_true rfl) (tX2_is hko I J F hF 41 _ eq10) ?_
        rintro _ _ ⟨rfl, rfl⟩
        refine e_if_ne 205 dX3_readParams_96 (by decide) (fun c_96 => ?_) (fun c_96 => ?_)
        · have hm := it_n c_96 hm
          refine e_weak [.ref 134, .int x1, .int x2, .int x3, .null, .null, .null] ⟨rfl, ⟨rfl, ⟨rfl, ⟨rfl, ⟨trivial, ⟨trivial, ⟨trivial, trivial⟩⟩⟩⟩⟩⟩⟩ ?_
          exact tX3_readParams_205 hko I F x1 x2 x3 hF _ hm
        · have hm := it_p c_96 hm
          refine e_weak [.ref 134, .int x1, .int x2, .int x3, .null, .null, .null] ⟨rfl, ⟨rfl, ⟨rfl, ⟨rfl, ⟨trivial, ⟨trivial, ⟨trivial, trivial⟩⟩⟩⟩⟩⟩⟩ ?_
          exact tX3_readParams_99 hko (ih) I F x1 x2 x3 hF _ hm
set_option maxRecDepth 100000 in
set_option maxHeartbeats 4000000 in
theorem tX3_readParams_76 {l : Launch} {K : a_KT} {g : a_GT} {IB : iT} (hko : a_kok K) {J : jT} (I : iT) (F : fT) (x1 : Int32) (x2 : Int32) (hF : FK F) (q : iT) (hm : mX3_readParams_76 I F x1 x2 = some q) : E l K g 455 0 0 yX3_readParams cX3_readParams 7 none 76 [.ref 134, .int x1, .int x2, .null, .null, .null, .null] [] (hg I IB J F) (fun r2 h2 => r2 = none ∧ h2 = hg q IB J F) := by
  unfold mX3_readParams_76 at hm
  refine e_iconst (v := 0) (by decide) dX3_readParams_76 ?_
  refine q_istore_n (i := 3) (by decide) rfl dX3_readParams_77 ?_
  refine e_weak [.ref 134, .int x1, .int x2, .int 0, .null, .null, .null] ⟨rfl, ⟨rfl, ⟨rfl, ⟨rfl, ⟨trivial, ⟨trivial, ⟨trivial, trivial⟩⟩⟩⟩⟩⟩⟩ ?_
  exact tX3_readParams_78 hko LF I F x1 x2 0 hF _ hm
set_option maxRecDepth 100000 in
set_option maxHeartbeats 4000000 in
theorem tX3_readParams_18 {l : Launch} {K : a_KT} {g : a_GT} {IB : iT} (hko : a_kok K) {J : jT} : ∀ (n : Nat) (I : iT) (F : fT) (x1 : Int32) (x2 : Int32) (hF : FK F) (q : iT), mX3_readParams_18 n I F x1 x2 = some q → E l K g 455 0 0 yX3_readParams cX3_readParams 7 none 18 [.ref 134, .int x1, .int x2, .null, .null, .null, .null] [] (hg I IB J F) (fun r2 h2 => r2 = none ∧ h2 = hg q IB J F) := by
  intro n
  induction n with
  | zero => intro I F x1 x2 hF q hm; cases hm
  | succ n ih =>
    intro I F x1 x2 hF q hm
    rw [mX3_readParams_18] at hm
    refine e_iload_n (i := 2) rfl dX3_readParams_18 ?_
    refine e_iconst (v := 4) (by decide) dX3_readParams_19 ?_
    refine e_icmp_ge 41 dX3_readParams_20 (by decide) (fun c_20 => ?_) (fun c_20 => ?_)
    · have hm := it_p c_20 hm
      refine e_aload_n (i := 0) rfl dX3_readParams_41 ?_
      refine q_getF 3 0 6 dX3_readParams_42 fl_RX3_22 rfl iz_134 (fr_134_0 hF.1) ?_
      refine e_bipush (v := 40) (by decide) dX3_readParams_45 ?_
      obtain ⟨q11, eq11, hm⟩ := ob_some hm
      refine e_cV1 hko dX3_readParams_47 ml_RX3_78 iz_6 (by decide) rfl (by omega) (Nat.le_of_ble_eq_true rfl) (tX2_want hko I J F hF 40 _ eq11) ?_
      rintro _ _ ⟨rfl, rfl⟩
      refine e_iconst (v := 0) (by decide) dX3_readParams_50 ?_
      refine q_istore_n (i := 2) (by decide) rfl dX3_readParams_51 ?_
      refine e_aload_n (i := 0) rfl dX3_readParams_52 ?_
      refine q_getF 3 0 6 dX3_readParams_53 fl_RX3_22 rfl iz_134 (fr_134_0 hF.1) ?_
      refine e_sipush (v := 256) (by decide) dX3_readParams_56 ?_
      obtain ⟨q12, eq12, hm⟩ := ob_some hm
      refine e_cV1 hko dX3_readParams_59 ml_RX3_151 iz_6 (by decide) rfl (by omega) (Nat.le_of_ble_eq_true rfl) (tX2_is hko q11 J F hF 256 _ eq12) ?_
      rintro _ _ ⟨rfl, rfl⟩
      refine e_if_eq 76 dX3_readParams_62 (by decide) (fun c_62 => ?_) (fun c_62 => ?_)
      · have hm := it_p c_62 hm
        refine e_weak [.ref 134, .int x1, .int 0, .null, .null, .null, .null] ⟨rfl, ⟨rfl, ⟨rfl, ⟨trivial, ⟨trivial, ⟨trivial, ⟨trivial, trivial⟩⟩⟩⟩⟩⟩⟩ ?_
        exact tX3_readParams_76 hko q11 F x1 0 hF _ hm
      · have hm := it_n c_62 hm
        refine e_aload_n (i := 0) rfl dX3_readParams_65 ?_
        refine e_aload_n (i := 0) rfl dX3_readParams_66 ?_
        refine q_getF 3 0 6 dX3_readParams_67 fl_RX3_22 rfl iz_134 (fr_134_0 hF.1) ?_
        refine k_getI 2 8 dX3_readParams_70 fl_RX3_95 rfl iz_6 (by decide) ?_
        refine k_putI 3 6 dX3_readParams_73 fl_RX3_18 rfl rfl iz_134 (by decide) ?_
        refine e_weak [.ref 134, .int x1, .int 0, .null, .null, .null, .null] ⟨rfl, ⟨rfl, ⟨rfl, ⟨trivial, ⟨trivial, ⟨trivial, ⟨trivial, trivial⟩⟩⟩⟩⟩⟩⟩ ?_
        exact tX3_readParams_76 hko (a_u2 q11 134 6 (q11 6 8)) F x1 0 hF _ hm
    · have hm := it_n c_20 hm
      refine e_aload_n (i := 0) rfl dX3_readParams_23 ?_
      refine q_getF 3 4 (F 134 4) dX3_readParams_24 fl_RX3_26 rfl iz_134 rfl ?_
      refine q_getF 0 10 ((F 134 4) + 45) dX3_readParams_27 fl_RX3_148 rfl (iz_bk hF.2.2.2.1) (frb_10 hF.1 hF.2.2.2.1) ?_
      refine e_iconst (v := (-1)) (by decide) dX3_readParams_30 ?_
      obtain ⟨q13, eq13, hm⟩ := ob_some hm
      refine e_cV1 hko dX3_readParams_31 ml_RX3_86 (iz_row (rwb_45 hF.2.2.2.1)) (by decide) rfl (by omega) (Nat.le_of_ble_eq_true rfl) (tX4_add hko (rwb_45 hF.2.2.2.1) I J F hF ((-1)) _ eq13) ?_
      rintro _ _ ⟨rfl, rfl⟩
      refine e_pop rfl dX3_readParams_34 ?_
      refine q_iinc (i := 2) (x2 + 1) rfl ic_1 rfl dX3_readParams_35 ?_
      refine e_goto 18 dX3_readParams_38 (by decide) ?_
      refine e_weak [.ref 134, .int x1, .int (x2 + 1), .null, .null, .null, .null] ⟨rfl, ⟨rfl, ⟨rfl, ⟨trivial, ⟨trivial, ⟨trivial, ⟨trivial, trivial⟩⟩⟩⟩⟩⟩⟩ ?_
      exact ih q13.2 F x1 (x2 + 1) hF _ hm
set_option maxRecDepth 100000 in
set_option maxHeartbeats 4000000 in
theorem tX3_readParams {l : Launch} {K : a_KT} {g : a_GT} {IB : iT} (hko : a_kok K) (I : iT) (J : jT) (F : fT) (hF : FK F) (q : iT) (hm : mX3_readParams I F = some q) : C l K g 455 0 0 yX3_readParams cX3_readParams 7 none [.ref 134] (hg I IB J F) (fun r2 h2 => r2 = none ∧ h2 = hg q IB J F) := by
  unfold mX3_readParams at hm
  refine c_of [.ref 134, .null, .null, .null, .null, .null, .null] (by decide) (Nat.le_of_ble_eq_true rfl) rfl ?_
  refine e_aload_n (i := 0) rfl dX3_readParams_0 ?_
  refine e_iconst (v := (-1)) (by decide) dX3_readParams_1 ?_
  refine k_putI 3 6 dX3_readParams_2 fl_RX3_18 rfl rfl iz_134 (by decide) ?_
  refine e_aload_n (i := 0) rfl dX3_readParams_5 ?_
  refine q_getF 3 4 (F 134 4) dX3_readParams_6 fl_RX3_26 rfl iz_134 rfl ?_
  refine q_getF 0 10 ((F 134 4) + 45) dX3_readParams_9 fl_RX3_148 rfl (iz_bk hF.2.2.2.1) (frb_10 hF.1 hF.2.2.2.1) ?_
  obtain ⟨q14, eq14, hm⟩ := ob_some hm
  refine e_cV0 hko dX3_readParams_12 ml_RX3_108 (iz_row (rwb_45 hF.2.2.2.1)) (by decide) rfl (by omega) (Nat.le_of_ble_eq_true rfl) (tX4_size hko (rwb_45 hF.2.2.2.1) (a_u2 I 134 6 ((-1))) J F hF _ eq14) ?_
  rintro _ _ ⟨rfl, rfl⟩
  refine q_istore_n (i := 1) (by decide) rfl dX3_readParams_15 ?_
  refine e_iconst (v := 0) (by decide) dX3_readParams_16 ?_
  refine q_istore_n (i := 2) (by decide) rfl dX3_readParams_17 ?_
  refine e_weak [.ref 134, .int q14, .int 0, .null, .null, .null, .null] ⟨rfl, ⟨rfl, ⟨rfl, ⟨trivial, ⟨trivial, ⟨trivial, ⟨trivial, trivial⟩⟩⟩⟩⟩⟩⟩ ?_
  exact tX3_readParams_18 hko LF (a_u2 I 134 6 ((-1))) F q14 0 hF _ hm
theorem dX3_countWord_0 : decode cX3_countWord 0 = .ok (.iload_n 1, 1) := by decide +kernel
theorem dX3_countWord_1 : decode cX3_countWord 1 = .ok (.sipush 303, 3) := by decide +kernel
theorem dX3_countWord_4 : decode cX3_countWord 4 = .ok (.if_icmp .lt 10, 3) := by decide +kernel
theorem dX3_countWord_7 : decode cX3_countWord 7 = .ok (.iload_n 1, 1) := by decide +kernel
theorem dX3_countWord_8 : decode cX3_countWord 8 = .ok (.sipush 313, 3) := by decide +kernel
theorem dX3_countWord_11 : decode cX3_countWord 11 = .ok (.if_icmp .ne 18, 3) := by decide +kernel
theorem dX3_countWord_14 : decode cX3_countWord 14 = .ok (.aload_n 0, 1) := by decide +kernel
theorem dX3_countWord_15 : decode cX3_countWord 15 = .ok (.getfield 22, 3) := by decide +kernel
theorem dX3_countWord_18 : decode cX3_countWord 18 = .ok (.iconst 1, 1) := by decide +kernel
theorem dX3_countWord_19 : decode cX3_countWord 19 = .ok (.aload_n 0, 1) := by decide +kernel
theorem dX3_countWord_20 : decode cX3_countWord 20 = .ok (.getfield 22, 3) := by decide +kernel
theorem dX3_countWord_23 : decode cX3_countWord 23 = .ok (.getfield 95, 3) := by decide +kernel
theorem dX3_countWord_26 : decode cX3_countWord 26 = .ok (.invokevirtual 104, 3) := by decide +kernel
theorem dX3_countWord_29 : decode cX3_countWord 29 = .ok (.iload_n 1, 1) := by decide +kernel
theorem dX3_countWord_30 : decode cX3_countWord 30 = .ok (.sipush 315, 3) := by decide +kernel
theorem dX3_countWord_33 : decode cX3_countWord 33 = .ok (.if_icmp .ne 28, 3) := by decide +kernel
theorem dX3_countWord_36 : decode cX3_countWord 36 = .ok (.aload_n 0, 1) := by decide +kernel
theorem dX3_countWord_37 : decode cX3_countWord 37 = .ok (.getfield 12, 3) := by decide +kernel
theorem dX3_countWord_40 : decode cX3_countWord 40 = .ok (.invokevirtual 198, 3) := by decide +kernel
theorem dX3_countWord_43 : decode cX3_countWord 43 = .ok (.ifCond .eq 18, 3) := by decide +kernel
theorem dX3_countWord_46 : decode cX3_countWord 46 = .ok (.aload_n 0, 1) := by decide +kernel
theorem dX3_countWord_47 : decode cX3_countWord 47 = .ok (.getfield 22, 3) := by decide +kernel
theorem dX3_countWord_50 : decode cX3_countWord 50 = .ok (.iconst 4, 1) := by decide +kernel
theorem dX3_countWord_51 : decode cX3_countWord 51 = .ok (.aload_n 0, 1) := by decide +kernel
theorem dX3_countWord_52 : decode cX3_countWord 52 = .ok (.getfield 22, 3) := by decide +kernel
theorem dX3_countWord_55 : decode cX3_countWord 55 = .ok (.getfield 95, 3) := by decide +kernel
theorem dX3_countWord_58 : decode cX3_countWord 58 = .ok (.invokevirtual 104, 3) := by decide +kernel
theorem dX3_countWord_61 : decode cX3_countWord 61 = .ok (.iload_n 1, 1) := by decide +kernel
theorem dX3_countWord_62 : decode cX3_countWord 62 = .ok (.sipush 312, 3) := by decide +kernel
theorem dX3_countWord_65 : decode cX3_countWord 65 = .ok (.if_icmp .eq 13, 3) := by decide +kernel
theorem dX3_countWord_68 : decode cX3_countWord 68 = .ok (.aload_n 0, 1) := by decide +kernel
theorem dX3_countWord_69 : decode cX3_countWord 69 = .ok (.dup, 1) := by decide +kernel
theorem dX3_countWord_70 : decode cX3_countWord 70 = .ok (.getfield 127, 3) := by decide +kernel
theorem dX3_countWord_73 : decode cX3_countWord 73 = .ok (.iconst 1, 1) := by decide +kernel
theorem dX3_countWord_74 : decode cX3_countWord 74 = .ok (.iadd, 1) := by decide +kernel
theorem dX3_countWord_75 : decode cX3_countWord 75 = .ok (.putfield 127, 3) := by decide +kernel
theorem dX3_countWord_78 : decode cX3_countWord 78 = .ok (.aload_n 0, 1) := by decide +kernel
theorem dX3_countWord_79 : decode cX3_countWord 79 = .ok (.getfield 127, 3) := by decide +kernel
theorem dX3_countWord_82 : decode cX3_countWord 82 = .ok (.bipush 80, 2) := by decide +kernel
theorem dX3_countWord_84 : decode cX3_countWord 84 = .ok (.if_icmp .le 18, 3) := by decide +kernel
theorem dX3_countWord_87 : decode cX3_countWord 87 = .ok (.aload_n 0, 1) := by decide +kernel
theorem dX3_countWord_88 : decode cX3_countWord 88 = .ok (.getfield 22, 3) := by decide +kernel
theorem dX3_countWord_91 : decode cX3_countWord 91 = .ok (.iconst 5, 1) := by decide +kernel
theorem dX3_countWord_92 : decode cX3_countWord 92 = .ok (.aload_n 0, 1) := by decide +kernel
theorem dX3_countWord_93 : decode cX3_countWord 93 = .ok (.getfield 22, 3) := by decide +kernel
theorem dX3_countWord_96 : decode cX3_countWord 96 = .ok (.getfield 95, 3) := by decide +kernel
theorem dX3_countWord_99 : decode cX3_countWord 99 = .ok (.invokevirtual 104, 3) := by decide +kernel
theorem dX3_countWord_102 : decode cX3_countWord 102 = .ok (.return_, 1) := by decide +kernel
def mX3_countWord_78 (I : iT) (x1 : Int32) : Option (iT) := if (I 134 5) ≤ 80 then some I else (mX2_refuse I 5 (I 6 8)).bind fun q1 => some q1
def mX3_countWord_61 (I : iT) (x1 : Int32) : Option (iT) := if x1 = 312 then mX3_countWord_78 I x1 else mX3_countWord_78 (a_u2 I 134 5 ((I 134 5) + 1)) x1
def mX3_countWord_29 (I : iT) (x1 : Int32) : Option (iT) := if x1 = 315 then (mX5_hasChannels I).bind fun q2 => if q2 = 0 then mX3_countWord_61 I x1 else (mX2_refuse I 4 (I 6 8)).bind fun q3 => mX3_countWord_61 q3 x1 else mX3_countWord_61 I x1
def mX3_countWord_14 (I : iT) (x1 : Int32) : Option (iT) := (mX2_refuse I 1 (I 6 8)).bind fun q4 => mX3_countWord_29 q4 x1
def mX3_countWord (I : iT) (x1 : Int32) : Option (iT) := if x1 < 303 then mX3_countWord_14 I x1 else if x1 = 313 then mX3_countWord_14 I x1 else mX3_countWord_29 I x1
set_option maxRecDepth 100000 in
set_option maxHeartbeats 4000000 in
theorem tX3_countWord_78 {l : Launch} {K : a_KT} {g : a_GT} {IB : iT} (hko : a_kok K) {J : jT} {F : fT} (I : iT) (x1 : Int32) (hF : FK F) (q : iT) (hm : mX3_countWord_78 I x1 = some q) : E l K g 2 0 0 yX3_countWord cX3_countWord 2 none 78 [.ref 134, .int x1] [] (hg I IB J F) (fun r2 h2 => r2 = none ∧ h2 = hg q IB J F) := by
  unfold mX3_countWord_78 at hm
  refine e_aload_n (i := 0) rfl dX3_countWord_78 ?_
  refine k_getI 3 5 dX3_countWord_79 fl_RX3_127 rfl iz_134 (by decide) ?_
  refine e_bipush (v := 80) (by decide) dX3_countWord_82 ?_
  refine e_icmp_le 102 dX3_countWord_84 (by decide) (fun c_84 => ?_) (fun c_84 => ?_)
  · have hm := it_p c_84 hm
    refine e_vret dX3_countWord_102 rfl ?_
    have hm := some_in hm
    subst hm
    exact ⟨rfl, rfl⟩
  · have hm := it_n c_84 hm
    refine e_aload_n (i := 0) rfl dX3_countWord_87 ?_
    refine q_getF 3 0 6 dX3_countWord_88 fl_RX3_22 rfl iz_134 (fr_134_0 hF.1) ?_
    refine e_iconst (v := 5) (by decide) dX3_countWord_91 ?_
    refine e_aload_n (i := 0) rfl dX3_countWord_92 ?_
    refine q_getF 3 0 6 dX3_countWord_93 fl_RX3_22 rfl iz_134 (fr_134_0 hF.1) ?_
    refine k_getI 2 8 dX3_countWord_96 fl_RX3_95 rfl iz_6 (by decide) ?_
    obtain ⟨q1, eq1, hm⟩ := ob_some hm
    refine e_cV2 hko dX3_countWord_99 ml_RX3_104 iz_6 (by decide) rfl (by omega) (Nat.le_of_ble_eq_true rfl) (tX2_refuse hko I J F hF 5 (I 6 8) _ eq1) ?_
    rintro _ _ ⟨rfl, rfl⟩
    refine e_vret dX3_countWord_102 rfl ?_
    have hm := some_in hm
    subst hm
    exact ⟨rfl, rfl⟩
set_option maxRecDepth 100000 in
set_option maxHeartbeats 4000000 in
theorem tX3_countWord_61 {l : Launch} {K : a_KT} {g : a_GT} {IB : iT} (hko : a_kok K) {J : jT} {F : fT} (I : iT) (x1 : Int32) (hF : FK F) (q : iT) (hm : mX3_countWord_61 I x1 = some q) : E l K g 2 0 0 yX3_countWord cX3_countWord 2 none 61 [.ref 134, .int x1] [] (hg I IB J F) (fun r2 h2 => r2 = none ∧ h2 = hg q IB J F) := by
  unfold mX3_countWord_61 at hm
  refine e_iload_n (i := 1) rfl dX3_countWord_61 ?_
  refine e_sipush (v := 312) (by decide) dX3_countWord_62 ?_
  refine e_icmp_eq 78 dX3_countWord_65 (by decide) (fun c_65 => ?_) (fun c_65 => ?_)
  · have hm := it_p c_65 hm
    refine e_weak [.ref 134, .int x1] ⟨rfl, ⟨rfl, trivial⟩⟩ ?_
    exact tX3_countWord_78 hko I x1 hF _ hm
  · have hm := it_n c_65 hm
    refine e_aload_n (i := 0) rfl dX3_countWord_68 ?_
    refine e_dup rfl dX3_countWord_69 ?_
    refine k_getI 3 5 dX3_countWord_70 fl_RX3_127 rfl iz_134 (by decide) ?_
    refine e_iconst (v := 1) (by decide) dX3_countWord_73 ?_
    refine e_iadd dX3_countWord_74 ?_
    refine k_putI 3 5 dX3_countWord_75 fl_RX3_127 rfl rfl iz_134 (by decide) ?_
    refine e_weak [.ref 134, .int x1] ⟨rfl, ⟨rfl, trivial⟩⟩ ?_
    exact tX3_countWord_78 hko (a_u2 I 134 5 ((I 134 5) + 1)) x1 hF _ hm
set_option maxRecDepth 100000 in
set_option maxHeartbeats 4000000 in
theorem tX3_countWord_29 {l : Launch} {K : a_KT} {g : a_GT} {IB : iT} (hko : a_kok K) {J : jT} {F : fT} (I : iT) (x1 : Int32) (hF : FK F) (q : iT) (hm : mX3_countWord_29 I x1 = some q) : E l K g 2 0 0 yX3_countWord cX3_countWord 2 none 29 [.ref 134, .int x1] [] (hg I IB J F) (fun r2 h2 => r2 = none ∧ h2 = hg q IB J F) := by
  unfold mX3_countWord_29 at hm
  refine e_iload_n (i := 1) rfl dX3_countWord_29 ?_
  refine e_sipush (v := 315) (by decide) dX3_countWord_30 ?_
  refine e_icmp_ne 61 dX3_countWord_33 (by decide) (fun c_33 => ?_) (fun c_33 => ?_)
  · have hm := it_n c_33 hm
    refine e_weak [.ref 134, .int x1] ⟨rfl, ⟨rfl, trivial⟩⟩ ?_
    exact tX3_countWord_61 hko I x1 hF _ hm
  · have hm := it_p c_33 hm
    refine e_aload_n (i := 0) rfl dX3_countWord_36 ?_
    refine q_getF 3 1 135 dX3_countWord_37 fl_RX3_12 rfl iz_134 (fr_134_1 hF.1) ?_
    obtain ⟨q2, eq2, hm⟩ := ob_some hm
    refine e_cV0 hko dX3_countWord_40 ml_RX3_198 iz_135 (by decide) rfl (by omega) (Nat.le_of_ble_eq_true rfl) (tX5_hasChannels hko I J F hF _ eq2) ?_
    rintro _ _ ⟨rfl, rfl⟩
    refine e_if_eq 61 dX3_countWord_43 (by decide) (fun c_43 => ?_) (fun c_43 => ?_)
    · have hm := it_p c_43 hm
      refine e_weak [.ref 134, .int x1] ⟨rfl, ⟨rfl, trivial⟩⟩ ?_
      exact tX3_countWord_61 hko I x1 hF _ hm
    · have hm := it_n c_43 hm
      refine e_aload_n (i := 0) rfl dX3_countWord_46 ?_
      refine q_getF 3 0 6 dX3_countWord_47 fl_RX3_22 rfl iz_134 (fr_134_0 hF.1) ?_
      refine e_iconst (v := 4) (by decide) dX3_countWord_50 ?_
      refine e_aload_n (i := 0) rfl dX3_countWord_51 ?_
      refine q_getF 3 0 6 dX3_countWord_52 fl_RX3_22 rfl iz_134 (fr_134_0 hF.1) ?_
      refine k_getI 2 8 dX3_countWord_55 fl_RX3_95 rfl iz_6 (by decide) ?_
      obtain ⟨q3, eq3, hm⟩ := ob_some hm
      refine e_cV2 hko dX3_countWord_58 ml_RX3_104 iz_6 (by decide) rfl (by omega) (Nat.le_of_ble_eq_true rfl) (tX2_refuse hko I J F hF 4 (I 6 8) _ eq3) ?_
      rintro _ _ ⟨rfl, rfl⟩
      refine e_weak [.ref 134, .int x1] ⟨rfl, ⟨rfl, trivial⟩⟩ ?_
      exact tX3_countWord_61 hko q3 x1 hF _ hm
set_option maxRecDepth 100000 in
set_option maxHeartbeats 4000000 in
theorem tX3_countWord_14 {l : Launch} {K : a_KT} {g : a_GT} {IB : iT} (hko : a_kok K) {J : jT} {F : fT} (I : iT) (x1 : Int32) (hF : FK F) (q : iT) (hm : mX3_countWord_14 I x1 = some q) : E l K g 2 0 0 yX3_countWord cX3_countWord 2 none 14 [.ref 134, .int x1] [] (hg I IB J F) (fun r2 h2 => r2 = none ∧ h2 = hg q IB J F) := by
  unfold mX3_countWord_14 at hm
  refine e_aload_n (i := 0) rfl dX3_countWord_14 ?_
  refine q_getF 3 0 6 dX3_countWord_15 fl_RX3_22 rfl iz_134 (fr_134_0 hF.1) ?_
  refine e_iconst (v := 1) (by decide) dX3_countWord_18 ?_
  refine e_aload_n (i := 0) rfl dX3_countWord_19 ?_
  refine q_getF 3 0 6 dX3_countWord_20 fl_RX3_22 rfl iz_134 (fr_134_0 hF.1) ?_
  refine k_getI 2 8 dX3_countWord_23 fl_RX3_95 rfl iz_6 (by decide) ?_
  obtain ⟨q4, eq4, hm⟩ := ob_some hm
  refine e_cV2 hko dX3_countWord_26 ml_RX3_104 iz_6 (by decide) rfl (by omega) (Nat.le_of_ble_eq_true rfl) (tX2_refuse hko I J F hF 1 (I 6 8) _ eq4) ?_
  rintro _ _ ⟨rfl, rfl⟩
  refine e_weak [.ref 134, .int x1] ⟨rfl, ⟨rfl, trivial⟩⟩ ?_
  exact tX3_countWord_29 hko q4 x1 hF _ hm
set_option maxRecDepth 100000 in
set_option maxHeartbeats 4000000 in
theorem tX3_countWord {l : Launch} {K : a_KT} {g : a_GT} {IB : iT} (hko : a_kok K) (I : iT) (J : jT) (F : fT) (hF : FK F) (x1 : Int32) (q : iT) (hm : mX3_countWord I x1 = some q) : C l K g 2 0 0 yX3_countWord cX3_countWord 2 none [.ref 134, .int x1] (hg I IB J F) (fun r2 h2 => r2 = none ∧ h2 = hg q IB J F) := by
  unfold mX3_countWord at hm
  refine c_of [.ref 134, .int x1] (by decide) (Nat.le_of_ble_eq_true rfl) rfl ?_
  refine e_iload_n (i := 1) rfl dX3_countWord_0 ?_
  refine e_sipush (v := 303) (by decide) dX3_countWord_1 ?_
  refine e_icmp_lt 14 dX3_countWord_4 (by decide) (fun c_4 => ?_) (fun c_4 => ?_)
  · have hm := it_p c_4 hm
    refine e_weak [.ref 134, .int x1] ⟨rfl, ⟨rfl, trivial⟩⟩ ?_
    exact tX3_countWord_14 hko I x1 hF _ hm
  · have hm := it_n c_4 hm
    refine e_iload_n (i := 1) rfl dX3_countWord_7 ?_
    refine e_sipush (v := 313) (by decide) dX3_countWord_8 ?_
    refine e_icmp_ne 29 dX3_countWord_11 (by decide) (fun c_11 => ?_) (fun c_11 => ?_)
    · have hm := it_n c_11 hm
      refine e_weak [.ref 134, .int x1] ⟨rfl, ⟨rfl, trivial⟩⟩ ?_
      exact tX3_countWord_29 hko I x1 hF _ hm
    · have hm := it_p c_11 hm
      refine e_weak [.ref 134, .int x1] ⟨rfl, ⟨rfl, trivial⟩⟩ ?_
      exact tX3_countWord_14 hko I x1 hF _ hm
theorem dX3_talkFor_0 : decode cX3_talkFor 0 = .ok (.iload_n 0, 1) := by decide +kernel
theorem dX3_talkFor_1 : decode cX3_talkFor 1 = .ok (.tableswitch 171 303 316 #[99, 111, 123, 135, 147, 159, 171, 171, 171, 171, 171, 171, 71, 85], 71) := by decide +kernel
theorem dX3_talkFor_72 : decode cX3_talkFor 72 = .ok (.iload_n 1, 1) := by decide +kernel
theorem dX3_talkFor_73 : decode cX3_talkFor 73 = .ok (.ifCond .eq 9, 3) := by decide +kernel
theorem dX3_talkFor_76 : decode cX3_talkFor 76 = .ok (.sipush 302, 3) := by decide +kernel
theorem dX3_talkFor_79 : decode cX3_talkFor 79 = .ok (.goto 6, 3) := by decide +kernel
theorem dX3_talkFor_82 : decode cX3_talkFor 82 = .ok (.sipush 259, 3) := by decide +kernel
theorem dX3_talkFor_85 : decode cX3_talkFor 85 = .ok (.ireturn, 1) := by decide +kernel
theorem dX3_talkFor_86 : decode cX3_talkFor 86 = .ok (.iload_n 1, 1) := by decide +kernel
theorem dX3_talkFor_87 : decode cX3_talkFor 87 = .ok (.ifCond .eq 9, 3) := by decide +kernel
theorem dX3_talkFor_90 : decode cX3_talkFor 90 = .ok (.sipush 259, 3) := by decide +kernel
theorem dX3_talkFor_93 : decode cX3_talkFor 93 = .ok (.goto 6, 3) := by decide +kernel
theorem dX3_talkFor_96 : decode cX3_talkFor 96 = .ok (.sipush 302, 3) := by decide +kernel
theorem dX3_talkFor_99 : decode cX3_talkFor 99 = .ok (.ireturn, 1) := by decide +kernel
theorem dX3_talkFor_100 : decode cX3_talkFor 100 = .ok (.iload_n 1, 1) := by decide +kernel
theorem dX3_talkFor_101 : decode cX3_talkFor 101 = .ok (.ifCond .eq 8, 3) := by decide +kernel
theorem dX3_talkFor_104 : decode cX3_talkFor 104 = .ok (.bipush 33, 2) := by decide +kernel
theorem dX3_talkFor_106 : decode cX3_talkFor 106 = .ok (.goto 5, 3) := by decide +kernel
theorem dX3_talkFor_109 : decode cX3_talkFor 109 = .ok (.bipush 63, 2) := by decide +kernel
theorem dX3_talkFor_111 : decode cX3_talkFor 111 = .ok (.ireturn, 1) := by decide +kernel
theorem dX3_talkFor_112 : decode cX3_talkFor 112 = .ok (.iload_n 1, 1) := by decide +kernel
theorem dX3_talkFor_113 : decode cX3_talkFor 113 = .ok (.ifCond .eq 8, 3) := by decide +kernel
theorem dX3_talkFor_116 : decode cX3_talkFor 116 = .ok (.bipush 63, 2) := by decide +kernel
theorem dX3_talkFor_118 : decode cX3_talkFor 118 = .ok (.goto 5, 3) := by decide +kernel
theorem dX3_talkFor_121 : decode cX3_talkFor 121 = .ok (.bipush 33, 2) := by decide +kernel
theorem dX3_talkFor_123 : decode cX3_talkFor 123 = .ok (.ireturn, 1) := by decide +kernel
theorem dX3_talkFor_124 : decode cX3_talkFor 124 = .ok (.iload_n 1, 1) := by decide +kernel
theorem dX3_talkFor_125 : decode cX3_talkFor 125 = .ok (.ifCond .eq 8, 3) := by decide +kernel
theorem dX3_talkFor_128 : decode cX3_talkFor 128 = .ok (.bipush 62, 2) := by decide +kernel
theorem dX3_talkFor_130 : decode cX3_talkFor 130 = .ok (.goto 5, 3) := by decide +kernel
theorem dX3_talkFor_133 : decode cX3_talkFor 133 = .ok (.bipush 60, 2) := by decide +kernel
theorem dX3_talkFor_135 : decode cX3_talkFor 135 = .ok (.ireturn, 1) := by decide +kernel
theorem dX3_talkFor_136 : decode cX3_talkFor 136 = .ok (.iload_n 1, 1) := by decide +kernel
theorem dX3_talkFor_137 : decode cX3_talkFor 137 = .ok (.ifCond .eq 8, 3) := by decide +kernel
theorem dX3_talkFor_140 : decode cX3_talkFor 140 = .ok (.bipush 60, 2) := by decide +kernel
theorem dX3_talkFor_142 : decode cX3_talkFor 142 = .ok (.goto 5, 3) := by decide +kernel
theorem dX3_talkFor_145 : decode cX3_talkFor 145 = .ok (.bipush 62, 2) := by decide +kernel
theorem dX3_talkFor_147 : decode cX3_talkFor 147 = .ok (.ireturn, 1) := by decide +kernel
theorem dX3_talkFor_148 : decode cX3_talkFor 148 = .ok (.iload_n 1, 1) := by decide +kernel
theorem dX3_talkFor_149 : decode cX3_talkFor 149 = .ok (.ifCond .eq 8, 3) := by decide +kernel
theorem dX3_talkFor_152 : decode cX3_talkFor 152 = .ok (.bipush 43, 2) := by decide +kernel
theorem dX3_talkFor_154 : decode cX3_talkFor 154 = .ok (.goto 5, 3) := by decide +kernel
theorem dX3_talkFor_157 : decode cX3_talkFor 157 = .ok (.bipush 38, 2) := by decide +kernel
theorem dX3_talkFor_159 : decode cX3_talkFor 159 = .ok (.ireturn, 1) := by decide +kernel
theorem dX3_talkFor_160 : decode cX3_talkFor 160 = .ok (.iload_n 1, 1) := by decide +kernel
theorem dX3_talkFor_161 : decode cX3_talkFor 161 = .ok (.ifCond .eq 8, 3) := by decide +kernel
theorem dX3_talkFor_164 : decode cX3_talkFor 164 = .ok (.bipush 38, 2) := by decide +kernel
theorem dX3_talkFor_166 : decode cX3_talkFor 166 = .ok (.goto 5, 3) := by decide +kernel
theorem dX3_talkFor_169 : decode cX3_talkFor 169 = .ok (.bipush 43, 2) := by decide +kernel
theorem dX3_talkFor_171 : decode cX3_talkFor 171 = .ok (.ireturn, 1) := by decide +kernel
theorem dX3_talkFor_172 : decode cX3_talkFor 172 = .ok (.sipush 259, 3) := by decide +kernel
theorem dX3_talkFor_175 : decode cX3_talkFor 175 = .ok (.ireturn, 1) := by decide +kernel
def mX3_talkFor (x0 : Int32) (x1 : Int32) : Option (Int32) := if x0 = 303 then if x1 = 0 then some 63 else some 33 else if x0 = 304 then if x1 = 0 then some 33 else some 63 else if x0 = 305 then if x1 = 0 then some 60 else some 62 else if x0 = 306 then if x1 = 0 then some 62 else some 60 else if x0 = 307 then if x1 = 0 then some 38 else some 43 else if x0 = 308 then if x1 = 0 then some 43 else some 38 else if x0 = 309 then some 259 else if x0 = 310 then some 259 else if x0 = 311 then some 259 else if x0 = 312 then some 259 else if x0 = 313 then some 259 else if x0 = 314 then some 259 else if x0 = 315 then if x1 = 0 then some 259 else some 302 else if x0 = 316 then if x1 = 0 then some 302 else some 259 else some 259
set_option maxRecDepth 100000 in
set_option maxHeartbeats 4000000 in
theorem tX3_talkFor {l : Launch} {K : a_KT} {g : a_GT} {IB : iT} (hko : a_kok K) (I : iT) (J : jT) (F : fT) (hF : FK F) (x0 : Int32) (x1 : Int32) (q : Int32) (hm : mX3_talkFor x0 x1 = some q) : C l K g 0 0 0 yX3_talkFor cX3_talkFor 2 (some .int) [.int x0, .int x1] (hg I IB J F) (fun r2 h2 => r2 = some (.int q) ∧ h2 = hg I IB J F) := by
  unfold mX3_talkFor at hm
  refine c_of [.int x0, .int x1] (by decide) (Nat.le_of_ble_eq_true rfl) rfl ?_
  refine e_iload_n (i := 0) rfl dX3_talkFor_0 ?_
  by_cases c_1_0 : x0 = 303
  · have hm := it_p c_1_0 hm
    refine e_tableIn 100 dX3_talkFor_1 (by rw [c_1_0]; decide) (by rw [c_1_0]; decide) (off := 99) (by rw [c_1_0]; decide) (by decide) ?_
    refine e_iload_n (i := 1) rfl dX3_talkFor_100 ?_
    refine e_if_eq 109 dX3_talkFor_101 (by decide) (fun c_101 => ?_) (fun c_101 => ?_)
    · have hm := it_p c_101 hm
      refine e_bipush (v := 63) (by decide) dX3_talkFor_109 ?_
      refine e_iret dX3_talkFor_111 rfl ?_
      have hm := some_in hm
      subst hm
      exact ⟨rfl, rfl⟩
    · have hm := it_n c_101 hm
      refine e_bipush (v := 33) (by decide) dX3_talkFor_104 ?_
      refine e_goto 111 dX3_talkFor_106 (by decide) ?_
      refine e_iret dX3_talkFor_111 rfl ?_
      have hm := some_in hm
      subst hm
      exact ⟨rfl, rfl⟩
  have hm := it_n c_1_0 hm
  by_cases c_1_1 : x0 = 304
  · have hm := it_p c_1_1 hm
    refine e_tableIn 112 dX3_talkFor_1 (by rw [c_1_1]; decide) (by rw [c_1_1]; decide) (off := 111) (by rw [c_1_1]; decide) (by decide) ?_
    refine e_iload_n (i := 1) rfl dX3_talkFor_112 ?_
    refine e_if_eq 121 dX3_talkFor_113 (by decide) (fun c_113 => ?_) (fun c_113 => ?_)
    · have hm := it_p c_113 hm
      refine e_bipush (v := 33) (by decide) dX3_talkFor_121 ?_
      refine e_iret dX3_talkFor_123 rfl ?_
      have hm := some_in hm
      subst hm
      exact ⟨rfl, rfl⟩
    · have hm := it_n c_113 hm
      refine e_bipush (v := 63) (by decide) dX3_talkFor_116 ?_
      refine e_goto 123 dX3_talkFor_118 (by decide) ?_
      refine e_iret dX3_talkFor_123 rfl ?_
      have hm := some_in hm
      subst hm
      exact ⟨rfl, rfl⟩
  have hm := it_n c_1_1 hm
  by_cases c_1_2 : x0 = 305
  · have hm := it_p c_1_2 hm
    refine e_tableIn 124 dX3_talkFor_1 (by rw [c_1_2]; decide) (by rw [c_1_2]; decide) (off := 123) (by rw [c_1_2]; decide) (by decide) ?_
    refine e_iload_n (i := 1) rfl dX3_talkFor_124 ?_
    refine e_if_eq 133 dX3_talkFor_125 (by decide) (fun c_125 => ?_) (fun c_125 => ?_)
    · have hm := it_p c_125 hm
      refine e_bipush (v := 60) (by decide) dX3_talkFor_133 ?_
      refine e_iret dX3_talkFor_135 rfl ?_
      have hm := some_in hm
      subst hm
      exact ⟨rfl, rfl⟩
    · have hm := it_n c_125 hm
      refine e_bipush (v := 62) (by decide) dX3_talkFor_128 ?_
      refine e_goto 135 dX3_talkFor_130 (by decide) ?_
      refine e_iret dX3_talkFor_135 rfl ?_
      have hm := some_in hm
      subst hm
      exact ⟨rfl, rfl⟩
  have hm := it_n c_1_2 hm
  by_cases c_1_3 : x0 = 306
  · have hm := it_p c_1_3 hm
    refine e_tableIn 136 dX3_talkFor_1 (by rw [c_1_3]; decide) (by rw [c_1_3]; decide) (off := 135) (by rw [c_1_3]; decide) (by decide) ?_
    refine e_iload_n (i := 1) rfl dX3_talkFor_136 ?_
    refine e_if_eq 145 dX3_talkFor_137 (by decide) (fun c_137 => ?_) (fun c_137 => ?_)
    · have hm := it_p c_137 hm
      refine e_bipush (v := 62) (by decide) dX3_talkFor_145 ?_
      refine e_iret dX3_talkFor_147 rfl ?_
      have hm := some_in hm
      subst hm
      exact ⟨rfl, rfl⟩
    · have hm := it_n c_137 hm
      refine e_bipush (v := 60) (by decide) dX3_talkFor_140 ?_
      refine e_goto 147 dX3_talkFor_142 (by decide) ?_
      refine e_iret dX3_talkFor_147 rfl ?_
      have hm := some_in hm
      subst hm
      exact ⟨rfl, rfl⟩
  have hm := it_n c_1_3 hm
  by_cases c_1_4 : x0 = 307
  · have hm := it_p c_1_4 hm
    refine e_tableIn 148 dX3_talkFor_1 (by rw [c_1_4]; decide) (by rw [c_1_4]; decide) (off := 147) (by rw [c_1_4]; decide) (by decide) ?_
    refine e_iload_n (i := 1) rfl dX3_talkFor_148 ?_
    refine e_if_eq 157 dX3_talkFor_149 (by decide) (fun c_149 => ?_) (fun c_149 => ?_)
    · have hm := it_p c_149 hm
      refine e_bipush (v := 38) (by decide) dX3_talkFor_157 ?_
      refine e_iret dX3_talkFor_159 rfl ?_
      have hm := some_in hm
      subst hm
      exact ⟨rfl, rfl⟩
    · have hm := it_n c_149 hm
      refine e_bipush (v := 43) (by decide) dX3_talkFor_152 ?_
      refine e_goto 159 dX3_talkFor_154 (by decide) ?_
      refine e_iret dX3_talkFor_159 rfl ?_
      have hm := some_in hm
      subst hm
      exact ⟨rfl, rfl⟩
  have hm := it_n c_1_4 hm
  by_cases c_1_5 : x0 = 308
  · have hm := it_p c_1_5 hm
    refine e_tableIn 160 dX3_talkFor_1 (by rw [c_1_5]; decide) (by rw [c_1_5]; decide) (off := 159) (by rw [c_1_5]; decide) (by decide) ?_
    refine e_iload_n (i := 1) rfl dX3_talkFor_160 ?_
    refine e_if_eq 169 dX3_talkFor_161 (by decide) (fun c_161 => ?_) (fun c_161 => ?_)
    · have hm := it_p c_161 hm
      refine e_bipush (v := 43) (by decide) dX3_talkFor_169 ?_
      refine e_iret dX3_talkFor_171 rfl ?_
      have hm := some_in hm
      subst hm
      exact ⟨rfl, rfl⟩
    · have hm := it_n c_161 hm
      refine e_bipush (v := 38) (by decide) dX3_talkFor_164 ?_
      refine e_goto 171 dX3_talkFor_166 (by decide) ?_
      refine e_iret dX3_talkFor_171 rfl ?_
      have hm := some_in hm
      subst hm
      exact ⟨rfl, rfl⟩
  have hm := it_n c_1_5 hm
  by_cases c_1_6 : x0 = 309
  · have hm := it_p c_1_6 hm
    refine e_tableIn 172 dX3_talkFor_1 (by rw [c_1_6]; decide) (by rw [c_1_6]; decide) (off := 171) (by rw [c_1_6]; decide) (by decide) ?_
    refine e_sipush (v := 259) (by decide) dX3_talkFor_172 ?_
    refine e_iret dX3_talkFor_175 rfl ?_
    have hm := some_in hm
    subst hm
    exact ⟨rfl, rfl⟩
  have hm := it_n c_1_6 hm
  by_cases c_1_7 : x0 = 310
  · have hm := it_p c_1_7 hm
    refine e_tableIn 172 dX3_talkFor_1 (by rw [c_1_7]; decide) (by rw [c_1_7]; decide) (off := 171) (by rw [c_1_7]; decide) (by decide) ?_
    refine e_sipush (v := 259) (by decide) dX3_talkFor_172 ?_
    refine e_iret dX3_talkFor_175 rfl ?_
    have hm := some_in hm
    subst hm
    exact ⟨rfl, rfl⟩
  have hm := it_n c_1_7 hm
  by_cases c_1_8 : x0 = 311
  · have hm := it_p c_1_8 hm
    refine e_tableIn 172 dX3_talkFor_1 (by rw [c_1_8]; decide) (by rw [c_1_8]; decide) (off := 171) (by rw [c_1_8]; decide) (by decide) ?_
    refine e_sipush (v := 259) (by decide) dX3_talkFor_172 ?_
    refine e_iret dX3_talkFor_175 rfl ?_
    have hm := some_in hm
    subst hm
    exact ⟨rfl, rfl⟩
  have hm := it_n c_1_8 hm
  by_cases c_1_9 : x0 = 312
  · have hm := it_p c_1_9 hm
    refine e_tableIn 172 dX3_talkFor_1 (by rw [c_1_9]; decide) (by rw [c_1_9]; decide) (off := 171) (by rw [c_1_9]; decide) (by decide) ?_
    refine e_sipush (v := 259) (by decide) dX3_talkFor_172 ?_
    refine e_iret dX3_talkFor_175 rfl ?_
    have hm := some_in hm
    subst hm
    exact ⟨rfl, rfl⟩
  have hm := it_n c_1_9 hm
  by_cases c_1_10 : x0 = 313
  · have hm := it_p c_1_10 hm
    refine e_tableIn 172 dX3_talkFor_1 (by rw [c_1_10]; decide) (by rw [c_1_10]; decide) (off := 171) (by rw [c_1_10]; decide) (by decide) ?_
    refine e_sipush (v := 259) (by decide) dX3_talkFor_172 ?_
    refine e_iret dX3_talkFor_175 rfl ?_
    have hm := some_in hm
    subst hm
    exact ⟨rfl, rfl⟩
  have hm := it_n c_1_10 hm
  by_cases c_1_11 : x0 = 314
  · have hm := it_p c_1_11 hm
    refine e_tableIn 172 dX3_talkFor_1 (by rw [c_1_11]; decide) (by rw [c_1_11]; decide) (off := 171) (by rw [c_1_11]; decide) (by decide) ?_
    refine e_sipush (v := 259) (by decide) dX3_talkFor_172 ?_
    refine e_iret dX3_talkFor_175 rfl ?_
    have hm := some_in hm
    subst hm
    exact ⟨rfl, rfl⟩
  have hm := it_n c_1_11 hm
  by_cases c_1_12 : x0 = 315
  · have hm := it_p c_1_12 hm
    refine e_tableIn 72 dX3_talkFor_1 (by rw [c_1_12]; decide) (by rw [c_1_12]; decide) (off := 71) (by rw [c_1_12]; decide) (by decide) ?_
    refine e_iload_n (i := 1) rfl dX3_talkFor_72 ?_
    refine e_if_eq 82 dX3_talkFor_73 (by decide) (fun c_73 => ?_) (fun c_73 => ?_)
    · have hm := it_p c_73 hm
      refine e_sipush (v := 259) (by decide) dX3_talkFor_82 ?_
      refine e_iret dX3_talkFor_85 rfl ?_
      have hm := some_in hm
      subst hm
      exact ⟨rfl, rfl⟩
    · have hm := it_n c_73 hm
      refine e_sipush (v := 302) (by decide) dX3_talkFor_76 ?_
      refine e_goto 85 dX3_talkFor_79 (by decide) ?_
      refine e_iret dX3_talkFor_85 rfl ?_
      have hm := some_in hm
      subst hm
      exact ⟨rfl, rfl⟩
  have hm := it_n c_1_12 hm
  by_cases c_1_13 : x0 = 316
  · have hm := it_p c_1_13 hm
    refine e_tableIn 86 dX3_talkFor_1 (by rw [c_1_13]; decide) (by rw [c_1_13]; decide) (off := 85) (by rw [c_1_13]; decide) (by decide) ?_
    refine e_iload_n (i := 1) rfl dX3_talkFor_86 ?_
    refine e_if_eq 96 dX3_talkFor_87 (by decide) (fun c_87 => ?_) (fun c_87 => ?_)
    · have hm := it_p c_87 hm
      refine e_sipush (v := 302) (by decide) dX3_talkFor_96 ?_
      refine e_iret dX3_talkFor_99 rfl ?_
      have hm := some_in hm
      subst hm
      exact ⟨rfl, rfl⟩
    · have hm := it_n c_87 hm
      refine e_sipush (v := 259) (by decide) dX3_talkFor_90 ?_
      refine e_goto 99 dX3_talkFor_93 (by decide) ?_
      refine e_iret dX3_talkFor_99 rfl ?_
      have hm := some_in hm
      subst hm
      exact ⟨rfl, rfl⟩
  have hm := it_n c_1_13 hm
  have n_1_0 := lv_neT (a := 303) c_1_0 (by decide)
  have n_1_1 := lv_neT (a := 304) c_1_1 (by decide)
  have n_1_2 := lv_neT (a := 305) c_1_2 (by decide)
  have n_1_3 := lv_neT (a := 306) c_1_3 (by decide)
  have n_1_4 := lv_neT (a := 307) c_1_4 (by decide)
  have n_1_5 := lv_neT (a := 308) c_1_5 (by decide)
  have n_1_6 := lv_neT (a := 309) c_1_6 (by decide)
  have n_1_7 := lv_neT (a := 310) c_1_7 (by decide)
  have n_1_8 := lv_neT (a := 311) c_1_8 (by decide)
  have n_1_9 := lv_neT (a := 312) c_1_9 (by decide)
  have n_1_10 := lv_neT (a := 313) c_1_10 (by decide)
  have n_1_11 := lv_neT (a := 314) c_1_11 (by decide)
  have n_1_12 := lv_neT (a := 315) c_1_12 (by decide)
  have n_1_13 := lv_neT (a := 316) c_1_13 (by decide)
  refine e_tableOut 172 dX3_talkFor_1 (by omega) (by decide) ?_
  refine e_sipush (v := 259) (by decide) dX3_talkFor_172 ?_
  refine e_iret dX3_talkFor_175 rfl ?_
  have hm := some_in hm
  subst hm
  exact ⟨rfl, rfl⟩
theorem dX3_readChannel_0 : decode cX3_readChannel 0 = .ok (.aload_n 0, 1) := by decide +kernel
theorem dX3_readChannel_1 : decode cX3_readChannel 1 = .ok (.getfield 22, 3) := by decide +kernel
theorem dX3_readChannel_4 : decode cX3_readChannel 4 = .ok (.getfield 95, 3) := by decide +kernel
theorem dX3_readChannel_7 : decode cX3_readChannel 7 = .ok (.istore_n 2, 1) := by decide +kernel
theorem dX3_readChannel_8 : decode cX3_readChannel 8 = .ok (.aload_n 0, 1) := by decide +kernel
theorem dX3_readChannel_9 : decode cX3_readChannel 9 = .ok (.getfield 12, 3) := by decide +kernel
theorem dX3_readChannel_12 : decode cX3_readChannel 12 = .ok (.aload_n 0, 1) := by decide +kernel
theorem dX3_readChannel_13 : decode cX3_readChannel 13 = .ok (.getfield 22, 3) := by decide +kernel
theorem dX3_readChannel_16 : decode cX3_readChannel 16 = .ok (.invokevirtual 98, 3) := by decide +kernel
theorem dX3_readChannel_19 : decode cX3_readChannel 19 = .ok (.invokevirtual 163, 3) := by decide +kernel
theorem dX3_readChannel_22 : decode cX3_readChannel 22 = .ok (.istore_n 3, 1) := by decide +kernel
theorem dX3_readChannel_23 : decode cX3_readChannel 23 = .ok (.aload_n 0, 1) := by decide +kernel
theorem dX3_readChannel_24 : decode cX3_readChannel 24 = .ok (.getfield 12, 3) := by decide +kernel
theorem dX3_readChannel_27 : decode cX3_readChannel 27 = .ok (.iload_n 3, 1) := by decide +kernel
theorem dX3_readChannel_28 : decode cX3_readChannel 28 = .ok (.invokevirtual 236, 3) := by decide +kernel
theorem dX3_readChannel_31 : decode cX3_readChannel 31 = .ok (.istore 4, 2) := by decide +kernel
theorem dX3_readChannel_33 : decode cX3_readChannel 33 = .ok (.iload 4, 2) := by decide +kernel
theorem dX3_readChannel_35 : decode cX3_readChannel 35 = .ok (.iconst (-1), 1) := by decide +kernel
theorem dX3_readChannel_36 : decode cX3_readChannel 36 = .ok (.if_icmp .ne 12, 3) := by decide +kernel
theorem dX3_readChannel_39 : decode cX3_readChannel 39 = .ok (.aload_n 0, 1) := by decide +kernel
theorem dX3_readChannel_40 : decode cX3_readChannel 40 = .ok (.getfield 22, 3) := by decide +kernel
theorem dX3_readChannel_43 : decode cX3_readChannel 43 = .ok (.iconst 2, 1) := by decide +kernel
theorem dX3_readChannel_44 : decode cX3_readChannel 44 = .ok (.iload_n 2, 1) := by decide +kernel
theorem dX3_readChannel_45 : decode cX3_readChannel 45 = .ok (.invokevirtual 104, 3) := by decide +kernel
theorem dX3_readChannel_48 : decode cX3_readChannel 48 = .ok (.aload_n 0, 1) := by decide +kernel
theorem dX3_readChannel_49 : decode cX3_readChannel 49 = .ok (.getfield 26, 3) := by decide +kernel
theorem dX3_readChannel_52 : decode cX3_readChannel 52 = .ok (.getfield 239, 3) := by decide +kernel
theorem dX3_readChannel_55 : decode cX3_readChannel 55 = .ok (.getfield 272, 3) := by decide +kernel
theorem dX3_readChannel_58 : decode cX3_readChannel 58 = .ok (.iload 4, 2) := by decide +kernel
theorem dX3_readChannel_60 : decode cX3_readChannel 60 = .ok (.invokevirtual 257, 3) := by decide +kernel
theorem dX3_readChannel_63 : decode cX3_readChannel 63 = .ok (.iload_n 1, 1) := by decide +kernel
theorem dX3_readChannel_64 : decode cX3_readChannel 64 = .ok (.iload_n 3, 1) := by decide +kernel
theorem dX3_readChannel_65 : decode cX3_readChannel 65 = .ok (.ifCond .ne 7, 3) := by decide +kernel
theorem dX3_readChannel_68 : decode cX3_readChannel 68 = .ok (.iconst 1, 1) := by decide +kernel
theorem dX3_readChannel_69 : decode cX3_readChannel 69 = .ok (.goto 4, 3) := by decide +kernel
theorem dX3_readChannel_72 : decode cX3_readChannel 72 = .ok (.iconst 0, 1) := by decide +kernel
theorem dX3_readChannel_73 : decode cX3_readChannel 73 = .ok (.invokestatic 275, 3) := by decide +kernel
theorem dX3_readChannel_76 : decode cX3_readChannel 76 = .ok (.if_icmp .eq 12, 3) := by decide +kernel
theorem dX3_readChannel_79 : decode cX3_readChannel 79 = .ok (.aload_n 0, 1) := by decide +kernel
theorem dX3_readChannel_80 : decode cX3_readChannel 80 = .ok (.getfield 22, 3) := by decide +kernel
theorem dX3_readChannel_83 : decode cX3_readChannel 83 = .ok (.iconst 3, 1) := by decide +kernel
theorem dX3_readChannel_84 : decode cX3_readChannel 84 = .ok (.iload_n 2, 1) := by decide +kernel
theorem dX3_readChannel_85 : decode cX3_readChannel 85 = .ok (.invokevirtual 104, 3) := by decide +kernel
theorem dX3_readChannel_88 : decode cX3_readChannel 88 = .ok (.iload_n 3, 1) := by decide +kernel
theorem dX3_readChannel_89 : decode cX3_readChannel 89 = .ok (.ireturn, 1) := by decide +kernel
def mX3_readChannel_73 (I : iT) (F : fT) (x1 : Int32) (x2 : Int32) (x3 : Int32) (x4 : Int32) (s0 : Int32) (s1 : Int32) (s2 : Int32) : Option (Int32 × iT) := (mX3_talkFor s1 s0).bind fun q1 => if s2 = q1 then some (x3, I) else (mX2_refuse I 3 x2).bind fun q2 => some (x3, q2)
def mX3_readChannel_48 (I : iT) (F : fT) (x1 : Int32) (x2 : Int32) (x3 : Int32) (x4 : Int32) : Option (Int32 × iT) := (mX4_at (((F 134 4) + 1) + 1) I x4).bind fun q3 => if x3 = 0 then mX3_readChannel_73 I F x1 x2 x3 x4 1 x1 q3 else mX3_readChannel_73 I F x1 x2 x3 x4 0 x1 q3
def mX3_readChannel (I : iT) (F : fT) (x1 : Int32) : Option (Int32 × iT) := (mX2_takeName I).bind fun q4 => (mX5_find q4.2 q4.1).bind fun q5 => (mX5_talkAt q4.2 q5).bind fun q6 => if q6 = ((-1)) then (mX2_refuse q4.2 2 (I 6 8)).bind fun q7 => mX3_readChannel_48 q7 F x1 (I 6 8) q5 q6 else mX3_readChannel_48 q4.2 F x1 (I 6 8) q5 q6
set_option maxRecDepth 100000 in
set_option maxHeartbeats 4000000 in
theorem tX3_readChannel_73 {l : Launch} {K : a_KT} {g : a_GT} {IB : iT} (hko : a_kok K) {J : jT} (I : iT) (F : fT) (x1 : Int32) (x2 : Int32) (x3 : Int32) (x4 : Int32) (s0 : Int32) (s1 : Int32) (s2 : Int32) (hF : FK F) (q : Int32 × iT) (hm : mX3_readChannel_73 I F x1 x2 x3 x4 s0 s1 s2 = some q) : E l K g 2 0 0 yX3_readChannel cX3_readChannel 5 (some .int) 73 [.ref 134, .int x1, .int x2, .int x3, .int x4] [.int s0, .int s1, .int s2] (hg I IB J F) (fun r2 h2 => r2 = some (.int q.1) ∧ h2 = hg q.2 IB J F) := by
  unfold mX3_readChannel_73 at hm
  obtain ⟨q1, eq1, hm⟩ := ob_some hm
  refine e_cS2 hko dX3_readChannel_73 ml_RX3_275 (by omega) (Nat.le_of_ble_eq_true rfl) (tX3_talkFor hko I J F hF s1 s0 _ eq1) ?_
  rintro _ _ ⟨rfl, rfl⟩
  refine e_icmp_eq 88 dX3_readChannel_76 (by decide) (fun c_76 => ?_) (fun c_76 => ?_)
  · have hm := it_p c_76 hm
    refine e_iload_n (i := 3) rfl dX3_readChannel_88 ?_
    refine e_iret dX3_readChannel_89 rfl ?_
    have hm := some_in hm
    subst hm
    exact ⟨rfl, rfl⟩
  · have hm := it_n c_76 hm
    refine e_aload_n (i := 0) rfl dX3_readChannel_79 ?_
    refine q_getF 3 0 6 dX3_readChannel_80 fl_RX3_22 rfl iz_134 (fr_134_0 hF.1) ?_
    refine e_iconst (v := 3) (by decide) dX3_readChannel_83 ?_
    refine e_iload_n (i := 2) rfl dX3_readChannel_84 ?_
    obtain ⟨q2, eq2, hm⟩ := ob_some hm
    refine e_cV2 hko dX3_readChannel_85 ml_RX3_104 iz_6 (by decide) rfl (by omega) (Nat.le_of_ble_eq_true rfl) (tX2_refuse hko I J F hF 3 x2 _ eq2) ?_
    rintro _ _ ⟨rfl, rfl⟩
    refine e_iload_n (i := 3) rfl dX3_readChannel_88 ?_
    refine e_iret dX3_readChannel_89 rfl ?_
    have hm := some_in hm
    subst hm
    exact ⟨rfl, rfl⟩
set_option maxRecDepth 100000 in
set_option maxHeartbeats 4000000 in
theorem tX3_readChannel_48 {l : Launch} {K : a_KT} {g : a_GT} {IB : iT} (hko : a_kok K) {J : jT} (I : iT) (F : fT) (x1 : Int32) (x2 : Int32) (x3 : Int32) (x4 : Int32) (hF : FK F) (q : Int32 × iT) (hm : mX3_readChannel_48 I F x1 x2 x3 x4 = some q) : E l K g 2 0 0 yX3_readChannel cX3_readChannel 5 (some .int) 48 [.ref 134, .int x1, .int x2, .int x3, .int x4] [] (hg I IB J F) (fun r2 h2 => r2 = some (.int q.1) ∧ h2 = hg q.2 IB J F) := by
  unfold mX3_readChannel_48 at hm
  refine e_aload_n (i := 0) rfl dX3_readChannel_48 ?_
  refine q_getF 3 4 (F 134 4) dX3_readChannel_49 fl_RX3_26 rfl iz_134 rfl ?_
  refine q_getF 0 0 ((F 134 4) + 1) dX3_readChannel_52 fl_RX3_239 rfl (iz_bk hF.2.2.2.1) (frb_0 hF.1 hF.2.2.2.1) ?_
  refine q_getF 10 0 (((F 134 4) + 1) + 1) dX3_readChannel_55 fl_RX3_272 rfl (iz_ty (bk_ty hF.2.2.2.1)) (frt_0 hF.1 (bk_ty hF.2.2.2.1)) ?_
  refine e_iload (i := 4) rfl dX3_readChannel_58 ?_
  obtain ⟨q3, eq3, hm⟩ := ob_some hm
  refine e_cV1 hko dX3_readChannel_60 ml_RX3_257 (iz_row (rwt_1 (bk_ty hF.2.2.2.1))) (by decide) rfl (by omega) (Nat.le_of_ble_eq_true rfl) (tX4_at hko (rwt_1 (bk_ty hF.2.2.2.1)) I J F hF x4 _ eq3) ?_
  rintro _ _ ⟨rfl, rfl⟩
  refine e_iload_n (i := 1) rfl dX3_readChannel_63 ?_
  refine e_iload_n (i := 3) rfl dX3_readChannel_64 ?_
  refine e_if_ne 72 dX3_readChannel_65 (by decide) (fun c_65 => ?_) (fun c_65 => ?_)
  · have hm := it_n c_65 hm
    refine e_iconst (v := 0) (by decide) dX3_readChannel_72 ?_
    refine e_weak [.ref 134, .int x1, .int x2, .int x3, .int x4] ⟨rfl, ⟨rfl, ⟨rfl, ⟨rfl, ⟨rfl, trivial⟩⟩⟩⟩⟩ ?_
    exact tX3_readChannel_73 hko I F x1 x2 x3 x4 0 x1 q3 hF _ hm
  · have hm := it_p c_65 hm
    refine e_iconst (v := 1) (by decide) dX3_readChannel_68 ?_
    refine e_goto 73 dX3_readChannel_69 (by decide) ?_
    refine e_weak [.ref 134, .int x1, .int x2, .int x3, .int x4] ⟨rfl, ⟨rfl, ⟨rfl, ⟨rfl, ⟨rfl, trivial⟩⟩⟩⟩⟩ ?_
    exact tX3_readChannel_73 hko I F x1 x2 x3 x4 1 x1 q3 hF _ hm
set_option maxRecDepth 100000 in
set_option maxHeartbeats 4000000 in
theorem tX3_readChannel {l : Launch} {K : a_KT} {g : a_GT} {IB : iT} (hko : a_kok K) (I : iT) (J : jT) (F : fT) (hF : FK F) (x1 : Int32) (q : Int32 × iT) (hm : mX3_readChannel I F x1 = some q) : C l K g 2 0 0 yX3_readChannel cX3_readChannel 5 (some .int) [.ref 134, .int x1] (hg I IB J F) (fun r2 h2 => r2 = some (.int q.1) ∧ h2 = hg q.2 IB J F) := by
  unfold mX3_readChannel at hm
  refine c_of [.ref 134, .int x1, .null, .null, .null] (by decide) (Nat.le_of_ble_eq_true rfl) rfl ?_
  refine e_aload_n (i := 0) rfl dX3_readChannel_0 ?_
  refine q_getF 3 0 6 dX3_readChannel_1 fl_RX3_22 rfl iz_134 (fr_134_0 hF.1) ?_
  refine k_getI 2 8 dX3_readChannel_4 fl_RX3_95 rfl iz_6 (by decide) ?_
  refine q_istore_n (i := 2) (by decide) rfl dX3_readChannel_7 ?_
  refine e_aload_n (i := 0) rfl dX3_readChannel_8 ?_
  refine q_getF 3 1 135 dX3_readChannel_9 fl_RX3_12 rfl iz_134 (fr_134_1 hF.1) ?_
  refine e_aload_n (i := 0) rfl dX3_readChannel_12 ?_
  refine q_getF 3 0 6 dX3_readChannel_13 fl_RX3_22 rfl iz_134 (fr_134_0 hF.1) ?_
  obtain ⟨q4, eq4, hm⟩ := ob_some hm
  refine e_cV0 hko dX3_readChannel_16 ml_RX3_98 iz_6 (by decide) rfl (by omega) (Nat.le_of_ble_eq_true rfl) (tX2_takeName hko I J F hF _ eq4) ?_
  rintro _ _ ⟨rfl, rfl⟩
  obtain ⟨q5, eq5, hm⟩ := ob_some hm
  refine e_cV1 hko dX3_readChannel_19 ml_RX3_163 iz_135 (by decide) rfl (by omega) (Nat.le_of_ble_eq_true rfl) (tX5_find hko q4.2 J F hF q4.1 _ eq5) ?_
  rintro _ _ ⟨rfl, rfl⟩
  refine q_istore_n (i := 3) (by decide) rfl dX3_readChannel_22 ?_
  refine e_aload_n (i := 0) rfl dX3_readChannel_23 ?_
  refine q_getF 3 1 135 dX3_readChannel_24 fl_RX3_12 rfl iz_134 (fr_134_1 hF.1) ?_
  refine e_iload_n (i := 3) rfl dX3_readChannel_27 ?_
  obtain ⟨q6, eq6, hm⟩ := ob_some hm
  refine e_cV1 hko dX3_readChannel_28 ml_RX3_236 iz_135 (by decide) rfl (by omega) (Nat.le_of_ble_eq_true rfl) (tX5_talkAt hko q4.2 J F hF q5 _ eq6) ?_
  rintro _ _ ⟨rfl, rfl⟩
  refine q_istore (i := 4) (by decide) rfl dX3_readChannel_31 ?_
  refine e_iload (i := 4) rfl dX3_readChannel_33 ?_
  refine e_iconst (v := (-1)) (by decide) dX3_readChannel_35 ?_
  refine e_icmp_ne 48 dX3_readChannel_36 (by decide) (fun c_36 => ?_) (fun c_36 => ?_)
  · have hm := it_n c_36 hm
    refine e_weak [.ref 134, .int x1, .int (I 6 8), .int q5, .int q6] ⟨rfl, ⟨rfl, ⟨rfl, ⟨rfl, ⟨rfl, trivial⟩⟩⟩⟩⟩ ?_
    exact tX3_readChannel_48 hko q4.2 F x1 (I 6 8) q5 q6 hF _ hm
  · have hm := it_p c_36 hm
    refine e_aload_n (i := 0) rfl dX3_readChannel_39 ?_
    refine q_getF 3 0 6 dX3_readChannel_40 fl_RX3_22 rfl iz_134 (fr_134_0 hF.1) ?_
    refine e_iconst (v := 2) (by decide) dX3_readChannel_43 ?_
    refine e_iload_n (i := 2) rfl dX3_readChannel_44 ?_
    obtain ⟨q7, eq7, hm⟩ := ob_some hm
    refine e_cV2 hko dX3_readChannel_45 ml_RX3_104 iz_6 (by decide) rfl (by omega) (Nat.le_of_ble_eq_true rfl) (tX2_refuse hko q4.2 J F hF 2 (I 6 8) _ eq7) ?_
    rintro _ _ ⟨rfl, rfl⟩
    refine e_weak [.ref 134, .int x1, .int (I 6 8), .int q5, .int q6] ⟨rfl, ⟨rfl, ⟨rfl, ⟨rfl, ⟨rfl, trivial⟩⟩⟩⟩⟩ ?_
    exact tX3_readChannel_48 hko q7 F x1 (I 6 8) q5 q6 hF _ hm
theorem dX3_refuseOpen_0 : decode cX3_refuseOpen 0 = .ok (.iload_n 1, 1) := by decide +kernel
theorem dX3_refuseOpen_1 : decode cX3_refuseOpen 1 = .ok (.bipush 8, 2) := by decide +kernel
theorem dX3_refuseOpen_3 : decode cX3_refuseOpen 3 = .ok (.if_icmp .lt 18, 3) := by decide +kernel
theorem dX3_refuseOpen_6 : decode cX3_refuseOpen 6 = .ok (.aload_n 0, 1) := by decide +kernel
theorem dX3_refuseOpen_7 : decode cX3_refuseOpen 7 = .ok (.getfield 22, 3) := by decide +kernel
theorem dX3_refuseOpen_10 : decode cX3_refuseOpen 10 = .ok (.iconst 5, 1) := by decide +kernel
theorem dX3_refuseOpen_11 : decode cX3_refuseOpen 11 = .ok (.aload_n 0, 1) := by decide +kernel
theorem dX3_refuseOpen_12 : decode cX3_refuseOpen 12 = .ok (.getfield 22, 3) := by decide +kernel
theorem dX3_refuseOpen_15 : decode cX3_refuseOpen 15 = .ok (.getfield 95, 3) := by decide +kernel
theorem dX3_refuseOpen_18 : decode cX3_refuseOpen 18 = .ok (.invokevirtual 104, 3) := by decide +kernel
theorem dX3_refuseOpen_21 : decode cX3_refuseOpen 21 = .ok (.return_, 1) := by decide +kernel
def mX3_refuseOpen (I : iT) (x1 : Int32) : Option (iT) := if x1 < 8 then some I else (mX2_refuse I 5 (I 6 8)).bind fun q1 => some q1
set_option maxRecDepth 100000 in
set_option maxHeartbeats 4000000 in
theorem tX3_refuseOpen {l : Launch} {K : a_KT} {g : a_GT} {IB : iT} (hko : a_kok K) (I : iT) (J : jT) (F : fT) (hF : FK F) (x1 : Int32) (q : iT) (hm : mX3_refuseOpen I x1 = some q) : C l K g 1 0 0 yX3_refuseOpen cX3_refuseOpen 2 none [.ref 134, .int x1] (hg I IB J F) (fun r2 h2 => r2 = none ∧ h2 = hg q IB J F) := by
  unfold mX3_refuseOpen at hm
  refine c_of [.ref 134, .int x1] (by decide) (Nat.le_of_ble_eq_true rfl) rfl ?_
  refine e_iload_n (i := 1) rfl dX3_refuseOpen_0 ?_
  refine e_bipush (v := 8) (by decide) dX3_refuseOpen_1 ?_
  refine e_icmp_lt 21 dX3_refuseOpen_3 (by decide) (fun c_3 => ?_) (fun c_3 => ?_)
  · have hm := it_p c_3 hm
    refine e_vret dX3_refuseOpen_21 rfl ?_
    have hm := some_in hm
    subst hm
    exact ⟨rfl, rfl⟩
  · have hm := it_n c_3 hm
    refine e_aload_n (i := 0) rfl dX3_refuseOpen_6 ?_
    refine q_getF 3 0 6 dX3_refuseOpen_7 fl_RX3_22 rfl iz_134 (fr_134_0 hF.1) ?_
    refine e_iconst (v := 5) (by decide) dX3_refuseOpen_10 ?_
    refine e_aload_n (i := 0) rfl dX3_refuseOpen_11 ?_
    refine q_getF 3 0 6 dX3_refuseOpen_12 fl_RX3_22 rfl iz_134 (fr_134_0 hF.1) ?_
    refine k_getI 2 8 dX3_refuseOpen_15 fl_RX3_95 rfl iz_6 (by decide) ?_
    obtain ⟨q1, eq1, hm⟩ := ob_some hm
    refine e_cV2 hko dX3_refuseOpen_18 ml_RX3_104 iz_6 (by decide) rfl (by omega) (Nat.le_of_ble_eq_true rfl) (tX2_refuse hko I J F hF 5 (I 6 8) _ eq1) ?_
    rintro _ _ ⟨rfl, rfl⟩
    refine e_vret dX3_refuseOpen_21 rfl ?_
    have hm := some_in hm
    subst hm
    exact ⟨rfl, rfl⟩
theorem dX3_readClose_0 : decode cX3_readClose 0 = .ok (.aload_n 0, 1) := by decide +kernel
theorem dX3_readClose_1 : decode cX3_readClose 1 = .ok (.getfield 26, 3) := by decide +kernel
theorem dX3_readClose_4 : decode cX3_readClose 4 = .ok (.sipush 315, 3) := by decide +kernel
theorem dX3_readClose_7 : decode cX3_readClose 7 = .ok (.invokevirtual 201, 3) := by decide +kernel
theorem dX3_readClose_10 : decode cX3_readClose 10 = .ok (.istore_n 1, 1) := by decide +kernel
theorem dX3_readClose_11 : decode cX3_readClose 11 = .ok (.aload_n 0, 1) := by decide +kernel
theorem dX3_readClose_12 : decode cX3_readClose 12 = .ok (.getfield 22, 3) := by decide +kernel
theorem dX3_readClose_15 : decode cX3_readClose 15 = .ok (.invokevirtual 207, 3) := by decide +kernel
theorem dX3_readClose_18 : decode cX3_readClose 18 = .ok (.aload_n 0, 1) := by decide +kernel
theorem dX3_readClose_19 : decode cX3_readClose 19 = .ok (.getfield 26, 3) := by decide +kernel
theorem dX3_readClose_22 : decode cX3_readClose 22 = .ok (.getfield 248, 3) := by decide +kernel
theorem dX3_readClose_25 : decode cX3_readClose 25 = .ok (.iload_n 1, 1) := by decide +kernel
theorem dX3_readClose_26 : decode cX3_readClose 26 = .ok (.aload_n 0, 1) := by decide +kernel
theorem dX3_readClose_27 : decode cX3_readClose 27 = .ok (.sipush 315, 3) := by decide +kernel
theorem dX3_readClose_30 : decode cX3_readClose 30 = .ok (.invokevirtual 233, 3) := by decide +kernel
theorem dX3_readClose_33 : decode cX3_readClose 33 = .ok (.invokevirtual 154, 3) := by decide +kernel
theorem dX3_readClose_36 : decode cX3_readClose 36 = .ok (.return_, 1) := by decide +kernel
def mX3_readClose (I : iT) (F : fT) : Option (iT) := (mX0_addNode (F 134 4) I 315).bind fun q1 => (mX2_advance q1.2).bind fun q2 => (mX3_readChannel q2 F 315).bind fun q3 => (mX4_put ((F 134 4) + 49) q3.2 q1.1 q3.1).bind fun q4 => some q4
set_option maxRecDepth 100000 in
set_option maxHeartbeats 4000000 in
theorem tX3_readClose {l : Launch} {K : a_KT} {g : a_GT} {IB : iT} (hko : a_kok K) (I : iT) (J : jT) (F : fT) (hF : FK F) (q : iT) (hm : mX3_readClose I F = some q) : C l K g 3 0 0 yX3_readClose cX3_readClose 2 none [.ref 134] (hg I IB J F) (fun r2 h2 => r2 = none ∧ h2 = hg q IB J F) := by
  unfold mX3_readClose at hm
  refine c_of [.ref 134, .null] (by decide) (Nat.le_of_ble_eq_true rfl) rfl ?_
  refine e_aload_n (i := 0) rfl dX3_readClose_0 ?_
  refine q_getF 3 4 (F 134 4) dX3_readClose_1 fl_RX3_26 rfl iz_134 rfl ?_
  refine e_sipush (v := 315) (by decide) dX3_readClose_4 ?_
  obtain ⟨q1, eq1, hm⟩ := ob_some hm
  refine e_cV1 hko dX3_readClose_7 ml_RX3_201 (iz_bk hF.2.2.2.1) (by decide) rfl (by omega) (Nat.le_of_ble_eq_true rfl) (tX0_addNode hko hF.2.2.2.1 I J F hF 315 _ eq1) ?_
  rintro _ _ ⟨rfl, rfl⟩
  refine q_istore_n (i := 1) (by decide) rfl dX3_readClose_10 ?_
  refine e_aload_n (i := 0) rfl dX3_readClose_11 ?_
  refine q_getF 3 0 6 dX3_readClose_12 fl_RX3_22 rfl iz_134 (fr_134_0 hF.1) ?_
  obtain ⟨q2, eq2, hm⟩ := ob_some hm
  refine e_cV0 hko dX3_readClose_15 ml_RX3_207 iz_6 (by decide) rfl (by omega) (Nat.le_of_ble_eq_true rfl) (tX2_advance hko q1.2 J F hF _ eq2) ?_
  rintro _ _ ⟨rfl, rfl⟩
  refine e_aload_n (i := 0) rfl dX3_readClose_18 ?_
  refine q_getF 3 4 (F 134 4) dX3_readClose_19 fl_RX3_26 rfl iz_134 rfl ?_
  refine q_getF 0 12 ((F 134 4) + 49) dX3_readClose_22 fl_RX3_248 rfl (iz_bk hF.2.2.2.1) (frb_12 hF.1 hF.2.2.2.1) ?_
  refine e_iload_n (i := 1) rfl dX3_readClose_25 ?_
  refine e_aload_n (i := 0) rfl dX3_readClose_26 ?_
  refine e_sipush (v := 315) (by decide) dX3_readClose_27 ?_
  obtain ⟨q3, eq3, hm⟩ := ob_some hm
  refine e_cV1 hko dX3_readClose_30 ml_RX3_233 iz_134 (by decide) rfl (by omega) (Nat.le_of_ble_eq_true rfl) (tX3_readChannel hko q2 J F hF 315 _ eq3) ?_
  rintro _ _ ⟨rfl, rfl⟩
  obtain ⟨q4, eq4, hm⟩ := ob_some hm
  refine e_cV2 hko dX3_readClose_33 ml_RX3_154 (iz_row (rwb_49 hF.2.2.2.1)) (by decide) rfl (by omega) (Nat.le_of_ble_eq_true rfl) (tX4_put hko (rwb_49 hF.2.2.2.1) q3.2 J F hF q1.1 q3.1 _ eq4) ?_
  rintro _ _ ⟨rfl, rfl⟩
  refine e_vret dX3_readClose_36 rfl ?_
  have hm := some_in hm
  subst hm
  exact ⟨rfl, rfl⟩
theorem dX3_readChannelArg_0 : decode cX3_readChannelArg 0 = .ok (.aload_n 0, 1) := by decide +kernel
theorem dX3_readChannelArg_1 : decode cX3_readChannelArg 1 = .ok (.getfield 22, 3) := by decide +kernel
theorem dX3_readChannelArg_4 : decode cX3_readChannelArg 4 = .ok (.getfield 95, 3) := by decide +kernel
theorem dX3_readChannelArg_7 : decode cX3_readChannelArg 7 = .ok (.istore_n 2, 1) := by decide +kernel
theorem dX3_readChannelArg_8 : decode cX3_readChannelArg 8 = .ok (.aload_n 0, 1) := by decide +kernel
theorem dX3_readChannelArg_9 : decode cX3_readChannelArg 9 = .ok (.getfield 12, 3) := by decide +kernel
theorem dX3_readChannelArg_12 : decode cX3_readChannelArg 12 = .ok (.aload_n 0, 1) := by decide +kernel
theorem dX3_readChannelArg_13 : decode cX3_readChannelArg 13 = .ok (.getfield 22, 3) := by decide +kernel
theorem dX3_readChannelArg_16 : decode cX3_readChannelArg 16 = .ok (.invokevirtual 98, 3) := by decide +kernel
theorem dX3_readChannelArg_19 : decode cX3_readChannelArg 19 = .ok (.invokevirtual 163, 3) := by decide +kernel
theorem dX3_readChannelArg_22 : decode cX3_readChannelArg 22 = .ok (.istore_n 3, 1) := by decide +kernel
theorem dX3_readChannelArg_23 : decode cX3_readChannelArg 23 = .ok (.aload_n 0, 1) := by decide +kernel
theorem dX3_readChannelArg_24 : decode cX3_readChannelArg 24 = .ok (.getfield 12, 3) := by decide +kernel
theorem dX3_readChannelArg_27 : decode cX3_readChannelArg 27 = .ok (.iload_n 3, 1) := by decide +kernel
theorem dX3_readChannelArg_28 : decode cX3_readChannelArg 28 = .ok (.invokevirtual 236, 3) := by decide +kernel
theorem dX3_readChannelArg_31 : decode cX3_readChannelArg 31 = .ok (.istore 4, 2) := by decide +kernel
theorem dX3_readChannelArg_33 : decode cX3_readChannelArg 33 = .ok (.iload 4, 2) := by decide +kernel
theorem dX3_readChannelArg_35 : decode cX3_readChannelArg 35 = .ok (.iconst (-1), 1) := by decide +kernel
theorem dX3_readChannelArg_36 : decode cX3_readChannelArg 36 = .ok (.if_icmp .ne 12, 3) := by decide +kernel
theorem dX3_readChannelArg_39 : decode cX3_readChannelArg 39 = .ok (.aload_n 0, 1) := by decide +kernel
theorem dX3_readChannelArg_40 : decode cX3_readChannelArg 40 = .ok (.getfield 22, 3) := by decide +kernel
theorem dX3_readChannelArg_43 : decode cX3_readChannelArg 43 = .ok (.iconst 2, 1) := by decide +kernel
theorem dX3_readChannelArg_44 : decode cX3_readChannelArg 44 = .ok (.iload_n 2, 1) := by decide +kernel
theorem dX3_readChannelArg_45 : decode cX3_readChannelArg 45 = .ok (.invokevirtual 104, 3) := by decide +kernel
theorem dX3_readChannelArg_48 : decode cX3_readChannelArg 48 = .ok (.iload 4, 2) := by decide +kernel
theorem dX3_readChannelArg_50 : decode cX3_readChannelArg 50 = .ok (.iload_n 1, 1) := by decide +kernel
theorem dX3_readChannelArg_51 : decode cX3_readChannelArg 51 = .ok (.if_icmp .ne 7, 3) := by decide +kernel
theorem dX3_readChannelArg_54 : decode cX3_readChannelArg 54 = .ok (.iload_n 3, 1) := by decide +kernel
theorem dX3_readChannelArg_55 : decode cX3_readChannelArg 55 = .ok (.ifCond .ne 12, 3) := by decide +kernel
theorem dX3_readChannelArg_58 : decode cX3_readChannelArg 58 = .ok (.aload_n 0, 1) := by decide +kernel
theorem dX3_readChannelArg_59 : decode cX3_readChannelArg 59 = .ok (.getfield 22, 3) := by decide +kernel
theorem dX3_readChannelArg_62 : decode cX3_readChannelArg 62 = .ok (.iconst 3, 1) := by decide +kernel
theorem dX3_readChannelArg_63 : decode cX3_readChannelArg 63 = .ok (.iload_n 2, 1) := by decide +kernel
theorem dX3_readChannelArg_64 : decode cX3_readChannelArg 64 = .ok (.invokevirtual 104, 3) := by decide +kernel
theorem dX3_readChannelArg_67 : decode cX3_readChannelArg 67 = .ok (.aload_n 0, 1) := by decide +kernel
theorem dX3_readChannelArg_68 : decode cX3_readChannelArg 68 = .ok (.getfield 12, 3) := by decide +kernel
theorem dX3_readChannelArg_71 : decode cX3_readChannelArg 71 = .ok (.iload_n 3, 1) := by decide +kernel
theorem dX3_readChannelArg_72 : decode cX3_readChannelArg 72 = .ok (.invokevirtual 282, 3) := by decide +kernel
theorem dX3_readChannelArg_75 : decode cX3_readChannelArg 75 = .ok (.iload_n 3, 1) := by decide +kernel
theorem dX3_readChannelArg_76 : decode cX3_readChannelArg 76 = .ok (.ireturn, 1) := by decide +kernel
def mX3_readChannelArg_67 (I : iT) (x1 : Int32) (x2 : Int32) (x3 : Int32) (x4 : Int32) : Option (Int32 × iT) := (mX5_drop I x3).bind fun q1 => some (x3, q1)
def mX3_readChannelArg_58 (I : iT) (x1 : Int32) (x2 : Int32) (x3 : Int32) (x4 : Int32) : Option (Int32 × iT) := (mX2_refuse I 3 x2).bind fun q2 => mX3_readChannelArg_67 q2 x1 x2 x3 x4
def mX3_readChannelArg_48 (I : iT) (x1 : Int32) (x2 : Int32) (x3 : Int32) (x4 : Int32) : Option (Int32 × iT) := if x4 = x1 then if x3 = 0 then mX3_readChannelArg_58 I x1 x2 x3 x4 else mX3_readChannelArg_67 I x1 x2 x3 x4 else mX3_readChannelArg_58 I x1 x2 x3 x4
def mX3_readChannelArg (I : iT) (x1 : Int32) : Option (Int32 × iT) := (mX2_takeName I).bind fun q3 => (mX5_find q3.2 q3.1).bind fun q4 => (mX5_talkAt q3.2 q4).bind fun q5 => if q5 = ((-1)) then (mX2_refuse q3.2 2 (I 6 8)).bind fun q6 => mX3_readChannelArg_48 q6 x1 (I 6 8) q4 q5 else mX3_readChannelArg_48 q3.2 x1 (I 6 8) q4 q5
set_option maxRecDepth 100000 in
set_option maxHeartbeats 4000000 in
theorem tX3_readChannelArg_67 {l : Launch} {K : a_KT} {g : a_GT} {IB : iT} (hko : a_kok K) {J : jT} {F : fT} (I : iT) (x1 : Int32) (x2 : Int32) (x3 : Int32) (x4 : Int32) (hF : FK F) (q : Int32 × iT) (hm : mX3_readChannelArg_67 I x1 x2 x3 x4 = some q) : E l K g 2 0 0 yX3_readChannelArg cX3_readChannelArg 5 (some .int) 67 [.ref 134, .int x1, .int x2, .int x3, .int x4] [] (hg I IB J F) (fun r2 h2 => r2 = some (.int q.1) ∧ h2 = hg q.2 IB J F) := by
  unfold mX3_readChannelArg_67 at hm
  refine e_aload_n (i := 0) rfl dX3_readChannelArg_67 ?_
  refine q_getF 3 1 135 dX3_readChannelArg_68 fl_RX3_12 rfl iz_134 (fr_134_1 hF.1) ?_
  refine e_iload_n (i := 3) rfl dX3_readChannelArg_71 ?_
  obtain ⟨q1, eq1, hm⟩ := ob_some hm
  refine e_cV1 hko dX3_readChannelArg_72 ml_RX3_282 iz_135 (by decide) rfl (by omega) (Nat.le_of_ble_eq_true rfl) (tX5_drop hko I J F hF x3 _ eq1) ?_
  rintro _ _ ⟨rfl, rfl⟩
  refine e_iload_n (i := 3) rfl dX3_readChannelArg_75 ?_
  refine e_iret dX3_readChannelArg_76 rfl ?_
  have hm := some_in hm
  subst hm
  exact ⟨rfl, rfl⟩
set_option maxRecDepth 100000 in
set_option maxHeartbeats 4000000 in
theorem tX3_readChannelArg_58 {l : Launch} {K : a_KT} {g : a_GT} {IB : iT} (hko : a_kok K) {J : jT} {F : fT} (I : iT) (x1 : Int32) (x2 : Int32) (x3 : Int32) (x4 : Int32) (hF : FK F) (q : Int32 × iT) (hm : mX3_readChannelArg_58 I x1 x2 x3 x4 = some q) : E l K g 2 0 0 yX3_readChannelArg cX3_readChannelArg 5 (some .int) 58 [.ref 134, .int x1, .int x2, .int x3, .int x4] [] (hg I IB J F) (fun r2 h2 => r2 = some (.int q.1) ∧ h2 = hg q.2 IB J F) := by
  unfold mX3_readChannelArg_58 at hm
  refine e_aload_n (i := 0) rfl dX3_readChannelArg_58 ?_
  refine q_getF 3 0 6 dX3_readChannelArg_59 fl_RX3_22 rfl iz_134 (fr_134_0 hF.1) ?_
  refine e_iconst (v := 3) (by decide) dX3_readChannelArg_62 ?_
  refine e_iload_n (i := 2) rfl dX3_readChannelArg_63 ?_
  obtain ⟨q2, eq2, hm⟩ := ob_some hm
  refine e_cV2 hko dX3_readChannelArg_64 ml_RX3_104 iz_6 (by decide) rfl (by omega) (Nat.le_of_ble_eq_true rfl) (tX2_refuse hko I J F hF 3 x2 _ eq2) ?_
  rintro _ _ ⟨rfl, rfl⟩
  refine e_weak [.ref 134, .int x1, .int x2, .int x3, .int x4] ⟨rfl, ⟨rfl, ⟨rfl, ⟨rfl, ⟨rfl, trivial⟩⟩⟩⟩⟩ ?_
  exact tX3_readChannelArg_67 hko q2 x1 x2 x3 x4 hF _ hm
set_option maxRecDepth 100000 in
set_option maxHeartbeats 4000000 in
theorem tX3_readChannelArg_48 {l : Launch} {K : a_KT} {g : a_GT} {IB : iT} (hko : a_kok K) {J : jT} {F : fT} (I : iT) (x1 : Int32) (x2 : Int32) (x3 : Int32) (x4 : Int32) (hF : FK F) (q : Int32 × iT) (hm : mX3_readChannelArg_48 I x1 x2 x3 x4 = some q) : E l K g 2 0 0 yX3_readChannelArg cX3_readChannelArg 5 (some .int) 48 [.ref 134, .int x1, .int x2, .int x3, .int x4] [] (hg I IB J F) (fun r2 h2 => r2 = some (.int q.1) ∧ h2 = hg q.2 IB J F) := by
  unfold mX3_readChannelArg_48 at hm
  refine e_iload (i := 4) rfl dX3_readChannelArg_48 ?_
  refine e_iload_n (i := 1) rfl dX3_readChannelArg_50 ?_
  refine e_icmp_ne 58 dX3_readChannelArg_51 (by decide) (fun c_51 => ?_) (fun c_51 => ?_)
  · have hm := it_n c_51 hm
    refine e_weak [.ref 134, .int x1, .int x2, .int x3, .int x4] ⟨rfl, ⟨rfl, ⟨rfl, ⟨rfl, ⟨rfl, trivial⟩⟩⟩⟩⟩ ?_
    exact tX3_readChannelArg_58 hko I x1 x2 x3 x4 hF _ hm
  · have hm := it_p c_51 hm
    refine e_iload_n (i := 3) rfl dX3_readChannelArg_54 ?_
    refine e_if_ne 67 dX3_readChannelArg_55 (by decide) (fun c_55 => ?_) (fun c_55 => ?_)
    · have hm := it_n c_55 hm
      refine e_weak [.ref 134, .int x1, .int x2, .int x3, .int x4] ⟨rfl, ⟨rfl, ⟨rfl, ⟨rfl, ⟨rfl, trivial⟩⟩⟩⟩⟩ ?_
      exact tX3_readChannelArg_67 hko I x1 x2 x3 x4 hF _ hm
    · have hm := it_p c_55 hm
      refine e_weak [.ref 134, .int x1, .int x2, .int x3, .int x4] ⟨rfl, ⟨rfl, ⟨rfl, ⟨rfl, ⟨rfl, trivial⟩⟩⟩⟩⟩ ?_
      exact tX3_readChannelArg_58 hko I x1 x2 x3 x4 hF _ hm
set_option maxRecDepth 100000 in
set_option maxHeartbeats 4000000 in
theorem tX3_readChannelArg {l : Launch} {K : a_KT} {g : a_GT} {IB : iT} (hko : a_kok K) (I : iT) (J : jT) (F : fT) (hF : FK F) (x1 : Int32) (q : Int32 × iT) (hm : mX3_readChannelArg I x1 = some q) : C l K g 2 0 0 yX3_readChannelArg cX3_readChannelArg 5 (some .int) [.ref 134, .int x1] (hg I IB J F) (fun r2 h2 => r2 = some (.int q.1) ∧ h2 = hg q.2 IB J F) := by
  unfold mX3_readChannelArg at hm
  refine c_of [.ref 134, .int x1, .null, .null, .null] (by decide) (Nat.le_of_ble_eq_true rfl) rfl ?_
  refine e_aload_n (i := 0) rfl dX3_readChannelArg_0 ?_
  refine q_getF 3 0 6 dX3_readChannelArg_1 fl_RX3_22 rfl iz_134 (fr_134_0 hF.1) ?_
  refine k_getI 2 8 dX3_readChannelArg_4 fl_RX3_95 rfl iz_6 (by decide) ?_
  refine q_istore_n (i := 2) (by decide) rfl dX3_readChannelArg_7 ?_
  refine e_aload_n (i := 0) rfl dX3_readChannelArg_8 ?_
  refine q_getF 3 1 135 dX3_readChannelArg_9 fl_RX3_12 rfl iz_134 (fr_134_1 hF.1) ?_
  refine e_aload_n (i := 0) rfl dX3_readChannelArg_12 ?_
  refine q_getF 3 0 6 dX3_readChannelArg_13 fl_RX3_22 rfl iz_134 (fr_134_0 hF.1) ?_
  obtain ⟨q3, eq3, hm⟩ := ob_some hm
  refine e_cV0 hko dX3_readChannelArg_16 ml_RX3_98 iz_6 (by decide) rfl (by omega) (Nat.le_of_ble_eq_true rfl) (tX2_takeName hko I J F hF _ eq3) ?_
  rintro _ _ ⟨rfl, rfl⟩
  obtain ⟨q4, eq4, hm⟩ := ob_some hm
  refine e_cV1 hko dX3_readChannelArg_19 ml_RX3_163 iz_135 (by decide) rfl (by omega) (Nat.le_of_ble_eq_true rfl) (tX5_find hko q3.2 J F hF q3.1 _ eq4) ?_
  rintro _ _ ⟨rfl, rfl⟩
  refine q_istore_n (i := 3) (by decide) rfl dX3_readChannelArg_22 ?_
  refine e_aload_n (i := 0) rfl dX3_readChannelArg_23 ?_
  refine q_getF 3 1 135 dX3_readChannelArg_24 fl_RX3_12 rfl iz_134 (fr_134_1 hF.1) ?_
  refine e_iload_n (i := 3) rfl dX3_readChannelArg_27 ?_
  obtain ⟨q5, eq5, hm⟩ := ob_some hm
  refine e_cV1 hko dX3_readChannelArg_28 ml_RX3_236 iz_135 (by decide) rfl (by omega) (Nat.le_of_ble_eq_true rfl) (tX5_talkAt hko q3.2 J F hF q4 _ eq5) ?_
  rintro _ _ ⟨rfl, rfl⟩
  refine q_istore (i := 4) (by decide) rfl dX3_readChannelArg_31 ?_
  refine e_iload (i := 4) rfl dX3_readChannelArg_33 ?_
  refine e_iconst (v := (-1)) (by decide) dX3_readChannelArg_35 ?_
  refine e_icmp_ne 48 dX3_readChannelArg_36 (by decide) (fun c_36 => ?_) (fun c_36 => ?_)
  · have hm := it_n c_36 hm
    refine e_weak [.ref 134, .int x1, .int (I 6 8), .int q4, .int q5] ⟨rfl, ⟨rfl, ⟨rfl, ⟨rfl, ⟨rfl, trivial⟩⟩⟩⟩⟩ ?_
    exact tX3_readChannelArg_48 hko q3.2 x1 (I 6 8) q4 q5 hF _ hm
  · have hm := it_p c_36 hm
    refine e_aload_n (i := 0) rfl dX3_readChannelArg_39 ?_
    refine q_getF 3 0 6 dX3_readChannelArg_40 fl_RX3_22 rfl iz_134 (fr_134_0 hF.1) ?_
    refine e_iconst (v := 2) (by decide) dX3_readChannelArg_43 ?_
    refine e_iload_n (i := 2) rfl dX3_readChannelArg_44 ?_
    obtain ⟨q6, eq6, hm⟩ := ob_some hm
    refine e_cV2 hko dX3_readChannelArg_45 ml_RX3_104 iz_6 (by decide) rfl (by omega) (Nat.le_of_ble_eq_true rfl) (tX2_refuse hko q3.2 J F hF 2 (I 6 8) _ eq6) ?_
    rintro _ _ ⟨rfl, rfl⟩
    refine e_weak [.ref 134, .int x1, .int (I 6 8), .int q4, .int q5] ⟨rfl, ⟨rfl, ⟨rfl, ⟨rfl, ⟨rfl, trivial⟩⟩⟩⟩⟩ ?_
    exact tX3_readChannelArg_48 hko q6 x1 (I 6 8) q4 q5 hF _ hm
theorem dX3_readArgs_0 : decode cX3_readArgs 0 = .ok (.aload_n 0, 1) := by decide +kernel
theorem dX3_readArgs_1 : decode cX3_readArgs 1 = .ok (.getfield 26, 3) := by decide +kernel
theorem dX3_readArgs_4 : decode cX3_readArgs 4 = .ok (.getfield 160, 3) := by decide +kernel
theorem dX3_readArgs_7 : decode cX3_readArgs 7 = .ok (.iload_n 2, 1) := by decide +kernel
theorem dX3_readArgs_8 : decode cX3_readArgs 8 = .ok (.invokevirtual 257, 3) := by decide +kernel
theorem dX3_readArgs_11 : decode cX3_readArgs 11 = .ok (.iconst 1, 1) := by decide +kernel
theorem dX3_readArgs_12 : decode cX3_readArgs 12 = .ok (.isub, 1) := by decide +kernel
theorem dX3_readArgs_13 : decode cX3_readArgs 13 = .ok (.istore 4, 2) := by decide +kernel
theorem dX3_readArgs_15 : decode cX3_readArgs 15 = .ok (.aload_n 0, 1) := by decide +kernel
theorem dX3_readArgs_16 : decode cX3_readArgs 16 = .ok (.getfield 26, 3) := by decide +kernel
theorem dX3_readArgs_19 : decode cX3_readArgs 19 = .ok (.getfield 219, 3) := by decide +kernel
theorem dX3_readArgs_22 : decode cX3_readArgs 22 = .ok (.iload_n 1, 1) := by decide +kernel
theorem dX3_readArgs_23 : decode cX3_readArgs 23 = .ok (.iload_n 2, 1) := by decide +kernel
theorem dX3_readArgs_24 : decode cX3_readArgs 24 = .ok (.invokevirtual 154, 3) := by decide +kernel
theorem dX3_readArgs_27 : decode cX3_readArgs 27 = .ok (.aload_n 0, 1) := by decide +kernel
theorem dX3_readArgs_28 : decode cX3_readArgs 28 = .ok (.getfield 26, 3) := by decide +kernel
theorem dX3_readArgs_31 : decode cX3_readArgs 31 = .ok (.getfield 210, 3) := by decide +kernel
theorem dX3_readArgs_34 : decode cX3_readArgs 34 = .ok (.iload_n 1, 1) := by decide +kernel
theorem dX3_readArgs_35 : decode cX3_readArgs 35 = .ok (.aload_n 0, 1) := by decide +kernel
theorem dX3_readArgs_36 : decode cX3_readArgs 36 = .ok (.getfield 26, 3) := by decide +kernel
theorem dX3_readArgs_39 : decode cX3_readArgs 39 = .ok (.getfield 304, 3) := by decide +kernel
theorem dX3_readArgs_42 : decode cX3_readArgs 42 = .ok (.invokevirtual 108, 3) := by decide +kernel
theorem dX3_readArgs_45 : decode cX3_readArgs 45 = .ok (.invokevirtual 154, 3) := by decide +kernel
theorem dX3_readArgs_48 : decode cX3_readArgs 48 = .ok (.aload_n 0, 1) := by decide +kernel
theorem dX3_readArgs_49 : decode cX3_readArgs 49 = .ok (.getfield 22, 3) := by decide +kernel
theorem dX3_readArgs_52 : decode cX3_readArgs 52 = .ok (.bipush 40, 2) := by decide +kernel
theorem dX3_readArgs_54 : decode cX3_readArgs 54 = .ok (.invokevirtual 78, 3) := by decide +kernel
theorem dX3_readArgs_57 : decode cX3_readArgs 57 = .ok (.iload 4, 2) := by decide +kernel
theorem dX3_readArgs_59 : decode cX3_readArgs 59 = .ok (.ifCond .lt 31, 3) := by decide +kernel
theorem dX3_readArgs_62 : decode cX3_readArgs 62 = .ok (.aload_n 0, 1) := by decide +kernel
theorem dX3_readArgs_63 : decode cX3_readArgs 63 = .ok (.getfield 22, 3) := by decide +kernel
theorem dX3_readArgs_66 : decode cX3_readArgs 66 = .ok (.bipush 41, 2) := by decide +kernel
theorem dX3_readArgs_68 : decode cX3_readArgs 68 = .ok (.invokevirtual 151, 3) := by decide +kernel
theorem dX3_readArgs_71 : decode cX3_readArgs 71 = .ok (.ifCond .eq 19, 3) := by decide +kernel
theorem dX3_readArgs_74 : decode cX3_readArgs 74 = .ok (.aload_n 0, 1) := by decide +kernel
theorem dX3_readArgs_75 : decode cX3_readArgs 75 = .ok (.getfield 22, 3) := by decide +kernel
theorem dX3_readArgs_78 : decode cX3_readArgs 78 = .ok (.bipush 6, 2) := by decide +kernel
theorem dX3_readArgs_80 : decode cX3_readArgs 80 = .ok (.aload_n 0, 1) := by decide +kernel
theorem dX3_readArgs_81 : decode cX3_readArgs 81 = .ok (.getfield 22, 3) := by decide +kernel
theorem dX3_readArgs_84 : decode cX3_readArgs 84 = .ok (.getfield 95, 3) := by decide +kernel
theorem dX3_readArgs_87 : decode cX3_readArgs 87 = .ok (.invokevirtual 104, 3) := by decide +kernel
theorem dX3_readArgs_90 : decode cX3_readArgs 90 = .ok (.iconst 0, 1) := by decide +kernel
theorem dX3_readArgs_91 : decode cX3_readArgs 91 = .ok (.istore 5, 2) := by decide +kernel
theorem dX3_readArgs_93 : decode cX3_readArgs 93 = .ok (.iload 5, 2) := by decide +kernel
theorem dX3_readArgs_95 : decode cX3_readArgs 95 = .ok (.iload 4, 2) := by decide +kernel
theorem dX3_readArgs_97 : decode cX3_readArgs 97 = .ok (.if_icmp .gt 121, 3) := by decide +kernel
theorem dX3_readArgs_100 : decode cX3_readArgs 100 = .ok (.aload_n 0, 1) := by decide +kernel
theorem dX3_readArgs_101 : decode cX3_readArgs 101 = .ok (.getfield 26, 3) := by decide +kernel
theorem dX3_readArgs_104 : decode cX3_readArgs 104 = .ok (.iload_n 2, 1) := by decide +kernel
theorem dX3_readArgs_105 : decode cX3_readArgs 105 = .ok (.iload 5, 2) := by decide +kernel
theorem dX3_readArgs_107 : decode cX3_readArgs 107 = .ok (.invokevirtual 307, 3) := by decide +kernel
theorem dX3_readArgs_110 : decode cX3_readArgs 110 = .ok (.istore 6, 2) := by decide +kernel
theorem dX3_readArgs_112 : decode cX3_readArgs 112 = .ok (.iload 6, 2) := by decide +kernel
theorem dX3_readArgs_114 : decode cX3_readArgs 114 = .ok (.iconst (-1), 1) := by decide +kernel
theorem dX3_readArgs_115 : decode cX3_readArgs 115 = .ok (.if_icmp .ne 15, 3) := by decide +kernel
theorem dX3_readArgs_118 : decode cX3_readArgs 118 = .ok (.aload_n 0, 1) := by decide +kernel
theorem dX3_readArgs_119 : decode cX3_readArgs 119 = .ok (.getfield 50, 3) := by decide +kernel
theorem dX3_readArgs_122 : decode cX3_readArgs 122 = .ok (.iconst 0, 1) := by decide +kernel
theorem dX3_readArgs_123 : decode cX3_readArgs 123 = .ok (.iload_n 3, 1) := by decide +kernel
theorem dX3_readArgs_124 : decode cX3_readArgs 124 = .ok (.invokevirtual 213, 3) := by decide +kernel
theorem dX3_readArgs_127 : decode cX3_readArgs 127 = .ok (.goto 9, 3) := by decide +kernel
theorem dX3_readArgs_130 : decode cX3_readArgs 130 = .ok (.aload_n 0, 1) := by decide +kernel
theorem dX3_readArgs_131 : decode cX3_readArgs 131 = .ok (.iload 6, 2) := by decide +kernel
theorem dX3_readArgs_133 : decode cX3_readArgs 133 = .ok (.invokevirtual 310, 3) := by decide +kernel
theorem dX3_readArgs_136 : decode cX3_readArgs 136 = .ok (.istore 7, 2) := by decide +kernel
theorem dX3_readArgs_138 : decode cX3_readArgs 138 = .ok (.aload_n 0, 1) := by decide +kernel
theorem dX3_readArgs_139 : decode cX3_readArgs 139 = .ok (.getfield 26, 3) := by decide +kernel
theorem dX3_readArgs_142 : decode cX3_readArgs 142 = .ok (.getfield 304, 3) := by decide +kernel
theorem dX3_readArgs_145 : decode cX3_readArgs 145 = .ok (.iload 7, 2) := by decide +kernel
theorem dX3_readArgs_147 : decode cX3_readArgs 147 = .ok (.invokevirtual 86, 3) := by decide +kernel
theorem dX3_readArgs_150 : decode cX3_readArgs 150 = .ok (.pop, 1) := by decide +kernel
theorem dX3_readArgs_151 : decode cX3_readArgs 151 = .ok (.aload_n 0, 1) := by decide +kernel
theorem dX3_readArgs_152 : decode cX3_readArgs 152 = .ok (.getfield 22, 3) := by decide +kernel
theorem dX3_readArgs_155 : decode cX3_readArgs 155 = .ok (.iload 5, 2) := by decide +kernel
theorem dX3_readArgs_157 : decode cX3_readArgs 157 = .ok (.iload 4, 2) := by decide +kernel
theorem dX3_readArgs_159 : decode cX3_readArgs 159 = .ok (.if_icmp .ge 8, 3) := by decide +kernel
theorem dX3_readArgs_162 : decode cX3_readArgs 162 = .ok (.bipush 41, 2) := by decide +kernel
theorem dX3_readArgs_164 : decode cX3_readArgs 164 = .ok (.goto 5, 3) := by decide +kernel
theorem dX3_readArgs_167 : decode cX3_readArgs 167 = .ok (.bipush 44, 2) := by decide +kernel
theorem dX3_readArgs_169 : decode cX3_readArgs 169 = .ok (.invokevirtual 151, 3) := by decide +kernel
theorem dX3_readArgs_172 : decode cX3_readArgs 172 = .ok (.ifCond .eq 19, 3) := by decide +kernel
theorem dX3_readArgs_175 : decode cX3_readArgs 175 = .ok (.aload_n 0, 1) := by decide +kernel
theorem dX3_readArgs_176 : decode cX3_readArgs 176 = .ok (.getfield 22, 3) := by decide +kernel
theorem dX3_readArgs_179 : decode cX3_readArgs 179 = .ok (.bipush 6, 2) := by decide +kernel
theorem dX3_readArgs_181 : decode cX3_readArgs 181 = .ok (.aload_n 0, 1) := by decide +kernel
theorem dX3_readArgs_182 : decode cX3_readArgs 182 = .ok (.getfield 22, 3) := by decide +kernel
theorem dX3_readArgs_185 : decode cX3_readArgs 185 = .ok (.getfield 95, 3) := by decide +kernel
theorem dX3_readArgs_188 : decode cX3_readArgs 188 = .ok (.invokevirtual 104, 3) := by decide +kernel
theorem dX3_readArgs_191 : decode cX3_readArgs 191 = .ok (.aload_n 0, 1) := by decide +kernel
theorem dX3_readArgs_192 : decode cX3_readArgs 192 = .ok (.getfield 22, 3) := by decide +kernel
theorem dX3_readArgs_195 : decode cX3_readArgs 195 = .ok (.iload 5, 2) := by decide +kernel
theorem dX3_readArgs_197 : decode cX3_readArgs 197 = .ok (.iload 4, 2) := by decide +kernel
theorem dX3_readArgs_199 : decode cX3_readArgs 199 = .ok (.if_icmp .ge 8, 3) := by decide +kernel
theorem dX3_readArgs_202 : decode cX3_readArgs 202 = .ok (.bipush 44, 2) := by decide +kernel
theorem dX3_readArgs_204 : decode cX3_readArgs 204 = .ok (.goto 5, 3) := by decide +kernel
theorem dX3_readArgs_207 : decode cX3_readArgs 207 = .ok (.bipush 41, 2) := by decide +kernel
theorem dX3_readArgs_209 : decode cX3_readArgs 209 = .ok (.invokevirtual 78, 3) := by decide +kernel
theorem dX3_readArgs_212 : decode cX3_readArgs 212 = .ok (.iinc 5 1, 3) := by decide +kernel
theorem dX3_readArgs_215 : decode cX3_readArgs 215 = .ok (.goto (-122), 3) := by decide +kernel
theorem dX3_readArgs_218 : decode cX3_readArgs 218 = .ok (.iload 4, 2) := by decide +kernel
theorem dX3_readArgs_220 : decode cX3_readArgs 220 = .ok (.ifCond .ge 12, 3) := by decide +kernel
theorem dX3_readArgs_223 : decode cX3_readArgs 223 = .ok (.aload_n 0, 1) := by decide +kernel
theorem dX3_readArgs_224 : decode cX3_readArgs 224 = .ok (.getfield 22, 3) := by decide +kernel
theorem dX3_readArgs_227 : decode cX3_readArgs 227 = .ok (.bipush 41, 2) := by decide +kernel
theorem dX3_readArgs_229 : decode cX3_readArgs 229 = .ok (.invokevirtual 78, 3) := by decide +kernel
theorem dX3_readArgs_232 : decode cX3_readArgs 232 = .ok (.return_, 1) := by decide +kernel
def mX3_readArgs_209 (k93 : iT → fT → Int32 → Int32 → Int32 → Int32 → Int32 → Option (iT)) (I : iT) (F : fT) (x1 : Int32) (x2 : Int32) (x3 : Int32) (x4 : Int32) (x5 : Int32) (x6 : Int32) (x7 : Int32) (s0 : Int32) : Option (iT) := (mX2_want I s0).bind fun q1 => k93 q1 F x1 x2 x3 x4 (x5 + 1)
def mX3_readArgs_191 (k93 : iT → fT → Int32 → Int32 → Int32 → Int32 → Int32 → Option (iT)) (I : iT) (F : fT) (x1 : Int32) (x2 : Int32) (x3 : Int32) (x4 : Int32) (x5 : Int32) (x6 : Int32) (x7 : Int32) : Option (iT) := if x4 ≤ x5 then mX3_readArgs_209 (k93) I F x1 x2 x3 x4 x5 x6 x7 41 else mX3_readArgs_209 (k93) I F x1 x2 x3 x4 x5 x6 x7 44
def mX3_readArgs_169 (k93 : iT → fT → Int32 → Int32 → Int32 → Int32 → Int32 → Option (iT)) (I : iT) (F : fT) (x1 : Int32) (x2 : Int32) (x3 : Int32) (x4 : Int32) (x5 : Int32) (x6 : Int32) (x7 : Int32) (s0 : Int32) : Option (iT) := (mX2_is I s0).bind fun q2 => if q2 = 0 then mX3_readArgs_191 (k93) I F x1 x2 x3 x4 x5 x6 x7 else (mX2_refuse I 6 (I 6 8)).bind fun q3 => mX3_readArgs_191 (k93) q3 F x1 x2 x3 x4 x5 x6 x7
def mX3_readArgs_136 (k93 : iT → fT → Int32 → Int32 → Int32 → Int32 → Int32 → Option (iT)) (I : iT) (F : fT) (x1 : Int32) (x2 : Int32) (x3 : Int32) (x4 : Int32) (x5 : Int32) (x6 : Int32) (s0 : Int32) : Option (iT) := (mX4_add ((F 134 4) + 59) I s0).bind fun q4 => if x4 ≤ x5 then mX3_readArgs_169 (k93) q4.2 F x1 x2 x3 x4 x5 x6 s0 44 else mX3_readArgs_169 (k93) q4.2 F x1 x2 x3 x4 x5 x6 s0 41
def mX3_readArgs_93 : Nat → iT → fT → Int32 → Int32 → Int32 → Int32 → Int32 → Option (iT)
  | 0, _, _, _, _, _, _, _ => none
  | n + 1, I, F, x1, x2, x3, x4, x5 => if x4 < x5 then if 0 ≤ x4 then some I else (mX2_want I 41).bind fun q5 => some q5 else (mX0_paramT (F 134 4) I x2 x5).bind fun q6 => if q6 = ((-1)) then (mX7_readSum SF I F 0 x3).bind fun q8 => mX3_readArgs_136 (mX3_readArgs_93 n) q8.2 F x1 x2 x3 x4 x5 q6 q8.1 else (mX3_readChannelArg I q6).bind fun q7 => mX3_readArgs_136 (mX3_readArgs_93 n) q7.2 F x1 x2 x3 x4 x5 q6 q7.1
def mX3_readArgs_90 (I : iT) (F : fT) (x1 : Int32) (x2 : Int32) (x3 : Int32) (x4 : Int32) : Option (iT) := mX3_readArgs_93 LF I F x1 x2 x3 x4 0
def mX3_readArgs (I : iT) (F : fT) (x1 : Int32) (x2 : Int32) (x3 : Int32) : Option (iT) := (mX4_at ((F 134 4) + 43) I x2).bind fun q9 => (mX4_put ((F 134 4) + 51) I x1 x2).bind fun q10 => (mX4_size ((F 134 4) + 59) q10).bind fun q11 => (mX4_put ((F 134 4) + 53) q10 x1 q11).bind fun q12 => (mX2_want q12 40).bind fun q13 => if (q9 - 1) < 0 then mX3_readArgs_90 q13 F x1 x2 x3 (q9 - 1) else (mX2_is q13 41).bind fun q14 => if q14 = 0 then mX3_readArgs_90 q13 F x1 x2 x3 (q9 - 1) else (mX2_refuse q13 6 (q13 6 8)).bind fun q15 => mX3_readArgs_90 q15 F x1 x2 x3 (q9 - 1)
set_option maxRecDepth 100000 in
set_option maxHeartbeats 4000000 in
theorem tX3_readArgs_209 {l : Launch} {K : a_KT} {g : a_GT} {IB : iT} (hko : a_kok K) {J : jT} {k93 : iT → fT → Int32 → Int32 → Int32 → Int32 → Int32 → Option (iT)} (hk93 : ∀ (I : iT) (F : fT) (x1 : Int32) (x2 : Int32) (x3 : Int32) (x4 : Int32) (x5 : Int32) (_ : FK F) (q : iT), k93 I F x1 x2 x3 x4 x5 = some q → E l K g 453 0 0 yX3_readArgs cX3_readArgs 8 none 93 [.ref 134, .int x1, .int x2, .int x3, .int x4, .int x5, .null, .null] [] (hg I IB J F) (fun r2 h2 => r2 = none ∧ h2 = hg q IB J F)) (I : iT) (F : fT) (x1 : Int32) (x2 : Int32) (x3 : Int32) (x4 : Int32) (x5 : Int32) (x6 : Int32) (x7 : Int32) (s0 : Int32) (hF : FK F) (q : iT) (hm : mX3_readArgs_209 k93 I F x1 x2 x3 x4 x5 x6 x7 s0 = some q) : E l K g 453 0 0 yX3_readArgs cX3_readArgs 8 none 209 [.ref 134, .int x1, .int x2, .int x3, .int x4, .int x5, .int x6, .int x7] [.int s0, .ref 6] (hg I IB J F) (fun r2 h2 => r2 = none ∧ h2 = hg q IB J F) := by
  unfold mX3_readArgs_209 at hm
  obtain ⟨q1, eq1, hm⟩ := ob_some hm
  refine e_cV1 hko dX3_readArgs_209 ml_RX3_78 iz_6 (by decide) rfl (by omega) (Nat.le_of_ble_eq_true rfl) (tX2_want hko I J F hF s0 _ eq1) ?_
  rintro _ _ ⟨rfl, rfl⟩
  refine q_iinc (i := 5) (x5 + 1) rfl ic_1 rfl dX3_readArgs_212 ?_
  refine e_goto 93 dX3_readArgs_215 (by decide) ?_
  refine e_weak [.ref 134, .int x1, .int x2, .int x3, .int x4, .int (x5 + 1), .null, .null] ⟨rfl, ⟨rfl, ⟨rfl, ⟨rfl, ⟨rfl, ⟨rfl, ⟨trivial, ⟨trivial, trivial⟩⟩⟩⟩⟩⟩⟩⟩ ?_
  exact hk93 q1 F x1 x2 x3 x4 (x5 + 1) hF _ hm
set_option maxRecDepth 100000 in
set_option maxHeartbeats 4000000 in
theorem tX3_readArgs_191 {l : Launch} {K : a_KT} {g : a_GT} {IB : iT} (hko : a_kok K) {J : jT} {k93 : iT → fT → Int32 → Int32 → Int32 → Int32 → Int32 → Option (iT)} (hk93 : ∀ (I : iT) (F : fT) (x1 : Int32) (x2 : Int32) (x3 : Int32) (x4 : Int32) (x5 : Int32) (_ : FK F) (q : iT), k93 I F x1 x2 x3 x4 x5 = some q → E l K g 453 0 0 yX3_readArgs cX3_readArgs 8 none 93 [.ref 134, .int x1, .int x2, .int x3, .int x4, .int x5, .null, .null] [] (hg I IB J F) (fun r2 h2 => r2 = none ∧ h2 = hg q IB J F)) (I : iT) (F : fT) (x1 : Int32) (x2 : Int32) (x3 : Int32) (x4 : Int32) (x5 : Int32) (x6 : Int32) (x7 : Int32) (hF : FK F) (q : iT) (hm : mX3_readArgs_191 k93 I F x1 x2 x3 x4 x5 x6 x7 = some q) : E l K g 453 0 0 yX3_readArgs cX3_readArgs 8 none 191 [.ref 134, .int x1, .int x2, .int x3, .int x4, .int x5, .int x6, .int x7] [] (hg I IB J F) (fun r2 h2 => r2 = none ∧ h2 = hg q IB J F) := by
  unfold mX3_readArgs_191 at hm
  refine e_aload_n (i := 0) rfl dX3_readArgs_191 ?_
  refine q_getF 3 0 6 dX3_readArgs_192 fl_RX3_22 rfl iz_134 (fr_134_0 hF.1) ?_
  refine e_iload (i := 5) rfl dX3_readArgs_195 ?_
  refine e_iload (i := 4) rfl dX3_readArgs_197 ?_
  refine e_icmp_ge 207 dX3_readArgs_199 (by decide) (fun c_199 => ?_) (fun c_199 => ?_)
  · have hm := it_p c_199 hm
    refine e_bipush (v := 41) (by decide) dX3_readArgs_207 ?_
    refine e_weak [.ref 134, .int x1, .int x2, .int x3, .int x4, .int x5, .int x6, .int x7] ⟨rfl, ⟨rfl, ⟨rfl, ⟨rfl, ⟨rfl, ⟨rfl, ⟨rfl, ⟨rfl, trivial⟩⟩⟩⟩⟩⟩⟩⟩ ?_
    exact tX3_readArgs_209 hko (hk93) I F x1 x2 x3 x4 x5 x6 x7 41 hF _ hm
  · have hm := it_n c_199 hm
    refine e_bipush (v := 44) (by decide) dX3_readArgs_202 ?_
    refine e_goto 209 dX3_readArgs_204 (by decide) ?_
    refine e_weak [.ref 134, .int x1, .int x2, .int x3, .int x4, .int x5, .int x6, .int x7] ⟨rfl, ⟨rfl, ⟨rfl, ⟨rfl, ⟨rfl, ⟨rfl, ⟨rfl, ⟨rfl, trivial⟩⟩⟩⟩⟩⟩⟩⟩ ?_
    exact tX3_readArgs_209 hko (hk93) I F x1 x2 x3 x4 x5 x6 x7 44 hF _ hm
set_option maxRecDepth 100000 in
set_option maxHeartbeats 4000000 in
theorem tX3_readArgs_169 {l : Launch} {K : a_KT} {g : a_GT} {IB : iT} (hko : a_kok K) {J : jT} {k93 : iT → fT → Int32 → Int32 → Int32 → Int32 → Int32 → Option (iT)} (hk93 : ∀ (I : iT) (F : fT) (x1 : Int32) (x2 : Int32) (x3 : Int32) (x4 : Int32) (x5 : Int32) (_ : FK F) (q : iT), k93 I F x1 x2 x3 x4 x5 = some q → E l K g 453 0 0 yX3_readArgs cX3_readArgs 8 none 93 [.ref 134, .int x1, .int x2, .int x3, .int x4, .int x5, .null, .null] [] (hg I IB J F) (fun r2 h2 => r2 = none ∧ h2 = hg q IB J F)) (I : iT) (F : fT) (x1 : Int32) (x2 : Int32) (x3 : Int32) (x4 : Int32) (x5 : Int32) (x6 : Int32) (x7 : Int32) (s0 : Int32) (hF : FK F) (q : iT) (hm : mX3_readArgs_169 k93 I F x1 x2 x3 x4 x5 x6 x7 s0 = some q) : E l K g 453 0 0 yX3_readArgs cX3_readArgs 8 none 169 [.ref 134, .int x1, .int x2, .int x3, .int x4, .int x5, .int x6, .int x7] [.int s0, .ref 6] (hg I IB J F) (fun r2 h2 => r2 = none ∧ h2 = hg q IB J F) := by
  unfold mX3_readArgs_169 at hm
  obtain ⟨q2, eq2, hm⟩ := ob_some hm
  refine e_cV1 hko dX3_readArgs_169 ml_RX3_151 iz_6 (by decide) rfl (by omega) (Nat.le_of_ble_eq_true rfl) (tX2_is hko I J F hF s0 _ eq2) ?_
  rintro _ _ ⟨rfl, rfl⟩
  refine e_if_eq 191 dX3_readArgs_172 (by decide) (fun c_172 => ?_) (fun c_172 => ?_)
  · have hm := it_p c_172 hm
    refine e_weak [.ref 134, .int x1, .int x2, .int x3, .int x4, .int x5, .int x6, .int x7] ⟨rfl, ⟨rfl, ⟨rfl, ⟨rfl, ⟨rfl, ⟨rfl, ⟨rfl, ⟨rfl, trivial⟩⟩⟩⟩⟩⟩⟩⟩ ?_
    exact tX3_readArgs_191 hko (hk93) I F x1 x2 x3 x4 x5 x6 x7 hF _ hm
  · have hm := it_n c_172 hm
    refine e_aload_n (i := 0) rfl dX3_readArgs_175 ?_
    refine q_getF 3 0 6 dX3_readArgs_176 fl_RX3_22 rfl iz_134 (fr_134_0 hF.1) ?_
    refine e_bipush (v := 6) (by decide) dX3_readArgs_179 ?_
    refine e_aload_n (i := 0) rfl dX3_readArgs_181 ?_
    refine q_getF 3 0 6 dX3_readArgs_182 fl_RX3_22 rfl iz_134 (fr_134_0 hF.1) ?_
    refine k_getI 2 8 dX3_readArgs_185 fl_RX3_95 rfl iz_6 (by decide) ?_
    obtain ⟨q3, eq3, hm⟩ := ob_some hm
    refine e_cV2 hko dX3_readArgs_188 ml_RX3_104 iz_6 (by decide) rfl (by omega) (Nat.le_of_ble_eq_true rfl) (tX2_refuse hko I J F hF 6 (I 6 8) _ eq3) ?_
    rintro _ _ ⟨rfl, rfl⟩
    refine e_weak [.ref 134, .int x1, .int x2, .int x3, .int x4, .int x5, .int x6, .int x7] ⟨rfl, ⟨rfl, ⟨rfl, ⟨rfl, ⟨rfl, ⟨rfl, ⟨rfl, ⟨rfl, trivial⟩⟩⟩⟩⟩⟩⟩⟩ ?_
    exact tX3_readArgs_191 hko (hk93) q3 F x1 x2 x3 x4 x5 x6 x7 hF _ hm
set_option maxRecDepth 100000 in
set_option maxHeartbeats 4000000 in
theorem tX3_readArgs_136 {l : Launch} {K : a_KT} {g : a_GT} {IB : iT} (hko : a_kok K) {J : jT} {k93 : iT → fT → Int32 → Int32 → Int32 → Int32 → Int32 → Option (iT)} (hk93 : ∀ (I : iT) (F : fT) (x1 : Int32) (x2 : Int32) (x3 : Int32) (x4 : Int32) (x5 : Int32) (_ : FK F) (q : iT), k93 I F x1 x2 x3 x4 x5 = some q → E l K g 453 0 0 yX3_readArgs cX3_readArgs 8 none 93 [.ref 134, .int x1, .int x2, .int x3, .int x4, .int x5, .null, .null] [] (hg I IB J F) (fun r2 h2 => r2 = none ∧ h2 = hg q IB J F)) (I : iT) (F : fT) (x1 : Int32) (x2 : Int32) (x3 : Int32) (x4 : Int32) (x5 : Int32) (x6 : Int32) (s0 : Int32) (hF : FK F) (q : iT) (hm : mX3_readArgs_136 k93 I F x1 x2 x3 x4 x5 x6 s0 = some q) : E l K g 453 0 0 yX3_readArgs cX3_readArgs 8 none 136 [.ref 134, .int x1, .int x2, .int x3, .int x4, .int x5, .int x6, .null] [.int s0] (hg I IB J F) (fun r2 h2 => r2 = none ∧ h2 = hg q IB J F) := by
  unfold mX3_readArgs_136 at hm
  refine q_istore (i := 7) (by decide) rfl dX3_readArgs_136 ?_
  refine e_aload_n (i := 0) rfl dX3_readArgs_138 ?_
  refine q_getF 3 4 (F 134 4) dX3_readArgs_139 fl_RX3_26 rfl iz_134 rfl ?_
  refine q_getF 0 17 ((F 134 4) + 59) dX3_readArgs_142 fl_RX3_304 rfl (iz_bk hF.2.2.2.1) (frb_17 hF.1 hF.2.2.2.1) ?_
  refine e_iload (i := 7) rfl dX3_readArgs_145 ?_
  obtain ⟨q4, eq4, hm⟩ := ob_some hm
  refine e_cV1 hko dX3_readArgs_147 ml_RX3_86 (iz_row (rwb_59 hF.2.2.2.1)) (by decide) rfl (by omega) (Nat.le_of_ble_eq_true rfl) (tX4_add hko (rwb_59 hF.2.2.2.1) I J F hF s0 _ eq4) ?_
  rintro _ _ ⟨rfl, rfl⟩
  refine e_pop rfl dX3_readArgs_150 ?_
  refine e_aload_n (i := 0) rfl dX3_readArgs_151 ?_
  refine q_getF 3 0 6 dX3_readArgs_152 fl_RX3_22 rfl iz_134 (fr_134_0 hF.1) ?_
  refine e_iload (i := 5) rfl dX3_readArgs_155 ?_
  refine e_iload (i := 4) rfl dX3_readArgs_157 ?_
  refine e_icmp_ge 167 dX3_readArgs_159 (by decide) (fun c_159 => ?_) (fun c_159 => ?_)
  · have hm := it_p c_159 hm
    refine e_bipush (v := 44) (by decide) dX3_readArgs_167 ?_
    refine e_weak [.ref 134, .int x1, .int x2, .int x3, .int x4, .int x5, .int x6, .int s0] ⟨rfl, ⟨rfl, ⟨rfl, ⟨rfl, ⟨rfl, ⟨rfl, ⟨rfl, ⟨rfl, trivial⟩⟩⟩⟩⟩⟩⟩⟩ ?_
    exact tX3_readArgs_169 hko (hk93) q4.2 F x1 x2 x3 x4 x5 x6 s0 44 hF _ hm
  · have hm := it_n c_159 hm
    refine e_bipush (v := 41) (by decide) dX3_readArgs_162 ?_
    refine e_goto 169 dX3_readArgs_164 (by decide) ?_
    refine e_weak [.ref 134, .int x1, .int x2, .int x3, .int x4, .int x5, .int x6, .int s0] ⟨rfl, ⟨rfl, ⟨rfl, ⟨rfl, ⟨rfl, ⟨rfl, ⟨rfl, ⟨rfl, trivial⟩⟩⟩⟩⟩⟩⟩⟩ ?_
    exact tX3_readArgs_169 hko (hk93) q4.2 F x1 x2 x3 x4 x5 x6 s0 41 hF _ hm
set_option maxRecDepth 100000 in
set_option maxHeartbeats 4000000 in
theorem tX3_readArgs_93 {l : Launch} {K : a_KT} {g : a_GT} {IB : iT} (hko : a_kok K) {J : jT} : ∀ (n : Nat) (I : iT) (F : fT) (x1 : Int32) (x2 : Int32) (x3 : Int32) (x4 : Int32) (x5 : Int32) (hF : FK F) (q : iT), mX3_readArgs_93 n I F x1 x2 x3 x4 x5 = some q → E l K g 453 0 0 yX3_readArgs cX3_readArgs 8 none 93 [.ref 134, .int x1, .int x2, .int x3, .int x4, .int x5, .null, .null] [] (hg I IB J F) (fun r2 h2 => r2 = none ∧ h2 = hg q IB J F) := by
  intro n
  induction n with
  | zero => intro I F x1 x2 x3 x4 x5 hF q hm; cases hm
  | succ n ih =>
    intro I F x1 x2 x3 x4 x5 hF q hm
    rw [mX3_readArgs_93] at hm
    refine e_iload (i := 5) rfl dX3_readArgs_93 ?_
    refine e_iload (i := 4) rfl dX3_readArgs_95 ?_
    refine e_icmp_gt 218 dX3_readArgs_97 (by decide) (fun c_97 => ?_) (fun c_97 => ?_)
    · have hm := it_p c_97 hm
      refine e_iload (i := 4) rfl dX3_readArgs_218 ?_
      refine e_if_ge 232 dX3_readArgs_220 (by decide) (fun c_220 => ?_) (fun c_220 => ?_)
      · have hm := it_p c_220 hm
        refine e_vret dX3_readArgs_232 rfl ?_
        have hm := some_in hm
        subst hm
        exact ⟨rfl, rfl⟩
      · have hm := it_n c_220 hm
        refine e_aload_n (i := 0) rfl dX3_readArgs_223 ?_
        refine q_getF 3 0 6 dX3_readArgs_224 fl_RX3_22 rfl iz_134 (fr_134_0 hF.1) ?_
        refine e_bipush (v := 41) (by decide) dX3_readArgs_227 ?_
        obtain ⟨q5, eq5, hm⟩ := ob_some hm
        refine e_cV1 hko dX3_readArgs_229 ml_RX3_78 iz_6 (by decide) rfl (by omega) (Nat.le_of_ble_eq_true rfl) (tX2_want hko I J F hF 41 _ eq5) ?_
        rintro _ _ ⟨rfl, rfl⟩
        refine e_vret dX3_readArgs_232 rfl ?_
        have hm := some_in hm
        subst hm
        exact ⟨rfl, rfl⟩
    · have hm := it_n c_97 hm
      refine e_aload_n (i := 0) rfl dX3_readArgs_100 ?_
      refine q_getF 3 4 (F 134 4) dX3_readArgs_101 fl_RX3_26 rfl iz_134 rfl ?_
      refine e_iload_n (i := 2) rfl dX3_readArgs_104 ?_
      refine e_iload (i := 5) rfl dX3_readArgs_105 ?_
      obtain ⟨q6, eq6, hm⟩ := ob_some hm
      refine e_cV2 hko dX3_readArgs_107 ml_RX3_307 (iz_bk hF.2.2.2.1) (by decide) rfl (by omega) (Nat.le_of_ble_eq_true rfl) (tX0_paramT hko hF.2.2.2.1 I J F hF x2 x5 _ eq6) ?_
      rintro _ _ ⟨rfl, rfl⟩
      refine q_istore (i := 6) (by decide) rfl dX3_readArgs_110 ?_
      refine e_iload (i := 6) rfl dX3_readArgs_112 ?_
      refine e_iconst (v := (-1)) (by decide) dX3_readArgs_114 ?_
      refine e_icmp_ne 130 dX3_readArgs_115 (by decide) (fun c_115 => ?_) (fun c_115 => ?_)
      · have hm := it_n c_115 hm
        refine e_aload_n (i := 0) rfl dX3_readArgs_130 ?_
        refine e_iload (i := 6) rfl dX3_readArgs_131 ?_
        obtain ⟨q7, eq7, hm⟩ := ob_some hm
        refine e_cV1 hko dX3_readArgs_133 ml_RX3_310 iz_134 (by decide) rfl (by omega) (Nat.le_of_ble_eq_true rfl) (tX3_readChannelArg hko I J F hF q6 _ eq7) ?_
        rintro _ _ ⟨rfl, rfl⟩
        refine e_weak [.ref 134, .int x1, .int x2, .int x3, .int x4, .int x5, .int q6, .null] ⟨rfl, ⟨rfl, ⟨rfl, ⟨rfl, ⟨rfl, ⟨rfl, ⟨rfl, ⟨trivial, trivial⟩⟩⟩⟩⟩⟩⟩⟩ ?_
        exact tX3_readArgs_136 hko (ih) q7.2 F x1 x2 x3 x4 x5 q6 q7.1 hF _ hm
      · have hm := it_p c_115 hm
        refine e_aload_n (i := 0) rfl dX3_readArgs_118 ?_
        refine q_getF 3 3 147 dX3_readArgs_119 fl_RX3_50 rfl iz_134 (fr_134_3 hF.1) ?_
        refine e_iconst (v := 0) (by decide) dX3_readArgs_122 ?_
        refine e_iload_n (i := 3) rfl dX3_readArgs_123 ?_
        obtain ⟨q8, eq8, hm⟩ := ob_some hm
        refine e_cV2 hko dX3_readArgs_124 ml_RX3_213 iz_147 (by decide) rfl (by omega) (Nat.le_of_ble_eq_true rfl) (tX7_readSum hko I J F hF 0 x3 _ eq8) ?_
        rintro _ _ ⟨rfl, rfl⟩
        refine e_goto 136 dX3_readArgs_127 (by decide) ?_
        refine e_weak [.ref 134, .int x1, .int x2, .int x3, .int x4, .int x5, .int q6, .null] ⟨rfl, ⟨rfl, ⟨rfl, ⟨rfl, ⟨rfl, ⟨rfl, ⟨rfl, ⟨trivial, trivial⟩⟩⟩⟩⟩⟩⟩⟩ ?_
        exact tX3_readArgs_136 hko (ih) q8.2 F x1 x2 x3 x4 x5 q6 q8.1 hF _ hm
set_option maxRecDepth 100000 in
set_option maxHeartbeats 4000000 in
theorem tX3_readArgs_90 {l : Launch} {K : a_KT} {g : a_GT} {IB : iT} (hko : a_kok K) {J : jT} (I : iT) (F : fT) (x1 : Int32) (x2 : Int32) (x3 : Int32) (x4 : Int32) (hF : FK F) (q : iT) (hm : mX3_readArgs_90 I F x1 x2 x3 x4 = some q) : E l K g 453 0 0 yX3_readArgs cX3_readArgs 8 none 90 [.ref 134, .int x1, .int x2, .int x3, .int x4, .null, .null, .null] [] (hg I IB J F) (fun r2 h2 => r2 = none ∧ h2 = hg q IB J F) := by
  unfold mX3_readArgs_90 at hm
  refine e_iconst (v := 0) (by decide) dX3_readArgs_90 ?_
  refine q_istore (i := 5) (by decide) rfl dX3_readArgs_91 ?_
  refine e_weak [.ref 134, .int x1, .int x2, .int x3, .int x4, .int 0, .null, .null] ⟨rfl, ⟨rfl, ⟨rfl, ⟨rfl, ⟨rfl, ⟨rfl, ⟨trivial, ⟨trivial, trivial⟩⟩⟩⟩⟩⟩⟩⟩ ?_
  exact tX3_readArgs_93 hko LF I F x1 x2 x3 x4 0 hF _ hm
set_option maxRecDepth 100000 in
set_option maxHeartbeats 4000000 in
theorem tX3_readArgs {l : Launch} {K : a_KT} {g : a_GT} {IB : iT} (hko : a_kok K) (I : iT) (J : jT) (F : fT) (hF : FK F) (x1 : Int32) (x2 : Int32) (x3 : Int32) (q : iT) (hm : mX3_readArgs I F x1 x2 x3 = some q) : C l K g 453 0 0 yX3_readArgs cX3_readArgs 8 none [.ref 134, .int x1, .int x2, .int x3] (hg I IB J F) (fun r2 h2 => r2 = none ∧ h2 = hg q IB J F) := by
  unfold mX3_readArgs at hm
  refine c_of [.ref 134, .int x1, .int x2, .int x3, .null, .null, .null, .null] (by decide) (Nat.le_of_ble_eq_true rfl) rfl ?_
  refine e_aload_n (i := 0) rfl dX3_readArgs_0 ?_
  refine q_getF 3 4 (F 134 4) dX3_readArgs_1 fl_RX3_26 rfl iz_134 rfl ?_
  refine q_getF 0 9 ((F 134 4) + 43) dX3_readArgs_4 fl_RX3_160 rfl (iz_bk hF.2.2.2.1) (frb_9 hF.1 hF.2.2.2.1) ?_
  refine e_iload_n (i := 2) rfl dX3_readArgs_7 ?_
  obtain ⟨q9, eq9, hm⟩ := ob_some hm
  refine e_cV1 hko dX3_readArgs_8 ml_RX3_257 (iz_row (rwb_43 hF.2.2.2.1)) (by decide) rfl (by omega) (Nat.le_of_ble_eq_true rfl) (tX4_at hko (rwb_43 hF.2.2.2.1) I J F hF x2 _ eq9) ?_
  rintro _ _ ⟨rfl, rfl⟩
  refine e_iconst (v := 1) (by decide) dX3_readArgs_11 ?_
  refine e_isub dX3_readArgs_12 ?_
  refine q_istore (i := 4) (by decide) rfl dX3_readArgs_13 ?_
  refine e_aload_n (i := 0) rfl dX3_readArgs_15 ?_
  refine q_getF 3 4 (F 134 4) dX3_readArgs_16 fl_RX3_26 rfl iz_134 rfl ?_
  refine q_getF 0 13 ((F 134 4) + 51) dX3_readArgs_19 fl_RX3_219 rfl (iz_bk hF.2.2.2.1) (frb_13 hF.1 hF.2.2.2.1) ?_
  refine e_iload_n (i := 1) rfl dX3_readArgs_22 ?_
  refine e_iload_n (i := 2) rfl dX3_readArgs_23 ?_
  obtain ⟨q10, eq10, hm⟩ := ob_some hm
  refine e_cV2 hko dX3_readArgs_24 ml_RX3_154 (iz_row (rwb_51 hF.2.2.2.1)) (by decide) rfl (by omega) (Nat.le_of_ble_eq_true rfl) (tX4_put hko (rwb_51 hF.2.2.2.1) I J F hF x1 x2 _ eq10) ?_
  rintro _ _ ⟨rfl, rfl⟩
  refine e_aload_n (i := 0) rfl dX3_readArgs_27 ?_
  refine q_getF 3 4 (F 134 4) dX3_readArgs_28 fl_RX3_26 rfl iz_134 rfl ?_
  refine q_getF 0 14 ((F 134 4) + 53) dX3_readArgs_31 fl_RX3_210 rfl (iz_bk hF.2.2.2.1) (frb_14 hF.1 hF.2.2.2.1) ?_
  refine e_iload_n (i := 1) rfl dX3_readArgs_34 ?_
  refine e_aload_n (i := 0) rfl dX3_readArgs_35 ?_
  refine q_getF 3 4 (F 134 4) dX3_readArgs_36 fl_RX3_26 rfl iz_134 rfl ?_
  refine q_getF 0 17 ((F 134 4) + 59) dX3_readArgs_39 fl_RX3_304 rfl (iz_bk hF.2.2.2.1) (frb_17 hF.1 hF.2.2.2.1) ?_
  obtain ⟨q11, eq11, hm⟩ := ob_some hm
  refine e_cV0 hko dX3_readArgs_42 ml_RX3_108 (iz_row (rwb_59 hF.2.2.2.1)) (by decide) rfl (by omega) (Nat.le_of_ble_eq_true rfl) (tX4_size hko (rwb_59 hF.2.2.2.1) q10 J F hF _ eq11) ?_
  rintro _ _ ⟨rfl, rfl⟩
  obtain ⟨q12, eq12, hm⟩ := ob_some hm
  refine e_cV2 hko dX3_readArgs_45 ml_RX3_154 (iz_row (rwb_53 hF.2.2.2.1)) (by decide) rfl (by omega) (Nat.le_of_ble_eq_true rfl) (tX4_put hko (rwb_53 hF.2.2.2.1) q10 J F hF x1 q11 _ eq12) ?_
  rintro _ _ ⟨rfl, rfl⟩
  refine e_aload_n (i := 0) rfl dX3_readArgs_48 ?_
  refine q_getF 3 0 6 dX3_readArgs_49 fl_RX3_22 rfl iz_134 (fr_134_0 hF.1) ?_
  refine e_bipush (v := 40) (by decide) dX3_readArgs_52 ?_
  obtain ⟨q13, eq13, hm⟩ := ob_some hm
  refine e_cV1 hko dX3_readArgs_54 ml_RX3_78 iz_6 (by decide) rfl (by omega) (Nat.le_of_ble_eq_true rfl) (tX2_want hko q12 J F hF 40 _ eq13) ?_
  rintro _ _ ⟨rfl, rfl⟩
  refine e_iload (i := 4) rfl dX3_readArgs_57 ?_
  refine e_if_lt 90 dX3_readArgs_59 (by decide) (fun c_59 => ?_) (fun c_59 => ?_)
  · have hm := it_p c_59 hm
    refine e_weak [.ref 134, .int x1, .int x2, .int x3, .int (q9 - 1), .null, .null, .null] ⟨rfl, ⟨rfl, ⟨rfl, ⟨rfl, ⟨rfl, ⟨trivial, ⟨trivial, ⟨trivial, trivial⟩⟩⟩⟩⟩⟩⟩⟩ ?_
    exact tX3_readArgs_90 hko q13 F x1 x2 x3 (q9 - 1) hF _ hm
  · have hm := it_n c_59 hm
    refine e_aload_n (i := 0) rfl dX3_readArgs_62 ?_
    refine q_getF 3 0 6 dX3_readArgs_63 fl_RX3_22 rfl iz_134 (fr_134_0 hF.1) ?_
    refine e_bipush (v := 41) (by decide) dX3_readArgs_66 ?_
    obtain ⟨q14, eq14, hm⟩ := ob_some hm
    refine e_cV1 hko dX3_readArgs_68 ml_RX3_151 iz_6 (by decide) rfl (by omega) (Nat.le_of_ble_eq_true rfl) (tX2_is hko q13 J F hF 41 _ eq14) ?_
    rintro _ _ ⟨rfl, rfl⟩
    refine e_if_eq 90 dX3_readArgs_71 (by decide) (fun c_71 => ?_) (fun c_71 => ?_)
    · have hm := it_p c_71 hm
      refine e_weak [.ref 134, .int x1, .int x2, .int x3, .int (q9 - 1), .null, .null, .null] ⟨rfl, ⟨rfl, ⟨rfl, ⟨rfl, ⟨rfl, ⟨trivial, ⟨trivial, ⟨trivial, trivial⟩⟩⟩⟩⟩⟩⟩⟩ ?_
      exact tX3_readArgs_90 hko q13 F x1 x2 x3 (q9 - 1) hF _ hm
    · have hm := it_n c_71 hm
      refine e_aload_n (i := 0) rfl dX3_readArgs_74 ?_
      refine q_getF 3 0 6 dX3_readArgs_75 fl_RX3_22 rfl iz_134 (fr_134_0 hF.1) ?_
      refine e_bipush (v := 6) (by decide) dX3_readArgs_78 ?_
      refine e_aload_n (i := 0) rfl dX3_readArgs_80 ?_
      refine q_getF 3 0 6 dX3_readArgs_81 fl_RX3_22 rfl iz_134 (fr_134_0 hF.1) ?_
      refine k_getI 2 8 dX3_readArgs_84 fl_RX3_95 rfl iz_6 (by decide) ?_
      obtain ⟨q15, eq15, hm⟩ := ob_some hm
      refine e_cV2 hko dX3_readArgs_87 ml_RX3_104 iz_6 (by decide) rfl (by omega) (Nat.le_of_ble_eq_true rfl) (tX2_refuse hko q13 J F hF 6 (q13 6 8) _ eq15) ?_
      rintro _ _ ⟨rfl, rfl⟩
      refine e_weak [.ref 134, .int x1, .int x2, .int x3, .int (q9 - 1), .null, .null, .null] ⟨rfl, ⟨rfl, ⟨rfl, ⟨rfl, ⟨rfl, ⟨trivial, ⟨trivial, ⟨trivial, trivial⟩⟩⟩⟩⟩⟩⟩⟩ ?_
      exact tX3_readArgs_90 hko q15 F x1 x2 x3 (q9 - 1) hF _ hm
theorem dX3_readDefAhead_0 : decode cX3_readDefAhead 0 = .ok (.aload_n 0, 1) := by decide +kernel
theorem dX3_readDefAhead_1 : decode cX3_readDefAhead 1 = .ok (.getfield 22, 3) := by decide +kernel
theorem dX3_readDefAhead_4 : decode cX3_readDefAhead 4 = .ok (.getfield 95, 3) := by decide +kernel
theorem dX3_readDefAhead_7 : decode cX3_readDefAhead 7 = .ok (.istore_n 1, 1) := by decide +kernel
theorem dX3_readDefAhead_8 : decode cX3_readDefAhead 8 = .ok (.aload_n 0, 1) := by decide +kernel
theorem dX3_readDefAhead_9 : decode cX3_readDefAhead 9 = .ok (.getfield 26, 3) := by decide +kernel
theorem dX3_readDefAhead_12 : decode cX3_readDefAhead 12 = .ok (.getfield 111, 3) := by decide +kernel
theorem dX3_readDefAhead_15 : decode cX3_readDefAhead 15 = .ok (.aload_n 0, 1) := by decide +kernel
theorem dX3_readDefAhead_16 : decode cX3_readDefAhead 16 = .ok (.getfield 22, 3) := by decide +kernel
theorem dX3_readDefAhead_19 : decode cX3_readDefAhead 19 = .ok (.invokevirtual 98, 3) := by decide +kernel
theorem dX3_readDefAhead_22 : decode cX3_readDefAhead 22 = .ok (.invokevirtual 101, 3) := by decide +kernel
theorem dX3_readDefAhead_25 : decode cX3_readDefAhead 25 = .ok (.istore_n 2, 1) := by decide +kernel
theorem dX3_readDefAhead_26 : decode cX3_readDefAhead 26 = .ok (.iload_n 2, 1) := by decide +kernel
theorem dX3_readDefAhead_27 : decode cX3_readDefAhead 27 = .ok (.iconst (-1), 1) := by decide +kernel
theorem dX3_readDefAhead_28 : decode cX3_readDefAhead 28 = .ok (.if_icmp .ne 12, 3) := by decide +kernel
theorem dX3_readDefAhead_31 : decode cX3_readDefAhead 31 = .ok (.aload_n 0, 1) := by decide +kernel
theorem dX3_readDefAhead_32 : decode cX3_readDefAhead 32 = .ok (.getfield 22, 3) := by decide +kernel
theorem dX3_readDefAhead_35 : decode cX3_readDefAhead 35 = .ok (.iconst 2, 1) := by decide +kernel
theorem dX3_readDefAhead_36 : decode cX3_readDefAhead 36 = .ok (.iload_n 1, 1) := by decide +kernel
theorem dX3_readDefAhead_37 : decode cX3_readDefAhead 37 = .ok (.invokevirtual 104, 3) := by decide +kernel
theorem dX3_readDefAhead_40 : decode cX3_readDefAhead 40 = .ok (.iload_n 2, 1) := by decide +kernel
theorem dX3_readDefAhead_41 : decode cX3_readDefAhead 41 = .ok (.ireturn, 1) := by decide +kernel
def mX3_readDefAhead (I : iT) (F : fT) : Option (Int32 × iT) := (mX2_takeName I).bind fun q1 => (mX4_find ((F 134 4) + 33) q1.2 q1.1).bind fun q2 => if q2 = ((-1)) then (mX2_refuse q1.2 2 (I 6 8)).bind fun q3 => some (q2, q3) else some (q2, q1.2)
set_option maxRecDepth 100000 in
set_option maxHeartbeats 4000000 in
theorem tX3_readDefAhead {l : Launch} {K : a_KT} {g : a_GT} {IB : iT} (hko : a_kok K) (I : iT) (J : jT) (F : fT) (hF : FK F) (q : Int32 × iT) (hm : mX3_readDefAhead I F = some q) : C l K g 2 0 0 yX3_readDefAhead cX3_readDefAhead 3 (some .int) [.ref 134] (hg I IB J F) (fun r2 h2 => r2 = some (.int q.1) ∧ h2 = hg q.2 IB J F) := by
  unfold mX3_readDefAhead at hm
  refine c_of [.ref 134, .null, .null] (by decide) (Nat.le_of_ble_eq_true rfl) rfl ?_
  refine e_aload_n (i := 0) rfl dX3_readDefAhead_0 ?_
  refine q_getF 3 0 6 dX3_readDefAhead_1 fl_RX3_22 rfl iz_134 (fr_134_0 hF.1) ?_
  refine k_getI 2 8 dX3_readDefAhead_4 fl_RX3_95 rfl iz_6 (by decide) ?_
  refine q_istore_n (i := 1) (by decide) rfl dX3_readDefAhead_7 ?_
  refine e_aload_n (i := 0) rfl dX3_readDefAhead_8 ?_
  refine q_getF 3 4 (F 134 4) dX3_readDefAhead_9 fl_RX3_26 rfl iz_134 rfl ?_
  refine q_getF 0 4 ((F 134 4) + 33) dX3_readDefAhead_12 fl_RX3_111 rfl (iz_bk hF.2.2.2.1) (frb_4 hF.1 hF.2.2.2.1) ?_
  refine e_aload_n (i := 0) rfl dX3_readDefAhead_15 ?_
  refine q_getF 3 0 6 dX3_readDefAhead_16 fl_RX3_22 rfl iz_134 (fr_134_0 hF.1) ?_
  obtain ⟨q1, eq1, hm⟩ := ob_some hm
  refine e_cV0 hko dX3_readDefAhead_19 ml_RX3_98 iz_6 (by decide) rfl (by omega) (Nat.le_of_ble_eq_true rfl) (tX2_takeName hko I J F hF _ eq1) ?_
  rintro _ _ ⟨rfl, rfl⟩
  obtain ⟨q2, eq2, hm⟩ := ob_some hm
  refine e_cV1 hko dX3_readDefAhead_22 ml_RX3_101 (iz_row (rwb_33 hF.2.2.2.1)) (by decide) rfl (by omega) (Nat.le_of_ble_eq_true rfl) (tX4_find hko (rwb_33 hF.2.2.2.1) q1.2 J F hF q1.1 _ eq2) ?_
  rintro _ _ ⟨rfl, rfl⟩
  refine q_istore_n (i := 2) (by decide) rfl dX3_readDefAhead_25 ?_
  refine e_iload_n (i := 2) rfl dX3_readDefAhead_26 ?_
  refine e_iconst (v := (-1)) (by decide) dX3_readDefAhead_27 ?_
  refine e_icmp_ne 40 dX3_readDefAhead_28 (by decide) (fun c_28 => ?_) (fun c_28 => ?_)
  · have hm := it_n c_28 hm
    refine e_iload_n (i := 2) rfl dX3_readDefAhead_40 ?_
    refine e_iret dX3_readDefAhead_41 rfl ?_
    have hm := some_in hm
    subst hm
    exact ⟨rfl, rfl⟩
  · have hm := it_p c_28 hm
    refine e_aload_n (i := 0) rfl dX3_readDefAhead_31 ?_
    refine q_getF 3 0 6 dX3_readDefAhead_32 fl_RX3_22 rfl iz_134 (fr_134_0 hF.1) ?_
    refine e_iconst (v := 2) (by decide) dX3_readDefAhead_35 ?_
    refine e_iload_n (i := 1) rfl dX3_readDefAhead_36 ?_
    obtain ⟨q3, eq3, hm⟩ := ob_some hm
    refine e_cV2 hko dX3_readDefAhead_37 ml_RX3_104 iz_6 (by decide) rfl (by omega) (Nat.le_of_ble_eq_true rfl) (tX2_refuse hko q1.2 J F hF 2 (I 6 8) _ eq3) ?_
    rintro _ _ ⟨rfl, rfl⟩
    refine e_iload_n (i := 2) rfl dX3_readDefAhead_40 ?_
    refine e_iret dX3_readDefAhead_41 rfl ?_
    have hm := some_in hm
    subst hm
    exact ⟨rfl, rfl⟩
theorem dX3_readGo_0 : decode cX3_readGo 0 = .ok (.aload_n 0, 1) := by decide +kernel
theorem dX3_readGo_1 : decode cX3_readGo 1 = .ok (.getfield 26, 3) := by decide +kernel
theorem dX3_readGo_4 : decode cX3_readGo 4 = .ok (.sipush 311, 3) := by decide +kernel
theorem dX3_readGo_7 : decode cX3_readGo 7 = .ok (.invokevirtual 201, 3) := by decide +kernel
theorem dX3_readGo_10 : decode cX3_readGo 10 = .ok (.istore_n 2, 1) := by decide +kernel
theorem dX3_readGo_11 : decode cX3_readGo 11 = .ok (.aload_n 0, 1) := by decide +kernel
theorem dX3_readGo_12 : decode cX3_readGo 12 = .ok (.getfield 22, 3) := by decide +kernel
theorem dX3_readGo_15 : decode cX3_readGo 15 = .ok (.getfield 95, 3) := by decide +kernel
theorem dX3_readGo_18 : decode cX3_readGo 18 = .ok (.istore_n 3, 1) := by decide +kernel
theorem dX3_readGo_19 : decode cX3_readGo 19 = .ok (.aload_n 0, 1) := by decide +kernel
theorem dX3_readGo_20 : decode cX3_readGo 20 = .ok (.getfield 22, 3) := by decide +kernel
theorem dX3_readGo_23 : decode cX3_readGo 23 = .ok (.invokevirtual 207, 3) := by decide +kernel
theorem dX3_readGo_26 : decode cX3_readGo 26 = .ok (.aload_n 0, 1) := by decide +kernel
theorem dX3_readGo_27 : decode cX3_readGo 27 = .ok (.invokevirtual 294, 3) := by decide +kernel
theorem dX3_readGo_30 : decode cX3_readGo 30 = .ok (.istore 4, 2) := by decide +kernel
theorem dX3_readGo_32 : decode cX3_readGo 32 = .ok (.aload_n 0, 1) := by decide +kernel
theorem dX3_readGo_33 : decode cX3_readGo 33 = .ok (.iload_n 2, 1) := by decide +kernel
theorem dX3_readGo_34 : decode cX3_readGo 34 = .ok (.iload 4, 2) := by decide +kernel
theorem dX3_readGo_36 : decode cX3_readGo 36 = .ok (.iload_n 1, 1) := by decide +kernel
theorem dX3_readGo_37 : decode cX3_readGo 37 = .ok (.invokevirtual 297, 3) := by decide +kernel
theorem dX3_readGo_40 : decode cX3_readGo 40 = .ok (.aload_n 0, 1) := by decide +kernel
theorem dX3_readGo_41 : decode cX3_readGo 41 = .ok (.getfield 26, 3) := by decide +kernel
theorem dX3_readGo_44 : decode cX3_readGo 44 = .ok (.getfield 130, 3) := by decide +kernel
theorem dX3_readGo_47 : decode cX3_readGo 47 = .ok (.iload 4, 2) := by decide +kernel
theorem dX3_readGo_49 : decode cX3_readGo 49 = .ok (.invokevirtual 257, 3) := by decide +kernel
theorem dX3_readGo_52 : decode cX3_readGo 52 = .ok (.aload_n 0, 1) := by decide +kernel
theorem dX3_readGo_53 : decode cX3_readGo 53 = .ok (.getfield 12, 3) := by decide +kernel
theorem dX3_readGo_56 : decode cX3_readGo 56 = .ok (.iconst 0, 1) := by decide +kernel
theorem dX3_readGo_57 : decode cX3_readGo 57 = .ok (.invokevirtual 236, 3) := by decide +kernel
theorem dX3_readGo_60 : decode cX3_readGo 60 = .ok (.if_icmp .eq 12, 3) := by decide +kernel
theorem dX3_readGo_63 : decode cX3_readGo 63 = .ok (.aload_n 0, 1) := by decide +kernel
theorem dX3_readGo_64 : decode cX3_readGo 64 = .ok (.getfield 22, 3) := by decide +kernel
theorem dX3_readGo_67 : decode cX3_readGo 67 = .ok (.iconst 3, 1) := by decide +kernel
theorem dX3_readGo_68 : decode cX3_readGo 68 = .ok (.iload_n 3, 1) := by decide +kernel
theorem dX3_readGo_69 : decode cX3_readGo 69 = .ok (.invokevirtual 104, 3) := by decide +kernel
theorem dX3_readGo_72 : decode cX3_readGo 72 = .ok (.aload_n 0, 1) := by decide +kernel
theorem dX3_readGo_73 : decode cX3_readGo 73 = .ok (.getfield 12, 3) := by decide +kernel
theorem dX3_readGo_76 : decode cX3_readGo 76 = .ok (.invokevirtual 198, 3) := by decide +kernel
theorem dX3_readGo_79 : decode cX3_readGo 79 = .ok (.ifCond .eq 12, 3) := by decide +kernel
theorem dX3_readGo_82 : decode cX3_readGo 82 = .ok (.aload_n 0, 1) := by decide +kernel
theorem dX3_readGo_83 : decode cX3_readGo 83 = .ok (.getfield 22, 3) := by decide +kernel
theorem dX3_readGo_86 : decode cX3_readGo 86 = .ok (.iconst 4, 1) := by decide +kernel
theorem dX3_readGo_87 : decode cX3_readGo 87 = .ok (.iload_n 3, 1) := by decide +kernel
theorem dX3_readGo_88 : decode cX3_readGo 88 = .ok (.invokevirtual 104, 3) := by decide +kernel
theorem dX3_readGo_91 : decode cX3_readGo 91 = .ok (.return_, 1) := by decide +kernel
def mX3_readGo_72 (I : iT) (F : fT) (x1 : Int32) (x2 : Int32) (x3 : Int32) (x4 : Int32) : Option (iT) := (mX5_hasChannels I).bind fun q1 => if q1 = 0 then some I else (mX2_refuse I 4 x3).bind fun q2 => some q2
def mX3_readGo (I : iT) (F : fT) (x1 : Int32) : Option (iT) := (mX0_addNode (F 134 4) I 311).bind fun q3 => (mX2_advance q3.2).bind fun q4 => (mX3_readDefAhead q4 F).bind fun q5 => (mX3_readArgs q5.2 F q3.1 q5.1 x1).bind fun q6 => (mX4_at ((F 134 4) + 35) q6 q5.1).bind fun q7 => (mX5_talkAt q6 0).bind fun q8 => if q7 = q8 then mX3_readGo_72 q6 F x1 q3.1 (q3.2 6 8) q5.1 else (mX2_refuse q6 3 (q3.2 6 8)).bind fun q9 => mX3_readGo_72 q9 F x1 q3.1 (q3.2 6 8) q5.1
set_option maxRecDepth 100000 in
set_option maxHeartbeats 4000000 in
theorem tX3_readGo_72 {l : Launch} {K : a_KT} {g : a_GT} {IB : iT} (hko : a_kok K) {J : jT} (I : iT) (F : fT) (x1 : Int32) (x2 : Int32) (x3 : Int32) (x4 : Int32) (hF : FK F) (q : iT) (hm : mX3_readGo_72 I F x1 x2 x3 x4 = some q) : E l K g 454 0 0 yX3_readGo cX3_readGo 5 none 72 [.ref 134, .int x1, .int x2, .int x3, .int x4] [] (hg I IB J F) (fun r2 h2 => r2 = none ∧ h2 = hg q IB J F) := by
  unfold mX3_readGo_72 at hm
  refine e_aload_n (i := 0) rfl dX3_readGo_72 ?_
  refine q_getF 3 1 135 dX3_readGo_73 fl_RX3_12 rfl iz_134 (fr_134_1 hF.1) ?_
  obtain ⟨q1, eq1, hm⟩ := ob_some hm
  refine e_cV0 hko dX3_readGo_76 ml_RX3_198 iz_135 (by decide) rfl (by omega) (Nat.le_of_ble_eq_true rfl) (tX5_hasChannels hko I J F hF _ eq1) ?_
  rintro _ _ ⟨rfl, rfl⟩
  refine e_if_eq 91 dX3_readGo_79 (by decide) (fun c_79 => ?_) (fun c_79 => ?_)
  · have hm := it_p c_79 hm
    refine e_vret dX3_readGo_91 rfl ?_
    have hm := some_in hm
    subst hm
    exact ⟨rfl, rfl⟩
  · have hm := it_n c_79 hm
    refine e_aload_n (i := 0) rfl dX3_readGo_82 ?_
    refine q_getF 3 0 6 dX3_readGo_83 fl_RX3_22 rfl iz_134 (fr_134_0 hF.1) ?_
    refine e_iconst (v := 4) (by decide) dX3_readGo_86 ?_
    refine e_iload_n (i := 3) rfl dX3_readGo_87 ?_
    obtain ⟨q2, eq2, hm⟩ := ob_some hm
    refine e_cV2 hko dX3_readGo_88 ml_RX3_104 iz_6 (by decide) rfl (by omega) (Nat.le_of_ble_eq_true rfl) (tX2_refuse hko I J F hF 4 x3 _ eq2) ?_
    rintro _ _ ⟨rfl, rfl⟩
    refine e_vret dX3_readGo_91 rfl ?_
    have hm := some_in hm
    subst hm
    exact ⟨rfl, rfl⟩
set_option maxRecDepth 100000 in
set_option maxHeartbeats 4000000 in
theorem tX3_readGo {l : Launch} {K : a_KT} {g : a_GT} {IB : iT} (hko : a_kok K) (I : iT) (J : jT) (F : fT) (hF : FK F) (x1 : Int32) (q : iT) (hm : mX3_readGo I F x1 = some q) : C l K g 454 0 0 yX3_readGo cX3_readGo 5 none [.ref 134, .int x1] (hg I IB J F) (fun r2 h2 => r2 = none ∧ h2 = hg q IB J F) := by
  unfold mX3_readGo at hm
  refine c_of [.ref 134, .int x1, .null, .null, .null] (by decide) (Nat.le_of_ble_eq_true rfl) rfl ?_
  refine e_aload_n (i := 0) rfl dX3_readGo_0 ?_
  refine q_getF 3 4 (F 134 4) dX3_readGo_1 fl_RX3_26 rfl iz_134 rfl ?_
  refine e_sipush (v := 311) (by decide) dX3_readGo_4 ?_
  obtain ⟨q3, eq3, hm⟩ := ob_some hm
  refine e_cV1 hko dX3_readGo_7 ml_RX3_201 (iz_bk hF.2.2.2.1) (by decide) rfl (by omega) (Nat.le_of_ble_eq_true rfl) (tX0_addNode hko hF.2.2.2.1 I J F hF 311 _ eq3) ?_
  rintro _ _ ⟨rfl, rfl⟩
  refine q_istore_n (i := 2) (by decide) rfl dX3_readGo_10 ?_
  refine e_aload_n (i := 0) rfl dX3_readGo_11 ?_
  refine q_getF 3 0 6 dX3_readGo_12 fl_RX3_22 rfl iz_134 (fr_134_0 hF.1) ?_
  refine k_getI 2 8 dX3_readGo_15 fl_RX3_95 rfl iz_6 (by decide) ?_
  refine q_istore_n (i := 3) (by decide) rfl dX3_readGo_18 ?_
  refine e_aload_n (i := 0) rfl dX3_readGo_19 ?_
  refine q_getF 3 0 6 dX3_readGo_20 fl_RX3_22 rfl iz_134 (fr_134_0 hF.1) ?_
  obtain ⟨q4, eq4, hm⟩ := ob_some hm
  refine e_cV0 hko dX3_readGo_23 ml_RX3_207 iz_6 (by decide) rfl (by omega) (Nat.le_of_ble_eq_true rfl) (tX2_advance hko q3.2 J F hF _ eq4) ?_
  rintro _ _ ⟨rfl, rfl⟩
  refine e_aload_n (i := 0) rfl dX3_readGo_26 ?_
  obtain ⟨q5, eq5, hm⟩ := ob_some hm
  refine e_cV0 hko dX3_readGo_27 ml_RX3_294 iz_134 (by decide) rfl (by omega) (Nat.le_of_ble_eq_true rfl) (tX3_readDefAhead hko q4 J F hF _ eq5) ?_
  rintro _ _ ⟨rfl, rfl⟩
  refine q_istore (i := 4) (by decide) rfl dX3_readGo_30 ?_
  refine e_aload_n (i := 0) rfl dX3_readGo_32 ?_
  refine e_iload_n (i := 2) rfl dX3_readGo_33 ?_
  refine e_iload (i := 4) rfl dX3_readGo_34 ?_
  refine e_iload_n (i := 1) rfl dX3_readGo_36 ?_
  obtain ⟨q6, eq6, hm⟩ := ob_some hm
  refine e_cV3 hko dX3_readGo_37 ml_RX3_297 iz_134 (by decide) rfl (by omega) (Nat.le_of_ble_eq_true rfl) (tX3_readArgs hko q5.2 J F hF q3.1 q5.1 x1 _ eq6) ?_
  rintro _ _ ⟨rfl, rfl⟩
  refine e_aload_n (i := 0) rfl dX3_readGo_40 ?_
  refine q_getF 3 4 (F 134 4) dX3_readGo_41 fl_RX3_26 rfl iz_134 rfl ?_
  refine q_getF 0 5 ((F 134 4) + 35) dX3_readGo_44 fl_RX3_130 rfl (iz_bk hF.2.2.2.1) (frb_5 hF.1 hF.2.2.2.1) ?_
  refine e_iload (i := 4) rfl dX3_readGo_47 ?_
  obtain ⟨q7, eq7, hm⟩ := ob_some hm
  refine e_cV1 hko dX3_readGo_49 ml_RX3_257 (iz_row (rwb_35 hF.2.2.2.1)) (by decide) rfl (by omega) (Nat.le_of_ble_eq_true rfl) (tX4_at hko (rwb_35 hF.2.2.2.1) q6 J F hF q5.1 _ eq7) ?_
  rintro _ _ ⟨rfl, rfl⟩
  refine e_aload_n (i := 0) rfl dX3_readGo_52 ?_
  refine q_getF 3 1 135 dX3_readGo_53 fl_RX3_12 rfl iz_134 (fr_134_1 hF.1) ?_
  refine e_iconst (v := 0) (by decide) dX3_readGo_56 ?_
  obtain ⟨q8, eq8, hm⟩ := ob_some hm
  refine e_cV1 hko dX3_readGo_57 ml_RX3_236 iz_135 (by decide) rfl (by omega) (Nat.le_of_ble_eq_true rfl) (tX5_talkAt hko q6 J F hF 0 _ eq8) ?_
  rintro _ _ ⟨rfl, rfl⟩
  refine e_icmp_eq 72 dX3_readGo_60 (by decide) (fun c_60 => ?_) (fun c_60 => ?_)
  · have hm := it_p c_60 hm
    refine e_weak [.ref 134, .int x1, .int q3.1, .int (q3.2 6 8), .int q5.1] ⟨rfl, ⟨rfl, ⟨rfl, ⟨rfl, ⟨rfl, trivial⟩⟩⟩⟩⟩ ?_
    exact tX3_readGo_72 hko q6 F x1 q3.1 (q3.2 6 8) q5.1 hF _ hm
  · have hm := it_n c_60 hm
    refine e_aload_n (i := 0) rfl dX3_readGo_63 ?_
    refine q_getF 3 0 6 dX3_readGo_64 fl_RX3_22 rfl iz_134 (fr_134_0 hF.1) ?_
    refine e_iconst (v := 3) (by decide) dX3_readGo_67 ?_
    refine e_iload_n (i := 3) rfl dX3_readGo_68 ?_
    obtain ⟨q9, eq9, hm⟩ := ob_some hm
    refine e_cV2 hko dX3_readGo_69 ml_RX3_104 iz_6 (by decide) rfl (by omega) (Nat.le_of_ble_eq_true rfl) (tX2_refuse hko q6 J F hF 3 (q3.2 6 8) _ eq9) ?_
    rintro _ _ ⟨rfl, rfl⟩
    refine e_weak [.ref 134, .int x1, .int q3.1, .int (q3.2 6 8), .int q5.1] ⟨rfl, ⟨rfl, ⟨rfl, ⟨rfl, ⟨rfl, trivial⟩⟩⟩⟩⟩ ?_
    exact tX3_readGo_72 hko q9 F x1 q3.1 (q3.2 6 8) q5.1 hF _ hm
theorem dX3_readNew_0 : decode cX3_readNew 0 = .ok (.aload_n 0, 1) := by decide +kernel
theorem dX3_readNew_1 : decode cX3_readNew 1 = .ok (.getfield 26, 3) := by decide +kernel
theorem dX3_readNew_4 : decode cX3_readNew 4 = .ok (.sipush 309, 3) := by decide +kernel
theorem dX3_readNew_7 : decode cX3_readNew 7 = .ok (.invokevirtual 201, 3) := by decide +kernel
theorem dX3_readNew_10 : decode cX3_readNew 10 = .ok (.istore_n 2, 1) := by decide +kernel
theorem dX3_readNew_11 : decode cX3_readNew 11 = .ok (.aload_n 0, 1) := by decide +kernel
theorem dX3_readNew_12 : decode cX3_readNew 12 = .ok (.getfield 22, 3) := by decide +kernel
theorem dX3_readNew_15 : decode cX3_readNew 15 = .ok (.invokevirtual 207, 3) := by decide +kernel
theorem dX3_readNew_18 : decode cX3_readNew 18 = .ok (.aload_n 0, 1) := by decide +kernel
theorem dX3_readNew_19 : decode cX3_readNew 19 = .ok (.invokevirtual 120, 3) := by decide +kernel
theorem dX3_readNew_22 : decode cX3_readNew 22 = .ok (.istore_n 3, 1) := by decide +kernel
theorem dX3_readNew_23 : decode cX3_readNew 23 = .ok (.aload_n 0, 1) := by decide +kernel
theorem dX3_readNew_24 : decode cX3_readNew 24 = .ok (.getfield 22, 3) := by decide +kernel
theorem dX3_readNew_27 : decode cX3_readNew 27 = .ok (.bipush 61, 2) := by decide +kernel
theorem dX3_readNew_29 : decode cX3_readNew 29 = .ok (.invokevirtual 78, 3) := by decide +kernel
theorem dX3_readNew_32 : decode cX3_readNew 32 = .ok (.aload_n 0, 1) := by decide +kernel
theorem dX3_readNew_33 : decode cX3_readNew 33 = .ok (.invokevirtual 294, 3) := by decide +kernel
theorem dX3_readNew_36 : decode cX3_readNew 36 = .ok (.istore 4, 2) := by decide +kernel
theorem dX3_readNew_38 : decode cX3_readNew 38 = .ok (.aload_n 0, 1) := by decide +kernel
theorem dX3_readNew_39 : decode cX3_readNew 39 = .ok (.iload_n 2, 1) := by decide +kernel
theorem dX3_readNew_40 : decode cX3_readNew 40 = .ok (.iload 4, 2) := by decide +kernel
theorem dX3_readNew_42 : decode cX3_readNew 42 = .ok (.iload_n 1, 1) := by decide +kernel
theorem dX3_readNew_43 : decode cX3_readNew 43 = .ok (.invokevirtual 297, 3) := by decide +kernel
theorem dX3_readNew_46 : decode cX3_readNew 46 = .ok (.aload_n 0, 1) := by decide +kernel
theorem dX3_readNew_47 : decode cX3_readNew 47 = .ok (.getfield 26, 3) := by decide +kernel
theorem dX3_readNew_50 : decode cX3_readNew 50 = .ok (.getfield 248, 3) := by decide +kernel
theorem dX3_readNew_53 : decode cX3_readNew 53 = .ok (.iload_n 2, 1) := by decide +kernel
theorem dX3_readNew_54 : decode cX3_readNew 54 = .ok (.aload_n 0, 1) := by decide +kernel
theorem dX3_readNew_55 : decode cX3_readNew 55 = .ok (.getfield 12, 3) := by decide +kernel
theorem dX3_readNew_58 : decode cX3_readNew 58 = .ok (.iload_n 3, 1) := by decide +kernel
theorem dX3_readNew_59 : decode cX3_readNew 59 = .ok (.aload_n 0, 1) := by decide +kernel
theorem dX3_readNew_60 : decode cX3_readNew 60 = .ok (.getfield 26, 3) := by decide +kernel
theorem dX3_readNew_63 : decode cX3_readNew 63 = .ok (.getfield 130, 3) := by decide +kernel
theorem dX3_readNew_66 : decode cX3_readNew 66 = .ok (.iload 4, 2) := by decide +kernel
theorem dX3_readNew_68 : decode cX3_readNew 68 = .ok (.invokevirtual 257, 3) := by decide +kernel
theorem dX3_readNew_71 : decode cX3_readNew 71 = .ok (.invokevirtual 157, 3) := by decide +kernel
theorem dX3_readNew_74 : decode cX3_readNew 74 = .ok (.invokevirtual 154, 3) := by decide +kernel
theorem dX3_readNew_77 : decode cX3_readNew 77 = .ok (.return_, 1) := by decide +kernel
def mX3_readNew (I : iT) (F : fT) (x1 : Int32) : Option (iT) := (mX0_addNode (F 134 4) I 309).bind fun q1 => (mX2_advance q1.2).bind fun q2 => (mX3_readFreshThing q2).bind fun q3 => (mX2_want q3.2 61).bind fun q4 => (mX3_readDefAhead q4 F).bind fun q5 => (mX3_readArgs q5.2 F q1.1 q5.1 x1).bind fun q6 => (mX4_at ((F 134 4) + 35) q6 q5.1).bind fun q7 => (mX5_add q6 q3.1 q7).bind fun q8 => (mX4_put ((F 134 4) + 49) q8.2 q1.1 q8.1).bind fun q9 => some q9
set_option maxRecDepth 100000 in
set_option maxHeartbeats 4000000 in
theorem tX3_readNew {l : Launch} {K : a_KT} {g : a_GT} {IB : iT} (hko : a_kok K) (I : iT) (J : jT) (F : fT) (hF : FK F) (x1 : Int32) (q : iT) (hm : mX3_readNew I F x1 = some q) : C l K g 454 0 0 yX3_readNew cX3_readNew 5 none [.ref 134, .int x1] (hg I IB J F) (fun r2 h2 => r2 = none ∧ h2 = hg q IB J F) := by
  unfold mX3_readNew at hm
  refine c_of [.ref 134, .int x1, .null, .null, .null] (by decide) (Nat.le_of_ble_eq_true rfl) rfl ?_
  refine e_aload_n (i := 0) rfl dX3_readNew_0 ?_
  refine q_getF 3 4 (F 134 4) dX3_readNew_1 fl_RX3_26 rfl iz_134 rfl ?_
  refine e_sipush (v := 309) (by decide) dX3_readNew_4 ?_
  obtain ⟨q1, eq1, hm⟩ := ob_some hm
  refine e_cV1 hko dX3_readNew_7 ml_RX3_201 (iz_bk hF.2.2.2.1) (by decide) rfl (by omega) (Nat.le_of_ble_eq_true rfl) (tX0_addNode hko hF.2.2.2.1 I J F hF 309 _ eq1) ?_
  rintro _ _ ⟨rfl, rfl⟩
  refine q_istore_n (i := 2) (by decide) rfl dX3_readNew_10 ?_
  refine e_aload_n (i := 0) rfl dX3_readNew_11 ?_
  refine q_getF 3 0 6 dX3_readNew_12 fl_RX3_22 rfl iz_134 (fr_134_0 hF.1) ?_
  obtain ⟨q2, eq2, hm⟩ := ob_some hm
  refine e_cV0 hko dX3_readNew_15 ml_RX3_207 iz_6 (by decide) rfl (by omega) (Nat.le_of_ble_eq_true rfl) (tX2_advance hko q1.2 J F hF _ eq2) ?_
  rintro _ _ ⟨rfl, rfl⟩
  refine e_aload_n (i := 0) rfl dX3_readNew_18 ?_
  obtain ⟨q3, eq3, hm⟩ := ob_some hm
  refine e_cV0 hko dX3_readNew_19 ml_RX3_120 iz_134 (by decide) rfl (by omega) (Nat.le_of_ble_eq_true rfl) (tX3_readFreshThing hko q2 J F hF _ eq3) ?_
  rintro _ _ ⟨rfl, rfl⟩
  refine q_istore_n (i := 3) (by decide) rfl dX3_readNew_22 ?_
  refine e_aload_n (i := 0) rfl dX3_readNew_23 ?_
  refine q_getF 3 0 6 dX3_readNew_24 fl_RX3_22 rfl iz_134 (fr_134_0 hF.1) ?_
  refine e_bipush (v := 61) (by decide) dX3_readNew_27 ?_
  obtain ⟨q4, eq4, hm⟩ := ob_some hm
  refine e_cV1 hko dX3_readNew_29 ml_RX3_78 iz_6 (by decide) rfl (by omega) (Nat.le_of_ble_eq_true rfl) (tX2_want hko q3.2 J F hF 61 _ eq4) ?_
  rintro _ _ ⟨rfl, rfl⟩
  refine e_aload_n (i := 0) rfl dX3_readNew_32 ?_
  obtain ⟨q5, eq5, hm⟩ := ob_some hm
  refine e_cV0 hko dX3_readNew_33 ml_RX3_294 iz_134 (by decide) rfl (by omega) (Nat.le_of_ble_eq_true rfl) (tX3_readDefAhead hko q4 J F hF _ eq5) ?_
  rintro _ _ ⟨rfl, rfl⟩
  refine q_istore (i := 4) (by decide) rfl dX3_readNew_36 ?_
  refine e_aload_n (i := 0) rfl dX3_readNew_38 ?_
  refine e_iload_n (i := 2) rfl dX3_readNew_39 ?_
  refine e_iload (i := 4) rfl dX3_readNew_40 ?_
  refine e_iload_n (i := 1) rfl dX3_readNew_42 ?_
  obtain ⟨q6, eq6, hm⟩ := ob_some hm
  refine e_cV3 hko dX3_readNew_43 ml_RX3_297 iz_134 (by decide) rfl (by omega) (Nat.le_of_ble_eq_true rfl) (tX3_readArgs hko q5.2 J F hF q1.1 q5.1 x1 _ eq6) ?_
  rintro _ _ ⟨rfl, rfl⟩
  refine e_aload_n (i := 0) rfl dX3_readNew_46 ?_
  refine q_getF 3 4 (F 134 4) dX3_readNew_47 fl_RX3_26 rfl iz_134 rfl ?_
  refine q_getF 0 12 ((F 134 4) + 49) dX3_readNew_50 fl_RX3_248 rfl (iz_bk hF.2.2.2.1) (frb_12 hF.1 hF.2.2.2.1) ?_
  refine e_iload_n (i := 2) rfl dX3_readNew_53 ?_
  refine e_aload_n (i := 0) rfl dX3_readNew_54 ?_
  refine q_getF 3 1 135 dX3_readNew_55 fl_RX3_12 rfl iz_134 (fr_134_1 hF.1) ?_
  refine e_iload_n (i := 3) rfl dX3_readNew_58 ?_
  refine e_aload_n (i := 0) rfl dX3_readNew_59 ?_
  refine q_getF 3 4 (F 134 4) dX3_readNew_60 fl_RX3_26 rfl iz_134 rfl ?_
  refine q_getF 0 5 ((F 134 4) + 35) dX3_readNew_63 fl_RX3_130 rfl (iz_bk hF.2.2.2.1) (frb_5 hF.1 hF.2.2.2.1) ?_
  refine e_iload (i := 4) rfl dX3_readNew_66 ?_
  obtain ⟨q7, eq7, hm⟩ := ob_some hm
  refine e_cV1 hko dX3_readNew_68 ml_RX3_257 (iz_row (rwb_35 hF.2.2.2.1)) (by decide) rfl (by omega) (Nat.le_of_ble_eq_true rfl) (tX4_at hko (rwb_35 hF.2.2.2.1) q6 J F hF q5.1 _ eq7) ?_
  rintro _ _ ⟨rfl, rfl⟩
  obtain ⟨q8, eq8, hm⟩ := ob_some hm
  refine e_cV2 hko dX3_readNew_71 ml_RX3_157 iz_135 (by decide) rfl (by omega) (Nat.le_of_ble_eq_true rfl) (tX5_add hko q6 J F hF q3.1 q7 _ eq8) ?_
  rintro _ _ ⟨rfl, rfl⟩
  obtain ⟨q9, eq9, hm⟩ := ob_some hm
  refine e_cV2 hko dX3_readNew_74 ml_RX3_154 (iz_row (rwb_49 hF.2.2.2.1)) (by decide) rfl (by omega) (Nat.le_of_ble_eq_true rfl) (tX4_put hko (rwb_49 hF.2.2.2.1) q8.2 J F hF q1.1 q8.1 _ eq9) ?_
  rintro _ _ ⟨rfl, rfl⟩
  refine e_vret dX3_readNew_77 rfl ?_
  have hm := some_in hm
  subst hm
  exact ⟨rfl, rfl⟩
theorem dX3_readJoined_0 : decode cX3_readJoined 0 = .ok (.aload_n 0, 1) := by decide +kernel
theorem dX3_readJoined_1 : decode cX3_readJoined 1 = .ok (.getfield 22, 3) := by decide +kernel
theorem dX3_readJoined_4 : decode cX3_readJoined 4 = .ok (.getfield 95, 3) := by decide +kernel
theorem dX3_readJoined_7 : decode cX3_readJoined 7 = .ok (.istore_n 2, 1) := by decide +kernel
theorem dX3_readJoined_8 : decode cX3_readJoined 8 = .ok (.aload_n 0, 1) := by decide +kernel
theorem dX3_readJoined_9 : decode cX3_readJoined 9 = .ok (.getfield 12, 3) := by decide +kernel
theorem dX3_readJoined_12 : decode cX3_readJoined 12 = .ok (.aload_n 0, 1) := by decide +kernel
theorem dX3_readJoined_13 : decode cX3_readJoined 13 = .ok (.getfield 22, 3) := by decide +kernel
theorem dX3_readJoined_16 : decode cX3_readJoined 16 = .ok (.invokevirtual 98, 3) := by decide +kernel
theorem dX3_readJoined_19 : decode cX3_readJoined 19 = .ok (.invokevirtual 163, 3) := by decide +kernel
theorem dX3_readJoined_22 : decode cX3_readJoined 22 = .ok (.istore_n 3, 1) := by decide +kernel
theorem dX3_readJoined_23 : decode cX3_readJoined 23 = .ok (.aload_n 0, 1) := by decide +kernel
theorem dX3_readJoined_24 : decode cX3_readJoined 24 = .ok (.getfield 12, 3) := by decide +kernel
theorem dX3_readJoined_27 : decode cX3_readJoined 27 = .ok (.iload_n 3, 1) := by decide +kernel
theorem dX3_readJoined_28 : decode cX3_readJoined 28 = .ok (.invokevirtual 236, 3) := by decide +kernel
theorem dX3_readJoined_31 : decode cX3_readJoined 31 = .ok (.iconst (-1), 1) := by decide +kernel
theorem dX3_readJoined_32 : decode cX3_readJoined 32 = .ok (.if_icmp .ne 12, 3) := by decide +kernel
theorem dX3_readJoined_35 : decode cX3_readJoined 35 = .ok (.aload_n 0, 1) := by decide +kernel
theorem dX3_readJoined_36 : decode cX3_readJoined 36 = .ok (.getfield 22, 3) := by decide +kernel
theorem dX3_readJoined_39 : decode cX3_readJoined 39 = .ok (.iconst 2, 1) := by decide +kernel
theorem dX3_readJoined_40 : decode cX3_readJoined 40 = .ok (.iload_n 2, 1) := by decide +kernel
theorem dX3_readJoined_41 : decode cX3_readJoined 41 = .ok (.invokevirtual 104, 3) := by decide +kernel
theorem dX3_readJoined_44 : decode cX3_readJoined 44 = .ok (.iload_n 3, 1) := by decide +kernel
theorem dX3_readJoined_45 : decode cX3_readJoined 45 = .ok (.ifCond .ne 7, 3) := by decide +kernel
theorem dX3_readJoined_48 : decode cX3_readJoined 48 = .ok (.iconst 1, 1) := by decide +kernel
theorem dX3_readJoined_49 : decode cX3_readJoined 49 = .ok (.goto 4, 3) := by decide +kernel
theorem dX3_readJoined_52 : decode cX3_readJoined 52 = .ok (.iconst 0, 1) := by decide +kernel
theorem dX3_readJoined_53 : decode cX3_readJoined 53 = .ok (.iload_n 1, 1) := by decide +kernel
theorem dX3_readJoined_54 : decode cX3_readJoined 54 = .ok (.if_icmp .eq 12, 3) := by decide +kernel
theorem dX3_readJoined_57 : decode cX3_readJoined 57 = .ok (.aload_n 0, 1) := by decide +kernel
theorem dX3_readJoined_58 : decode cX3_readJoined 58 = .ok (.getfield 22, 3) := by decide +kernel
theorem dX3_readJoined_61 : decode cX3_readJoined 61 = .ok (.iconst 4, 1) := by decide +kernel
theorem dX3_readJoined_62 : decode cX3_readJoined 62 = .ok (.iload_n 2, 1) := by decide +kernel
theorem dX3_readJoined_63 : decode cX3_readJoined 63 = .ok (.invokevirtual 104, 3) := by decide +kernel
theorem dX3_readJoined_66 : decode cX3_readJoined 66 = .ok (.iload_n 3, 1) := by decide +kernel
theorem dX3_readJoined_67 : decode cX3_readJoined 67 = .ok (.ireturn, 1) := by decide +kernel
def mX3_readJoined_53 (I : iT) (x1 : Int32) (x2 : Int32) (x3 : Int32) (s0 : Int32) : Option (Int32 × iT) := if s0 = x1 then some (x3, I) else (mX2_refuse I 4 x2).bind fun q1 => some (x3, q1)
def mX3_readJoined_44 (I : iT) (x1 : Int32) (x2 : Int32) (x3 : Int32) : Option (Int32 × iT) := if x3 = 0 then mX3_readJoined_53 I x1 x2 x3 1 else mX3_readJoined_53 I x1 x2 x3 0
def mX3_readJoined (I : iT) (x1 : Int32) : Option (Int32 × iT) := (mX2_takeName I).bind fun q2 => (mX5_find q2.2 q2.1).bind fun q3 => (mX5_talkAt q2.2 q3).bind fun q4 => if q4 = ((-1)) then (mX2_refuse q2.2 2 (I 6 8)).bind fun q5 => mX3_readJoined_44 q5 x1 (I 6 8) q3 else mX3_readJoined_44 q2.2 x1 (I 6 8) q3
set_option maxRecDepth 100000 in
set_option maxHeartbeats 4000000 in
theorem tX3_readJoined_53 {l : Launch} {K : a_KT} {g : a_GT} {IB : iT} (hko : a_kok K) {J : jT} {F : fT} (I : iT) (x1 : Int32) (x2 : Int32) (x3 : Int32) (s0 : Int32) (hF : FK F) (q : Int32 × iT) (hm : mX3_readJoined_53 I x1 x2 x3 s0 = some q) : E l K g 2 0 0 yX3_readJoined cX3_readJoined 4 (some .int) 53 [.ref 134, .int x1, .int x2, .int x3] [.int s0] (hg I IB J F) (fun r2 h2 => r2 = some (.int q.1) ∧ h2 = hg q.2 IB J F) := by
  unfold mX3_readJoined_53 at hm
  refine e_iload_n (i := 1) rfl dX3_readJoined_53 ?_
  refine e_icmp_eq 66 dX3_readJoined_54 (by decide) (fun c_54 => ?_) (fun c_54 => ?_)
  · have hm := it_p c_54 hm
    refine e_iload_n (i := 3) rfl dX3_readJoined_66 ?_
    refine e_iret dX3_readJoined_67 rfl ?_
    have hm := some_in hm
    subst hm
    exact ⟨rfl, rfl⟩
  · have hm := it_n c_54 hm
    refine e_aload_n (i := 0) rfl dX3_readJoined_57 ?_
    refine q_getF 3 0 6 dX3_readJoined_58 fl_RX3_22 rfl iz_134 (fr_134_0 hF.1) ?_
    refine e_iconst (v := 4) (by decide) dX3_readJoined_61 ?_
    refine e_iload_n (i := 2) rfl dX3_readJoined_62 ?_
    obtain ⟨q1, eq1, hm⟩ := ob_some hm
    refine e_cV2 hko dX3_readJoined_63 ml_RX3_104 iz_6 (by decide) rfl (by omega) (Nat.le_of_ble_eq_true rfl) (tX2_refuse hko I J F hF 4 x2 _ eq1) ?_
    rintro _ _ ⟨rfl, rfl⟩
    refine e_iload_n (i := 3) rfl dX3_readJoined_66 ?_
    refine e_iret dX3_readJoined_67 rfl ?_
    have hm := some_in hm
    subst hm
    exact ⟨rfl, rfl⟩
set_option maxRecDepth 100000 in
set_option maxHeartbeats 4000000 in
theorem tX3_readJoined_44 {l : Launch} {K : a_KT} {g : a_GT} {IB : iT} (hko : a_kok K) {J : jT} {F : fT} (I : iT) (x1 : Int32) (x2 : Int32) (x3 : Int32) (hF : FK F) (q : Int32 × iT) (hm : mX3_readJoined_44 I x1 x2 x3 = some q) : E l K g 2 0 0 yX3_readJoined cX3_readJoined 4 (some .int) 44 [.ref 134, .int x1, .int x2, .int x3] [] (hg I IB J F) (fun r2 h2 => r2 = some (.int q.1) ∧ h2 = hg q.2 IB J F) := by
  unfold mX3_readJoined_44 at hm
  refine e_iload_n (i := 3) rfl dX3_readJoined_44 ?_
  refine e_if_ne 52 dX3_readJoined_45 (by decide) (fun c_45 => ?_) (fun c_45 => ?_)
  · have hm := it_n c_45 hm
    refine e_iconst (v := 0) (by decide) dX3_readJoined_52 ?_
    refine e_weak [.ref 134, .int x1, .int x2, .int x3] ⟨rfl, ⟨rfl, ⟨rfl, ⟨rfl, trivial⟩⟩⟩⟩ ?_
    exact tX3_readJoined_53 hko I x1 x2 x3 0 hF _ hm
  · have hm := it_p c_45 hm
    refine e_iconst (v := 1) (by decide) dX3_readJoined_48 ?_
    refine e_goto 53 dX3_readJoined_49 (by decide) ?_
    refine e_weak [.ref 134, .int x1, .int x2, .int x3] ⟨rfl, ⟨rfl, ⟨rfl, ⟨rfl, trivial⟩⟩⟩⟩ ?_
    exact tX3_readJoined_53 hko I x1 x2 x3 1 hF _ hm
set_option maxRecDepth 100000 in
set_option maxHeartbeats 4000000 in
theorem tX3_readJoined {l : Launch} {K : a_KT} {g : a_GT} {IB : iT} (hko : a_kok K) (I : iT) (J : jT) (F : fT) (hF : FK F) (x1 : Int32) (q : Int32 × iT) (hm : mX3_readJoined I x1 = some q) : C l K g 2 0 0 yX3_readJoined cX3_readJoined 4 (some .int) [.ref 134, .int x1] (hg I IB J F) (fun r2 h2 => r2 = some (.int q.1) ∧ h2 = hg q.2 IB J F) := by
  unfold mX3_readJoined at hm
  refine c_of [.ref 134, .int x1, .null, .null] (by decide) (Nat.le_of_ble_eq_true rfl) rfl ?_
  refine e_aload_n (i := 0) rfl dX3_readJoined_0 ?_
  refine q_getF 3 0 6 dX3_readJoined_1 fl_RX3_22 rfl iz_134 (fr_134_0 hF.1) ?_
  refine k_getI 2 8 dX3_readJoined_4 fl_RX3_95 rfl iz_6 (by decide) ?_
  refine q_istore_n (i := 2) (by decide) rfl dX3_readJoined_7 ?_
  refine e_aload_n (i := 0) rfl dX3_readJoined_8 ?_
  refine q_getF 3 1 135 dX3_readJoined_9 fl_RX3_12 rfl iz_134 (fr_134_1 hF.1) ?_
  refine e_aload_n (i := 0) rfl dX3_readJoined_12 ?_
  refine q_getF 3 0 6 dX3_readJoined_13 fl_RX3_22 rfl iz_134 (fr_134_0 hF.1) ?_
  obtain ⟨q2, eq2, hm⟩ := ob_some hm
  refine e_cV0 hko dX3_readJoined_16 ml_RX3_98 iz_6 (by decide) rfl (by omega) (Nat.le_of_ble_eq_true rfl) (tX2_takeName hko I J F hF _ eq2) ?_
  rintro _ _ ⟨rfl, rfl⟩
  obtain ⟨q3, eq3, hm⟩ := ob_some hm
  refine e_cV1 hko dX3_readJoined_19 ml_RX3_163 iz_135 (by decide) rfl (by omega) (Nat.le_of_ble_eq_true rfl) (tX5_find hko q2.2 J F hF q2.1 _ eq3) ?_
  rintro _ _ ⟨rfl, rfl⟩
  refine q_istore_n (i := 3) (by decide) rfl dX3_readJoined_22 ?_
  refine e_aload_n (i := 0) rfl dX3_readJoined_23 ?_
  refine q_getF 3 1 135 dX3_readJoined_24 fl_RX3_12 rfl iz_134 (fr_134_1 hF.1) ?_
  refine e_iload_n (i := 3) rfl dX3_readJoined_27 ?_
  obtain ⟨q4, eq4, hm⟩ := ob_some hm
  refine e_cV1 hko dX3_readJoined_28 ml_RX3_236 iz_135 (by decide) rfl (by omega) (Nat.le_of_ble_eq_true rfl) (tX5_talkAt hko q2.2 J F hF q3 _ eq4) ?_
  rintro _ _ ⟨rfl, rfl⟩
  refine e_iconst (v := (-1)) (by decide) dX3_readJoined_31 ?_
  refine e_icmp_ne 44 dX3_readJoined_32 (by decide) (fun c_32 => ?_) (fun c_32 => ?_)
  · have hm := it_n c_32 hm
    refine e_weak [.ref 134, .int x1, .int (I 6 8), .int q3] ⟨rfl, ⟨rfl, ⟨rfl, ⟨rfl, trivial⟩⟩⟩⟩ ?_
    exact tX3_readJoined_44 hko q2.2 x1 (I 6 8) q3 hF _ hm
  · have hm := it_p c_32 hm
    refine e_aload_n (i := 0) rfl dX3_readJoined_35 ?_
    refine q_getF 3 0 6 dX3_readJoined_36 fl_RX3_22 rfl iz_134 (fr_134_0 hF.1) ?_
    refine e_iconst (v := 2) (by decide) dX3_readJoined_39 ?_
    refine e_iload_n (i := 2) rfl dX3_readJoined_40 ?_
    obtain ⟨q5, eq5, hm⟩ := ob_some hm
    refine e_cV2 hko dX3_readJoined_41 ml_RX3_104 iz_6 (by decide) rfl (by omega) (Nat.le_of_ble_eq_true rfl) (tX2_refuse hko q2.2 J F hF 2 (I 6 8) _ eq5) ?_
    rintro _ _ ⟨rfl, rfl⟩
    refine e_weak [.ref 134, .int x1, .int (I 6 8), .int q3] ⟨rfl, ⟨rfl, ⟨rfl, ⟨rfl, trivial⟩⟩⟩⟩ ?_
    exact tX3_readJoined_44 hko q5 x1 (I 6 8) q3 hF _ hm
theorem dX3_readSame_0 : decode cX3_readSame 0 = .ok (.aload_n 0, 1) := by decide +kernel
theorem dX3_readSame_1 : decode cX3_readSame 1 = .ok (.getfield 26, 3) := by decide +kernel
theorem dX3_readSame_4 : decode cX3_readSame 4 = .ok (.sipush 310, 3) := by decide +kernel
theorem dX3_readSame_7 : decode cX3_readSame 7 = .ok (.invokevirtual 201, 3) := by decide +kernel
theorem dX3_readSame_10 : decode cX3_readSame 10 = .ok (.istore_n 1, 1) := by decide +kernel
theorem dX3_readSame_11 : decode cX3_readSame 11 = .ok (.aload_n 0, 1) := by decide +kernel
theorem dX3_readSame_12 : decode cX3_readSame 12 = .ok (.getfield 22, 3) := by decide +kernel
theorem dX3_readSame_15 : decode cX3_readSame 15 = .ok (.getfield 95, 3) := by decide +kernel
theorem dX3_readSame_18 : decode cX3_readSame 18 = .ok (.istore_n 2, 1) := by decide +kernel
theorem dX3_readSame_19 : decode cX3_readSame 19 = .ok (.aload_n 0, 1) := by decide +kernel
theorem dX3_readSame_20 : decode cX3_readSame 20 = .ok (.getfield 22, 3) := by decide +kernel
theorem dX3_readSame_23 : decode cX3_readSame 23 = .ok (.invokevirtual 207, 3) := by decide +kernel
theorem dX3_readSame_26 : decode cX3_readSame 26 = .ok (.aload_n 0, 1) := by decide +kernel
theorem dX3_readSame_27 : decode cX3_readSame 27 = .ok (.iconst 1, 1) := by decide +kernel
theorem dX3_readSame_28 : decode cX3_readSame 28 = .ok (.invokevirtual 300, 3) := by decide +kernel
theorem dX3_readSame_31 : decode cX3_readSame 31 = .ok (.istore_n 3, 1) := by decide +kernel
theorem dX3_readSame_32 : decode cX3_readSame 32 = .ok (.aload_n 0, 1) := by decide +kernel
theorem dX3_readSame_33 : decode cX3_readSame 33 = .ok (.iconst 0, 1) := by decide +kernel
theorem dX3_readSame_34 : decode cX3_readSame 34 = .ok (.invokevirtual 300, 3) := by decide +kernel
theorem dX3_readSame_37 : decode cX3_readSame 37 = .ok (.istore 4, 2) := by decide +kernel
theorem dX3_readSame_39 : decode cX3_readSame 39 = .ok (.aload_n 0, 1) := by decide +kernel
theorem dX3_readSame_40 : decode cX3_readSame 40 = .ok (.getfield 12, 3) := by decide +kernel
theorem dX3_readSame_43 : decode cX3_readSame 43 = .ok (.iload_n 3, 1) := by decide +kernel
theorem dX3_readSame_44 : decode cX3_readSame 44 = .ok (.invokevirtual 236, 3) := by decide +kernel
theorem dX3_readSame_47 : decode cX3_readSame 47 = .ok (.aload_n 0, 1) := by decide +kernel
theorem dX3_readSame_48 : decode cX3_readSame 48 = .ok (.getfield 12, 3) := by decide +kernel
theorem dX3_readSame_51 : decode cX3_readSame 51 = .ok (.iload 4, 2) := by decide +kernel
theorem dX3_readSame_53 : decode cX3_readSame 53 = .ok (.invokevirtual 236, 3) := by decide +kernel
theorem dX3_readSame_56 : decode cX3_readSame 56 = .ok (.if_icmp .eq 12, 3) := by decide +kernel
theorem dX3_readSame_59 : decode cX3_readSame 59 = .ok (.aload_n 0, 1) := by decide +kernel
theorem dX3_readSame_60 : decode cX3_readSame 60 = .ok (.getfield 22, 3) := by decide +kernel
theorem dX3_readSame_63 : decode cX3_readSame 63 = .ok (.iconst 3, 1) := by decide +kernel
theorem dX3_readSame_64 : decode cX3_readSame 64 = .ok (.iload_n 2, 1) := by decide +kernel
theorem dX3_readSame_65 : decode cX3_readSame 65 = .ok (.invokevirtual 104, 3) := by decide +kernel
theorem dX3_readSame_68 : decode cX3_readSame 68 = .ok (.aload_n 0, 1) := by decide +kernel
theorem dX3_readSame_69 : decode cX3_readSame 69 = .ok (.getfield 12, 3) := by decide +kernel
theorem dX3_readSame_72 : decode cX3_readSame 72 = .ok (.iload 4, 2) := by decide +kernel
theorem dX3_readSame_74 : decode cX3_readSame 74 = .ok (.invokevirtual 282, 3) := by decide +kernel
theorem dX3_readSame_77 : decode cX3_readSame 77 = .ok (.aload_n 0, 1) := by decide +kernel
theorem dX3_readSame_78 : decode cX3_readSame 78 = .ok (.getfield 12, 3) := by decide +kernel
theorem dX3_readSame_81 : decode cX3_readSame 81 = .ok (.invokevirtual 198, 3) := by decide +kernel
theorem dX3_readSame_84 : decode cX3_readSame 84 = .ok (.ifCond .eq 12, 3) := by decide +kernel
theorem dX3_readSame_87 : decode cX3_readSame 87 = .ok (.aload_n 0, 1) := by decide +kernel
theorem dX3_readSame_88 : decode cX3_readSame 88 = .ok (.getfield 22, 3) := by decide +kernel
theorem dX3_readSame_91 : decode cX3_readSame 91 = .ok (.iconst 4, 1) := by decide +kernel
theorem dX3_readSame_92 : decode cX3_readSame 92 = .ok (.iload_n 2, 1) := by decide +kernel
theorem dX3_readSame_93 : decode cX3_readSame 93 = .ok (.invokevirtual 104, 3) := by decide +kernel
theorem dX3_readSame_96 : decode cX3_readSame 96 = .ok (.aload_n 0, 1) := by decide +kernel
theorem dX3_readSame_97 : decode cX3_readSame 97 = .ok (.getfield 26, 3) := by decide +kernel
theorem dX3_readSame_100 : decode cX3_readSame 100 = .ok (.getfield 248, 3) := by decide +kernel
theorem dX3_readSame_103 : decode cX3_readSame 103 = .ok (.iload_n 1, 1) := by decide +kernel
theorem dX3_readSame_104 : decode cX3_readSame 104 = .ok (.iload_n 3, 1) := by decide +kernel
theorem dX3_readSame_105 : decode cX3_readSame 105 = .ok (.invokevirtual 154, 3) := by decide +kernel
theorem dX3_readSame_108 : decode cX3_readSame 108 = .ok (.aload_n 0, 1) := by decide +kernel
theorem dX3_readSame_109 : decode cX3_readSame 109 = .ok (.getfield 26, 3) := by decide +kernel
theorem dX3_readSame_112 : decode cX3_readSame 112 = .ok (.getfield 219, 3) := by decide +kernel
theorem dX3_readSame_115 : decode cX3_readSame 115 = .ok (.iload_n 1, 1) := by decide +kernel
theorem dX3_readSame_116 : decode cX3_readSame 116 = .ok (.iload 4, 2) := by decide +kernel
theorem dX3_readSame_118 : decode cX3_readSame 118 = .ok (.invokevirtual 154, 3) := by decide +kernel
theorem dX3_readSame_121 : decode cX3_readSame 121 = .ok (.return_, 1) := by decide +kernel
def mX3_readSame_96 (I : iT) (F : fT) (x1 : Int32) (x2 : Int32) (x3 : Int32) (x4 : Int32) : Option (iT) := (mX4_put ((F 134 4) + 49) I x1 x3).bind fun q1 => (mX4_put ((F 134 4) + 51) q1 x1 x4).bind fun q2 => some q2
def mX3_readSame_68 (I : iT) (F : fT) (x1 : Int32) (x2 : Int32) (x3 : Int32) (x4 : Int32) : Option (iT) := (mX5_drop I x4).bind fun q3 => (mX5_hasChannels q3).bind fun q4 => if q4 = 0 then mX3_readSame_96 q3 F x1 x2 x3 x4 else (mX2_refuse q3 4 x2).bind fun q5 => mX3_readSame_96 q5 F x1 x2 x3 x4
def mX3_readSame (I : iT) (F : fT) : Option (iT) := (mX0_addNode (F 134 4) I 310).bind fun q6 => (mX2_advance q6.2).bind fun q7 => (mX3_readJoined q7 1).bind fun q8 => (mX3_readJoined q8.2 0).bind fun q9 => (mX5_talkAt q9.2 q8.1).bind fun q10 => (mX5_talkAt q9.2 q9.1).bind fun q11 => if q10 = q11 then mX3_readSame_68 q9.2 F q6.1 (q6.2 6 8) q8.1 q9.1 else (mX2_refuse q9.2 3 (q6.2 6 8)).bind fun q12 => mX3_readSame_68 q12 F q6.1 (q6.2 6 8) q8.1 q9.1
set_option maxRecDepth 100000 in
set_option maxHeartbeats 4000000 in
theorem tX3_readSame_96 {l : Launch} {K : a_KT} {g : a_GT} {IB : iT} (hko : a_kok K) {J : jT} (I : iT) (F : fT) (x1 : Int32) (x2 : Int32) (x3 : Int32) (x4 : Int32) (hF : FK F) (q : iT) (hm : mX3_readSame_96 I F x1 x2 x3 x4 = some q) : E l K g 3 0 0 yX3_readSame cX3_readSame 5 none 96 [.ref 134, .int x1, .int x2, .int x3, .int x4] [] (hg I IB J F) (fun r2 h2 => r2 = none ∧ h2 = hg q IB J F) := by
  unfold mX3_readSame_96 at hm
  refine e_aload_n (i := 0) rfl dX3_readSame_96 ?_
  refine q_getF 3 4 (F 134 4) dX3_readSame_97 fl_RX3_26 rfl iz_134 rfl ?_
  refine q_getF 0 12 ((F 134 4) + 49) dX3_readSame_100 fl_RX3_248 rfl (iz_bk hF.2.2.2.1) (frb_12 hF.1 hF.2.2.2.1) ?_
  refine e_iload_n (i := 1) rfl dX3_readSame_103 ?_
  refine e_iload_n (i := 3) rfl dX3_readSame_104 ?_
  obtain ⟨q1, eq1, hm⟩ := ob_some hm
  refine e_cV2 hko dX3_readSame_105 ml_RX3_154 (iz_row (rwb_49 hF.2.2.2.1)) (by decide) rfl (by omega) (Nat.le_of_ble_eq_true rfl) (tX4_put hko (rwb_49 hF.2.2.2.1) I J F hF x1 x3 _ eq1) ?_
  rintro _ _ ⟨rfl, rfl⟩
  refine e_aload_n (i := 0) rfl dX3_readSame_108 ?_
  refine q_getF 3 4 (F 134 4) dX3_readSame_109 fl_RX3_26 rfl iz_134 rfl ?_
  refine q_getF 0 13 ((F 134 4) + 51) dX3_readSame_112 fl_RX3_219 rfl (iz_bk hF.2.2.2.1) (frb_13 hF.1 hF.2.2.2.1) ?_
  refine e_iload_n (i := 1) rfl dX3_readSame_115 ?_
  refine e_iload (i := 4) rfl dX3_readSame_116 ?_
  obtain ⟨q2, eq2, hm⟩ := ob_some hm
  refine e_cV2 hko dX3_readSame_118 ml_RX3_154 (iz_row (rwb_51 hF.2.2.2.1)) (by decide) rfl (by omega) (Nat.le_of_ble_eq_true rfl) (tX4_put hko (rwb_51 hF.2.2.2.1) q1 J F hF x1 x4 _ eq2) ?_
  rintro _ _ ⟨rfl, rfl⟩
  refine e_vret dX3_readSame_121 rfl ?_
  have hm := some_in hm
  subst hm
  exact ⟨rfl, rfl⟩
set_option maxRecDepth 100000 in
set_option maxHeartbeats 4000000 in
theorem tX3_readSame_68 {l : Launch} {K : a_KT} {g : a_GT} {IB : iT} (hko : a_kok K) {J : jT} (I : iT) (F : fT) (x1 : Int32) (x2 : Int32) (x3 : Int32) (x4 : Int32) (hF : FK F) (q : iT) (hm : mX3_readSame_68 I F x1 x2 x3 x4 = some q) : E l K g 3 0 0 yX3_readSame cX3_readSame 5 none 68 [.ref 134, .int x1, .int x2, .int x3, .int x4] [] (hg I IB J F) (fun r2 h2 => r2 = none ∧ h2 = hg q IB J F) := by
  unfold mX3_readSame_68 at hm
  refine e_aload_n (i := 0) rfl dX3_readSame_68 ?_
  refine q_getF 3 1 135 dX3_readSame_69 fl_RX3_12 rfl iz_134 (fr_134_1 hF.1) ?_
  refine e_iload (i := 4) rfl dX3_readSame_72 ?_
  obtain ⟨q3, eq3, hm⟩ := ob_some hm
  refine e_cV1 hko dX3_readSame_74 ml_RX3_282 iz_135 (by decide) rfl (by omega) (Nat.le_of_ble_eq_true rfl) (tX5_drop hko I J F hF x4 _ eq3) ?_
  rintro _ _ ⟨rfl, rfl⟩
  refine e_aload_n (i := 0) rfl dX3_readSame_77 ?_
  refine q_getF 3 1 135 dX3_readSame_78 fl_RX3_12 rfl iz_134 (fr_134_1 hF.1) ?_
  obtain ⟨q4, eq4, hm⟩ := ob_some hm
  refine e_cV0 hko dX3_readSame_81 ml_RX3_198 iz_135 (by decide) rfl (by omega) (Nat.le_of_ble_eq_true rfl) (tX5_hasChannels hko q3 J F hF _ eq4) ?_
  rintro _ _ ⟨rfl, rfl⟩
  refine e_if_eq 96 dX3_readSame_84 (by decide) (fun c_84 => ?_) (fun c_84 => ?_)
  · have hm := it_p c_84 hm
    refine e_weak [.ref 134, .int x1, .int x2, .int x3, .int x4] ⟨rfl, ⟨rfl, ⟨rfl, ⟨rfl, ⟨rfl, trivial⟩⟩⟩⟩⟩ ?_
    exact tX3_readSame_96 hko q3 F x1 x2 x3 x4 hF _ hm
  · have hm := it_n c_84 hm
    refine e_aload_n (i := 0) rfl dX3_readSame_87 ?_
    refine q_getF 3 0 6 dX3_readSame_88 fl_RX3_22 rfl iz_134 (fr_134_0 hF.1) ?_
    refine e_iconst (v := 4) (by decide) dX3_readSame_91 ?_
    refine e_iload_n (i := 2) rfl dX3_readSame_92 ?_
    obtain ⟨q5, eq5, hm⟩ := ob_some hm
    refine e_cV2 hko dX3_readSame_93 ml_RX3_104 iz_6 (by decide) rfl (by omega) (Nat.le_of_ble_eq_true rfl) (tX2_refuse hko q3 J F hF 4 x2 _ eq5) ?_
    rintro _ _ ⟨rfl, rfl⟩
    refine e_weak [.ref 134, .int x1, .int x2, .int x3, .int x4] ⟨rfl, ⟨rfl, ⟨rfl, ⟨rfl, ⟨rfl, trivial⟩⟩⟩⟩⟩ ?_
    exact tX3_readSame_96 hko q5 F x1 x2 x3 x4 hF _ hm
set_option maxRecDepth 100000 in
set_option maxHeartbeats 4000000 in
theorem tX3_readSame {l : Launch} {K : a_KT} {g : a_GT} {IB : iT} (hko : a_kok K) (I : iT) (J : jT) (F : fT) (hF : FK F) (q : iT) (hm : mX3_readSame I F = some q) : C l K g 3 0 0 yX3_readSame cX3_readSame 5 none [.ref 134] (hg I IB J F) (fun r2 h2 => r2 = none ∧ h2 = hg q IB J F) := by
  unfold mX3_readSame at hm
  refine c_of [.ref 134, .null, .null, .null, .null] (by decide) (Nat.le_of_ble_eq_true rfl) rfl ?_
  refine e_aload_n (i := 0) rfl dX3_readSame_0 ?_
  refine q_getF 3 4 (F 134 4) dX3_readSame_1 fl_RX3_26 rfl iz_134 rfl ?_
  refine e_sipush (v := 310) (by decide) dX3_readSame_4 ?_
  obtain ⟨q6, eq6, hm⟩ := ob_some hm
  refine e_cV1 hko dX3_readSame_7 ml_RX3_201 (iz_bk hF.2.2.2.1) (by decide) rfl (by omega) (Nat.le_of_ble_eq_true rfl) (tX0_addNode hko hF.2.2.2.1 I J F hF 310 _ eq6) ?_
  rintro _ _ ⟨rfl, rfl⟩
  refine q_istore_n (i := 1) (by decide) rfl dX3_readSame_10 ?_
  refine e_aload_n (i := 0) rfl dX3_readSame_11 ?_
  refine q_getF 3 0 6 dX3_readSame_12 fl_RX3_22 rfl iz_134 (fr_134_0 hF.1) ?_
  refine k_getI 2 8 dX3_readSame_15 fl_RX3_95 rfl iz_6 (by decide) ?_
  refine q_istore_n (i := 2) (by decide) rfl dX3_readSame_18 ?_
  refine e_aload_n (i := 0) rfl dX3_readSame_19 ?_
  refine q_getF 3 0 6 dX3_readSame_20 fl_RX3_22 rfl iz_134 (fr_134_0 hF.1) ?_
  obtain ⟨q7, eq7, hm⟩ := ob_some hm
  refine e_cV0 hko dX3_readSame_23 ml_RX3_207 iz_6 (by decide) rfl (by omega) (Nat.le_of_ble_eq_true rfl) (tX2_advance hko q6.2 J F hF _ eq7) ?_
  rintro _ _ ⟨rfl, rfl⟩
  refine e_aload_n (i := 0) rfl dX3_readSame_26 ?_
  refine e_iconst (v := 1) (by decide) dX3_readSame_27 ?_
  obtain ⟨q8, eq8, hm⟩ := ob_some hm
  refine e_cV1 hko dX3_readSame_28 ml_RX3_300 iz_134 (by decide) rfl (by omega) (Nat.le_of_ble_eq_true rfl) (tX3_readJoined hko q7 J F hF 1 _ eq8) ?_
  rintro _ _ ⟨rfl, rfl⟩
  refine q_istore_n (i := 3) (by decide) rfl dX3_readSame_31 ?_
  refine e_aload_n (i := 0) rfl dX3_readSame_32 ?_
  refine e_iconst (v := 0) (by decide) dX3_readSame_33 ?_
  obtain ⟨q9, eq9, hm⟩ := ob_some hm
  refine e_cV1 hko dX3_readSame_34 ml_RX3_300 iz_134 (by decide) rfl (by omega) (Nat.le_of_ble_eq_true rfl) (tX3_readJoined hko q8.2 J F hF 0 _ eq9) ?_
  rintro _ _ ⟨rfl, rfl⟩
  refine q_istore (i := 4) (by decide) rfl dX3_readSame_37 ?_
  refine e_aload_n (i := 0) rfl dX3_readSame_39 ?_
  refine q_getF 3 1 135 dX3_readSame_40 fl_RX3_12 rfl iz_134 (fr_134_1 hF.1) ?_
  refine e_iload_n (i := 3) rfl dX3_readSame_43 ?_
  obtain ⟨q10, eq10, hm⟩ := ob_some hm
  refine e_cV1 hko dX3_readSame_44 ml_RX3_236 iz_135 (by decide) rfl (by omega) (Nat.le_of_ble_eq_true rfl) (tX5_talkAt hko q9.2 J F hF q8.1 _ eq10) ?_
  rintro _ _ ⟨rfl, rfl⟩
  refine e_aload_n (i := 0) rfl dX3_readSame_47 ?_
  refine q_getF 3 1 135 dX3_readSame_48 fl_RX3_12 rfl iz_134 (fr_134_1 hF.1) ?_
  refine e_iload (i := 4) rfl dX3_readSame_51 ?_
  obtain ⟨q11, eq11, hm⟩ := ob_some hm
  refine e_cV1 hko dX3_readSame_53 ml_RX3_236 iz_135 (by decide) rfl (by omega) (Nat.le_of_ble_eq_true rfl) (tX5_talkAt hko q9.2 J F hF q9.1 _ eq11) ?_
  rintro _ _ ⟨rfl, rfl⟩
  refine e_icmp_eq 68 dX3_readSame_56 (by decide) (fun c_56 => ?_) (fun c_56 => ?_)
  · have hm := it_p c_56 hm
    refine e_weak [.ref 134, .int q6.1, .int (q6.2 6 8), .int q8.1, .int q9.1] ⟨rfl, ⟨rfl, ⟨rfl, ⟨rfl, ⟨rfl, trivial⟩⟩⟩⟩⟩ ?_
    exact tX3_readSame_68 hko q9.2 F q6.1 (q6.2 6 8) q8.1 q9.1 hF _ hm
  · have hm := it_n c_56 hm
    refine e_aload_n (i := 0) rfl dX3_readSame_59 ?_
    refine q_getF 3 0 6 dX3_readSame_60 fl_RX3_22 rfl iz_134 (fr_134_0 hF.1) ?_
    refine e_iconst (v := 3) (by decide) dX3_readSame_63 ?_
    refine e_iload_n (i := 2) rfl dX3_readSame_64 ?_
    obtain ⟨q12, eq12, hm⟩ := ob_some hm
    refine e_cV2 hko dX3_readSame_65 ml_RX3_104 iz_6 (by decide) rfl (by omega) (Nat.le_of_ble_eq_true rfl) (tX2_refuse hko q9.2 J F hF 3 (q6.2 6 8) _ eq12) ?_
    rintro _ _ ⟨rfl, rfl⟩
    refine e_weak [.ref 134, .int q6.1, .int (q6.2 6 8), .int q8.1, .int q9.1] ⟨rfl, ⟨rfl, ⟨rfl, ⟨rfl, ⟨rfl, trivial⟩⟩⟩⟩⟩ ?_
    exact tX3_readSame_68 hko q12 F q6.1 (q6.2 6 8) q8.1 q9.1 hF _ hm
theorem dX3_readSay_0 : decode cX3_readSay 0 = .ok (.aload_n 0, 1) := by decide +kernel
theorem dX3_readSay_1 : decode cX3_readSay 1 = .ok (.getfield 26, 3) := by decide +kernel
theorem dX3_readSay_4 : decode cX3_readSay 4 = .ok (.sipush 314, 3) := by decide +kernel
theorem dX3_readSay_7 : decode cX3_readSay 7 = .ok (.invokevirtual 201, 3) := by decide +kernel
theorem dX3_readSay_10 : decode cX3_readSay 10 = .ok (.istore_n 2, 1) := by decide +kernel
theorem dX3_readSay_11 : decode cX3_readSay 11 = .ok (.aload_n 0, 1) := by decide +kernel
theorem dX3_readSay_12 : decode cX3_readSay 12 = .ok (.getfield 22, 3) := by decide +kernel
theorem dX3_readSay_15 : decode cX3_readSay 15 = .ok (.invokevirtual 207, 3) := by decide +kernel
theorem dX3_readSay_18 : decode cX3_readSay 18 = .ok (.aload_n 0, 1) := by decide +kernel
theorem dX3_readSay_19 : decode cX3_readSay 19 = .ok (.getfield 26, 3) := by decide +kernel
theorem dX3_readSay_22 : decode cX3_readSay 22 = .ok (.getfield 219, 3) := by decide +kernel
theorem dX3_readSay_25 : decode cX3_readSay 25 = .ok (.iload_n 2, 1) := by decide +kernel
theorem dX3_readSay_26 : decode cX3_readSay 26 = .ok (.aload_n 0, 1) := by decide +kernel
theorem dX3_readSay_27 : decode cX3_readSay 27 = .ok (.getfield 50, 3) := by decide +kernel
theorem dX3_readSay_30 : decode cX3_readSay 30 = .ok (.iconst 0, 1) := by decide +kernel
theorem dX3_readSay_31 : decode cX3_readSay 31 = .ok (.iload_n 1, 1) := by decide +kernel
theorem dX3_readSay_32 : decode cX3_readSay 32 = .ok (.invokevirtual 213, 3) := by decide +kernel
theorem dX3_readSay_35 : decode cX3_readSay 35 = .ok (.invokevirtual 154, 3) := by decide +kernel
theorem dX3_readSay_38 : decode cX3_readSay 38 = .ok (.return_, 1) := by decide +kernel
def mX3_readSay (I : iT) (F : fT) (x1 : Int32) : Option (iT) := (mX0_addNode (F 134 4) I 314).bind fun q1 => (mX2_advance q1.2).bind fun q2 => (mX7_readSum SF q2 F 0 x1).bind fun q3 => (mX4_put ((F 134 4) + 51) q3.2 q1.1 q3.1).bind fun q4 => some q4
set_option maxRecDepth 100000 in
set_option maxHeartbeats 4000000 in
theorem tX3_readSay {l : Launch} {K : a_KT} {g : a_GT} {IB : iT} (hko : a_kok K) (I : iT) (J : jT) (F : fT) (hF : FK F) (x1 : Int32) (q : iT) (hm : mX3_readSay I F x1 = some q) : C l K g 453 0 0 yX3_readSay cX3_readSay 3 none [.ref 134, .int x1] (hg I IB J F) (fun r2 h2 => r2 = none ∧ h2 = hg q IB J F) := by
  unfold mX3_readSay at hm
  refine c_of [.ref 134, .int x1, .null] (by decide) (Nat.le_of_ble_eq_true rfl) rfl ?_
  refine e_aload_n (i := 0) rfl dX3_readSay_0 ?_
  refine q_getF 3 4 (F 134 4) dX3_readSay_1 fl_RX3_26 rfl iz_134 rfl ?_
  refine e_sipush (v := 314) (by decide) dX3_readSay_4 ?_
  obtain ⟨q1, eq1, hm⟩ := ob_some hm
  refine e_cV1 hko dX3_readSay_7 ml_RX3_201 (iz_bk hF.2.2.2.1) (by decide) rfl (by omega) (Nat.le_of_ble_eq_true rfl) (tX0_addNode hko hF.2.2.2.1 I J F hF 314 _ eq1) ?_
  rintro _ _ ⟨rfl, rfl⟩
  refine q_istore_n (i := 2) (by decide) rfl dX3_readSay_10 ?_
  refine e_aload_n (i := 0) rfl dX3_readSay_11 ?_
  refine q_getF 3 0 6 dX3_readSay_12 fl_RX3_22 rfl iz_134 (fr_134_0 hF.1) ?_
  obtain ⟨q2, eq2, hm⟩ := ob_some hm
  refine e_cV0 hko dX3_readSay_15 ml_RX3_207 iz_6 (by decide) rfl (by omega) (Nat.le_of_ble_eq_true rfl) (tX2_advance hko q1.2 J F hF _ eq2) ?_
  rintro _ _ ⟨rfl, rfl⟩
  refine e_aload_n (i := 0) rfl dX3_readSay_18 ?_
  refine q_getF 3 4 (F 134 4) dX3_readSay_19 fl_RX3_26 rfl iz_134 rfl ?_
  refine q_getF 0 13 ((F 134 4) + 51) dX3_readSay_22 fl_RX3_219 rfl (iz_bk hF.2.2.2.1) (frb_13 hF.1 hF.2.2.2.1) ?_
  refine e_iload_n (i := 2) rfl dX3_readSay_25 ?_
  refine e_aload_n (i := 0) rfl dX3_readSay_26 ?_
  refine q_getF 3 3 147 dX3_readSay_27 fl_RX3_50 rfl iz_134 (fr_134_3 hF.1) ?_
  refine e_iconst (v := 0) (by decide) dX3_readSay_30 ?_
  refine e_iload_n (i := 1) rfl dX3_readSay_31 ?_
  obtain ⟨q3, eq3, hm⟩ := ob_some hm
  refine e_cV2 hko dX3_readSay_32 ml_RX3_213 iz_147 (by decide) rfl (by omega) (Nat.le_of_ble_eq_true rfl) (tX7_readSum hko q2 J F hF 0 x1 _ eq3) ?_
  rintro _ _ ⟨rfl, rfl⟩
  obtain ⟨q4, eq4, hm⟩ := ob_some hm
  refine e_cV2 hko dX3_readSay_35 ml_RX3_154 (iz_row (rwb_51 hF.2.2.2.1)) (by decide) rfl (by omega) (Nat.le_of_ble_eq_true rfl) (tX4_put hko (rwb_51 hF.2.2.2.1) q3.2 J F hF q1.1 q3.1 _ eq4) ?_
  rintro _ _ ⟨rfl, rfl⟩
  refine e_vret dX3_readSay_38 rfl ?_
  have hm := some_in hm
  subst hm
  exact ⟨rfl, rfl⟩
theorem dX3_readPicked_0 : decode cX3_readPicked 0 = .ok (.aload_n 0, 1) := by decide +kernel
theorem dX3_readPicked_1 : decode cX3_readPicked 1 = .ok (.getfield 22, 3) := by decide +kernel
theorem dX3_readPicked_4 : decode cX3_readPicked 4 = .ok (.getfield 95, 3) := by decide +kernel
theorem dX3_readPicked_7 : decode cX3_readPicked 7 = .ok (.istore_n 3, 1) := by decide +kernel
theorem dX3_readPicked_8 : decode cX3_readPicked 8 = .ok (.aload_n 0, 1) := by decide +kernel
theorem dX3_readPicked_9 : decode cX3_readPicked 9 = .ok (.getfield 22, 3) := by decide +kernel
theorem dX3_readPicked_12 : decode cX3_readPicked 12 = .ok (.invokevirtual 98, 3) := by decide +kernel
theorem dX3_readPicked_15 : decode cX3_readPicked 15 = .ok (.istore 4, 2) := by decide +kernel
theorem dX3_readPicked_17 : decode cX3_readPicked 17 = .ok (.aload_n 0, 1) := by decide +kernel
theorem dX3_readPicked_18 : decode cX3_readPicked 18 = .ok (.getfield 26, 3) := by decide +kernel
theorem dX3_readPicked_21 : decode cX3_readPicked 21 = .ok (.getfield 239, 3) := by decide +kernel
theorem dX3_readPicked_24 : decode cX3_readPicked 24 = .ok (.iload_n 2, 1) := by decide +kernel
theorem dX3_readPicked_25 : decode cX3_readPicked 25 = .ok (.iload 4, 2) := by decide +kernel
theorem dX3_readPicked_27 : decode cX3_readPicked 27 = .ok (.invokevirtual 260, 3) := by decide +kernel
theorem dX3_readPicked_30 : decode cX3_readPicked 30 = .ok (.istore 5, 2) := by decide +kernel
theorem dX3_readPicked_32 : decode cX3_readPicked 32 = .ok (.iload 5, 2) := by decide +kernel
theorem dX3_readPicked_34 : decode cX3_readPicked 34 = .ok (.iconst (-1), 1) := by decide +kernel
theorem dX3_readPicked_35 : decode cX3_readPicked 35 = .ok (.if_icmp .ne 12, 3) := by decide +kernel
theorem dX3_readPicked_38 : decode cX3_readPicked 38 = .ok (.aload_n 0, 1) := by decide +kernel
theorem dX3_readPicked_39 : decode cX3_readPicked 39 = .ok (.getfield 22, 3) := by decide +kernel
theorem dX3_readPicked_42 : decode cX3_readPicked 42 = .ok (.iconst 3, 1) := by decide +kernel
theorem dX3_readPicked_43 : decode cX3_readPicked 43 = .ok (.iload_n 3, 1) := by decide +kernel
theorem dX3_readPicked_44 : decode cX3_readPicked 44 = .ok (.invokevirtual 104, 3) := by decide +kernel
theorem dX3_readPicked_47 : decode cX3_readPicked 47 = .ok (.aload_n 0, 1) := by decide +kernel
theorem dX3_readPicked_48 : decode cX3_readPicked 48 = .ok (.getfield 26, 3) := by decide +kernel
theorem dX3_readPicked_51 : decode cX3_readPicked 51 = .ok (.getfield 219, 3) := by decide +kernel
theorem dX3_readPicked_54 : decode cX3_readPicked 54 = .ok (.iload_n 1, 1) := by decide +kernel
theorem dX3_readPicked_55 : decode cX3_readPicked 55 = .ok (.iload 4, 2) := by decide +kernel
theorem dX3_readPicked_57 : decode cX3_readPicked 57 = .ok (.invokevirtual 154, 3) := by decide +kernel
theorem dX3_readPicked_60 : decode cX3_readPicked 60 = .ok (.aload_n 0, 1) := by decide +kernel
theorem dX3_readPicked_61 : decode cX3_readPicked 61 = .ok (.getfield 26, 3) := by decide +kernel
theorem dX3_readPicked_64 : decode cX3_readPicked 64 = .ok (.getfield 239, 3) := by decide +kernel
theorem dX3_readPicked_67 : decode cX3_readPicked 67 = .ok (.iload_n 2, 1) := by decide +kernel
theorem dX3_readPicked_68 : decode cX3_readPicked 68 = .ok (.iload 5, 2) := by decide +kernel
theorem dX3_readPicked_70 : decode cX3_readPicked 70 = .ok (.invokevirtual 266, 3) := by decide +kernel
theorem dX3_readPicked_73 : decode cX3_readPicked 73 = .ok (.ireturn, 1) := by decide +kernel
def mX3_readPicked_47 (I : iT) (F : fT) (x1 : Int32) (x2 : Int32) (x3 : Int32) (x4 : Int32) (x5 : Int32) : Option (Int32 × iT) := (mX4_put ((F 134 4) + 51) I x1 x4).bind fun q1 => (mX10_branchT ((F 134 4) + 1) q1 x2 x5).bind fun q2 => some (q2, q1)
def mX3_readPicked (I : iT) (F : fT) (x1 : Int32) (x2 : Int32) : Option (Int32 × iT) := (mX2_takeName I).bind fun q3 => (mX10_findBranch ((F 134 4) + 1) q3.2 x2 q3.1).bind fun q4 => if q4 = ((-1)) then (mX2_refuse q3.2 3 (I 6 8)).bind fun q5 => mX3_readPicked_47 q5 F x1 x2 (I 6 8) q3.1 q4 else mX3_readPicked_47 q3.2 F x1 x2 (I 6 8) q3.1 q4
set_option maxRecDepth 100000 in
set_option maxHeartbeats 4000000 in
theorem tX3_readPicked_47 {l : Launch} {K : a_KT} {g : a_GT} {IB : iT} (hko : a_kok K) {J : jT} (I : iT) (F : fT) (x1 : Int32) (x2 : Int32) (x3 : Int32) (x4 : Int32) (x5 : Int32) (hF : FK F) (q : Int32 × iT) (hm : mX3_readPicked_47 I F x1 x2 x3 x4 x5 = some q) : E l K g 3 0 0 yX3_readPicked cX3_readPicked 6 (some .int) 47 [.ref 134, .int x1, .int x2, .int x3, .int x4, .int x5] [] (hg I IB J F) (fun r2 h2 => r2 = some (.int q.1) ∧ h2 = hg q.2 IB J F) := by
  unfold mX3_readPicked_47 at hm
  refine e_aload_n (i := 0) rfl dX3_readPicked_47 ?_
  refine q_getF 3 4 (F 134 4) dX3_readPicked_48 fl_RX3_26 rfl iz_134 rfl ?_
  refine q_getF 0 13 ((F 134 4) + 51) dX3_readPicked_51 fl_RX3_219 rfl (iz_bk hF.2.2.2.1) (frb_13 hF.1 hF.2.2.2.1) ?_
  refine e_iload_n (i := 1) rfl dX3_readPicked_54 ?_
  refine e_iload (i := 4) rfl dX3_readPicked_55 ?_
  obtain ⟨q1, eq1, hm⟩ := ob_some hm
  refine e_cV2 hko dX3_readPicked_57 ml_RX3_154 (iz_row (rwb_51 hF.2.2.2.1)) (by decide) rfl (by omega) (Nat.le_of_ble_eq_true rfl) (tX4_put hko (rwb_51 hF.2.2.2.1) I J F hF x1 x4 _ eq1) ?_
  rintro _ _ ⟨rfl, rfl⟩
  refine e_aload_n (i := 0) rfl dX3_readPicked_60 ?_
  refine q_getF 3 4 (F 134 4) dX3_readPicked_61 fl_RX3_26 rfl iz_134 rfl ?_
  refine q_getF 0 0 ((F 134 4) + 1) dX3_readPicked_64 fl_RX3_239 rfl (iz_bk hF.2.2.2.1) (frb_0 hF.1 hF.2.2.2.1) ?_
  refine e_iload_n (i := 2) rfl dX3_readPicked_67 ?_
  refine e_iload (i := 5) rfl dX3_readPicked_68 ?_
  obtain ⟨q2, eq2, hm⟩ := ob_some hm
  refine e_cV2 hko dX3_readPicked_70 ml_RX3_266 (iz_ty (bk_ty hF.2.2.2.1)) (by decide) rfl (by omega) (Nat.le_of_ble_eq_true rfl) (tX10_branchT hko (bk_ty hF.2.2.2.1) q1 J F hF x2 x5 _ eq2) ?_
  rintro _ _ ⟨rfl, rfl⟩
  refine e_iret dX3_readPicked_73 rfl ?_
  have hm := some_in hm
  subst hm
  exact ⟨rfl, rfl⟩
set_option maxRecDepth 100000 in
set_option maxHeartbeats 4000000 in
theorem tX3_readPicked {l : Launch} {K : a_KT} {g : a_GT} {IB : iT} (hko : a_kok K) (I : iT) (J : jT) (F : fT) (hF : FK F) (x1 : Int32) (x2 : Int32) (q : Int32 × iT) (hm : mX3_readPicked I F x1 x2 = some q) : C l K g 3 0 0 yX3_readPicked cX3_readPicked 6 (some .int) [.ref 134, .int x1, .int x2] (hg I IB J F) (fun r2 h2 => r2 = some (.int q.1) ∧ h2 = hg q.2 IB J F) := by
  unfold mX3_readPicked at hm
  refine c_of [.ref 134, .int x1, .int x2, .null, .null, .null] (by decide) (Nat.le_of_ble_eq_true rfl) rfl ?_
  refine e_aload_n (i := 0) rfl dX3_readPicked_0 ?_
  refine q_getF 3 0 6 dX3_readPicked_1 fl_RX3_22 rfl iz_134 (fr_134_0 hF.1) ?_
  refine k_getI 2 8 dX3_readPicked_4 fl_RX3_95 rfl iz_6 (by decide) ?_
  refine q_istore_n (i := 3) (by decide) rfl dX3_readPicked_7 ?_
  refine e_aload_n (i := 0) rfl dX3_readPicked_8 ?_
  refine q_getF 3 0 6 dX3_readPicked_9 fl_RX3_22 rfl iz_134 (fr_134_0 hF.1) ?_
  obtain ⟨q3, eq3, hm⟩ := ob_some hm
  refine e_cV0 hko dX3_readPicked_12 ml_RX3_98 iz_6 (by decide) rfl (by omega) (Nat.le_of_ble_eq_true rfl) (tX2_takeName hko I J F hF _ eq3) ?_
  rintro _ _ ⟨rfl, rfl⟩
  refine q_istore (i := 4) (by decide) rfl dX3_readPicked_15 ?_
  refine e_aload_n (i := 0) rfl dX3_readPicked_17 ?_
  refine q_getF 3 4 (F 134 4) dX3_readPicked_18 fl_RX3_26 rfl iz_134 rfl ?_
  refine q_getF 0 0 ((F 134 4) + 1) dX3_readPicked_21 fl_RX3_239 rfl (iz_bk hF.2.2.2.1) (frb_0 hF.1 hF.2.2.2.1) ?_
  refine e_iload_n (i := 2) rfl dX3_readPicked_24 ?_
  refine e_iload (i := 4) rfl dX3_readPicked_25 ?_
  obtain ⟨q4, eq4, hm⟩ := ob_some hm
  refine e_cV2 hko dX3_readPicked_27 ml_RX3_260 (iz_ty (bk_ty hF.2.2.2.1)) (by decide) rfl (by omega) (Nat.le_of_ble_eq_true rfl) (tX10_findBranch hko (bk_ty hF.2.2.2.1) q3.2 J F hF x2 q3.1 _ eq4) ?_
  rintro _ _ ⟨rfl, rfl⟩
  refine q_istore (i := 5) (by decide) rfl dX3_readPicked_30 ?_
  refine e_iload (i := 5) rfl dX3_readPicked_32 ?_
  refine e_iconst (v := (-1)) (by decide) dX3_readPicked_34 ?_
  refine e_icmp_ne 47 dX3_readPicked_35 (by decide) (fun c_35 => ?_) (fun c_35 => ?_)
  · have hm := it_n c_35 hm
    refine e_weak [.ref 134, .int x1, .int x2, .int (I 6 8), .int q3.1, .int q4] ⟨rfl, ⟨rfl, ⟨rfl, ⟨rfl, ⟨rfl, ⟨rfl, trivial⟩⟩⟩⟩⟩⟩ ?_
    exact tX3_readPicked_47 hko q3.2 F x1 x2 (I 6 8) q3.1 q4 hF _ hm
  · have hm := it_p c_35 hm
    refine e_aload_n (i := 0) rfl dX3_readPicked_38 ?_
    refine q_getF 3 0 6 dX3_readPicked_39 fl_RX3_22 rfl iz_134 (fr_134_0 hF.1) ?_
    refine e_iconst (v := 3) (by decide) dX3_readPicked_42 ?_
    refine e_iload_n (i := 3) rfl dX3_readPicked_43 ?_
    obtain ⟨q5, eq5, hm⟩ := ob_some hm
    refine e_cV2 hko dX3_readPicked_44 ml_RX3_104 iz_6 (by decide) rfl (by omega) (Nat.le_of_ble_eq_true rfl) (tX2_refuse hko q3.2 J F hF 3 (I 6 8) _ eq5) ?_
    rintro _ _ ⟨rfl, rfl⟩
    refine e_weak [.ref 134, .int x1, .int x2, .int (I 6 8), .int q3.1, .int q4] ⟨rfl, ⟨rfl, ⟨rfl, ⟨rfl, ⟨rfl, ⟨rfl, trivial⟩⟩⟩⟩⟩⟩ ?_
    exact tX3_readPicked_47 hko q5 F x1 x2 (I 6 8) q3.1 q4 hF _ hm
theorem dX3_readSent_0 : decode cX3_readSent 0 = .ok (.aload_n 0, 1) := by decide +kernel
theorem dX3_readSent_1 : decode cX3_readSent 1 = .ok (.getfield 22, 3) := by decide +kernel
theorem dX3_readSent_4 : decode cX3_readSent 4 = .ok (.getfield 95, 3) := by decide +kernel
theorem dX3_readSent_7 : decode cX3_readSent 7 = .ok (.istore_n 2, 1) := by decide +kernel
theorem dX3_readSent_8 : decode cX3_readSent 8 = .ok (.aload_n 0, 1) := by decide +kernel
theorem dX3_readSent_9 : decode cX3_readSent 9 = .ok (.getfield 12, 3) := by decide +kernel
theorem dX3_readSent_12 : decode cX3_readSent 12 = .ok (.aload_n 0, 1) := by decide +kernel
theorem dX3_readSent_13 : decode cX3_readSent 13 = .ok (.getfield 22, 3) := by decide +kernel
theorem dX3_readSent_16 : decode cX3_readSent 16 = .ok (.invokevirtual 98, 3) := by decide +kernel
theorem dX3_readSent_19 : decode cX3_readSent 19 = .ok (.invokevirtual 163, 3) := by decide +kernel
theorem dX3_readSent_22 : decode cX3_readSent 22 = .ok (.istore_n 3, 1) := by decide +kernel
theorem dX3_readSent_23 : decode cX3_readSent 23 = .ok (.aload_n 0, 1) := by decide +kernel
theorem dX3_readSent_24 : decode cX3_readSent 24 = .ok (.getfield 12, 3) := by decide +kernel
theorem dX3_readSent_27 : decode cX3_readSent 27 = .ok (.iload_n 3, 1) := by decide +kernel
theorem dX3_readSent_28 : decode cX3_readSent 28 = .ok (.invokevirtual 236, 3) := by decide +kernel
theorem dX3_readSent_31 : decode cX3_readSent 31 = .ok (.istore 4, 2) := by decide +kernel
theorem dX3_readSent_33 : decode cX3_readSent 33 = .ok (.iload 4, 2) := by decide +kernel
theorem dX3_readSent_35 : decode cX3_readSent 35 = .ok (.iconst (-1), 1) := by decide +kernel
theorem dX3_readSent_36 : decode cX3_readSent 36 = .ok (.if_icmp .ne 12, 3) := by decide +kernel
theorem dX3_readSent_39 : decode cX3_readSent 39 = .ok (.aload_n 0, 1) := by decide +kernel
theorem dX3_readSent_40 : decode cX3_readSent 40 = .ok (.getfield 22, 3) := by decide +kernel
theorem dX3_readSent_43 : decode cX3_readSent 43 = .ok (.iconst 2, 1) := by decide +kernel
theorem dX3_readSent_44 : decode cX3_readSent 44 = .ok (.iload_n 2, 1) := by decide +kernel
theorem dX3_readSent_45 : decode cX3_readSent 45 = .ok (.invokevirtual 104, 3) := by decide +kernel
theorem dX3_readSent_48 : decode cX3_readSent 48 = .ok (.iload 4, 2) := by decide +kernel
theorem dX3_readSent_50 : decode cX3_readSent 50 = .ok (.iload_n 1, 1) := by decide +kernel
theorem dX3_readSent_51 : decode cX3_readSent 51 = .ok (.if_icmp .eq 12, 3) := by decide +kernel
theorem dX3_readSent_54 : decode cX3_readSent 54 = .ok (.aload_n 0, 1) := by decide +kernel
theorem dX3_readSent_55 : decode cX3_readSent 55 = .ok (.getfield 22, 3) := by decide +kernel
theorem dX3_readSent_58 : decode cX3_readSent 58 = .ok (.iconst 3, 1) := by decide +kernel
theorem dX3_readSent_59 : decode cX3_readSent 59 = .ok (.iload_n 2, 1) := by decide +kernel
theorem dX3_readSent_60 : decode cX3_readSent 60 = .ok (.invokevirtual 104, 3) := by decide +kernel
theorem dX3_readSent_63 : decode cX3_readSent 63 = .ok (.iload_n 3, 1) := by decide +kernel
theorem dX3_readSent_64 : decode cX3_readSent 64 = .ok (.ifCond .ne 12, 3) := by decide +kernel
theorem dX3_readSent_67 : decode cX3_readSent 67 = .ok (.aload_n 0, 1) := by decide +kernel
theorem dX3_readSent_68 : decode cX3_readSent 68 = .ok (.getfield 22, 3) := by decide +kernel
theorem dX3_readSent_71 : decode cX3_readSent 71 = .ok (.iconst 4, 1) := by decide +kernel
theorem dX3_readSent_72 : decode cX3_readSent 72 = .ok (.iload_n 2, 1) := by decide +kernel
theorem dX3_readSent_73 : decode cX3_readSent 73 = .ok (.invokevirtual 104, 3) := by decide +kernel
theorem dX3_readSent_76 : decode cX3_readSent 76 = .ok (.aload_n 0, 1) := by decide +kernel
theorem dX3_readSent_77 : decode cX3_readSent 77 = .ok (.getfield 12, 3) := by decide +kernel
theorem dX3_readSent_80 : decode cX3_readSent 80 = .ok (.iload_n 3, 1) := by decide +kernel
theorem dX3_readSent_81 : decode cX3_readSent 81 = .ok (.invokevirtual 282, 3) := by decide +kernel
theorem dX3_readSent_84 : decode cX3_readSent 84 = .ok (.iload_n 3, 1) := by decide +kernel
theorem dX3_readSent_85 : decode cX3_readSent 85 = .ok (.ireturn, 1) := by decide +kernel
def mX3_readSent_76 (I : iT) (x1 : Int32) (x2 : Int32) (x3 : Int32) (x4 : Int32) : Option (Int32 × iT) := (mX5_drop I x3).bind fun q1 => some (x3, q1)
def mX3_readSent_63 (I : iT) (x1 : Int32) (x2 : Int32) (x3 : Int32) (x4 : Int32) : Option (Int32 × iT) := if x3 = 0 then (mX2_refuse I 4 x2).bind fun q2 => mX3_readSent_76 q2 x1 x2 x3 x4 else mX3_readSent_76 I x1 x2 x3 x4
def mX3_readSent_48 (I : iT) (x1 : Int32) (x2 : Int32) (x3 : Int32) (x4 : Int32) : Option (Int32 × iT) := if x4 = x1 then mX3_readSent_63 I x1 x2 x3 x4 else (mX2_refuse I 3 x2).bind fun q3 => mX3_readSent_63 q3 x1 x2 x3 x4
def mX3_readSent (I : iT) (x1 : Int32) : Option (Int32 × iT) := (mX2_takeName I).bind fun q4 => (mX5_find q4.2 q4.1).bind fun q5 => (mX5_talkAt q4.2 q5).bind fun q6 => if q6 = ((-1)) then (mX2_refuse q4.2 2 (I 6 8)).bind fun q7 => mX3_readSent_48 q7 x1 (I 6 8) q5 q6 else mX3_readSent_48 q4.2 x1 (I 6 8) q5 q6
set_option maxRecDepth 100000 in
set_option maxHeartbeats 4000000 in
theorem tX3_readSent_76 {l : Launch} {K : a_KT} {g : a_GT} {IB : iT} (hko : a_kok K) {J : jT} {F : fT} (I : iT) (x1 : Int32) (x2 : Int32) (x3 : Int32) (x4 : Int32) (hF : FK F) (q : Int32 × iT) (hm : mX3_readSent_76 I x1 x2 x3 x4 = some q) : E l K g 2 0 0 yX3_readSent cX3_readSent 5 (some .int) 76 [.ref 134, .int x1, .int x2, .int x3, .int x4] [] (hg I IB J F) (fun r2 h2 => r2 = some (.int q.1) ∧ h2 = hg q.2 IB J F) := by
  unfold mX3_readSent_76 at hm
  refine e_aload_n (i := 0) rfl dX3_readSent_76 ?_
  refine q_getF 3 1 135 dX3_readSent_77 fl_RX3_12 rfl iz_134 (fr_134_1 hF.1) ?_
  refine e_iload_n (i := 3) rfl dX3_readSent_80 ?_
  obtain ⟨q1, eq1, hm⟩ := ob_some hm
  refine e_cV1 hko dX3_readSent_81 ml_RX3_282 iz_135 (by decide) rfl (by omega) (Nat.le_of_ble_eq_true rfl) (tX5_drop hko I J F hF x3 _ eq1) ?_
  rintro _ _ ⟨rfl, rfl⟩
  refine e_iload_n (i := 3) rfl dX3_readSent_84 ?_
  refine e_iret dX3_readSent_85 rfl ?_
  have hm := some_in hm
  subst hm
  exact ⟨rfl, rfl⟩
set_option maxRecDepth 100000 in
set_option maxHeartbeats 4000000 in
theorem tX3_readSent_63 {l : Launch} {K : a_KT} {g : a_GT} {IB : iT} (hko : a_kok K) {J : jT} {F : fT} (I : iT) (x1 : Int32) (x2 : Int32) (x3 : Int32) (x4 : Int32) (hF : FK F) (q : Int32 × iT) (hm : mX3_readSent_63 I x1 x2 x3 x4 = some q) : E l K g 2 0 0 yX3_readSent cX3_readSent 5 (some .int) 63 [.ref 134, .int x1, .int x2, .int x3, .int x4] [] (hg I IB J F) (fun r2 h2 => r2 = some (.int q.1) ∧ h2 = hg q.2 IB J F) := by
  unfold mX3_readSent_63 at hm
  refine e_iload_n (i := 3) rfl dX3_readSent_63 ?_
  refine e_if_ne 76 dX3_readSent_64 (by decide) (fun c_64 => ?_) (fun c_64 => ?_)
  · have hm := it_n c_64 hm
    refine e_weak [.ref 134, .int x1, .int x2, .int x3, .int x4] ⟨rfl, ⟨rfl, ⟨rfl, ⟨rfl, ⟨rfl, trivial⟩⟩⟩⟩⟩ ?_
    exact tX3_readSent_76 hko I x1 x2 x3 x4 hF _ hm
  · have hm := it_p c_64 hm
    refine e_aload_n (i := 0) rfl dX3_readSent_67 ?_
    refine q_getF 3 0 6 dX3_readSent_68 fl_RX3_22 rfl iz_134 (fr_134_0 hF.1) ?_
    refine e_iconst (v := 4) (by decide) dX3_readSent_71 ?_
    refine e_iload_n (i := 2) rfl dX3_readSent_72 ?_
    obtain ⟨q2, eq2, hm⟩ := ob_some hm
    refine e_cV2 hko dX3_readSent_73 ml_RX3_104 iz_6 (by decide) rfl (by omega) (Nat.le_of_ble_eq_true rfl) (tX2_refuse hko I J F hF 4 x2 _ eq2) ?_
    rintro _ _ ⟨rfl, rfl⟩
    refine e_weak [.ref 134, .int x1, .int x2, .int x3, .int x4] ⟨rfl, ⟨rfl, ⟨rfl, ⟨rfl, ⟨rfl, trivial⟩⟩⟩⟩⟩ ?_
    exact tX3_readSent_76 hko q2 x1 x2 x3 x4 hF _ hm
set_option maxRecDepth 100000 in
set_option maxHeartbeats 4000000 in
theorem tX3_readSent_48 {l : Launch} {K : a_KT} {g : a_GT} {IB : iT} (hko : a_kok K) {J : jT} {F : fT} (I : iT) (x1 : Int32) (x2 : Int32) (x3 : Int32) (x4 : Int32) (hF : FK F) (q : Int32 × iT) (hm : mX3_readSent_48 I x1 x2 x3 x4 = some q) : E l K g 2 0 0 yX3_readSent cX3_readSent 5 (some .int) 48 [.ref 134, .int x1, .int x2, .int x3, .int x4] [] (hg I IB J F) (fun r2 h2 => r2 = some (.int q.1) ∧ h2 = hg q.2 IB J F) := by
  unfold mX3_readSent_48 at hm
  refine e_iload (i := 4) rfl dX3_readSent_48 ?_
  refine e_iload_n (i := 1) rfl dX3_readSent_50 ?_
  refine e_icmp_eq 63 dX3_readSent_51 (by decide) (fun c_51 => ?_) (fun c_51 => ?_)
  · have hm := it_p c_51 hm
    refine e_weak [.ref 134, .int x1, .int x2, .int x3, .int x4] ⟨rfl, ⟨rfl, ⟨rfl, ⟨rfl, ⟨rfl, trivial⟩⟩⟩⟩⟩ ?_
    exact tX3_readSent_63 hko I x1 x2 x3 x4 hF _ hm
  · have hm := it_n c_51 hm
    refine e_aload_n (i := 0) rfl dX3_readSent_54 ?_
    refine q_getF 3 0 6 dX3_readSent_55 fl_RX3_22 rfl iz_134 (fr_134_0 hF.1) ?_
    refine e_iconst (v := 3) (by decide) dX3_readSent_58 ?_
    refine e_iload_n (i := 2) rfl dX3_readSent_59 ?_
    obtain ⟨q3, eq3, hm⟩ := ob_some hm
    refine e_cV2 hko dX3_readSent_60 ml_RX3_104 iz_6 (by decide) rfl (by omega) (Nat.le_of_ble_eq_true rfl) (tX2_refuse hko I J F hF 3 x2 _ eq3) ?_
    rintro _ _ ⟨rfl, rfl⟩
    refine e_weak [.ref 134, .int x1, .int x2, .int x3, .int x4] ⟨rfl, ⟨rfl, ⟨rfl, ⟨rfl, ⟨rfl, trivial⟩⟩⟩⟩⟩ ?_
    exact tX3_readSent_63 hko q3 x1 x2 x3 x4 hF _ hm
set_option maxRecDepth 100000 in
set_option maxHeartbeats 4000000 in
theorem tX3_readSent {l : Launch} {K : a_KT} {g : a_GT} {IB : iT} (hko : a_kok K) (I : iT) (J : jT) (F : fT) (hF : FK F) (x1 : Int32) (q : Int32 × iT) (hm : mX3_readSent I x1 = some q) : C l K g 2 0 0 yX3_readSent cX3_readSent 5 (some .int) [.ref 134, .int x1] (hg I IB J F) (fun r2 h2 => r2 = some (.int q.1) ∧ h2 = hg q.2 IB J F) := by
  unfold mX3_readSent at hm
  refine c_of [.ref 134, .int x1, .null, .null, .null] (by decide) (Nat.le_of_ble_eq_true rfl) rfl ?_
  refine e_aload_n (i := 0) rfl dX3_readSent_0 ?_
  refine q_getF 3 0 6 dX3_readSent_1 fl_RX3_22 rfl iz_134 (fr_134_0 hF.1) ?_
  refine k_getI 2 8 dX3_readSent_4 fl_RX3_95 rfl iz_6 (by decide) ?_
  refine q_istore_n (i := 2) (by decide) rfl dX3_readSent_7 ?_
  refine e_aload_n (i := 0) rfl dX3_readSent_8 ?_
  refine q_getF 3 1 135 dX3_readSent_9 fl_RX3_12 rfl iz_134 (fr_134_1 hF.1) ?_
  refine e_aload_n (i := 0) rfl dX3_readSent_12 ?_
  refine q_getF 3 0 6 dX3_readSent_13 fl_RX3_22 rfl iz_134 (fr_134_0 hF.1) ?_
  obtain ⟨q4, eq4, hm⟩ := ob_some hm
  refine e_cV0 hko dX3_readSent_16 ml_RX3_98 iz_6 (by decide) rfl (by omega) (Nat.le_of_ble_eq_true rfl) (tX2_takeName hko I J F hF _ eq4) ?_
  rintro _ _ ⟨rfl, rfl⟩
  obtain ⟨q5, eq5, hm⟩ := ob_some hm
  refine e_cV1 hko dX3_readSent_19 ml_RX3_163 iz_135 (by decide) rfl (by omega) (Nat.le_of_ble_eq_true rfl) (tX5_find hko q4.2 J F hF q4.1 _ eq5) ?_
  rintro _ _ ⟨rfl, rfl⟩
  refine q_istore_n (i := 3) (by decide) rfl dX3_readSent_22 ?_
  refine e_aload_n (i := 0) rfl dX3_readSent_23 ?_
  refine q_getF 3 1 135 dX3_readSent_24 fl_RX3_12 rfl iz_134 (fr_134_1 hF.1) ?_
  refine e_iload_n (i := 3) rfl dX3_readSent_27 ?_
  obtain ⟨q6, eq6, hm⟩ := ob_some hm
  refine e_cV1 hko dX3_readSent_28 ml_RX3_236 iz_135 (by decide) rfl (by omega) (Nat.le_of_ble_eq_true rfl) (tX5_talkAt hko q4.2 J F hF q5 _ eq6) ?_
  rintro _ _ ⟨rfl, rfl⟩
  refine q_istore (i := 4) (by decide) rfl dX3_readSent_31 ?_
  refine e_iload (i := 4) rfl dX3_readSent_33 ?_
  refine e_iconst (v := (-1)) (by decide) dX3_readSent_35 ?_
  refine e_icmp_ne 48 dX3_readSent_36 (by decide) (fun c_36 => ?_) (fun c_36 => ?_)
  · have hm := it_n c_36 hm
    refine e_weak [.ref 134, .int x1, .int (I 6 8), .int q5, .int q6] ⟨rfl, ⟨rfl, ⟨rfl, ⟨rfl, ⟨rfl, trivial⟩⟩⟩⟩⟩ ?_
    exact tX3_readSent_48 hko q4.2 x1 (I 6 8) q5 q6 hF _ hm
  · have hm := it_p c_36 hm
    refine e_aload_n (i := 0) rfl dX3_readSent_39 ?_
    refine q_getF 3 0 6 dX3_readSent_40 fl_RX3_22 rfl iz_134 (fr_134_0 hF.1) ?_
    refine e_iconst (v := 2) (by decide) dX3_readSent_43 ?_
    refine e_iload_n (i := 2) rfl dX3_readSent_44 ?_
    obtain ⟨q7, eq7, hm⟩ := ob_some hm
    refine e_cV2 hko dX3_readSent_45 ml_RX3_104 iz_6 (by decide) rfl (by omega) (Nat.le_of_ble_eq_true rfl) (tX2_refuse hko q4.2 J F hF 2 (I 6 8) _ eq7) ?_
    rintro _ _ ⟨rfl, rfl⟩
    refine e_weak [.ref 134, .int x1, .int (I 6 8), .int q5, .int q6] ⟨rfl, ⟨rfl, ⟨rfl, ⟨rfl, ⟨rfl, trivial⟩⟩⟩⟩⟩ ?_
    exact tX3_readSent_48 hko q7 x1 (I 6 8) q5 q6 hF _ hm
theorem dX3_readTalk_0 : decode cX3_readTalk 0 = .ok (.aload_n 0, 1) := by decide +kernel
theorem dX3_readTalk_1 : decode cX3_readTalk 1 = .ok (.getfield 26, 3) := by decide +kernel
theorem dX3_readTalk_4 : decode cX3_readTalk 4 = .ok (.iload_n 1, 1) := by decide +kernel
theorem dX3_readTalk_5 : decode cX3_readTalk 5 = .ok (.invokevirtual 201, 3) := by decide +kernel
theorem dX3_readTalk_8 : decode cX3_readTalk 8 = .ok (.istore_n 3, 1) := by decide +kernel
theorem dX3_readTalk_9 : decode cX3_readTalk 9 = .ok (.aload_n 0, 1) := by decide +kernel
theorem dX3_readTalk_10 : decode cX3_readTalk 10 = .ok (.getfield 22, 3) := by decide +kernel
theorem dX3_readTalk_13 : decode cX3_readTalk 13 = .ok (.invokevirtual 207, 3) := by decide +kernel
theorem dX3_readTalk_16 : decode cX3_readTalk 16 = .ok (.aload_n 0, 1) := by decide +kernel
theorem dX3_readTalk_17 : decode cX3_readTalk 17 = .ok (.iload_n 1, 1) := by decide +kernel
theorem dX3_readTalk_18 : decode cX3_readTalk 18 = .ok (.invokevirtual 233, 3) := by decide +kernel
theorem dX3_readTalk_21 : decode cX3_readTalk 21 = .ok (.istore 4, 2) := by decide +kernel
theorem dX3_readTalk_23 : decode cX3_readTalk 23 = .ok (.aload_n 0, 1) := by decide +kernel
theorem dX3_readTalk_24 : decode cX3_readTalk 24 = .ok (.getfield 12, 3) := by decide +kernel
theorem dX3_readTalk_27 : decode cX3_readTalk 27 = .ok (.iload 4, 2) := by decide +kernel
theorem dX3_readTalk_29 : decode cX3_readTalk 29 = .ok (.invokevirtual 236, 3) := by decide +kernel
theorem dX3_readTalk_32 : decode cX3_readTalk 32 = .ok (.istore 5, 2) := by decide +kernel
theorem dX3_readTalk_34 : decode cX3_readTalk 34 = .ok (.aload_n 0, 1) := by decide +kernel
theorem dX3_readTalk_35 : decode cX3_readTalk 35 = .ok (.getfield 26, 3) := by decide +kernel
theorem dX3_readTalk_38 : decode cX3_readTalk 38 = .ok (.getfield 239, 3) := by decide +kernel
theorem dX3_readTalk_41 : decode cX3_readTalk 41 = .ok (.getfield 279, 3) := by decide +kernel
theorem dX3_readTalk_44 : decode cX3_readTalk 44 = .ok (.iload 5, 2) := by decide +kernel
theorem dX3_readTalk_46 : decode cX3_readTalk 46 = .ok (.invokevirtual 257, 3) := by decide +kernel
theorem dX3_readTalk_49 : decode cX3_readTalk 49 = .ok (.istore 6, 2) := by decide +kernel
theorem dX3_readTalk_51 : decode cX3_readTalk 51 = .ok (.aload_n 0, 1) := by decide +kernel
theorem dX3_readTalk_52 : decode cX3_readTalk 52 = .ok (.getfield 26, 3) := by decide +kernel
theorem dX3_readTalk_55 : decode cX3_readTalk 55 = .ok (.getfield 248, 3) := by decide +kernel
theorem dX3_readTalk_58 : decode cX3_readTalk 58 = .ok (.iload_n 3, 1) := by decide +kernel
theorem dX3_readTalk_59 : decode cX3_readTalk 59 = .ok (.iload 4, 2) := by decide +kernel
theorem dX3_readTalk_61 : decode cX3_readTalk 61 = .ok (.invokevirtual 154, 3) := by decide +kernel
theorem dX3_readTalk_64 : decode cX3_readTalk 64 = .ok (.iload_n 1, 1) := by decide +kernel
theorem dX3_readTalk_65 : decode cX3_readTalk 65 = .ok (.lookupswitch 123 #[(303, 55), (305, 78), (307, 111), (316, 43)], 43) := by decide +kernel
theorem dX3_readTalk_108 : decode cX3_readTalk 108 = .ok (.aload_n 0, 1) := by decide +kernel
theorem dX3_readTalk_109 : decode cX3_readTalk 109 = .ok (.getfield 12, 3) := by decide +kernel
theorem dX3_readTalk_112 : decode cX3_readTalk 112 = .ok (.iload 4, 2) := by decide +kernel
theorem dX3_readTalk_114 : decode cX3_readTalk 114 = .ok (.invokevirtual 282, 3) := by decide +kernel
theorem dX3_readTalk_117 : decode cX3_readTalk 117 = .ok (.goto 112, 3) := by decide +kernel
theorem dX3_readTalk_120 : decode cX3_readTalk 120 = .ok (.aload_n 0, 1) := by decide +kernel
theorem dX3_readTalk_121 : decode cX3_readTalk 121 = .ok (.getfield 26, 3) := by decide +kernel
theorem dX3_readTalk_124 : decode cX3_readTalk 124 = .ok (.getfield 219, 3) := by decide +kernel
theorem dX3_readTalk_127 : decode cX3_readTalk 127 = .ok (.iload_n 3, 1) := by decide +kernel
theorem dX3_readTalk_128 : decode cX3_readTalk 128 = .ok (.aload_n 0, 1) := by decide +kernel
theorem dX3_readTalk_129 : decode cX3_readTalk 129 = .ok (.getfield 50, 3) := by decide +kernel
theorem dX3_readTalk_132 : decode cX3_readTalk 132 = .ok (.iconst 0, 1) := by decide +kernel
theorem dX3_readTalk_133 : decode cX3_readTalk 133 = .ok (.iload_n 2, 1) := by decide +kernel
theorem dX3_readTalk_134 : decode cX3_readTalk 134 = .ok (.invokevirtual 213, 3) := by decide +kernel
theorem dX3_readTalk_137 : decode cX3_readTalk 137 = .ok (.invokevirtual 154, 3) := by decide +kernel
theorem dX3_readTalk_140 : decode cX3_readTalk 140 = .ok (.goto 89, 3) := by decide +kernel
theorem dX3_readTalk_143 : decode cX3_readTalk 143 = .ok (.aload_n 0, 1) := by decide +kernel
theorem dX3_readTalk_144 : decode cX3_readTalk 144 = .ok (.getfield 26, 3) := by decide +kernel
theorem dX3_readTalk_147 : decode cX3_readTalk 147 = .ok (.getfield 219, 3) := by decide +kernel
theorem dX3_readTalk_150 : decode cX3_readTalk 150 = .ok (.iload_n 3, 1) := by decide +kernel
theorem dX3_readTalk_151 : decode cX3_readTalk 151 = .ok (.aload_n 0, 1) := by decide +kernel
theorem dX3_readTalk_152 : decode cX3_readTalk 152 = .ok (.aload_n 0, 1) := by decide +kernel
theorem dX3_readTalk_153 : decode cX3_readTalk 153 = .ok (.getfield 26, 3) := by decide +kernel
theorem dX3_readTalk_156 : decode cX3_readTalk 156 = .ok (.getfield 239, 3) := by decide +kernel
theorem dX3_readTalk_159 : decode cX3_readTalk 159 = .ok (.getfield 285, 3) := by decide +kernel
theorem dX3_readTalk_162 : decode cX3_readTalk 162 = .ok (.iload 5, 2) := by decide +kernel
theorem dX3_readTalk_164 : decode cX3_readTalk 164 = .ok (.invokevirtual 257, 3) := by decide +kernel
theorem dX3_readTalk_167 : decode cX3_readTalk 167 = .ok (.invokevirtual 288, 3) := by decide +kernel
theorem dX3_readTalk_170 : decode cX3_readTalk 170 = .ok (.invokevirtual 154, 3) := by decide +kernel
theorem dX3_readTalk_173 : decode cX3_readTalk 173 = .ok (.goto 56, 3) := by decide +kernel
theorem dX3_readTalk_176 : decode cX3_readTalk 176 = .ok (.aload_n 0, 1) := by decide +kernel
theorem dX3_readTalk_177 : decode cX3_readTalk 177 = .ok (.iload_n 3, 1) := by decide +kernel
theorem dX3_readTalk_178 : decode cX3_readTalk 178 = .ok (.iload 5, 2) := by decide +kernel
theorem dX3_readTalk_180 : decode cX3_readTalk 180 = .ok (.invokevirtual 291, 3) := by decide +kernel
theorem dX3_readTalk_183 : decode cX3_readTalk 183 = .ok (.istore 6, 2) := by decide +kernel
theorem dX3_readTalk_185 : decode cX3_readTalk 185 = .ok (.goto 44, 3) := by decide +kernel
theorem dX3_readTalk_188 : decode cX3_readTalk 188 = .ok (.aload_n 0, 1) := by decide +kernel
theorem dX3_readTalk_189 : decode cX3_readTalk 189 = .ok (.invokevirtual 120, 3) := by decide +kernel
theorem dX3_readTalk_192 : decode cX3_readTalk 192 = .ok (.istore 7, 2) := by decide +kernel
theorem dX3_readTalk_194 : decode cX3_readTalk 194 = .ok (.aload_n 0, 1) := by decide +kernel
theorem dX3_readTalk_195 : decode cX3_readTalk 195 = .ok (.getfield 26, 3) := by decide +kernel
theorem dX3_readTalk_198 : decode cX3_readTalk 198 = .ok (.getfield 219, 3) := by decide +kernel
theorem dX3_readTalk_201 : decode cX3_readTalk 201 = .ok (.iload_n 3, 1) := by decide +kernel
theorem dX3_readTalk_202 : decode cX3_readTalk 202 = .ok (.aload_n 0, 1) := by decide +kernel
theorem dX3_readTalk_203 : decode cX3_readTalk 203 = .ok (.getfield 12, 3) := by decide +kernel
theorem dX3_readTalk_206 : decode cX3_readTalk 206 = .ok (.iload 7, 2) := by decide +kernel
theorem dX3_readTalk_208 : decode cX3_readTalk 208 = .ok (.aload_n 0, 1) := by decide +kernel
theorem dX3_readTalk_209 : decode cX3_readTalk 209 = .ok (.getfield 26, 3) := by decide +kernel
theorem dX3_readTalk_212 : decode cX3_readTalk 212 = .ok (.getfield 239, 3) := by decide +kernel
theorem dX3_readTalk_215 : decode cX3_readTalk 215 = .ok (.getfield 285, 3) := by decide +kernel
theorem dX3_readTalk_218 : decode cX3_readTalk 218 = .ok (.iload 5, 2) := by decide +kernel
theorem dX3_readTalk_220 : decode cX3_readTalk 220 = .ok (.invokevirtual 257, 3) := by decide +kernel
theorem dX3_readTalk_223 : decode cX3_readTalk 223 = .ok (.invokevirtual 157, 3) := by decide +kernel
theorem dX3_readTalk_226 : decode cX3_readTalk 226 = .ok (.invokevirtual 154, 3) := by decide +kernel
theorem dX3_readTalk_229 : decode cX3_readTalk 229 = .ok (.aload_n 0, 1) := by decide +kernel
theorem dX3_readTalk_230 : decode cX3_readTalk 230 = .ok (.getfield 12, 3) := by decide +kernel
theorem dX3_readTalk_233 : decode cX3_readTalk 233 = .ok (.iload 4, 2) := by decide +kernel
theorem dX3_readTalk_235 : decode cX3_readTalk 235 = .ok (.iload 6, 2) := by decide +kernel
theorem dX3_readTalk_237 : decode cX3_readTalk 237 = .ok (.invokevirtual 269, 3) := by decide +kernel
theorem dX3_readTalk_240 : decode cX3_readTalk 240 = .ok (.return_, 1) := by decide +kernel
def mX3_readTalk_229 (I : iT) (F : fT) (x1 : Int32) (x2 : Int32) (x3 : Int32) (x4 : Int32) (x5 : Int32) (x6 : Int32) : Option (iT) := (mX5_setTalk I x4 x6).bind fun q1 => some q1
def mX3_readTalk (I : iT) (F : fT) (x1 : Int32) (x2 : Int32) : Option (iT) := (mX0_addNode (F 134 4) I x1).bind fun q2 => (mX2_advance q2.2).bind fun q3 => (mX3_readChannel q3 F x1).bind fun q4 => (mX5_talkAt q4.2 q4.1).bind fun q5 => (mX4_at (((F 134 4) + 1) + 5) q4.2 q5).bind fun q6 => (mX4_put ((F 134 4) + 49) q4.2 q2.1 q4.1).bind fun q7 => if x1 = 303 then (mX7_readSum SF q7 F 0 x2).bind fun q8 => (mX4_put ((F 134 4) + 51) q8.2 q2.1 q8.1).bind fun q9 => mX3_readTalk_229 q9 F x1 x2 q2.1 q4.1 q5 q6 else if x1 = 305 then (mX4_at (((F 134 4) + 1) + 3) q7 q5).bind fun q10 => (mX3_readSent q7 q10).bind fun q11 => (mX4_put ((F 134 4) + 51) q11.2 q2.1 q11.1).bind fun q12 => mX3_readTalk_229 q12 F x1 x2 q2.1 q4.1 q5 q6 else if x1 = 307 then (mX3_readPicked q7 F q2.1 q5).bind fun q13 => mX3_readTalk_229 q13.2 F x1 x2 q2.1 q4.1 q5 q13.1 else if x1 = 316 then (mX5_drop q7 q4.1).bind fun q14 => mX3_readTalk_229 q14 F x1 x2 q2.1 q4.1 q5 q6 else (mX3_readFreshThing q7).bind fun q15 => (mX4_at (((F 134 4) + 1) + 3) q15.2 q5).bind fun q16 => (mX5_add q15.2 q15.1 q16).bind fun q17 => (mX4_put ((F 134 4) + 51) q17.2 q2.1 q17.1).bind fun q18 => mX3_readTalk_229 q18 F x1 x2 q2.1 q4.1 q5 q6
set_option maxRecDepth 100000 in
set_option maxHeartbeats 4000000 in
theorem tX3_readTalk_229 {l : Launch} {K : a_KT} {g : a_GT} {IB : iT} (hko : a_kok K) {J : jT} (I : iT) (F : fT) (x1 : Int32) (x2 : Int32) (x3 : Int32) (x4 : Int32) (x5 : Int32) (x6 : Int32) (hF : FK F) (q : iT) (hm : mX3_readTalk_229 I F x1 x2 x3 x4 x5 x6 = some q) : E l K g 453 0 0 yX3_readTalk cX3_readTalk 8 none 229 [.ref 134, .int x1, .int x2, .int x3, .int x4, .int x5, .int x6, .null] [] (hg I IB J F) (fun r2 h2 => r2 = none ∧ h2 = hg q IB J F) := by
  unfold mX3_readTalk_229 at hm
  refine e_aload_n (i := 0) rfl dX3_readTalk_229 ?_
  refine q_getF 3 1 135 dX3_readTalk_230 fl_RX3_12 rfl iz_134 (fr_134_1 hF.1) ?_
  refine e_iload (i := 4) rfl dX3_readTalk_233 ?_
  refine e_iload (i := 6) rfl dX3_readTalk_235 ?_
  obtain ⟨q1, eq1, hm⟩ := ob_some hm
  refine e_cV2 hko dX3_readTalk_237 ml_RX3_269 iz_135 (by decide) rfl (by omega) (Nat.le_of_ble_eq_true rfl) (tX5_setTalk hko I J F hF x4 x6 _ eq1) ?_
  rintro _ _ ⟨rfl, rfl⟩
  refine e_vret dX3_readTalk_240 rfl ?_
  have hm := some_in hm
  subst hm
  exact ⟨rfl, rfl⟩
set_option maxRecDepth 100000 in
set_option maxHeartbeats 4000000 in
theorem tX3_readTalk {l : Launch} {K : a_KT} {g : a_GT} {IB : iT} (hko : a_kok K) (I : iT) (J : jT) (F : fT) (hF : FK F) (x1 : Int32) (x2 : Int32) (q : iT) (hm : mX3_readTalk I F x1 x2 = some q) : C l K g 453 0 0 yX3_readTalk cX3_readTalk 8 none [.ref 134, .int x1, .int x2] (hg I IB J F) (fun r2 h2 => r2 = none ∧ h2 = hg q IB J F) := by
  unfold mX3_readTalk at hm
  refine c_of [.ref 134, .int x1, .int x2, .null, .null, .null, .null, .null] (by decide) (Nat.le_of_ble_eq_true rfl) rfl ?_
  refine e_aload_n (i := 0) rfl dX3_readTalk_0 ?_
  refine q_getF 3 4 (F 134 4) dX3_readTalk_1 fl_RX3_26 rfl iz_134 rfl ?_
  refine e_iload_n (i := 1) rfl dX3_readTalk_4 ?_
  obtain ⟨q2, eq2, hm⟩ := ob_some hm
  refine e_cV1 hko dX3_readTalk_5 ml_RX3_201 (iz_bk hF.2.2.2.1) (by decide) rfl (by omega) (Nat.le_of_ble_eq_true rfl) (tX0_addNode hko hF.2.2.2.1 I J F hF x1 _ eq2) ?_
  rintro _ _ ⟨rfl, rfl⟩
  refine q_istore_n (i := 3) (by decide) rfl dX3_readTalk_8 ?_
  refine e_aload_n (i := 0) rfl dX3_readTalk_9 ?_
  refine q_getF 3 0 6 dX3_readTalk_10 fl_RX3_22 rfl iz_134 (fr_134_0 hF.1) ?_
  obtain ⟨q3, eq3, hm⟩ := ob_some hm
  refine e_cV0 hko dX3_readTalk_13 ml_RX3_207 iz_6 (by decide) rfl (by omega) (Nat.le_of_ble_eq_true rfl) (tX2_advance hko q2.2 J F hF _ eq3) ?_
  rintro _ _ ⟨rfl, rfl⟩
  refine e_aload_n (i := 0) rfl dX3_readTalk_16 ?_
  refine e_iload_n (i := 1) rfl dX3_readTalk_17 ?_
  obtain ⟨q4, eq4, hm⟩ := ob_some hm
  refine e_cV1 hko dX3_readTalk_18 ml_RX3_233 iz_134 (by decide) rfl (by omega) (Nat.le_of_ble_eq_true rfl) (tX3_readChannel hko q3 J F hF x1 _ eq4) ?_
  rintro _ _ ⟨rfl, rfl⟩
  refine q_istore (i := 4) (by decide) rfl dX3_readTalk_21 ?_
  refine e_aload_n (i := 0) rfl dX3_readTalk_23 ?_
  refine q_getF 3 1 135 dX3_readTalk_24 fl_RX3_12 rfl iz_134 (fr_134_1 hF.1) ?_
  refine e_iload (i := 4) rfl dX3_readTalk_27 ?_
  obtain ⟨q5, eq5, hm⟩ := ob_some hm
  refine e_cV1 hko dX3_readTalk_29 ml_RX3_236 iz_135 (by decide) rfl (by omega) (Nat.le_of_ble_eq_true rfl) (tX5_talkAt hko q4.2 J F hF q4.1 _ eq5) ?_
  rintro _ _ ⟨rfl, rfl⟩
  refine q_istore (i := 5) (by decide) rfl dX3_readTalk_32 ?_
  refine e_aload_n (i := 0) rfl dX3_readTalk_34 ?_
  refine q_getF 3 4 (F 134 4) dX3_readTalk_35 fl_RX3_26 rfl iz_134 rfl ?_
  refine q_getF 0 0 ((F 134 4) + 1) dX3_readTalk_38 fl_RX3_239 rfl (iz_bk hF.2.2.2.1) (frb_0 hF.1 hF.2.2.2.1) ?_
  refine q_getF 10 2 (((F 134 4) + 1) + 5) dX3_readTalk_41 fl_RX3_279 rfl (iz_ty (bk_ty hF.2.2.2.1)) (frt_2 hF.1 (bk_ty hF.2.2.2.1)) ?_
  refine e_iload (i := 5) rfl dX3_readTalk_44 ?_
  obtain ⟨q6, eq6, hm⟩ := ob_some hm
  refine e_cV1 hko dX3_readTalk_46 ml_RX3_257 (iz_row (rwt_5 (bk_ty hF.2.2.2.1))) (by decide) rfl (by omega) (Nat.le_of_ble_eq_true rfl) (tX4_at hko (rwt_5 (bk_ty hF.2.2.2.1)) q4.2 J F hF q5 _ eq6) ?_
  rintro _ _ ⟨rfl, rfl⟩
  refine q_istore (i := 6) (by decide) rfl dX3_readTalk_49 ?_
  refine e_aload_n (i := 0) rfl dX3_readTalk_51 ?_
  refine q_getF 3 4 (F 134 4) dX3_readTalk_52 fl_RX3_26 rfl iz_134 rfl ?_
  refine q_getF 0 12 ((F 134 4) + 49) dX3_readTalk_55 fl_RX3_248 rfl (iz_bk hF.2.2.2.1) (frb_12 hF.1 hF.2.2.2.1) ?_
  refine e_iload_n (i := 3) rfl dX3_readTalk_58 ?_
  refine e_iload (i := 4) rfl dX3_readTalk_59 ?_
  obtain ⟨q7, eq7, hm⟩ := ob_some hm
  refine e_cV2 hko dX3_readTalk_61 ml_RX3_154 (iz_row (rwb_49 hF.2.2.2.1)) (by decide) rfl (by omega) (Nat.le_of_ble_eq_true rfl) (tX4_put hko (rwb_49 hF.2.2.2.1) q4.2 J F hF q2.1 q4.1 _ eq7) ?_
  rintro _ _ ⟨rfl, rfl⟩
  refine e_iload_n (i := 1) rfl dX3_readTalk_64 ?_
  by_cases c_65_0 : x1 = 303
  · have hm := it_p c_65_0 hm
    refine e_lookup 120 dX3_readTalk_65 (by decide) (off := 55) (by rw [c_65_0]; decide) (by decide) ?_
    refine e_aload_n (i := 0) rfl dX3_readTalk_120 ?_
    refine q_getF 3 4 (F 134 4) dX3_readTalk_121 fl_RX3_26 rfl iz_134 rfl ?_
    refine q_getF 0 13 ((F 134 4) + 51) dX3_readTalk_124 fl_RX3_219 rfl (iz_bk hF.2.2.2.1) (frb_13 hF.1 hF.2.2.2.1) ?_
    refine e_iload_n (i := 3) rfl dX3_readTalk_127 ?_
    refine e_aload_n (i := 0) rfl dX3_readTalk_128 ?_
    refine q_getF 3 3 147 dX3_readTalk_129 fl_RX3_50 rfl iz_134 (fr_134_3 hF.1) ?_
    refine e_iconst (v := 0) (by decide) dX3_readTalk_132 ?_
    refine e_iload_n (i := 2) rfl dX3_readTalk_133 ?_
    obtain ⟨q8, eq8, hm⟩ := ob_some hm
    refine e_cV2 hko dX3_readTalk_134 ml_RX3_213 iz_147 (by decide) rfl (by omega) (Nat.le_of_ble_eq_true rfl) (tX7_readSum hko q7 J F hF 0 x2 _ eq8) ?_
    rintro _ _ ⟨rfl, rfl⟩
    obtain ⟨q9, eq9, hm⟩ := ob_some hm
    refine e_cV2 hko dX3_readTalk_137 ml_RX3_154 (iz_row (rwb_51 hF.2.2.2.1)) (by decide) rfl (by omega) (Nat.le_of_ble_eq_true rfl) (tX4_put hko (rwb_51 hF.2.2.2.1) q8.2 J F hF q2.1 q8.1 _ eq9) ?_
    rintro _ _ ⟨rfl, rfl⟩
    refine e_goto 229 dX3_readTalk_140 (by decide) ?_
    refine e_weak [.ref 134, .int x1, .int x2, .int q2.1, .int q4.1, .int q5, .int q6, .null] ⟨rfl, ⟨rfl, ⟨rfl, ⟨rfl, ⟨rfl, ⟨rfl, ⟨rfl, ⟨trivial, trivial⟩⟩⟩⟩⟩⟩⟩⟩ ?_
    exact tX3_readTalk_229 hko q9 F x1 x2 q2.1 q4.1 q5 q6 hF _ hm
  have hm := it_n c_65_0 hm
  by_cases c_65_1 : x1 = 305
  · have hm := it_p c_65_1 hm
    refine e_lookup 143 dX3_readTalk_65 (by decide) (off := 78) (by rw [c_65_1]; decide) (by decide) ?_
    refine e_aload_n (i := 0) rfl dX3_readTalk_143 ?_
    refine q_getF 3 4 (F 134 4) dX3_readTalk_144 fl_RX3_26 rfl iz_134 rfl ?_
    refine q_getF 0 13 ((F 134 4) + 51) dX3_readTalk_147 fl_RX3_219 rfl (iz_bk hF.2.2.2.1) (frb_13 hF.1 hF.2.2.2.1) ?_
    refine e_iload_n (i := 3) rfl dX3_readTalk_150 ?_
    refine e_aload_n (i := 0) rfl dX3_readTalk_151 ?_
    refine e_aload_n (i := 0) rfl dX3_readTalk_152 ?_
    refine q_getF 3 4 (F 134 4) dX3_readTalk_153 fl_RX3_26 rfl iz_134 rfl ?_
    refine q_getF 0 0 ((F 134 4) + 1) dX3_readTalk_156 fl_RX3_239 rfl (iz_bk hF.2.2.2.1) (frb_0 hF.1 hF.2.2.2.1) ?_
    refine q_getF 10 1 (((F 134 4) + 1) + 3) dX3_readTalk_159 fl_RX3_285 rfl (iz_ty (bk_ty hF.2.2.2.1)) (frt_1 hF.1 (bk_ty hF.2.2.2.1)) ?_
    refine e_iload (i := 5) rfl dX3_readTalk_162 ?_
    obtain ⟨q10, eq10, hm⟩ := ob_some hm
    refine e_cV1 hko dX3_readTalk_164 ml_RX3_257 (iz_row (rwt_3 (bk_ty hF.2.2.2.1))) (by decide) rfl (by omega) (Nat.le_of_ble_eq_true rfl) (tX4_at hko (rwt_3 (bk_ty hF.2.2.2.1)) q7 J F hF q5 _ eq10) ?_
    rintro _ _ ⟨rfl, rfl⟩
    obtain ⟨q11, eq11, hm⟩ := ob_some hm
    refine e_cV1 hko dX3_readTalk_167 ml_RX3_288 iz_134 (by decide) rfl (by omega) (Nat.le_of_ble_eq_true rfl) (tX3_readSent hko q7 J F hF q10 _ eq11) ?_
    rintro _ _ ⟨rfl, rfl⟩
    obtain ⟨q12, eq12, hm⟩ := ob_some hm
    refine e_cV2 hko dX3_readTalk_170 ml_RX3_154 (iz_row (rwb_51 hF.2.2.2.1)) (by decide) rfl (by omega) (Nat.le_of_ble_eq_true rfl) (tX4_put hko (rwb_51 hF.2.2.2.1) q11.2 J F hF q2.1 q11.1 _ eq12) ?_
    rintro _ _ ⟨rfl, rfl⟩
    refine e_goto 229 dX3_readTalk_173 (by decide) ?_
    refine e_weak [.ref 134, .int x1, .int x2, .int q2.1, .int q4.1, .int q5, .int q6, .null] ⟨rfl, ⟨rfl, ⟨rfl, ⟨rfl, ⟨rfl, ⟨rfl, ⟨rfl, ⟨trivial, trivial⟩⟩⟩⟩⟩⟩⟩⟩ ?_
    exact tX3_readTalk_229 hko q12 F x1 x2 q2.1 q4.1 q5 q6 hF _ hm
  have hm := it_n c_65_1 hm
  by_cases c_65_2 : x1 = 307
  · have hm := it_p c_65_2 hm
    refine e_lookup 176 dX3_readTalk_65 (by decide) (off := 111) (by rw [c_65_2]; decide) (by decide) ?_
    refine e_aload_n (i := 0) rfl dX3_readTalk_176 ?_
    refine e_iload_n (i := 3) rfl dX3_readTalk_177 ?_
    refine e_iload (i := 5) rfl dX3_readTalk_178 ?_
    obtain ⟨q13, eq13, hm⟩ := ob_some hm
    refine e_cV2 hko dX3_readTalk_180 ml_RX3_291 iz_134 (by decide) rfl (by omega) (Nat.le_of_ble_eq_true rfl) (tX3_readPicked hko q7 J F hF q2.1 q5 _ eq13) ?_
    rintro _ _ ⟨rfl, rfl⟩
    refine q_istore (i := 6) (by decide) rfl dX3_readTalk_183 ?_
    refine e_goto 229 dX3_readTalk_185 (by decide) ?_
    refine e_weak [.ref 134, .int x1, .int x2, .int q2.1, .int q4.1, .int q5, .int q13.1, .null] ⟨rfl, ⟨rfl, ⟨rfl, ⟨rfl, ⟨rfl, ⟨rfl, ⟨rfl, ⟨trivial, trivial⟩⟩⟩⟩⟩⟩⟩⟩ ?_
    exact tX3_readTalk_229 hko q13.2 F x1 x2 q2.1 q4.1 q5 q13.1 hF _ hm
  have hm := it_n c_65_2 hm
  by_cases c_65_3 : x1 = 316
  · have hm := it_p c_65_3 hm
    refine e_lookup 108 dX3_readTalk_65 (by decide) (off := 43) (by rw [c_65_3]; decide) (by decide) ?_
    refine e_aload_n (i := 0) rfl dX3_readTalk_108 ?_
    refine q_getF 3 1 135 dX3_readTalk_109 fl_RX3_12 rfl iz_134 (fr_134_1 hF.1) ?_
    refine e_iload (i := 4) rfl dX3_readTalk_112 ?_
    obtain ⟨q14, eq14, hm⟩ := ob_some hm
    refine e_cV1 hko dX3_readTalk_114 ml_RX3_282 iz_135 (by decide) rfl (by omega) (Nat.le_of_ble_eq_true rfl) (tX5_drop hko q7 J F hF q4.1 _ eq14) ?_
    rintro _ _ ⟨rfl, rfl⟩
    refine e_goto 229 dX3_readTalk_117 (by decide) ?_
    refine e_weak [.ref 134, .int x1, .int x2, .int q2.1, .int q4.1, .int q5, .int q6, .null] ⟨rfl, ⟨rfl, ⟨rfl, ⟨rfl, ⟨rfl, ⟨rfl, ⟨rfl, ⟨trivial, trivial⟩⟩⟩⟩⟩⟩⟩⟩ ?_
    exact tX3_readTalk_229 hko q14 F x1 x2 q2.1 q4.1 q5 q6 hF _ hm
  have hm := it_n c_65_3 hm
  refine e_lookup 188 dX3_readTalk_65 (by decide) (off := 123) (by show Op.lookupswitch.offset [(303, 55), (305, 78), (307, 111), (316, 43)] 123 _ = _; rw [lv_osw c_65_0 (by decide), lv_osw c_65_1 (by decide), lv_osw c_65_2 (by decide), lv_osw c_65_3 (by decide)]; try rfl) (by decide) ?_
  refine e_aload_n (i := 0) rfl dX3_readTalk_188 ?_
  obtain ⟨q15, eq15, hm⟩ := ob_some hm
  refine e_cV0 hko dX3_readTalk_189 ml_RX3_120 iz_134 (by decide) rfl (by omega) (Nat.le_of_ble_eq_true rfl) (tX3_readFreshThing hko q7 J F hF _ eq15) ?_
  rintro _ _ ⟨rfl, rfl⟩
  refine q_istore (i := 7) (by decide) rfl dX3_readTalk_192 ?_
  refine e_aload_n (i := 0) rfl dX3_readTalk_194 ?_
  refine q_getF 3 4 (F 134 4) dX3_readTalk_195 fl_RX3_26 rfl iz_134 rfl ?_
  refine q_getF 0 13 ((F 134 4) + 51) dX3_readTalk_198 fl_RX3_219 rfl (iz_bk hF.2.2.2.1) (frb_13 hF.1 hF.2.2.2.1) ?_
  refine e_iload_n (i := 3) rfl dX3_readTalk_201 ?_
  refine e_aload_n (i := 0) rfl dX3_readTalk_202 ?_
  refine q_getF 3 1 135 dX3_readTalk_203 fl_RX3_12 rfl iz_134 (fr_134_1 hF.1) ?_
  refine e_iload (i := 7) rfl dX3_readTalk_206 ?_
  refine e_aload_n (i := 0) rfl dX3_readTalk_208 ?_
  refine q_getF 3 4 (F 134 4) dX3_readTalk_209 fl_RX3_26 rfl iz_134 rfl ?_
  refine q_getF 0 0 ((F 134 4) + 1) dX3_readTalk_212 fl_RX3_239 rfl (iz_bk hF.2.2.2.1) (frb_0 hF.1 hF.2.2.2.1) ?_
  refine q_getF 10 1 (((F 134 4) + 1) + 3) dX3_readTalk_215 fl_RX3_285 rfl (iz_ty (bk_ty hF.2.2.2.1)) (frt_1 hF.1 (bk_ty hF.2.2.2.1)) ?_
  refine e_iload (i := 5) rfl dX3_readTalk_218 ?_
  obtain ⟨q16, eq16, hm⟩ := ob_some hm
  refine e_cV1 hko dX3_readTalk_220 ml_RX3_257 (iz_row (rwt_3 (bk_ty hF.2.2.2.1))) (by decide) rfl (by omega) (Nat.le_of_ble_eq_true rfl) (tX4_at hko (rwt_3 (bk_ty hF.2.2.2.1)) q15.2 J F hF q5 _ eq16) ?_
  rintro _ _ ⟨rfl, rfl⟩
  obtain ⟨q17, eq17, hm⟩ := ob_some hm
  refine e_cV2 hko dX3_readTalk_223 ml_RX3_157 iz_135 (by decide) rfl (by omega) (Nat.le_of_ble_eq_true rfl) (tX5_add hko q15.2 J F hF q15.1 q16 _ eq17) ?_
  rintro _ _ ⟨rfl, rfl⟩
  obtain ⟨q18, eq18, hm⟩ := ob_some hm
  refine e_cV2 hko dX3_readTalk_226 ml_RX3_154 (iz_row (rwb_51 hF.2.2.2.1)) (by decide) rfl (by omega) (Nat.le_of_ble_eq_true rfl) (tX4_put hko (rwb_51 hF.2.2.2.1) q17.2 J F hF q2.1 q17.1 _ eq18) ?_
  rintro _ _ ⟨rfl, rfl⟩
  refine e_weak [.ref 134, .int x1, .int x2, .int q2.1, .int q4.1, .int q5, .int q6, .null] ⟨rfl, ⟨rfl, ⟨rfl, ⟨rfl, ⟨rfl, ⟨rfl, ⟨rfl, ⟨trivial, trivial⟩⟩⟩⟩⟩⟩⟩⟩ ?_
  exact tX3_readTalk_229 hko q18 F x1 x2 q2.1 q4.1 q5 q6 hF _ hm
theorem dX3_readAlternative_0 : decode cX3_readAlternative 0 = .ok (.aload_n 0, 1) := by decide +kernel
theorem dX3_readAlternative_1 : decode cX3_readAlternative 1 = .ok (.getfield 26, 3) := by decide +kernel
theorem dX3_readAlternative_4 : decode cX3_readAlternative 4 = .ok (.getfield 248, 3) := by decide +kernel
theorem dX3_readAlternative_7 : decode cX3_readAlternative 7 = .ok (.iload_n 1, 1) := by decide +kernel
theorem dX3_readAlternative_8 : decode cX3_readAlternative 8 = .ok (.invokevirtual 257, 3) := by decide +kernel
theorem dX3_readAlternative_11 : decode cX3_readAlternative 11 = .ok (.istore_n 3, 1) := by decide +kernel
theorem dX3_readAlternative_12 : decode cX3_readAlternative 12 = .ok (.aload_n 0, 1) := by decide +kernel
theorem dX3_readAlternative_13 : decode cX3_readAlternative 13 = .ok (.getfield 12, 3) := by decide +kernel
theorem dX3_readAlternative_16 : decode cX3_readAlternative 16 = .ok (.iload_n 3, 1) := by decide +kernel
theorem dX3_readAlternative_17 : decode cX3_readAlternative 17 = .ok (.invokevirtual 236, 3) := by decide +kernel
theorem dX3_readAlternative_20 : decode cX3_readAlternative 20 = .ok (.istore 4, 2) := by decide +kernel
theorem dX3_readAlternative_22 : decode cX3_readAlternative 22 = .ok (.aload_n 0, 1) := by decide +kernel
theorem dX3_readAlternative_23 : decode cX3_readAlternative 23 = .ok (.getfield 22, 3) := by decide +kernel
theorem dX3_readAlternative_26 : decode cX3_readAlternative 26 = .ok (.getfield 95, 3) := by decide +kernel
theorem dX3_readAlternative_29 : decode cX3_readAlternative 29 = .ok (.istore 5, 2) := by decide +kernel
theorem dX3_readAlternative_31 : decode cX3_readAlternative 31 = .ok (.aload_n 0, 1) := by decide +kernel
theorem dX3_readAlternative_32 : decode cX3_readAlternative 32 = .ok (.getfield 26, 3) := by decide +kernel
theorem dX3_readAlternative_35 : decode cX3_readAlternative 35 = .ok (.getfield 239, 3) := by decide +kernel
theorem dX3_readAlternative_38 : decode cX3_readAlternative 38 = .ok (.iload 4, 2) := by decide +kernel
theorem dX3_readAlternative_40 : decode cX3_readAlternative 40 = .ok (.aload_n 0, 1) := by decide +kernel
theorem dX3_readAlternative_41 : decode cX3_readAlternative 41 = .ok (.getfield 22, 3) := by decide +kernel
theorem dX3_readAlternative_44 : decode cX3_readAlternative 44 = .ok (.invokevirtual 98, 3) := by decide +kernel
theorem dX3_readAlternative_47 : decode cX3_readAlternative 47 = .ok (.invokevirtual 260, 3) := by decide +kernel
theorem dX3_readAlternative_50 : decode cX3_readAlternative 50 = .ok (.istore 6, 2) := by decide +kernel
theorem dX3_readAlternative_52 : decode cX3_readAlternative 52 = .ok (.aload_n 0, 1) := by decide +kernel
theorem dX3_readAlternative_53 : decode cX3_readAlternative 53 = .ok (.getfield 26, 3) := by decide +kernel
theorem dX3_readAlternative_56 : decode cX3_readAlternative 56 = .ok (.getfield 219, 3) := by decide +kernel
theorem dX3_readAlternative_59 : decode cX3_readAlternative 59 = .ok (.iload_n 1, 1) := by decide +kernel
theorem dX3_readAlternative_60 : decode cX3_readAlternative 60 = .ok (.invokevirtual 257, 3) := by decide +kernel
theorem dX3_readAlternative_63 : decode cX3_readAlternative 63 = .ok (.iload 6, 2) := by decide +kernel
theorem dX3_readAlternative_65 : decode cX3_readAlternative 65 = .ok (.iadd, 1) := by decide +kernel
theorem dX3_readAlternative_66 : decode cX3_readAlternative 66 = .ok (.istore 7, 2) := by decide +kernel
theorem dX3_readAlternative_68 : decode cX3_readAlternative 68 = .ok (.iload 6, 2) := by decide +kernel
theorem dX3_readAlternative_70 : decode cX3_readAlternative 70 = .ok (.iconst (-1), 1) := by decide +kernel
theorem dX3_readAlternative_71 : decode cX3_readAlternative 71 = .ok (.if_icmp .ne 16, 3) := by decide +kernel
theorem dX3_readAlternative_74 : decode cX3_readAlternative 74 = .ok (.aload_n 0, 1) := by decide +kernel
theorem dX3_readAlternative_75 : decode cX3_readAlternative 75 = .ok (.getfield 22, 3) := by decide +kernel
theorem dX3_readAlternative_78 : decode cX3_readAlternative 78 = .ok (.iconst 3, 1) := by decide +kernel
theorem dX3_readAlternative_79 : decode cX3_readAlternative 79 = .ok (.iload 5, 2) := by decide +kernel
theorem dX3_readAlternative_81 : decode cX3_readAlternative 81 = .ok (.invokevirtual 104, 3) := by decide +kernel
theorem dX3_readAlternative_84 : decode cX3_readAlternative 84 = .ok (.goto 29, 3) := by decide +kernel
theorem dX3_readAlternative_87 : decode cX3_readAlternative 87 = .ok (.aload_n 0, 1) := by decide +kernel
theorem dX3_readAlternative_88 : decode cX3_readAlternative 88 = .ok (.getfield 26, 3) := by decide +kernel
theorem dX3_readAlternative_91 : decode cX3_readAlternative 91 = .ok (.getfield 263, 3) := by decide +kernel
theorem dX3_readAlternative_94 : decode cX3_readAlternative 94 = .ok (.iload 7, 2) := by decide +kernel
theorem dX3_readAlternative_96 : decode cX3_readAlternative 96 = .ok (.invokevirtual 257, 3) := by decide +kernel
theorem dX3_readAlternative_99 : decode cX3_readAlternative 99 = .ok (.iconst (-1), 1) := by decide +kernel
theorem dX3_readAlternative_100 : decode cX3_readAlternative 100 = .ok (.if_icmp .eq 13, 3) := by decide +kernel
theorem dX3_readAlternative_103 : decode cX3_readAlternative 103 = .ok (.aload_n 0, 1) := by decide +kernel
theorem dX3_readAlternative_104 : decode cX3_readAlternative 104 = .ok (.getfield 22, 3) := by decide +kernel
theorem dX3_readAlternative_107 : decode cX3_readAlternative 107 = .ok (.iconst 2, 1) := by decide +kernel
theorem dX3_readAlternative_108 : decode cX3_readAlternative 108 = .ok (.iload 5, 2) := by decide +kernel
theorem dX3_readAlternative_110 : decode cX3_readAlternative 110 = .ok (.invokevirtual 104, 3) := by decide +kernel
theorem dX3_readAlternative_113 : decode cX3_readAlternative 113 = .ok (.aload_n 0, 1) := by decide +kernel
theorem dX3_readAlternative_114 : decode cX3_readAlternative 114 = .ok (.getfield 22, 3) := by decide +kernel
theorem dX3_readAlternative_117 : decode cX3_readAlternative 117 = .ok (.bipush 58, 2) := by decide +kernel
theorem dX3_readAlternative_119 : decode cX3_readAlternative 119 = .ok (.invokevirtual 78, 3) := by decide +kernel
theorem dX3_readAlternative_122 : decode cX3_readAlternative 122 = .ok (.aload_n 0, 1) := by decide +kernel
theorem dX3_readAlternative_123 : decode cX3_readAlternative 123 = .ok (.getfield 26, 3) := by decide +kernel
theorem dX3_readAlternative_126 : decode cX3_readAlternative 126 = .ok (.getfield 263, 3) := by decide +kernel
theorem dX3_readAlternative_129 : decode cX3_readAlternative 129 = .ok (.iload 7, 2) := by decide +kernel
theorem dX3_readAlternative_131 : decode cX3_readAlternative 131 = .ok (.aload_n 0, 1) := by decide +kernel
theorem dX3_readAlternative_132 : decode cX3_readAlternative 132 = .ok (.getfield 26, 3) := by decide +kernel
theorem dX3_readAlternative_135 : decode cX3_readAlternative 135 = .ok (.getfield 136, 3) := by decide +kernel
theorem dX3_readAlternative_138 : decode cX3_readAlternative 138 = .ok (.invokevirtual 108, 3) := by decide +kernel
theorem dX3_readAlternative_141 : decode cX3_readAlternative 141 = .ok (.invokevirtual 154, 3) := by decide +kernel
theorem dX3_readAlternative_144 : decode cX3_readAlternative 144 = .ok (.aload_n 0, 1) := by decide +kernel
theorem dX3_readAlternative_145 : decode cX3_readAlternative 145 = .ok (.getfield 12, 3) := by decide +kernel
theorem dX3_readAlternative_148 : decode cX3_readAlternative 148 = .ok (.invokevirtual 227, 3) := by decide +kernel
theorem dX3_readAlternative_151 : decode cX3_readAlternative 151 = .ok (.aload_n 0, 1) := by decide +kernel
theorem dX3_readAlternative_152 : decode cX3_readAlternative 152 = .ok (.getfield 12, 3) := by decide +kernel
theorem dX3_readAlternative_155 : decode cX3_readAlternative 155 = .ok (.iload_n 3, 1) := by decide +kernel
theorem dX3_readAlternative_156 : decode cX3_readAlternative 156 = .ok (.aload_n 0, 1) := by decide +kernel
theorem dX3_readAlternative_157 : decode cX3_readAlternative 157 = .ok (.getfield 26, 3) := by decide +kernel
theorem dX3_readAlternative_160 : decode cX3_readAlternative 160 = .ok (.getfield 239, 3) := by decide +kernel
theorem dX3_readAlternative_163 : decode cX3_readAlternative 163 = .ok (.iload 4, 2) := by decide +kernel
theorem dX3_readAlternative_165 : decode cX3_readAlternative 165 = .ok (.iload 6, 2) := by decide +kernel
theorem dX3_readAlternative_167 : decode cX3_readAlternative 167 = .ok (.invokevirtual 266, 3) := by decide +kernel
theorem dX3_readAlternative_170 : decode cX3_readAlternative 170 = .ok (.invokevirtual 269, 3) := by decide +kernel
theorem dX3_readAlternative_173 : decode cX3_readAlternative 173 = .ok (.aload_n 0, 1) := by decide +kernel
theorem dX3_readAlternative_174 : decode cX3_readAlternative 174 = .ok (.iload_n 2, 1) := by decide +kernel
theorem dX3_readAlternative_175 : decode cX3_readAlternative 175 = .ok (.invokevirtual 142, 3) := by decide +kernel
theorem dX3_readAlternative_178 : decode cX3_readAlternative 178 = .ok (.istore 8, 2) := by decide +kernel
theorem dX3_readAlternative_180 : decode cX3_readAlternative 180 = .ok (.aload_n 0, 1) := by decide +kernel
theorem dX3_readAlternative_181 : decode cX3_readAlternative 181 = .ok (.getfield 12, 3) := by decide +kernel
theorem dX3_readAlternative_184 : decode cX3_readAlternative 184 = .ok (.invokevirtual 230, 3) := by decide +kernel
theorem dX3_readAlternative_187 : decode cX3_readAlternative 187 = .ok (.iload 8, 2) := by decide +kernel
theorem dX3_readAlternative_189 : decode cX3_readAlternative 189 = .ok (.ireturn, 1) := by decide +kernel
theorem dX3_readBraced_0 : decode cX3_readBraced 0 = .ok (.aload_n 0, 1) := by decide +kernel
theorem dX3_readBraced_1 : decode cX3_readBraced 1 = .ok (.getfield 22, 3) := by decide +kernel
theorem dX3_readBraced_4 : decode cX3_readBraced 4 = .ok (.bipush 123, 2) := by decide +kernel
theorem dX3_readBraced_6 : decode cX3_readBraced 6 = .ok (.invokevirtual 78, 3) := by decide +kernel
theorem dX3_readBraced_9 : decode cX3_readBraced 9 = .ok (.aload_n 0, 1) := by decide +kernel
theorem dX3_readBraced_10 : decode cX3_readBraced 10 = .ok (.getfield 12, 3) := by decide +kernel
theorem dX3_readBraced_13 : decode cX3_readBraced 13 = .ok (.invokevirtual 227, 3) := by decide +kernel
theorem dX3_readBraced_16 : decode cX3_readBraced 16 = .ok (.aload_n 0, 1) := by decide +kernel
theorem dX3_readBraced_17 : decode cX3_readBraced 17 = .ok (.iload_n 1, 1) := by decide +kernel
theorem dX3_readBraced_18 : decode cX3_readBraced 18 = .ok (.invokevirtual 142, 3) := by decide +kernel
theorem dX3_readBraced_21 : decode cX3_readBraced 21 = .ok (.istore_n 2, 1) := by decide +kernel
theorem dX3_readBraced_22 : decode cX3_readBraced 22 = .ok (.aload_n 0, 1) := by decide +kernel
theorem dX3_readBraced_23 : decode cX3_readBraced 23 = .ok (.getfield 12, 3) := by decide +kernel
theorem dX3_readBraced_26 : decode cX3_readBraced 26 = .ok (.invokevirtual 230, 3) := by decide +kernel
theorem dX3_readBraced_29 : decode cX3_readBraced 29 = .ok (.aload_n 0, 1) := by decide +kernel
theorem dX3_readBraced_30 : decode cX3_readBraced 30 = .ok (.getfield 22, 3) := by decide +kernel
theorem dX3_readBraced_33 : decode cX3_readBraced 33 = .ok (.bipush 125, 2) := by decide +kernel
theorem dX3_readBraced_35 : decode cX3_readBraced 35 = .ok (.invokevirtual 78, 3) := by decide +kernel
theorem dX3_readBraced_38 : decode cX3_readBraced 38 = .ok (.iload_n 2, 1) := by decide +kernel
theorem dX3_readBraced_39 : decode cX3_readBraced 39 = .ok (.ireturn, 1) := by decide +kernel
theorem dX3_readCase_0 : decode cX3_readCase 0 = .ok (.aload_n 0, 1) := by decide +kernel
theorem dX3_readCase_1 : decode cX3_readCase 1 = .ok (.getfield 26, 3) := by decide +kernel
theorem dX3_readCase_4 : decode cX3_readCase 4 = .ok (.sipush 308, 3) := by decide +kernel
theorem dX3_readCase_7 : decode cX3_readCase 7 = .ok (.invokevirtual 201, 3) := by decide +kernel
theorem dX3_readCase_10 : decode cX3_readCase 10 = .ok (.istore_n 2, 1) := by decide +kernel
theorem dX3_readCase_11 : decode cX3_readCase 11 = .ok (.aload_n 0, 1) := by decide +kernel
theorem dX3_readCase_12 : decode cX3_readCase 12 = .ok (.iload_n 1, 1) := by decide +kernel
theorem dX3_readCase_13 : decode cX3_readCase 13 = .ok (.invokevirtual 204, 3) := by decide +kernel
theorem dX3_readCase_16 : decode cX3_readCase 16 = .ok (.aload_n 0, 1) := by decide +kernel
theorem dX3_readCase_17 : decode cX3_readCase 17 = .ok (.getfield 22, 3) := by decide +kernel
theorem dX3_readCase_20 : decode cX3_readCase 20 = .ok (.invokevirtual 207, 3) := by decide +kernel
theorem dX3_readCase_23 : decode cX3_readCase 23 = .ok (.aload_n 0, 1) := by decide +kernel
theorem dX3_readCase_24 : decode cX3_readCase 24 = .ok (.sipush 308, 3) := by decide +kernel
theorem dX3_readCase_27 : decode cX3_readCase 27 = .ok (.invokevirtual 233, 3) := by decide +kernel
theorem dX3_readCase_30 : decode cX3_readCase 30 = .ok (.istore_n 3, 1) := by decide +kernel
theorem dX3_readCase_31 : decode cX3_readCase 31 = .ok (.aload_n 0, 1) := by decide +kernel
theorem dX3_readCase_32 : decode cX3_readCase 32 = .ok (.getfield 12, 3) := by decide +kernel
theorem dX3_readCase_35 : decode cX3_readCase 35 = .ok (.iload_n 3, 1) := by decide +kernel
theorem dX3_readCase_36 : decode cX3_readCase 36 = .ok (.invokevirtual 236, 3) := by decide +kernel
theorem dX3_readCase_39 : decode cX3_readCase 39 = .ok (.istore 4, 2) := by decide +kernel
theorem dX3_readCase_41 : decode cX3_readCase 41 = .ok (.aload_n 0, 1) := by decide +kernel
theorem dX3_readCase_42 : decode cX3_readCase 42 = .ok (.getfield 26, 3) := by decide +kernel
theorem dX3_readCase_45 : decode cX3_readCase 45 = .ok (.getfield 239, 3) := by decide +kernel
theorem dX3_readCase_48 : decode cX3_readCase 48 = .ok (.iload 4, 2) := by decide +kernel
theorem dX3_readCase_50 : decode cX3_readCase 50 = .ok (.invokevirtual 243, 3) := by decide +kernel
theorem dX3_readCase_53 : decode cX3_readCase 53 = .ok (.istore 5, 2) := by decide +kernel
theorem dX3_readCase_55 : decode cX3_readCase 55 = .ok (.aload_n 0, 1) := by decide +kernel
theorem dX3_readCase_56 : decode cX3_readCase 56 = .ok (.getfield 26, 3) := by decide +kernel
theorem dX3_readCase_59 : decode cX3_readCase 59 = .ok (.getfield 248, 3) := by decide +kernel
theorem dX3_readCase_62 : decode cX3_readCase 62 = .ok (.iload_n 2, 1) := by decide +kernel
theorem dX3_readCase_63 : decode cX3_readCase 63 = .ok (.iload_n 3, 1) := by decide +kernel
theorem dX3_readCase_64 : decode cX3_readCase 64 = .ok (.invokevirtual 154, 3) := by decide +kernel
theorem dX3_readCase_67 : decode cX3_readCase 67 = .ok (.aload_n 0, 1) := by decide +kernel
theorem dX3_readCase_68 : decode cX3_readCase 68 = .ok (.getfield 26, 3) := by decide +kernel
theorem dX3_readCase_71 : decode cX3_readCase 71 = .ok (.getfield 219, 3) := by decide +kernel
theorem dX3_readCase_74 : decode cX3_readCase 74 = .ok (.iload_n 2, 1) := by decide +kernel
theorem dX3_readCase_75 : decode cX3_readCase 75 = .ok (.aload_n 0, 1) := by decide +kernel
theorem dX3_readCase_76 : decode cX3_readCase 76 = .ok (.getfield 26, 3) := by decide +kernel
theorem dX3_readCase_79 : decode cX3_readCase 79 = .ok (.iload 4, 2) := by decide +kernel
theorem dX3_readCase_81 : decode cX3_readCase 81 = .ok (.invokevirtual 251, 3) := by decide +kernel
theorem dX3_readCase_84 : decode cX3_readCase 84 = .ok (.invokevirtual 154, 3) := by decide +kernel
theorem dX3_readCase_87 : decode cX3_readCase 87 = .ok (.aload_n 0, 1) := by decide +kernel
theorem dX3_readCase_88 : decode cX3_readCase 88 = .ok (.getfield 26, 3) := by decide +kernel
theorem dX3_readCase_91 : decode cX3_readCase 91 = .ok (.getfield 210, 3) := by decide +kernel
theorem dX3_readCase_94 : decode cX3_readCase 94 = .ok (.iload_n 2, 1) := by decide +kernel
theorem dX3_readCase_95 : decode cX3_readCase 95 = .ok (.iload 5, 2) := by decide +kernel
theorem dX3_readCase_97 : decode cX3_readCase 97 = .ok (.invokevirtual 154, 3) := by decide +kernel
theorem dX3_readCase_100 : decode cX3_readCase 100 = .ok (.aload_n 0, 1) := by decide +kernel
theorem dX3_readCase_101 : decode cX3_readCase 101 = .ok (.getfield 22, 3) := by decide +kernel
theorem dX3_readCase_104 : decode cX3_readCase 104 = .ok (.bipush 123, 2) := by decide +kernel
theorem dX3_readCase_106 : decode cX3_readCase 106 = .ok (.invokevirtual 78, 3) := by decide +kernel
theorem dX3_readCase_109 : decode cX3_readCase 109 = .ok (.bipush 80, 2) := by decide +kernel
theorem dX3_readCase_111 : decode cX3_readCase 111 = .ok (.istore 6, 2) := by decide +kernel
theorem dX3_readCase_113 : decode cX3_readCase 113 = .ok (.iconst 0, 1) := by decide +kernel
theorem dX3_readCase_114 : decode cX3_readCase 114 = .ok (.istore 7, 2) := by decide +kernel
theorem dX3_readCase_116 : decode cX3_readCase 116 = .ok (.iconst 0, 1) := by decide +kernel
theorem dX3_readCase_117 : decode cX3_readCase 117 = .ok (.istore 8, 2) := by decide +kernel
theorem dX3_readCase_119 : decode cX3_readCase 119 = .ok (.iload 8, 2) := by decide +kernel
theorem dX3_readCase_121 : decode cX3_readCase 121 = .ok (.bipush 6, 2) := by decide +kernel
theorem dX3_readCase_123 : decode cX3_readCase 123 = .ok (.if_icmp .gt 52, 3) := by decide +kernel
theorem dX3_readCase_126 : decode cX3_readCase 126 = .ok (.aload_n 0, 1) := by decide +kernel
theorem dX3_readCase_127 : decode cX3_readCase 127 = .ok (.getfield 22, 3) := by decide +kernel
theorem dX3_readCase_130 : decode cX3_readCase 130 = .ok (.invokevirtual 164, 3) := by decide +kernel
theorem dX3_readCase_133 : decode cX3_readCase 133 = .ok (.ifCond .ne 42, 3) := by decide +kernel
theorem dX3_readCase_136 : decode cX3_readCase 136 = .ok (.iload 6, 2) := by decide +kernel
theorem dX3_readCase_138 : decode cX3_readCase 138 = .ok (.aload_n 0, 1) := by decide +kernel
theorem dX3_readCase_139 : decode cX3_readCase 139 = .ok (.iload_n 2, 1) := by decide +kernel
theorem dX3_readCase_140 : decode cX3_readCase 140 = .ok (.iload_n 1, 1) := by decide +kernel
theorem dX3_readCase_141 : decode cX3_readCase 141 = .ok (.iconst 1, 1) := by decide +kernel
theorem dX3_readCase_142 : decode cX3_readCase 142 = .ok (.iadd, 1) := by decide +kernel
theorem dX3_readCase_143 : decode cX3_readCase 143 = .ok (.invokevirtual 254, 3) := by decide +kernel
theorem dX3_readCase_146 : decode cX3_readCase 146 = .ok (.invokestatic 222, 3) := by decide +kernel
theorem dX3_readCase_149 : decode cX3_readCase 149 = .ok (.istore 6, 2) := by decide +kernel
theorem dX3_readCase_151 : decode cX3_readCase 151 = .ok (.iinc 7 1, 3) := by decide +kernel
theorem dX3_readCase_154 : decode cX3_readCase 154 = .ok (.aload_n 0, 1) := by decide +kernel
theorem dX3_readCase_155 : decode cX3_readCase 155 = .ok (.getfield 22, 3) := by decide +kernel
theorem dX3_readCase_158 : decode cX3_readCase 158 = .ok (.bipush 124, 2) := by decide +kernel
theorem dX3_readCase_160 : decode cX3_readCase 160 = .ok (.invokevirtual 64, 3) := by decide +kernel
theorem dX3_readCase_163 : decode cX3_readCase 163 = .ok (.ifCond .ne 6, 3) := by decide +kernel
theorem dX3_readCase_166 : decode cX3_readCase 166 = .ok (.goto 9, 3) := by decide +kernel
theorem dX3_readCase_169 : decode cX3_readCase 169 = .ok (.iinc 8 1, 3) := by decide +kernel
theorem dX3_readCase_172 : decode cX3_readCase 172 = .ok (.goto (-53), 3) := by decide +kernel
theorem dX3_readCase_175 : decode cX3_readCase 175 = .ok (.aload_n 0, 1) := by decide +kernel
theorem dX3_readCase_176 : decode cX3_readCase 176 = .ok (.getfield 22, 3) := by decide +kernel
theorem dX3_readCase_179 : decode cX3_readCase 179 = .ok (.bipush 125, 2) := by decide +kernel
theorem dX3_readCase_181 : decode cX3_readCase 181 = .ok (.invokevirtual 151, 3) := by decide +kernel
theorem dX3_readCase_184 : decode cX3_readCase 184 = .ok (.ifCond .eq 25, 3) := by decide +kernel
theorem dX3_readCase_187 : decode cX3_readCase 187 = .ok (.iload 7, 2) := by decide +kernel
theorem dX3_readCase_189 : decode cX3_readCase 189 = .ok (.iload 5, 2) := by decide +kernel
theorem dX3_readCase_191 : decode cX3_readCase 191 = .ok (.if_icmp .ge 18, 3) := by decide +kernel
theorem dX3_readCase_194 : decode cX3_readCase 194 = .ok (.aload_n 0, 1) := by decide +kernel
theorem dX3_readCase_195 : decode cX3_readCase 195 = .ok (.getfield 22, 3) := by decide +kernel
theorem dX3_readCase_198 : decode cX3_readCase 198 = .ok (.iconst 3, 1) := by decide +kernel
theorem dX3_readCase_199 : decode cX3_readCase 199 = .ok (.aload_n 0, 1) := by decide +kernel
theorem dX3_readCase_200 : decode cX3_readCase 200 = .ok (.getfield 22, 3) := by decide +kernel
theorem dX3_readCase_203 : decode cX3_readCase 203 = .ok (.getfield 95, 3) := by decide +kernel
theorem dX3_readCase_206 : decode cX3_readCase 206 = .ok (.invokevirtual 104, 3) := by decide +kernel
theorem dX3_readCase_209 : decode cX3_readCase 209 = .ok (.aload_n 0, 1) := by decide +kernel
theorem dX3_readCase_210 : decode cX3_readCase 210 = .ok (.getfield 22, 3) := by decide +kernel
theorem dX3_readCase_213 : decode cX3_readCase 213 = .ok (.bipush 125, 2) := by decide +kernel
theorem dX3_readCase_215 : decode cX3_readCase 215 = .ok (.invokevirtual 78, 3) := by decide +kernel
theorem dX3_readCase_218 : decode cX3_readCase 218 = .ok (.iload 6, 2) := by decide +kernel
theorem dX3_readCase_220 : decode cX3_readCase 220 = .ok (.ireturn, 1) := by decide +kernel
theorem dX3_readIf_0 : decode cX3_readIf 0 = .ok (.aload_n 0, 1) := by decide +kernel
theorem dX3_readIf_1 : decode cX3_readIf 1 = .ok (.getfield 26, 3) := by decide +kernel
theorem dX3_readIf_4 : decode cX3_readIf 4 = .ok (.sipush 312, 3) := by decide +kernel
theorem dX3_readIf_7 : decode cX3_readIf 7 = .ok (.invokevirtual 201, 3) := by decide +kernel
theorem dX3_readIf_10 : decode cX3_readIf 10 = .ok (.istore_n 2, 1) := by decide +kernel
theorem dX3_readIf_11 : decode cX3_readIf 11 = .ok (.aload_n 0, 1) := by decide +kernel
theorem dX3_readIf_12 : decode cX3_readIf 12 = .ok (.iload_n 1, 1) := by decide +kernel
theorem dX3_readIf_13 : decode cX3_readIf 13 = .ok (.invokevirtual 204, 3) := by decide +kernel
theorem dX3_readIf_16 : decode cX3_readIf 16 = .ok (.aload_n 0, 1) := by decide +kernel
theorem dX3_readIf_17 : decode cX3_readIf 17 = .ok (.getfield 22, 3) := by decide +kernel
theorem dX3_readIf_20 : decode cX3_readIf 20 = .ok (.invokevirtual 207, 3) := by decide +kernel
theorem dX3_readIf_23 : decode cX3_readIf 23 = .ok (.aload_n 0, 1) := by decide +kernel
theorem dX3_readIf_24 : decode cX3_readIf 24 = .ok (.getfield 26, 3) := by decide +kernel
theorem dX3_readIf_27 : decode cX3_readIf 27 = .ok (.getfield 210, 3) := by decide +kernel
theorem dX3_readIf_30 : decode cX3_readIf 30 = .ok (.iload_n 2, 1) := by decide +kernel
theorem dX3_readIf_31 : decode cX3_readIf 31 = .ok (.aload_n 0, 1) := by decide +kernel
theorem dX3_readIf_32 : decode cX3_readIf 32 = .ok (.getfield 50, 3) := by decide +kernel
theorem dX3_readIf_35 : decode cX3_readIf 35 = .ok (.iconst 0, 1) := by decide +kernel
theorem dX3_readIf_36 : decode cX3_readIf 36 = .ok (.iload_n 1, 1) := by decide +kernel
theorem dX3_readIf_37 : decode cX3_readIf 37 = .ok (.iconst 1, 1) := by decide +kernel
theorem dX3_readIf_38 : decode cX3_readIf 38 = .ok (.iadd, 1) := by decide +kernel
theorem dX3_readIf_39 : decode cX3_readIf 39 = .ok (.invokevirtual 213, 3) := by decide +kernel
theorem dX3_readIf_42 : decode cX3_readIf 42 = .ok (.invokevirtual 154, 3) := by decide +kernel
theorem dX3_readIf_45 : decode cX3_readIf 45 = .ok (.aload_n 0, 1) := by decide +kernel
theorem dX3_readIf_46 : decode cX3_readIf 46 = .ok (.iload_n 1, 1) := by decide +kernel
theorem dX3_readIf_47 : decode cX3_readIf 47 = .ok (.iconst 1, 1) := by decide +kernel
theorem dX3_readIf_48 : decode cX3_readIf 48 = .ok (.iadd, 1) := by decide +kernel
theorem dX3_readIf_49 : decode cX3_readIf 49 = .ok (.invokevirtual 216, 3) := by decide +kernel
theorem dX3_readIf_52 : decode cX3_readIf 52 = .ok (.istore_n 3, 1) := by decide +kernel
theorem dX3_readIf_53 : decode cX3_readIf 53 = .ok (.aload_n 0, 1) := by decide +kernel
theorem dX3_readIf_54 : decode cX3_readIf 54 = .ok (.getfield 22, 3) := by decide +kernel
theorem dX3_readIf_57 : decode cX3_readIf 57 = .ok (.sipush 313, 3) := by decide +kernel
theorem dX3_readIf_60 : decode cX3_readIf 60 = .ok (.invokevirtual 78, 3) := by decide +kernel
theorem dX3_readIf_63 : decode cX3_readIf 63 = .ok (.aload_n 0, 1) := by decide +kernel
theorem dX3_readIf_64 : decode cX3_readIf 64 = .ok (.getfield 26, 3) := by decide +kernel
theorem dX3_readIf_67 : decode cX3_readIf 67 = .ok (.getfield 219, 3) := by decide +kernel
theorem dX3_readIf_70 : decode cX3_readIf 70 = .ok (.iload_n 2, 1) := by decide +kernel
theorem dX3_readIf_71 : decode cX3_readIf 71 = .ok (.aload_n 0, 1) := by decide +kernel
theorem dX3_readIf_72 : decode cX3_readIf 72 = .ok (.getfield 26, 3) := by decide +kernel
theorem dX3_readIf_75 : decode cX3_readIf 75 = .ok (.getfield 136, 3) := by decide +kernel
theorem dX3_readIf_78 : decode cX3_readIf 78 = .ok (.invokevirtual 108, 3) := by decide +kernel
theorem dX3_readIf_81 : decode cX3_readIf 81 = .ok (.invokevirtual 154, 3) := by decide +kernel
theorem dX3_readIf_84 : decode cX3_readIf 84 = .ok (.iload_n 3, 1) := by decide +kernel
theorem dX3_readIf_85 : decode cX3_readIf 85 = .ok (.aload_n 0, 1) := by decide +kernel
theorem dX3_readIf_86 : decode cX3_readIf 86 = .ok (.iload_n 1, 1) := by decide +kernel
theorem dX3_readIf_87 : decode cX3_readIf 87 = .ok (.iconst 1, 1) := by decide +kernel
theorem dX3_readIf_88 : decode cX3_readIf 88 = .ok (.iadd, 1) := by decide +kernel
theorem dX3_readIf_89 : decode cX3_readIf 89 = .ok (.invokevirtual 216, 3) := by decide +kernel
theorem dX3_readIf_92 : decode cX3_readIf 92 = .ok (.invokestatic 222, 3) := by decide +kernel
theorem dX3_readIf_95 : decode cX3_readIf 95 = .ok (.ireturn, 1) := by decide +kernel
theorem dX3_readSteps_0 : decode cX3_readSteps 0 = .ok (.iconst 1, 1) := by decide +kernel
theorem dX3_readSteps_1 : decode cX3_readSteps 1 = .ok (.istore_n 2, 1) := by decide +kernel
theorem dX3_readSteps_2 : decode cX3_readSteps 2 = .ok (.iload_n 2, 1) := by decide +kernel
theorem dX3_readSteps_3 : decode cX3_readSteps 3 = .ok (.bipush 81, 2) := by decide +kernel
theorem dX3_readSteps_5 : decode cX3_readSteps 5 = .ok (.if_icmp .gt 149, 3) := by decide +kernel
theorem dX3_readSteps_8 : decode cX3_readSteps 8 = .ok (.aload_n 0, 1) := by decide +kernel
theorem dX3_readSteps_9 : decode cX3_readSteps 9 = .ok (.getfield 22, 3) := by decide +kernel
theorem dX3_readSteps_12 : decode cX3_readSteps 12 = .ok (.invokevirtual 164, 3) := by decide +kernel
theorem dX3_readSteps_15 : decode cX3_readSteps 15 = .ok (.ifCond .ne 139, 3) := by decide +kernel
theorem dX3_readSteps_18 : decode cX3_readSteps 18 = .ok (.aload_n 0, 1) := by decide +kernel
theorem dX3_readSteps_19 : decode cX3_readSteps 19 = .ok (.getfield 22, 3) := by decide +kernel
theorem dX3_readSteps_22 : decode cX3_readSteps 22 = .ok (.getfield 168, 3) := by decide +kernel
theorem dX3_readSteps_25 : decode cX3_readSteps 25 = .ok (.istore_n 3, 1) := by decide +kernel
theorem dX3_readSteps_26 : decode cX3_readSteps 26 = .ok (.aload_n 0, 1) := by decide +kernel
theorem dX3_readSteps_27 : decode cX3_readSteps 27 = .ok (.iload_n 3, 1) := by decide +kernel
theorem dX3_readSteps_28 : decode cX3_readSteps 28 = .ok (.invokevirtual 171, 3) := by decide +kernel
theorem dX3_readSteps_31 : decode cX3_readSteps 31 = .ok (.iload_n 3, 1) := by decide +kernel
theorem dX3_readSteps_32 : decode cX3_readSteps 32 = .ok (.tableswitch 101 308 315 #[58, 85, 79, 72, 48, 101, 93, 66], 48) := by decide +kernel
theorem dX3_readSteps_80 : decode cX3_readSteps 80 = .ok (.iload_n 2, 1) := by decide +kernel
theorem dX3_readSteps_81 : decode cX3_readSteps 81 = .ok (.iconst 1, 1) := by decide +kernel
theorem dX3_readSteps_82 : decode cX3_readSteps 82 = .ok (.isub, 1) := by decide +kernel
theorem dX3_readSteps_83 : decode cX3_readSteps 83 = .ok (.aload_n 0, 1) := by decide +kernel
theorem dX3_readSteps_84 : decode cX3_readSteps 84 = .ok (.iload_n 1, 1) := by decide +kernel
theorem dX3_readSteps_85 : decode cX3_readSteps 85 = .ok (.invokevirtual 174, 3) := by decide +kernel
theorem dX3_readSteps_88 : decode cX3_readSteps 88 = .ok (.iadd, 1) := by decide +kernel
theorem dX3_readSteps_89 : decode cX3_readSteps 89 = .ok (.ireturn, 1) := by decide +kernel
theorem dX3_readSteps_90 : decode cX3_readSteps 90 = .ok (.iload_n 2, 1) := by decide +kernel
theorem dX3_readSteps_91 : decode cX3_readSteps 91 = .ok (.aload_n 0, 1) := by decide +kernel
theorem dX3_readSteps_92 : decode cX3_readSteps 92 = .ok (.iload_n 1, 1) := by decide +kernel
theorem dX3_readSteps_93 : decode cX3_readSteps 93 = .ok (.invokevirtual 177, 3) := by decide +kernel
theorem dX3_readSteps_96 : decode cX3_readSteps 96 = .ok (.iadd, 1) := by decide +kernel
theorem dX3_readSteps_97 : decode cX3_readSteps 97 = .ok (.ireturn, 1) := by decide +kernel
theorem dX3_readSteps_98 : decode cX3_readSteps 98 = .ok (.aload_n 0, 1) := by decide +kernel
theorem dX3_readSteps_99 : decode cX3_readSteps 99 = .ok (.invokevirtual 180, 3) := by decide +kernel
theorem dX3_readSteps_102 : decode cX3_readSteps 102 = .ok (.iload_n 2, 1) := by decide +kernel
theorem dX3_readSteps_103 : decode cX3_readSteps 103 = .ok (.ireturn, 1) := by decide +kernel
theorem dX3_readSteps_104 : decode cX3_readSteps 104 = .ok (.aload_n 0, 1) := by decide +kernel
theorem dX3_readSteps_105 : decode cX3_readSteps 105 = .ok (.iload_n 1, 1) := by decide +kernel
theorem dX3_readSteps_106 : decode cX3_readSteps 106 = .ok (.invokevirtual 183, 3) := by decide +kernel
theorem dX3_readSteps_109 : decode cX3_readSteps 109 = .ok (.iload_n 2, 1) := by decide +kernel
theorem dX3_readSteps_110 : decode cX3_readSteps 110 = .ok (.ireturn, 1) := by decide +kernel
theorem dX3_readSteps_111 : decode cX3_readSteps 111 = .ok (.aload_n 0, 1) := by decide +kernel
theorem dX3_readSteps_112 : decode cX3_readSteps 112 = .ok (.invokevirtual 186, 3) := by decide +kernel
theorem dX3_readSteps_115 : decode cX3_readSteps 115 = .ok (.iload_n 2, 1) := by decide +kernel
theorem dX3_readSteps_116 : decode cX3_readSteps 116 = .ok (.ireturn, 1) := by decide +kernel
theorem dX3_readSteps_117 : decode cX3_readSteps 117 = .ok (.aload_n 0, 1) := by decide +kernel
theorem dX3_readSteps_118 : decode cX3_readSteps 118 = .ok (.iload_n 1, 1) := by decide +kernel
theorem dX3_readSteps_119 : decode cX3_readSteps 119 = .ok (.invokevirtual 189, 3) := by decide +kernel
theorem dX3_readSteps_122 : decode cX3_readSteps 122 = .ok (.goto 17, 3) := by decide +kernel
theorem dX3_readSteps_125 : decode cX3_readSteps 125 = .ok (.aload_n 0, 1) := by decide +kernel
theorem dX3_readSteps_126 : decode cX3_readSteps 126 = .ok (.iload_n 1, 1) := by decide +kernel
theorem dX3_readSteps_127 : decode cX3_readSteps 127 = .ok (.invokevirtual 192, 3) := by decide +kernel
theorem dX3_readSteps_130 : decode cX3_readSteps 130 = .ok (.goto 9, 3) := by decide +kernel
theorem dX3_readSteps_133 : decode cX3_readSteps 133 = .ok (.aload_n 0, 1) := by decide +kernel
theorem dX3_readSteps_134 : decode cX3_readSteps 134 = .ok (.iload_n 3, 1) := by decide +kernel
theorem dX3_readSteps_135 : decode cX3_readSteps 135 = .ok (.iload_n 1, 1) := by decide +kernel
theorem dX3_readSteps_136 : decode cX3_readSteps 136 = .ok (.invokevirtual 195, 3) := by decide +kernel
theorem dX3_readSteps_139 : decode cX3_readSteps 139 = .ok (.aload_n 0, 1) := by decide +kernel
theorem dX3_readSteps_140 : decode cX3_readSteps 140 = .ok (.getfield 22, 3) := by decide +kernel
theorem dX3_readSteps_143 : decode cX3_readSteps 143 = .ok (.bipush 59, 2) := by decide +kernel
theorem dX3_readSteps_145 : decode cX3_readSteps 145 = .ok (.invokevirtual 78, 3) := by decide +kernel
theorem dX3_readSteps_148 : decode cX3_readSteps 148 = .ok (.iinc 2 1, 3) := by decide +kernel
theorem dX3_readSteps_151 : decode cX3_readSteps 151 = .ok (.goto (-149), 3) := by decide +kernel
theorem dX3_readSteps_154 : decode cX3_readSteps 154 = .ok (.iconst (-1), 1) := by decide +kernel
theorem dX3_readSteps_155 : decode cX3_readSteps 155 = .ok (.ireturn, 1) := by decide +kernel
abbrev sc_3readAlternativeT : Type := (iT → fT → Int32 → Int32 → Option (Int32 × iT)) × (iT → fT → Int32 → Option (Int32 × iT)) × (iT → fT → Int32 → Option (Int32 × iT)) × (iT → fT → Int32 → Option (Int32 × iT)) × (iT → fT → Int32 → Option (Int32 × iT))
def sc_3readAlternative_ok (l : Launch) (K : a_KT) (g : a_GT) (D0 : Nat) (R : sc_3readAlternativeT) : Prop := (∀ {IB : iT} (I : iT) (J : jT) (F : fT) (x1 : Int32) (x2 : Int32), FK F → ∀ q : Int32 × iT, R.1 I F x1 x2 = some q → C l K g D0 0 0 yX3_readAlternative cX3_readAlternative 9 (some .int) [.ref 134, .int x1, .int x2] (hg I IB J F) (fun r2 h2 => r2 = some (.int q.1) ∧ h2 = hg q.2 IB J F)) ∧ (∀ {IB : iT} (I : iT) (J : jT) (F : fT) (x1 : Int32), FK F → ∀ q : Int32 × iT, R.2.1 I F x1 = some q → C l K g D0 0 0 yX3_readBraced cX3_readBraced 3 (some .int) [.ref 134, .int x1] (hg I IB J F) (fun r2 h2 => r2 = some (.int q.1) ∧ h2 = hg q.2 IB J F)) ∧ (∀ {IB : iT} (I : iT) (J : jT) (F : fT) (x1 : Int32), FK F → ∀ q : Int32 × iT, R.2.2.1 I F x1 = some q → C l K g D0 0 0 yX3_readCase cX3_readCase 9 (some .int) [.ref 134, .int x1] (hg I IB J F) (fun r2 h2 => r2 = some (.int q.1) ∧ h2 = hg q.2 IB J F)) ∧ (∀ {IB : iT} (I : iT) (J : jT) (F : fT) (x1 : Int32), FK F → ∀ q : Int32 × iT, R.2.2.2.1 I F x1 = some q → C l K g D0 0 0 yX3_readIf cX3_readIf 4 (some .int) [.ref 134, .int x1] (hg I IB J F) (fun r2 h2 => r2 = some (.int q.1) ∧ h2 = hg q.2 IB J F)) ∧ (∀ {IB : iT} (I : iT) (J : jT) (F : fT) (x1 : Int32), FK F → ∀ q : Int32 × iT, R.2.2.2.2 I F x1 = some q → C l K g D0 0 0 yX3_readSteps cX3_readSteps 4 (some .int) [.ref 134, .int x1] (hg I IB J F) (fun r2 h2 => r2 = some (.int q.1) ∧ h2 = hg q.2 IB J F))
def mX3_readAlternative_113 (R : sc_3readAlternativeT) (I : iT) (F : fT) (x1 : Int32) (x2 : Int32) (x3 : Int32) (x4 : Int32) (x5 : Int32) (x6 : Int32) (x7 : Int32) : Option (Int32 × iT) := (mX2_want I 58).bind fun q1 => (mX4_size ((F 134 4) + 47) q1).bind fun q2 => (mX4_put ((F 134 4) + 57) q1 x7 q2).bind fun q3 => (mX5_enter q3).bind fun q4 => (mX10_branchT ((F 134 4) + 1) q4 x4 x6).bind fun q5 => (mX5_setTalk q4 x3 q5).bind fun q6 => (R.2.2.2.2 q6 F x2).bind fun q7 => (mX5_leave q7.2).bind fun q8 => some (q7.1, q8)
def bX3_readAlternative (R : sc_3readAlternativeT) (I : iT) (F : fT) (x1 : Int32) (x2 : Int32) : Option (Int32 × iT) := (mX4_at ((F 134 4) + 49) I x1).bind fun q9 => (mX5_talkAt I q9).bind fun q10 => (mX2_takeName I).bind fun q11 => (mX10_findBranch ((F 134 4) + 1) q11.2 q10 q11.1).bind fun q12 => (mX4_at ((F 134 4) + 51) q11.2 x1).bind fun q13 => if q12 = ((-1)) then (mX2_refuse q11.2 3 (I 6 8)).bind fun q16 => mX3_readAlternative_113 R q16 F x1 x2 q9 q10 (I 6 8) q12 (q13 + q12) else (mX4_at ((F 134 4) + 57) q11.2 (q13 + q12)).bind fun q14 => if q14 = ((-1)) then mX3_readAlternative_113 R q11.2 F x1 x2 q9 q10 (I 6 8) q12 (q13 + q12) else (mX2_refuse q11.2 2 (I 6 8)).bind fun q15 => mX3_readAlternative_113 R q15 F x1 x2 q9 q10 (I 6 8) q12 (q13 + q12)
def bX3_readBraced (R : sc_3readAlternativeT) (I : iT) (F : fT) (x1 : Int32) : Option (Int32 × iT) := (mX2_want I 123).bind fun q1 => (mX5_enter q1).bind fun q2 => (R.2.2.2.2 q2 F x1).bind fun q3 => (mX5_leave q3.2).bind fun q4 => (mX2_want q4 125).bind fun q5 => some (q3.1, q5)
def mX3_readCase_209 (R : sc_3readAlternativeT) (I : iT) (F : fT) (x1 : Int32) (x2 : Int32) (x3 : Int32) (x4 : Int32) (x5 : Int32) (x6 : Int32) (x7 : Int32) (x8 : Int32) : Option (Int32 × iT) := (mX2_want I 125).bind fun q1 => some (x6, q1)
def mX3_readCase_175 (R : sc_3readAlternativeT) (I : iT) (F : fT) (x1 : Int32) (x2 : Int32) (x3 : Int32) (x4 : Int32) (x5 : Int32) (x6 : Int32) (x7 : Int32) (x8 : Int32) : Option (Int32 × iT) := (mX2_is I 125).bind fun q2 => if q2 = 0 then mX3_readCase_209 R I F x1 x2 x3 x4 x5 x6 x7 x8 else if x5 ≤ x7 then mX3_readCase_209 R I F x1 x2 x3 x4 x5 x6 x7 x8 else (mX2_refuse I 3 (I 6 8)).bind fun q3 => mX3_readCase_209 R q3 F x1 x2 x3 x4 x5 x6 x7 x8
def mX3_readCase_119 (R : sc_3readAlternativeT) : Nat → iT → fT → Int32 → Int32 → Int32 → Int32 → Int32 → Int32 → Int32 → Int32 → Option (Int32 × iT)
  | 0, _, _, _, _, _, _, _, _, _, _ => none
  | n + 1, I, F, x1, x2, x3, x4, x5, x6, x7, x8 => if 6 < x8 then mX3_readCase_175 R I F x1 x2 x3 x4 x5 x6 x7 x8 else (mX2_failed I).bind fun q4 => if q4 = 0 then (R.1 I F x2 (x1 + 1)).bind fun q5 => (mX2_skip q5.2 124).bind fun q6 => if q6.1 = 0 then mX3_readCase_175 R q6.2 F x1 x2 x3 x4 x5 (if q5.1 < x6 then q5.1 else x6) (x7 + 1) x8 else mX3_readCase_119 R n q6.2 F x1 x2 x3 x4 x5 (if q5.1 < x6 then q5.1 else x6) (x7 + 1) (x8 + 1) else mX3_readCase_175 R I F x1 x2 x3 x4 x5 x6 x7 x8
def bX3_readCase (R : sc_3readAlternativeT) (I : iT) (F : fT) (x1 : Int32) : Option (Int32 × iT) := (mX0_addNode (F 134 4) I 308).bind fun q7 => (mX3_refuseOpen q7.2 x1).bind fun q8 => (mX2_advance q8).bind fun q9 => (mX3_readChannel q9 F 308).bind fun q10 => (mX5_talkAt q10.2 q10.1).bind fun q11 => (mX10_branches ((F 134 4) + 1) q10.2 q11).bind fun q12 => (mX4_put ((F 134 4) + 49) q10.2 q7.1 q10.1).bind fun q13 => (mX0_addAlternatives (F 134 4) q13 q11).bind fun q14 => (mX4_put ((F 134 4) + 51) q14.2 q7.1 q14.1).bind fun q15 => (mX4_put ((F 134 4) + 53) q15 q7.1 q12).bind fun q16 => (mX2_want q16 123).bind fun q17 => mX3_readCase_119 R LF q17 F x1 q7.1 q10.1 q11 q12 80 0 0
def bX3_readIf (R : sc_3readAlternativeT) (I : iT) (F : fT) (x1 : Int32) : Option (Int32 × iT) := (mX0_addNode (F 134 4) I 312).bind fun q1 => (mX3_refuseOpen q1.2 x1).bind fun q2 => (mX2_advance q2).bind fun q3 => (mX7_readSum SF q3 F 0 (x1 + 1)).bind fun q4 => (mX4_put ((F 134 4) + 53) q4.2 q1.1 q4.1).bind fun q5 => (R.2.1 q5 F (x1 + 1)).bind fun q6 => (mX2_want q6.2 313).bind fun q7 => (mX4_size ((F 134 4) + 47) q7).bind fun q8 => (mX4_put ((F 134 4) + 51) q7 q1.1 q8).bind fun q9 => (R.2.1 q9 F (x1 + 1)).bind fun q10 => some (if q10.1 < q6.1 then q10.1 else q6.1, q10.2)
def mX3_readSteps_139 (R : sc_3readAlternativeT) (k2 : iT → fT → Int32 → Int32 → Option (Int32 × iT)) (I : iT) (F : fT) (x1 : Int32) (x2 : Int32) (x3 : Int32) : Option (Int32 × iT) := (mX2_want I 59).bind fun q1 => k2 q1 F x1 (x2 + 1)
def mX3_readSteps_2 (R : sc_3readAlternativeT) : Nat → iT → fT → Int32 → Int32 → Option (Int32 × iT)
  | 0, _, _, _, _ => none
  | n + 1, I, F, x1, x2 => if 81 < x2 then some ((-1), I) else (mX2_failed I).bind fun q2 => if q2 = 0 then (mX3_countWord I (I 6 6)).bind fun q3 => if (I 6 6) = 308 then (R.2.2.1 q3 F x1).bind fun q4 => some (x2 + q4.1, q4.2) else if (I 6 6) = 309 then (mX3_readNew q3 F x1).bind fun q5 => mX3_readSteps_139 R (mX3_readSteps_2 R n) q5 F x1 x2 (I 6 6) else if (I 6 6) = 310 then (mX3_readSame q3 F).bind fun q6 => some (x2, q6) else if (I 6 6) = 311 then (mX3_readGo q3 F x1).bind fun q7 => some (x2, q7) else if (I 6 6) = 312 then (R.2.2.2.1 q3 F x1).bind fun q8 => some ((x2 - 1) + q8.1, q8.2) else if (I 6 6) = 313 then (mX3_readTalk q3 F (I 6 6) x1).bind fun q9 => mX3_readSteps_139 R (mX3_readSteps_2 R n) q9 F x1 x2 (I 6 6) else if (I 6 6) = 314 then (mX3_readSay q3 F x1).bind fun q10 => mX3_readSteps_139 R (mX3_readSteps_2 R n) q10 F x1 x2 (I 6 6) else if (I 6 6) = 315 then (mX3_readClose q3 F).bind fun q11 => some (x2, q11) else (mX3_readTalk q3 F (I 6 6) x1).bind fun q12 => mX3_readSteps_139 R (mX3_readSteps_2 R n) q12 F x1 x2 (I 6 6) else some ((-1), I)
def bX3_readSteps (R : sc_3readAlternativeT) (I : iT) (F : fT) (x1 : Int32) : Option (Int32 × iT) := mX3_readSteps_2 R LF I F x1 1
def sc_3readAlternative : Nat → sc_3readAlternativeT
  | 0 => (fun _ _ _ _ => none, fun _ _ _ => none, fun _ _ _ => none, fun _ _ _ => none, fun _ _ _ => none)
  | n + 1 => (bX3_readAlternative (sc_3readAlternative n), bX3_readBraced (sc_3readAlternative n), bX3_readCase (sc_3readAlternative n), bX3_readIf (sc_3readAlternative n), bX3_readSteps (sc_3readAlternative n))
def mX3_readAlternative (n : Nat) : iT → fT → Int32 → Int32 → Option (Int32 × iT) := (sc_3readAlternative n).1
def mX3_readBraced (n : Nat) : iT → fT → Int32 → Option (Int32 × iT) := (sc_3readAlternative n).2.1
def mX3_readCase (n : Nat) : iT → fT → Int32 → Option (Int32 × iT) := (sc_3readAlternative n).2.2.1
def mX3_readIf (n : Nat) : iT → fT → Int32 → Option (Int32 × iT) := (sc_3readAlternative n).2.2.2.1
def mX3_readSteps (n : Nat) : iT → fT → Int32 → Option (Int32 × iT) := (sc_3readAlternative n).2.2.2.2
set_option maxRecDepth 100000 in
set_option maxHeartbeats 4000000 in
theorem tX3_readAlternative_113 {l : Launch} {K : a_KT} {g : a_GT} {IB : iT} {D0 : Nat} {R : sc_3readAlternativeT} (hko : a_kok K) (hB : 455 ≤ D0 + 1) (hR : sc_3readAlternative_ok l K g D0 R) {J : jT} (I : iT) (F : fT) (x1 : Int32) (x2 : Int32) (x3 : Int32) (x4 : Int32) (x5 : Int32) (x6 : Int32) (x7 : Int32) (hF : FK F) (q : Int32 × iT) (hm : mX3_readAlternative_113 R I F x1 x2 x3 x4 x5 x6 x7 = some q) : E l K g (D0 + 1) 0 0 yX3_readAlternative cX3_readAlternative 9 (some .int) 113 [.ref 134, .int x1, .int x2, .int x3, .int x4, .int x5, .int x6, .int x7, .null] [] (hg I IB J F) (fun r2 h2 => r2 = some (.int q.1) ∧ h2 = hg q.2 IB J F) := by
  unfold mX3_readAlternative_113 at hm
  refine e_aload_n (i := 0) rfl dX3_readAlternative_113 ?_
  refine q_getF 3 0 6 dX3_readAlternative_114 fl_RX3_22 rfl iz_134 (fr_134_0 hF.1) ?_
  refine e_bipush (v := 58) (by decide) dX3_readAlternative_117 ?_
  obtain ⟨q1, eq1, hm⟩ := ob_some hm
  refine e_cV1 hko dX3_readAlternative_119 ml_RX3_78 iz_6 (by decide) rfl (by omega) (Nat.le_of_ble_eq_true rfl) (tX2_want hko I J F hF 58 _ eq1) ?_
  rintro _ _ ⟨rfl, rfl⟩
  refine e_aload_n (i := 0) rfl dX3_readAlternative_122 ?_
  refine q_getF 3 4 (F 134 4) dX3_readAlternative_123 fl_RX3_26 rfl iz_134 rfl ?_
  refine q_getF 0 16 ((F 134 4) + 57) dX3_readAlternative_126 fl_RX3_263 rfl (iz_bk hF.2.2.2.1) (frb_16 hF.1 hF.2.2.2.1) ?_
  refine e_iload (i := 7) rfl dX3_readAlternative_129 ?_
  refine e_aload_n (i := 0) rfl dX3_readAlternative_131 ?_
  refine q_getF 3 4 (F 134 4) dX3_readAlternative_132 fl_RX3_26 rfl iz_134 rfl ?_
  refine q_getF 0 11 ((F 134 4) + 47) dX3_readAlternative_135 fl_RX3_136 rfl (iz_bk hF.2.2.2.1) (frb_11 hF.1 hF.2.2.2.1) ?_
  obtain ⟨q2, eq2, hm⟩ := ob_some hm
  refine e_cV0 hko dX3_readAlternative_138 ml_RX3_108 (iz_row (rwb_47 hF.2.2.2.1)) (by decide) rfl (by omega) (Nat.le_of_ble_eq_true rfl) (tX4_size hko (rwb_47 hF.2.2.2.1) q1 J F hF _ eq2) ?_
  rintro _ _ ⟨rfl, rfl⟩
  obtain ⟨q3, eq3, hm⟩ := ob_some hm
  refine e_cV2 hko dX3_readAlternative_141 ml_RX3_154 (iz_row (rwb_57 hF.2.2.2.1)) (by decide) rfl (by omega) (Nat.le_of_ble_eq_true rfl) (tX4_put hko (rwb_57 hF.2.2.2.1) q1 J F hF x7 q2 _ eq3) ?_
  rintro _ _ ⟨rfl, rfl⟩
  refine e_aload_n (i := 0) rfl dX3_readAlternative_144 ?_
  refine q_getF 3 1 135 dX3_readAlternative_145 fl_RX3_12 rfl iz_134 (fr_134_1 hF.1) ?_
  obtain ⟨q4, eq4, hm⟩ := ob_some hm
  refine e_cV0 hko dX3_readAlternative_148 ml_RX3_227 iz_135 (by decide) rfl (by omega) (Nat.le_of_ble_eq_true rfl) (tX5_enter hko q3 J F hF _ eq4) ?_
  rintro _ _ ⟨rfl, rfl⟩
  refine e_aload_n (i := 0) rfl dX3_readAlternative_151 ?_
  refine q_getF 3 1 135 dX3_readAlternative_152 fl_RX3_12 rfl iz_134 (fr_134_1 hF.1) ?_
  refine e_iload_n (i := 3) rfl dX3_readAlternative_155 ?_
  refine e_aload_n (i := 0) rfl dX3_readAlternative_156 ?_
  refine q_getF 3 4 (F 134 4) dX3_readAlternative_157 fl_RX3_26 rfl iz_134 rfl ?_
  refine q_getF 0 0 ((F 134 4) + 1) dX3_readAlternative_160 fl_RX3_239 rfl (iz_bk hF.2.2.2.1) (frb_0 hF.1 hF.2.2.2.1) ?_
  refine e_iload (i := 4) rfl dX3_readAlternative_163 ?_
  refine e_iload (i := 6) rfl dX3_readAlternative_165 ?_
  obtain ⟨q5, eq5, hm⟩ := ob_some hm
  refine e_cV2 hko dX3_readAlternative_167 ml_RX3_266 (iz_ty (bk_ty hF.2.2.2.1)) (by decide) rfl (by omega) (Nat.le_of_ble_eq_true rfl) (tX10_branchT hko (bk_ty hF.2.2.2.1) q4 J F hF x4 x6 _ eq5) ?_
  rintro _ _ ⟨rfl, rfl⟩
  obtain ⟨q6, eq6, hm⟩ := ob_some hm
  refine e_cV2 hko dX3_readAlternative_170 ml_RX3_269 iz_135 (by decide) rfl (by omega) (Nat.le_of_ble_eq_true rfl) (tX5_setTalk hko q4 J F hF x3 q5 _ eq6) ?_
  rintro _ _ ⟨rfl, rfl⟩
  refine e_aload_n (i := 0) rfl dX3_readAlternative_173 ?_
  refine e_iload_n (i := 2) rfl dX3_readAlternative_174 ?_
  obtain ⟨q7, eq7, hm⟩ := ob_some hm
  refine e_cV1 hko dX3_readAlternative_175 ml_RX3_142 iz_134 (by decide) rfl (by omega) (Nat.le_of_ble_eq_true rfl) (hR.2.2.2.2 q6 J F x2 hF q7 eq7) ?_
  rintro _ _ ⟨rfl, rfl⟩
  refine q_istore (i := 8) (by decide) rfl dX3_readAlternative_178 ?_
  refine e_aload_n (i := 0) rfl dX3_readAlternative_180 ?_
  refine q_getF 3 1 135 dX3_readAlternative_181 fl_RX3_12 rfl iz_134 (fr_134_1 hF.1) ?_
  obtain ⟨q8, eq8, hm⟩ := ob_some hm
  refine e_cV0 hko dX3_readAlternative_184 ml_RX3_230 iz_135 (by decide) rfl (by omega) (Nat.le_of_ble_eq_true rfl) (tX5_leave hko q7.2 J F hF _ eq8) ?_
  rintro _ _ ⟨rfl, rfl⟩
  refine e_iload (i := 8) rfl dX3_readAlternative_187 ?_
  refine e_iret dX3_readAlternative_189 rfl ?_
  have hm := some_in hm
  subst hm
  exact ⟨rfl, rfl⟩
set_option maxRecDepth 100000 in
set_option maxHeartbeats 4000000 in
theorem tbX3_readAlternative {l : Launch} {K : a_KT} {g : a_GT} {IB : iT} {D0 : Nat} {R : sc_3readAlternativeT} (hko : a_kok K) (hB : 455 ≤ D0 + 1) (hR : sc_3readAlternative_ok l K g D0 R) (I : iT) (J : jT) (F : fT) (hF : FK F) (x1 : Int32) (x2 : Int32) (q : Int32 × iT) (hm : bX3_readAlternative R I F x1 x2 = some q) : C l K g (D0 + 1) 0 0 yX3_readAlternative cX3_readAlternative 9 (some .int) [.ref 134, .int x1, .int x2] (hg I IB J F) (fun r2 h2 => r2 = some (.int q.1) ∧ h2 = hg q.2 IB J F) := by
  unfold bX3_readAlternative at hm
  refine c_of [.ref 134, .int x1, .int x2, .null, .null, .null, .null, .null, .null] (by decide) (Nat.le_of_ble_eq_true rfl) rfl ?_
  refine e_aload_n (i := 0) rfl dX3_readAlternative_0 ?_
  refine q_getF 3 4 (F 134 4) dX3_readAlternative_1 fl_RX3_26 rfl iz_134 rfl ?_
  refine q_getF 0 12 ((F 134 4) + 49) dX3_readAlternative_4 fl_RX3_248 rfl (iz_bk hF.2.2.2.1) (frb_12 hF.1 hF.2.2.2.1) ?_
  refine e_iload_n (i := 1) rfl dX3_readAlternative_7 ?_
  obtain ⟨q9, eq9, hm⟩ := ob_some hm
  refine e_cV1 hko dX3_readAlternative_8 ml_RX3_257 (iz_row (rwb_49 hF.2.2.2.1)) (by decide) rfl (by omega) (Nat.le_of_ble_eq_true rfl) (tX4_at hko (rwb_49 hF.2.2.2.1) I J F hF x1 _ eq9) ?_
  rintro _ _ ⟨rfl, rfl⟩
  refine q_istore_n (i := 3) (by decide) rfl dX3_readAlternative_11 ?_
  refine e_aload_n (i := 0) rfl dX3_readAlternative_12 ?_
  refine q_getF 3 1 135 dX3_readAlternative_13 fl_RX3_12 rfl iz_134 (fr_134_1 hF.1) ?_
  refine e_iload_n (i := 3) rfl dX3_readAlternative_16 ?_
  obtain ⟨q10, eq10, hm⟩ := ob_some hm
  refine e_cV1 hko dX3_readAlternative_17 ml_RX3_236 iz_135 (by decide) rfl (by omega) (Nat.le_of_ble_eq_true rfl) (tX5_talkAt hko I J F hF q9 _ eq10) ?_
  rintro _ _ ⟨rfl, rfl⟩
  refine q_istore (i := 4) (by decide) rfl dX3_readAlternative_20 ?_
  refine e_aload_n (i := 0) rfl dX3_readAlternative_22 ?_
  refine q_getF 3 0 6 dX3_readAlternative_23 fl_RX3_22 rfl iz_134 (fr_134_0 hF.1) ?_
  refine k_getI 2 8 dX3_readAlternative_26 fl_RX3_95 rfl iz_6 (by decide) ?_
  refine q_istore (i := 5) (by decide) rfl dX3_readAlternative_29 ?_
  refine e_aload_n (i := 0) rfl dX3_readAlternative_31 ?_
  refine q_getF 3 4 (F 134 4) dX3_readAlternative_32 fl_RX3_26 rfl iz_134 rfl ?_
  refine q_getF 0 0 ((F 134 4) + 1) dX3_readAlternative_35 fl_RX3_239 rfl (iz_bk hF.2.2.2.1) (frb_0 hF.1 hF.2.2.2.1) ?_
  refine e_iload (i := 4) rfl dX3_readAlternative_38 ?_
  refine e_aload_n (i := 0) rfl dX3_readAlternative_40 ?_
  refine q_getF 3 0 6 dX3_readAlternative_41 fl_RX3_22 rfl iz_134 (fr_134_0 hF.1) ?_
  obtain ⟨q11, eq11, hm⟩ := ob_some hm
  refine e_cV0 hko dX3_readAlternative_44 ml_RX3_98 iz_6 (by decide) rfl (by omega) (Nat.le_of_ble_eq_true rfl) (tX2_takeName hko I J F hF _ eq11) ?_
  rintro _ _ ⟨rfl, rfl⟩
  obtain ⟨q12, eq12, hm⟩ := ob_some hm
  refine e_cV2 hko dX3_readAlternative_47 ml_RX3_260 (iz_ty (bk_ty hF.2.2.2.1)) (by decide) rfl (by omega) (Nat.le_of_ble_eq_true rfl) (tX10_findBranch hko (bk_ty hF.2.2.2.1) q11.2 J F hF q10 q11.1 _ eq12) ?_
  rintro _ _ ⟨rfl, rfl⟩
  refine q_istore (i := 6) (by decide) rfl dX3_readAlternative_50 ?_
  refine e_aload_n (i := 0) rfl dX3_readAlternative_52 ?_
  refine q_getF 3 4 (F 134 4) dX3_readAlternative_53 fl_RX3_26 rfl iz_134 rfl ?_
  refine q_getF 0 13 ((F 134 4) + 51) dX3_readAlternative_56 fl_RX3_219 rfl (iz_bk hF.2.2.2.1) (frb_13 hF.1 hF.2.2.2.1) ?_
  refine e_iload_n (i := 1) rfl dX3_readAlternative_59 ?_
  obtain ⟨q13, eq13, hm⟩ := ob_some hm
  refine e_cV1 hko dX3_readAlternative_60 ml_RX3_257 (iz_row (rwb_51 hF.2.2.2.1)) (by decide) rfl (by omega) (Nat.le_of_ble_eq_true rfl) (tX4_at hko (rwb_51 hF.2.2.2.1) q11.2 J F hF x1 _ eq13) ?_
  rintro _ _ ⟨rfl, rfl⟩
  refine e_iload (i := 6) rfl dX3_readAlternative_63 ?_
  refine e_iadd dX3_readAlternative_65 ?_
  refine q_istore (i := 7) (by decide) rfl dX3_readAlternative_66 ?_
  refine e_iload (i := 6) rfl dX3_readAlternative_68 ?_
  refine e_iconst (v := (-1)) (by decide) dX3_readAlternative_70 ?_
  refine e_icmp_ne 87 dX3_readAlternative_71 (by decide) (fun c_71 => ?_) (fun c_71 => ?_)
  · have hm := it_n c_71 hm
    refine e_aload_n (i := 0) rfl dX3_readAlternative_87 ?_
    refine q_getF 3 4 (F 134 4) dX3_readAlternative_88 fl_RX3_26 rfl iz_134 rfl ?_
    refine q_getF 0 16 ((F 134 4) + 57) dX3_readAlternative_91 fl_RX3_263 rfl (iz_bk hF.2.2.2.1) (frb_16 hF.1 hF.2.2.2.1) ?_
    refine e_iload (i := 7) rfl dX3_readAlternative_94 ?_
    obtain ⟨q14, eq14, hm⟩ := ob_some hm
    refine e_cV1 hko dX3_readAlternative_96 ml_RX3_257 (iz_row (rwb_57 hF.2.2.2.1)) (by decide) rfl (by omega) (Nat.le_of_ble_eq_true rfl) (tX4_at hko (rwb_57 hF.2.2.2.1) q11.2 J F hF (q13 + q12) _ eq14) ?_
    rintro _ _ ⟨rfl, rfl⟩
    refine e_iconst (v := (-1)) (by decide) dX3_readAlternative_99 ?_
    refine e_icmp_eq 113 dX3_readAlternative_100 (by decide) (fun c_100 => ?_) (fun c_100 => ?_)
    · have hm := it_p c_100 hm
      refine e_weak [.ref 134, .int x1, .int x2, .int q9, .int q10, .int (I 6 8), .int q12, .int (q13 + q12), .null] ⟨rfl, ⟨rfl, ⟨rfl, ⟨rfl, ⟨rfl, ⟨rfl, ⟨rfl, ⟨rfl, ⟨trivial, trivial⟩⟩⟩⟩⟩⟩⟩⟩⟩ ?_
      exact tX3_readAlternative_113 hko hB hR q11.2 F x1 x2 q9 q10 (I 6 8) q12 (q13 + q12) hF _ hm
    · have hm := it_n c_100 hm
      refine e_aload_n (i := 0) rfl dX3_readAlternative_103 ?_
      refine q_getF 3 0 6 dX3_readAlternative_104 fl_RX3_22 rfl iz_134 (fr_134_0 hF.1) ?_
      refine e_iconst (v := 2) (by decide) dX3_readAlternative_107 ?_
      refine e_iload (i := 5) rfl dX3_readAlternative_108 ?_
      obtain ⟨q15, eq15, hm⟩ := ob_some hm
      refine e_cV2 hko dX3_readAlternative_110 ml_RX3_104 iz_6 (by decide) rfl (by omega) (Nat.le_of_ble_eq_true rfl) (tX2_refuse hko q11.2 J F hF 2 (I 6 8) _ eq15) ?_
      rintro _ _ ⟨rfl, rfl⟩
      refine e_weak [.ref 134, .int x1, .int x2, .int q9, .int q10, .int (I 6 8), .int q12, .int (q13 + q12), .null] ⟨rfl, ⟨rfl, ⟨rfl, ⟨rfl, ⟨rfl, ⟨rfl, ⟨rfl, ⟨rfl, ⟨trivial, trivial⟩⟩⟩⟩⟩⟩⟩⟩⟩ ?_
      exact tX3_readAlternative_113 hko hB hR q15 F x1 x2 q9 q10 (I 6 8) q12 (q13 + q12) hF _ hm
  · have hm := it_p c_71 hm
    refine e_aload_n (i := 0) rfl dX3_readAlternative_74 ?_
    refine q_getF 3 0 6 dX3_readAlternative_75 fl_RX3_22 rfl iz_134 (fr_134_0 hF.1) ?_
    refine e_iconst (v := 3) (by decide) dX3_readAlternative_78 ?_
    refine e_iload (i := 5) rfl dX3_readAlternative_79 ?_
    obtain ⟨q16, eq16, hm⟩ := ob_some hm
    refine e_cV2 hko dX3_readAlternative_81 ml_RX3_104 iz_6 (by decide) rfl (by omega) (Nat.le_of_ble_eq_true rfl) (tX2_refuse hko q11.2 J F hF 3 (I 6 8) _ eq16) ?_
    rintro _ _ ⟨rfl, rfl⟩
    refine e_goto 113 dX3_readAlternative_84 (by decide) ?_
    refine e_weak [.ref 134, .int x1, .int x2, .int q9, .int q10, .int (I 6 8), .int q12, .int (q13 + q12), .null] ⟨rfl, ⟨rfl, ⟨rfl, ⟨rfl, ⟨rfl, ⟨rfl, ⟨rfl, ⟨rfl, ⟨trivial, trivial⟩⟩⟩⟩⟩⟩⟩⟩⟩ ?_
    exact tX3_readAlternative_113 hko hB hR q16 F x1 x2 q9 q10 (I 6 8) q12 (q13 + q12) hF _ hm
set_option maxRecDepth 100000 in
set_option maxHeartbeats 4000000 in
theorem tbX3_readBraced {l : Launch} {K : a_KT} {g : a_GT} {IB : iT} {D0 : Nat} {R : sc_3readAlternativeT} (hko : a_kok K) (hB : 455 ≤ D0 + 1) (hR : sc_3readAlternative_ok l K g D0 R) (I : iT) (J : jT) (F : fT) (hF : FK F) (x1 : Int32) (q : Int32 × iT) (hm : bX3_readBraced R I F x1 = some q) : C l K g (D0 + 1) 0 0 yX3_readBraced cX3_readBraced 3 (some .int) [.ref 134, .int x1] (hg I IB J F) (fun r2 h2 => r2 = some (.int q.1) ∧ h2 = hg q.2 IB J F) := by
  unfold bX3_readBraced at hm
  refine c_of [.ref 134, .int x1, .null] (by decide) (Nat.le_of_ble_eq_true rfl) rfl ?_
  refine e_aload_n (i := 0) rfl dX3_readBraced_0 ?_
  refine q_getF 3 0 6 dX3_readBraced_1 fl_RX3_22 rfl iz_134 (fr_134_0 hF.1) ?_
  refine e_bipush (v := 123) (by decide) dX3_readBraced_4 ?_
  obtain ⟨q1, eq1, hm⟩ := ob_some hm
  refine e_cV1 hko dX3_readBraced_6 ml_RX3_78 iz_6 (by decide) rfl (by omega) (Nat.le_of_ble_eq_true rfl) (tX2_want hko I J F hF 123 _ eq1) ?_
  rintro _ _ ⟨rfl, rfl⟩
  refine e_aload_n (i := 0) rfl dX3_readBraced_9 ?_
  refine q_getF 3 1 135 dX3_readBraced_10 fl_RX3_12 rfl iz_134 (fr_134_1 hF.1) ?_
  obtain ⟨q2, eq2, hm⟩ := ob_some hm
  refine e_cV0 hko dX3_readBraced_13 ml_RX3_227 iz_135 (by decide) rfl (by omega) (Nat.le_of_ble_eq_true rfl) (tX5_enter hko q1 J F hF _ eq2) ?_
  rintro _ _ ⟨rfl, rfl⟩
  refine e_aload_n (i := 0) rfl dX3_readBraced_16 ?_
  refine e_iload_n (i := 1) rfl dX3_readBraced_17 ?_
  obtain ⟨q3, eq3, hm⟩ := ob_some hm
  refine e_cV1 hko dX3_readBraced_18 ml_RX3_142 iz_134 (by decide) rfl (by omega) (Nat.le_of_ble_eq_true rfl) (hR.2.2.2.2 q2 J F x1 hF q3 eq3) ?_
  rintro _ _ ⟨rfl, rfl⟩
  refine q_istore_n (i := 2) (by decide) rfl dX3_readBraced_21 ?_
  refine e_aload_n (i := 0) rfl dX3_readBraced_22 ?_
  refine q_getF 3 1 135 dX3_readBraced_23 fl_RX3_12 rfl iz_134 (fr_134_1 hF.1) ?_
  obtain ⟨q4, eq4, hm⟩ := ob_some hm
  refine e_cV0 hko dX3_readBraced_26 ml_RX3_230 iz_135 (by decide) rfl (by omega) (Nat.le_of_ble_eq_true rfl) (tX5_leave hko q3.2 J F hF _ eq4) ?_
  rintro _ _ ⟨rfl, rfl⟩
  refine e_aload_n (i := 0) rfl dX3_readBraced_29 ?_
  refine q_getF 3 0 6 dX3_readBraced_30 fl_RX3_22 rfl iz_134 (fr_134_0 hF.1) ?_
  refine e_bipush (v := 125) (by decide) dX3_readBraced_33 ?_
  obtain ⟨q5, eq5, hm⟩ := ob_some hm
  refine e_cV1 hko dX3_readBraced_35 ml_RX3_78 iz_6 (by decide) rfl (by omega) (Nat.le_of_ble_eq_true rfl) (tX2_want hko q4 J F hF 125 _ eq5) ?_
  rintro _ _ ⟨rfl, rfl⟩
  refine e_iload_n (i := 2) rfl dX3_readBraced_38 ?_
  refine e_iret dX3_readBraced_39 rfl ?_
  have hm := some_in hm
  subst hm
  exact ⟨rfl, rfl⟩
set_option maxRecDepth 100000 in
set_option maxHeartbeats 4000000 in
theorem tX3_readCase_209 {l : Launch} {K : a_KT} {g : a_GT} {IB : iT} {D0 : Nat} {R : sc_3readAlternativeT} (hko : a_kok K) (hB : 455 ≤ D0 + 1) (hR : sc_3readAlternative_ok l K g D0 R) {J : jT} (I : iT) (F : fT) (x1 : Int32) (x2 : Int32) (x3 : Int32) (x4 : Int32) (x5 : Int32) (x6 : Int32) (x7 : Int32) (x8 : Int32) (hF : FK F) (q : Int32 × iT) (hm : mX3_readCase_209 R I F x1 x2 x3 x4 x5 x6 x7 x8 = some q) : E l K g (D0 + 1) 0 0 yX3_readCase cX3_readCase 9 (some .int) 209 [.ref 134, .int x1, .int x2, .int x3, .int x4, .int x5, .int x6, .int x7, .int x8] [] (hg I IB J F) (fun r2 h2 => r2 = some (.int q.1) ∧ h2 = hg q.2 IB J F) := by
  unfold mX3_readCase_209 at hm
  refine e_aload_n (i := 0) rfl dX3_readCase_209 ?_
  refine q_getF 3 0 6 dX3_readCase_210 fl_RX3_22 rfl iz_134 (fr_134_0 hF.1) ?_
  refine e_bipush (v := 125) (by decide) dX3_readCase_213 ?_
  obtain ⟨q1, eq1, hm⟩ := ob_some hm
  refine e_cV1 hko dX3_readCase_215 ml_RX3_78 iz_6 (by decide) rfl (by omega) (Nat.le_of_ble_eq_true rfl) (tX2_want hko I J F hF 125 _ eq1) ?_
  rintro _ _ ⟨rfl, rfl⟩
  refine e_iload (i := 6) rfl dX3_readCase_218 ?_
  refine e_iret dX3_readCase_220 rfl ?_
  have hm := some_in hm
  subst hm
  exact ⟨rfl, rfl⟩
set_option maxRecDepth 100000 in
set_option maxHeartbeats 4000000 in
theorem tX3_readCase_175 {l : Launch} {K : a_KT} {g : a_GT} {IB : iT} {D0 : Nat} {R : sc_3readAlternativeT} (hko : a_kok K) (hB : 455 ≤ D0 + 1) (hR : sc_3readAlternative_ok l K g D0 R) {J : jT} (I : iT) (F : fT) (x1 : Int32) (x2 : Int32) (x3 : Int32) (x4 : Int32) (x5 : Int32) (x6 : Int32) (x7 : Int32) (x8 : Int32) (hF : FK F) (q : Int32 × iT) (hm : mX3_readCase_175 R I F x1 x2 x3 x4 x5 x6 x7 x8 = some q) : E l K g (D0 + 1) 0 0 yX3_readCase cX3_readCase 9 (some .int) 175 [.ref 134, .int x1, .int x2, .int x3, .int x4, .int x5, .int x6, .int x7, .int x8] [] (hg I IB J F) (fun r2 h2 => r2 = some (.int q.1) ∧ h2 = hg q.2 IB J F) := by
  unfold mX3_readCase_175 at hm
  refine e_aload_n (i := 0) rfl dX3_readCase_175 ?_
  refine q_getF 3 0 6 dX3_readCase_176 fl_RX3_22 rfl iz_134 (fr_134_0 hF.1) ?_
  refine e_bipush (v := 125) (by decide) dX3_readCase_179 ?_
  obtain ⟨q2, eq2, hm⟩ := ob_some hm
  refine e_cV1 hko dX3_readCase_181 ml_RX3_151 iz_6 (by decide) rfl (by omega) (Nat.le_of_ble_eq_true rfl) (tX2_is hko I J F hF 125 _ eq2) ?_
  rintro _ _ ⟨rfl, rfl⟩
  refine e_if_eq 209 dX3_readCase_184 (by decide) (fun c_184 => ?_) (fun c_184 => ?_)
  · have hm := it_p c_184 hm
    refine e_weak [.ref 134, .int x1, .int x2, .int x3, .int x4, .int x5, .int x6, .int x7, .int x8] ⟨rfl, ⟨rfl, ⟨rfl, ⟨rfl, ⟨rfl, ⟨rfl, ⟨rfl, ⟨rfl, ⟨rfl, trivial⟩⟩⟩⟩⟩⟩⟩⟩⟩ ?_
    exact tX3_readCase_209 hko hB hR I F x1 x2 x3 x4 x5 x6 x7 x8 hF _ hm
  · have hm := it_n c_184 hm
    refine e_iload (i := 7) rfl dX3_readCase_187 ?_
    refine e_iload (i := 5) rfl dX3_readCase_189 ?_
    refine e_icmp_ge 209 dX3_readCase_191 (by decide) (fun c_191 => ?_) (fun c_191 => ?_)
    · have hm := it_p c_191 hm
      refine e_weak [.ref 134, .int x1, .int x2, .int x3, .int x4, .int x5, .int x6, .int x7, .int x8] ⟨rfl, ⟨rfl, ⟨rfl, ⟨rfl, ⟨rfl, ⟨rfl, ⟨rfl, ⟨rfl, ⟨rfl, trivial⟩⟩⟩⟩⟩⟩⟩⟩⟩ ?_
      exact tX3_readCase_209 hko hB hR I F x1 x2 x3 x4 x5 x6 x7 x8 hF _ hm
    · have hm := it_n c_191 hm
      refine e_aload_n (i := 0) rfl dX3_readCase_194 ?_
      refine q_getF 3 0 6 dX3_readCase_195 fl_RX3_22 rfl iz_134 (fr_134_0 hF.1) ?_
      refine e_iconst (v := 3) (by decide) dX3_readCase_198 ?_
      refine e_aload_n (i := 0) rfl dX3_readCase_199 ?_
      refine q_getF 3 0 6 dX3_readCase_200 fl_RX3_22 rfl iz_134 (fr_134_0 hF.1) ?_
      refine k_getI 2 8 dX3_readCase_203 fl_RX3_95 rfl iz_6 (by decide) ?_
      obtain ⟨q3, eq3, hm⟩ := ob_some hm
      refine e_cV2 hko dX3_readCase_206 ml_RX3_104 iz_6 (by decide) rfl (by omega) (Nat.le_of_ble_eq_true rfl) (tX2_refuse hko I J F hF 3 (I 6 8) _ eq3) ?_
      rintro _ _ ⟨rfl, rfl⟩
      refine e_weak [.ref 134, .int x1, .int x2, .int x3, .int x4, .int x5, .int x6, .int x7, .int x8] ⟨rfl, ⟨rfl, ⟨rfl, ⟨rfl, ⟨rfl, ⟨rfl, ⟨rfl, ⟨rfl, ⟨rfl, trivial⟩⟩⟩⟩⟩⟩⟩⟩⟩ ?_
      exact tX3_readCase_209 hko hB hR q3 F x1 x2 x3 x4 x5 x6 x7 x8 hF _ hm
set_option maxRecDepth 100000 in
set_option maxHeartbeats 4000000 in
theorem tX3_readCase_119 {l : Launch} {K : a_KT} {g : a_GT} {IB : iT} {D0 : Nat} {R : sc_3readAlternativeT} (hko : a_kok K) (hB : 455 ≤ D0 + 1) (hR : sc_3readAlternative_ok l K g D0 R) {J : jT} : ∀ (n : Nat) (I : iT) (F : fT) (x1 : Int32) (x2 : Int32) (x3 : Int32) (x4 : Int32) (x5 : Int32) (x6 : Int32) (x7 : Int32) (x8 : Int32) (hF : FK F) (q : Int32 × iT), mX3_readCase_119 R n I F x1 x2 x3 x4 x5 x6 x7 x8 = some q → E l K g (D0 + 1) 0 0 yX3_readCase cX3_readCase 9 (some .int) 119 [.ref 134, .int x1, .int x2, .int x3, .int x4, .int x5, .int x6, .int x7, .int x8] [] (hg I IB J F) (fun r2 h2 => r2 = some (.int q.1) ∧ h2 = hg q.2 IB J F) := by
  intro n
  induction n with
  | zero => intro I F x1 x2 x3 x4 x5 x6 x7 x8 hF q hm; cases hm
  | succ n ih =>
    intro I F x1 x2 x3 x4 x5 x6 x7 x8 hF q hm
    rw [mX3_readCase_119] at hm
    refine e_iload (i := 8) rfl dX3_readCase_119 ?_
    refine e_bipush (v := 6) (by decide) dX3_readCase_121 ?_
    refine e_icmp_gt 175 dX3_readCase_123 (by decide) (fun c_123 => ?_) (fun c_123 => ?_)
    · have hm := it_p c_123 hm
      refine e_weak [.ref 134, .int x1, .int x2, .int x3, .int x4, .int x5, .int x6, .int x7, .int x8] ⟨rfl, ⟨rfl, ⟨rfl, ⟨rfl, ⟨rfl, ⟨rfl, ⟨rfl, ⟨rfl, ⟨rfl, trivial⟩⟩⟩⟩⟩⟩⟩⟩⟩ ?_
      exact tX3_readCase_175 hko hB hR I F x1 x2 x3 x4 x5 x6 x7 x8 hF _ hm
    · have hm := it_n c_123 hm
      refine e_aload_n (i := 0) rfl dX3_readCase_126 ?_
      refine q_getF 3 0 6 dX3_readCase_127 fl_RX3_22 rfl iz_134 (fr_134_0 hF.1) ?_
      obtain ⟨q4, eq4, hm⟩ := ob_some hm
      refine e_cV0 hko dX3_readCase_130 ml_RX3_164 iz_6 (by decide) rfl (by omega) (Nat.le_of_ble_eq_true rfl) (tX2_failed hko I J F hF _ eq4) ?_
      rintro _ _ ⟨rfl, rfl⟩
      refine e_if_ne 175 dX3_readCase_133 (by decide) (fun c_133 => ?_) (fun c_133 => ?_)
      · have hm := it_n c_133 hm
        refine e_weak [.ref 134, .int x1, .int x2, .int x3, .int x4, .int x5, .int x6, .int x7, .int x8] ⟨rfl, ⟨rfl, ⟨rfl, ⟨rfl, ⟨rfl, ⟨rfl, ⟨rfl, ⟨rfl, ⟨rfl, trivial⟩⟩⟩⟩⟩⟩⟩⟩⟩ ?_
        exact tX3_readCase_175 hko hB hR I F x1 x2 x3 x4 x5 x6 x7 x8 hF _ hm
      · have hm := it_p c_133 hm
        refine e_iload (i := 6) rfl dX3_readCase_136 ?_
        refine e_aload_n (i := 0) rfl dX3_readCase_138 ?_
        refine e_iload_n (i := 2) rfl dX3_readCase_139 ?_
        refine e_iload_n (i := 1) rfl dX3_readCase_140 ?_
        refine e_iconst (v := 1) (by decide) dX3_readCase_141 ?_
        refine e_iadd dX3_readCase_142 ?_
        obtain ⟨q5, eq5, hm⟩ := ob_some hm
        refine e_cV2 hko dX3_readCase_143 ml_RX3_254 iz_134 (by decide) rfl (by omega) (Nat.le_of_ble_eq_true rfl) (hR.1 I J F x2 (x1 + 1) hF q5 eq5) ?_
        rintro _ _ ⟨rfl, rfl⟩
        refine e_mmin dX3_readCase_146 ml_RX3_222 (by omega) (Nat.le_of_ble_eq_true rfl) ?_
        refine q_istore (i := 6) (by decide) rfl dX3_readCase_149 ?_
        refine q_iinc (i := 7) (x7 + 1) rfl ic_1 rfl dX3_readCase_151 ?_
        refine e_aload_n (i := 0) rfl dX3_readCase_154 ?_
        refine q_getF 3 0 6 dX3_readCase_155 fl_RX3_22 rfl iz_134 (fr_134_0 hF.1) ?_
        refine e_bipush (v := 124) (by decide) dX3_readCase_158 ?_
        obtain ⟨q6, eq6, hm⟩ := ob_some hm
        refine e_cV1 hko dX3_readCase_160 ml_RX3_64 iz_6 (by decide) rfl (by omega) (Nat.le_of_ble_eq_true rfl) (tX2_skip hko q5.2 J F hF 124 _ eq6) ?_
        rintro _ _ ⟨rfl, rfl⟩
        refine e_if_ne 169 dX3_readCase_163 (by decide) (fun c_163 => ?_) (fun c_163 => ?_)
        · have hm := it_n c_163 hm
          refine q_iinc (i := 8) (x8 + 1) rfl ic_1 rfl dX3_readCase_169 ?_
          refine e_goto 119 dX3_readCase_172 (by decide) ?_
          refine e_weak [.ref 134, .int x1, .int x2, .int x3, .int x4, .int x5, .int (if q5.1 < x6 then q5.1 else x6), .int (x7 + 1), .int (x8 + 1)] ⟨rfl, ⟨rfl, ⟨rfl, ⟨rfl, ⟨rfl, ⟨rfl, ⟨rfl, ⟨rfl, ⟨rfl, trivial⟩⟩⟩⟩⟩⟩⟩⟩⟩ ?_
          exact ih q6.2 F x1 x2 x3 x4 x5 (if q5.1 < x6 then q5.1 else x6) (x7 + 1) (x8 + 1) hF _ hm
        · have hm := it_p c_163 hm
          refine e_goto 175 dX3_readCase_166 (by decide) ?_
          refine e_weak [.ref 134, .int x1, .int x2, .int x3, .int x4, .int x5, .int (if q5.1 < x6 then q5.1 else x6), .int (x7 + 1), .int x8] ⟨rfl, ⟨rfl, ⟨rfl, ⟨rfl, ⟨rfl, ⟨rfl, ⟨rfl, ⟨rfl, ⟨rfl, trivial⟩⟩⟩⟩⟩⟩⟩⟩⟩ ?_
          exact tX3_readCase_175 hko hB hR q6.2 F x1 x2 x3 x4 x5 (if q5.1 < x6 then q5.1 else x6) (x7 + 1) x8 hF _ hm
set_option maxRecDepth 100000 in
set_option maxHeartbeats 4000000 in
theorem tbX3_readCase {l : Launch} {K : a_KT} {g : a_GT} {IB : iT} {D0 : Nat} {R : sc_3readAlternativeT} (hko : a_kok K) (hB : 455 ≤ D0 + 1) (hR : sc_3readAlternative_ok l K g D0 R) (I : iT) (J : jT) (F : fT) (hF : FK F) (x1 : Int32) (q : Int32 × iT) (hm : bX3_readCase R I F x1 = some q) : C l K g (D0 + 1) 0 0 yX3_readCase cX3_readCase 9 (some .int) [.ref 134, .int x1] (hg I IB J F) (fun r2 h2 => r2 = some (.int q.1) ∧ h2 = hg q.2 IB J F) := by
  unfold bX3_readCase at hm
  refine c_of [.ref 134, .int x1, .null, .null, .null, .null, .null, .null, .null] (by decide) (Nat.le_of_ble_eq_true rfl) rfl ?_
  refine e_aload_n (i := 0) rfl dX3_readCase_0 ?_
  refine q_getF 3 4 (F 134 4) dX3_readCase_1 fl_RX3_26 rfl iz_134 rfl ?_
  refine e_sipush (v := 308) (by decide) dX3_readCase_4 ?_
  obtain ⟨q7, eq7, hm⟩ := ob_some hm
  refine e_cV1 hko dX3_readCase_7 ml_RX3_201 (iz_bk hF.2.2.2.1) (by decide) rfl (by omega) (Nat.le_of_ble_eq_true rfl) (tX0_addNode hko hF.2.2.2.1 I J F hF 308 _ eq7) ?_
  rintro _ _ ⟨rfl, rfl⟩
  refine q_istore_n (i := 2) (by decide) rfl dX3_readCase_10 ?_
  refine e_aload_n (i := 0) rfl dX3_readCase_11 ?_
  refine e_iload_n (i := 1) rfl dX3_readCase_12 ?_
  obtain ⟨q8, eq8, hm⟩ := ob_some hm
  refine e_cV1 hko dX3_readCase_13 ml_RX3_204 iz_134 (by decide) rfl (by omega) (Nat.le_of_ble_eq_true rfl) (tX3_refuseOpen hko q7.2 J F hF x1 _ eq8) ?_
  rintro _ _ ⟨rfl, rfl⟩
  refine e_aload_n (i := 0) rfl dX3_readCase_16 ?_
  refine q_getF 3 0 6 dX3_readCase_17 fl_RX3_22 rfl iz_134 (fr_134_0 hF.1) ?_
  obtain ⟨q9, eq9, hm⟩ := ob_some hm
  refine e_cV0 hko dX3_readCase_20 ml_RX3_207 iz_6 (by decide) rfl (by omega) (Nat.le_of_ble_eq_true rfl) (tX2_advance hko q8 J F hF _ eq9) ?_
  rintro _ _ ⟨rfl, rfl⟩
  refine e_aload_n (i := 0) rfl dX3_readCase_23 ?_
  refine e_sipush (v := 308) (by decide) dX3_readCase_24 ?_
  obtain ⟨q10, eq10, hm⟩ := ob_some hm
  refine e_cV1 hko dX3_readCase_27 ml_RX3_233 iz_134 (by decide) rfl (by omega) (Nat.le_of_ble_eq_true rfl) (tX3_readChannel hko q9 J F hF 308 _ eq10) ?_
  rintro _ _ ⟨rfl, rfl⟩
  refine q_istore_n (i := 3) (by decide) rfl dX3_readCase_30 ?_
  refine e_aload_n (i := 0) rfl dX3_readCase_31 ?_
  refine q_getF 3 1 135 dX3_readCase_32 fl_RX3_12 rfl iz_134 (fr_134_1 hF.1) ?_
  refine e_iload_n (i := 3) rfl dX3_readCase_35 ?_
  obtain ⟨q11, eq11, hm⟩ := ob_some hm
  refine e_cV1 hko dX3_readCase_36 ml_RX3_236 iz_135 (by decide) rfl (by omega) (Nat.le_of_ble_eq_true rfl) (tX5_talkAt hko q10.2 J F hF q10.1 _ eq11) ?_
  rintro _ _ ⟨rfl, rfl⟩
  refine q_istore (i := 4) (by decide) rfl dX3_readCase_39 ?_
  refine e_aload_n (i := 0) rfl dX3_readCase_41 ?_
  refine q_getF 3 4 (F 134 4) dX3_readCase_42 fl_RX3_26 rfl iz_134 rfl ?_
  refine q_getF 0 0 ((F 134 4) + 1) dX3_readCase_45 fl_RX3_239 rfl (iz_bk hF.2.2.2.1) (frb_0 hF.1 hF.2.2.2.1) ?_
  refine e_iload (i := 4) rfl dX3_readCase_48 ?_
  obtain ⟨q12, eq12, hm⟩ := ob_some hm
  refine e_cV1 hko dX3_readCase_50 ml_RX3_243 (iz_ty (bk_ty hF.2.2.2.1)) (by decide) rfl (by omega) (Nat.le_of_ble_eq_true rfl) (tX10_branches hko (bk_ty hF.2.2.2.1) q10.2 J F hF q11 _ eq12) ?_
  rintro _ _ ⟨rfl, rfl⟩
  refine q_istore (i := 5) (by decide) rfl dX3_readCase_53 ?_
  refine e_aload_n (i := 0) rfl dX3_readCase_55 ?_
  refine q_getF 3 4 (F 134 4) dX3_readCase_56 fl_RX3_26 rfl iz_134 rfl ?_
  refine q_getF 0 12 ((F 134 4) + 49) dX3_readCase_59 fl_RX3_248 rfl (iz_bk hF.2.2.2.1) (frb_12 hF.1 hF.2.2.2.1) ?_
  refine e_iload_n (i := 2) rfl dX3_readCase_62 ?_
  refine e_iload_n (i := 3) rfl dX3_readCase_63 ?_
  obtain ⟨q13, eq13, hm⟩ := ob_some hm
  refine e_cV2 hko dX3_readCase_64 ml_RX3_154 (iz_row (rwb_49 hF.2.2.2.1)) (by decide) rfl (by omega) (Nat.le_of_ble_eq_true rfl) (tX4_put hko (rwb_49 hF.2.2.2.1) q10.2 J F hF q7.1 q10.1 _ eq13) ?_
  rintro _ _ ⟨rfl, rfl⟩
  refine e_aload_n (i := 0) rfl dX3_readCase_67 ?_
  refine q_getF 3 4 (F 134 4) dX3_readCase_68 fl_RX3_26 rfl iz_134 rfl ?_
  refine q_getF 0 13 ((F 134 4) + 51) dX3_readCase_71 fl_RX3_219 rfl (iz_bk hF.2.2.2.1) (frb_13 hF.1 hF.2.2.2.1) ?_
  refine e_iload_n (i := 2) rfl dX3_readCase_74 ?_
  refine e_aload_n (i := 0) rfl dX3_readCase_75 ?_
  refine q_getF 3 4 (F 134 4) dX3_readCase_76 fl_RX3_26 rfl iz_134 rfl ?_
  refine e_iload (i := 4) rfl dX3_readCase_79 ?_
  obtain ⟨q14, eq14, hm⟩ := ob_some hm
  refine e_cV1 hko dX3_readCase_81 ml_RX3_251 (iz_bk hF.2.2.2.1) (by decide) rfl (by omega) (Nat.le_of_ble_eq_true rfl) (tX0_addAlternatives hko hF.2.2.2.1 q13 J F hF q11 _ eq14) ?_
  rintro _ _ ⟨rfl, rfl⟩
  obtain ⟨q15, eq15, hm⟩ := ob_some hm
  refine e_cV2 hko dX3_readCase_84 ml_RX3_154 (iz_row (rwb_51 hF.2.2.2.1)) (by decide) rfl (by omega) (Nat.le_of_ble_eq_true rfl) (tX4_put hko (rwb_51 hF.2.2.2.1) q14.2 J F hF q7.1 q14.1 _ eq15) ?_
  rintro _ _ ⟨rfl, rfl⟩
  refine e_aload_n (i := 0) rfl dX3_readCase_87 ?_
  refine q_getF 3 4 (F 134 4) dX3_readCase_88 fl_RX3_26 rfl iz_134 rfl ?_
  refine q_getF 0 14 ((F 134 4) + 53) dX3_readCase_91 fl_RX3_210 rfl (iz_bk hF.2.2.2.1) (frb_14 hF.1 hF.2.2.2.1) ?_
  refine e_iload_n (i := 2) rfl dX3_readCase_94 ?_
  refine e_iload (i := 5) rfl dX3_readCase_95 ?_
  obtain ⟨q16, eq16, hm⟩ := ob_some hm
  refine e_cV2 hko dX3_readCase_97 ml_RX3_154 (iz_row (rwb_53 hF.2.2.2.1)) (by decide) rfl (by omega) (Nat.le_of_ble_eq_true rfl) (tX4_put hko (rwb_53 hF.2.2.2.1) q15 J F hF q7.1 q12 _ eq16) ?_
  rintro _ _ ⟨rfl, rfl⟩
  refine e_aload_n (i := 0) rfl dX3_readCase_100 ?_
  refine q_getF 3 0 6 dX3_readCase_101 fl_RX3_22 rfl iz_134 (fr_134_0 hF.1) ?_
  refine e_bipush (v := 123) (by decide) dX3_readCase_104 ?_
  obtain ⟨q17, eq17, hm⟩ := ob_some hm
  refine e_cV1 hko dX3_readCase_106 ml_RX3_78 iz_6 (by decide) rfl (by omega) (Nat.le_of_ble_eq_true rfl) (tX2_want hko q16 J F hF 123 _ eq17) ?_
  rintro _ _ ⟨rfl, rfl⟩
  refine e_bipush (v := 80) (by decide) dX3_readCase_109 ?_
  refine q_istore (i := 6) (by decide) rfl dX3_readCase_111 ?_
  refine e_iconst (v := 0) (by decide) dX3_readCase_113 ?_
  refine q_istore (i := 7) (by decide) rfl dX3_readCase_114 ?_
  refine e_iconst (v := 0) (by decide) dX3_readCase_116 ?_
  refine q_istore (i := 8) (by decide) rfl dX3_readCase_117 ?_
  refine e_weak [.ref 134, .int x1, .int q7.1, .int q10.1, .int q11, .int q12, .int 80, .int 0, .int 0] ⟨rfl, ⟨rfl, ⟨rfl, ⟨rfl, ⟨rfl, ⟨rfl, ⟨rfl, ⟨rfl, ⟨rfl, trivial⟩⟩⟩⟩⟩⟩⟩⟩⟩ ?_
  exact tX3_readCase_119 hko hB hR LF q17 F x1 q7.1 q10.1 q11 q12 80 0 0 hF _ hm
set_option maxRecDepth 100000 in
set_option maxHeartbeats 4000000 in
theorem tbX3_readIf {l : Launch} {K : a_KT} {g : a_GT} {IB : iT} {D0 : Nat} {R : sc_3readAlternativeT} (hko : a_kok K) (hB : 455 ≤ D0 + 1) (hR : sc_3readAlternative_ok l K g D0 R) (I : iT) (J : jT) (F : fT) (hF : FK F) (x1 : Int32) (q : Int32 × iT) (hm : bX3_readIf R I F x1 = some q) : C l K g (D0 + 1) 0 0 yX3_readIf cX3_readIf 4 (some .int) [.ref 134, .int x1] (hg I IB J F) (fun r2 h2 => r2 = some (.int q.1) ∧ h2 = hg q.2 IB J F) := by
  unfold bX3_readIf at hm
  refine c_of [.ref 134, .int x1, .null, .null] (by decide) (Nat.le_of_ble_eq_true rfl) rfl ?_
  refine e_aload_n (i := 0) rfl dX3_readIf_0 ?_
  refine q_getF 3 4 (F 134 4) dX3_readIf_1 fl_RX3_26 rfl iz_134 rfl ?_
  refine e_sipush (v := 312) (by decide) dX3_readIf_4 ?_
  obtain ⟨q1, eq1, hm⟩ := ob_some hm
  refine e_cV1 hko dX3_readIf_7 ml_RX3_201 (iz_bk hF.2.2.2.1) (by decide) rfl (by omega) (Nat.le_of_ble_eq_true rfl) (tX0_addNode hko hF.2.2.2.1 I J F hF 312 _ eq1) ?_
  rintro _ _ ⟨rfl, rfl⟩
  refine q_istore_n (i := 2) (by decide) rfl dX3_readIf_10 ?_
  refine e_aload_n (i := 0) rfl dX3_readIf_11 ?_
  refine e_iload_n (i := 1) rfl dX3_readIf_12 ?_
  obtain ⟨q2, eq2, hm⟩ := ob_some hm
  refine e_cV1 hko dX3_readIf_13 ml_RX3_204 iz_134 (by decide) rfl (by omega) (Nat.le_of_ble_eq_true rfl) (tX3_refuseOpen hko q1.2 J F hF x1 _ eq2) ?_
  rintro _ _ ⟨rfl, rfl⟩
  refine e_aload_n (i := 0) rfl dX3_readIf_16 ?_
  refine q_getF 3 0 6 dX3_readIf_17 fl_RX3_22 rfl iz_134 (fr_134_0 hF.1) ?_
  obtain ⟨q3, eq3, hm⟩ := ob_some hm
  refine e_cV0 hko dX3_readIf_20 ml_RX3_207 iz_6 (by decide) rfl (by omega) (Nat.le_of_ble_eq_true rfl) (tX2_advance hko q2 J F hF _ eq3) ?_
  rintro _ _ ⟨rfl, rfl⟩
  refine e_aload_n (i := 0) rfl dX3_readIf_23 ?_
  refine q_getF 3 4 (F 134 4) dX3_readIf_24 fl_RX3_26 rfl iz_134 rfl ?_
  refine q_getF 0 14 ((F 134 4) + 53) dX3_readIf_27 fl_RX3_210 rfl (iz_bk hF.2.2.2.1) (frb_14 hF.1 hF.2.2.2.1) ?_
  refine e_iload_n (i := 2) rfl dX3_readIf_30 ?_
  refine e_aload_n (i := 0) rfl dX3_readIf_31 ?_
  refine q_getF 3 3 147 dX3_readIf_32 fl_RX3_50 rfl iz_134 (fr_134_3 hF.1) ?_
  refine e_iconst (v := 0) (by decide) dX3_readIf_35 ?_
  refine e_iload_n (i := 1) rfl dX3_readIf_36 ?_
  refine e_iconst (v := 1) (by decide) dX3_readIf_37 ?_
  refine e_iadd dX3_readIf_38 ?_
  obtain ⟨q4, eq4, hm⟩ := ob_some hm
  refine e_cV2 hko dX3_readIf_39 ml_RX3_213 iz_147 (by decide) rfl (by omega) (Nat.le_of_ble_eq_true rfl) (tX7_readSum hko q3 J F hF 0 (x1 + 1) _ eq4) ?_
  rintro _ _ ⟨rfl, rfl⟩
  obtain ⟨q5, eq5, hm⟩ := ob_some hm
  refine e_cV2 hko dX3_readIf_42 ml_RX3_154 (iz_row (rwb_53 hF.2.2.2.1)) (by decide) rfl (by omega) (Nat.le_of_ble_eq_true rfl) (tX4_put hko (rwb_53 hF.2.2.2.1) q4.2 J F hF q1.1 q4.1 _ eq5) ?_
  rintro _ _ ⟨rfl, rfl⟩
  refine e_aload_n (i := 0) rfl dX3_readIf_45 ?_
  refine e_iload_n (i := 1) rfl dX3_readIf_46 ?_
  refine e_iconst (v := 1) (by decide) dX3_readIf_47 ?_
  refine e_iadd dX3_readIf_48 ?_
  obtain ⟨q6, eq6, hm⟩ := ob_some hm
  refine e_cV1 hko dX3_readIf_49 ml_RX3_216 iz_134 (by decide) rfl (by omega) (Nat.le_of_ble_eq_true rfl) (hR.2.1 q5 J F (x1 + 1) hF q6 eq6) ?_
  rintro _ _ ⟨rfl, rfl⟩
  refine q_istore_n (i := 3) (by decide) rfl dX3_readIf_52 ?_
  refine e_aload_n (i := 0) rfl dX3_readIf_53 ?_
  refine q_getF 3 0 6 dX3_readIf_54 fl_RX3_22 rfl iz_134 (fr_134_0 hF.1) ?_
  refine e_sipush (v := 313) (by decide) dX3_readIf_57 ?_
  obtain ⟨q7, eq7, hm⟩ := ob_some hm
  refine e_cV1 hko dX3_readIf_60 ml_RX3_78 iz_6 (by decide) rfl (by omega) (Nat.le_of_ble_eq_true rfl) (tX2_want hko q6.2 J F hF 313 _ eq7) ?_
  rintro _ _ ⟨rfl, rfl⟩
  refine e_aload_n (i := 0) rfl dX3_readIf_63 ?_
  refine q_getF 3 4 (F 134 4) dX3_readIf_64 fl_RX3_26 rfl iz_134 rfl ?_
  refine q_getF 0 13 ((F 134 4) + 51) dX3_readIf_67 fl_RX3_219 rfl (iz_bk hF.2.2.2.1) (frb_13 hF.1 hF.2.2.2.1) ?_
  refine e_iload_n (i := 2) rfl dX3_readIf_70 ?_
  refine e_aload_n (i := 0) rfl dX3_readIf_71 ?_
  refine q_getF 3 4 (F 134 4) dX3_readIf_72 fl_RX3_26 rfl iz_134 rfl ?_
  refine q_getF 0 11 ((F 134 4) + 47) dX3_readIf_75 fl_RX3_136 rfl (iz_bk hF.2.2.2.1) (frb_11 hF.1 hF.2.2.2.1) ?_
  obtain ⟨q8, eq8, hm⟩ := ob_some hm
  refine e_cV0 hko dX3_readIf_78 ml_RX3_108 (iz_row (rwb_47 hF.2.2.2.1)) (by decide) rfl (by omega) (Nat.le_of_ble_eq_true rfl) (tX4_size hko (rwb_47 hF.2.2.2.1) q7 J F hF _ eq8) ?_
  rintro _ _ ⟨rfl, rfl⟩
  obtain ⟨q9, eq9, hm⟩ := ob_some hm
  refine e_cV2 hko dX3_readIf_81 ml_RX3_154 (iz_row (rwb_51 hF.2.2.2.1)) (by decide) rfl (by omega) (Nat.le_of_ble_eq_true rfl) (tX4_put hko (rwb_51 hF.2.2.2.1) q7 J F hF q1.1 q8 _ eq9) ?_
  rintro _ _ ⟨rfl, rfl⟩
  refine e_iload_n (i := 3) rfl dX3_readIf_84 ?_
  refine e_aload_n (i := 0) rfl dX3_readIf_85 ?_
  refine e_iload_n (i := 1) rfl dX3_readIf_86 ?_
  refine e_iconst (v := 1) (by decide) dX3_readIf_87 ?_
  refine e_iadd dX3_readIf_88 ?_
  obtain ⟨q10, eq10, hm⟩ := ob_some hm
  refine e_cV1 hko dX3_readIf_89 ml_RX3_216 iz_134 (by decide) rfl (by omega) (Nat.le_of_ble_eq_true rfl) (hR.2.1 q9 J F (x1 + 1) hF q10 eq10) ?_
  rintro _ _ ⟨rfl, rfl⟩
  refine e_mmin dX3_readIf_92 ml_RX3_222 (by omega) (Nat.le_of_ble_eq_true rfl) ?_
  refine e_iret dX3_readIf_95 rfl ?_
  have hm := some_in hm
  subst hm
  exact ⟨rfl, rfl⟩
set_option maxRecDepth 100000 in
set_option maxHeartbeats 4000000 in
theorem tX3_readSteps_139 {l : Launch} {K : a_KT} {g : a_GT} {IB : iT} {D0 : Nat} {R : sc_3readAlternativeT} (hko : a_kok K) (hB : 455 ≤ D0 + 1) (hR : sc_3readAlternative_ok l K g D0 R) {J : jT} {k2 : iT → fT → Int32 → Int32 → Option (Int32 × iT)} (hk2 : ∀ (I : iT) (F : fT) (x1 : Int32) (x2 : Int32) (_ : FK F) (q : Int32 × iT), k2 I F x1 x2 = some q → E l K g (D0 + 1) 0 0 yX3_readSteps cX3_readSteps 4 (some .int) 2 [.ref 134, .int x1, .int x2, .null] [] (hg I IB J F) (fun r2 h2 => r2 = some (.int q.1) ∧ h2 = hg q.2 IB J F)) (I : iT) (F : fT) (x1 : Int32) (x2 : Int32) (x3 : Int32) (hF : FK F) (q : Int32 × iT) (hm : mX3_readSteps_139 R k2 I F x1 x2 x3 = some q) : E l K g (D0 + 1) 0 0 yX3_readSteps cX3_readSteps 4 (some .int) 139 [.ref 134, .int x1, .int x2, .int x3] [] (hg I IB J F) (fun r2 h2 => r2 = some (.int q.1) ∧ h2 = hg q.2 IB J F) := by
  unfold mX3_readSteps_139 at hm
  refine e_aload_n (i := 0) rfl dX3_readSteps_139 ?_
  refine q_getF 3 0 6 dX3_readSteps_140 fl_RX3_22 rfl iz_134 (fr_134_0 hF.1) ?_
  refine e_bipush (v := 59) (by decide) dX3_readSteps_143 ?_
  obtain ⟨q1, eq1, hm⟩ := ob_some hm
  refine e_cV1 hko dX3_readSteps_145 ml_RX3_78 iz_6 (by decide) rfl (by omega) (Nat.le_of_ble_eq_true rfl) (tX2_want hko I J F hF 59 _ eq1) ?_
  rintro _ _ ⟨rfl, rfl⟩
  refine q_iinc (i := 2) (x2 + 1) rfl ic_1 rfl dX3_readSteps_148 ?_
  refine e_goto 2 dX3_readSteps_151 (by decide) ?_
  refine e_weak [.ref 134, .int x1, .int (x2 + 1), .null] ⟨rfl, ⟨rfl, ⟨rfl, ⟨trivial, trivial⟩⟩⟩⟩ ?_
  exact hk2 q1 F x1 (x2 + 1) hF _ hm
set_option maxRecDepth 100000 in
set_option maxHeartbeats 4000000 in
theorem tX3_readSteps_2 {l : Launch} {K : a_KT} {g : a_GT} {IB : iT} {D0 : Nat} {R : sc_3readAlternativeT} (hko : a_kok K) (hB : 455 ≤ D0 + 1) (hR : sc_3readAlternative_ok l K g D0 R) {J : jT} : ∀ (n : Nat) (I : iT) (F : fT) (x1 : Int32) (x2 : Int32) (hF : FK F) (q : Int32 × iT), mX3_readSteps_2 R n I F x1 x2 = some q → E l K g (D0 + 1) 0 0 yX3_readSteps cX3_readSteps 4 (some .int) 2 [.ref 134, .int x1, .int x2, .null] [] (hg I IB J F) (fun r2 h2 => r2 = some (.int q.1) ∧ h2 = hg q.2 IB J F) := by
  intro n
  induction n with
  | zero => intro I F x1 x2 hF q hm; cases hm
  | succ n ih =>
    intro I F x1 x2 hF q hm
    rw [mX3_readSteps_2] at hm
    refine e_iload_n (i := 2) rfl dX3_readSteps_2 ?_
    refine e_bipush (v := 81) (by decide) dX3_readSteps_3 ?_
    refine e_icmp_gt 154 dX3_readSteps_5 (by decide) (fun c_5 => ?_) (fun c_5 => ?_)
    · have hm := it_p c_5 hm
      refine e_iconst (v := (-1)) (by decide) dX3_readSteps_154 ?_
      refine e_iret dX3_readSteps_155 rfl ?_
      have hm := some_in hm
      subst hm
      exact ⟨rfl, rfl⟩
    · have hm := it_n c_5 hm
      refine e_aload_n (i := 0) rfl dX3_readSteps_8 ?_
      refine q_getF 3 0 6 dX3_readSteps_9 fl_RX3_22 rfl iz_134 (fr_134_0 hF.1) ?_
      obtain ⟨q2, eq2, hm⟩ := ob_some hm
      refine e_cV0 hko dX3_readSteps_12 ml_RX3_164 iz_6 (by decide) rfl (by omega) (Nat.le_of_ble_eq_true rfl) (tX2_failed hko I J F hF _ eq2) ?_
      rintro _ _ ⟨rfl, rfl⟩
      refine e_if_ne 154 dX3_readSteps_15 (by decide) (fun c_15 => ?_) (fun c_15 => ?_)
      · have hm := it_n c_15 hm
        refine e_iconst (v := (-1)) (by decide) dX3_readSteps_154 ?_
        refine e_iret dX3_readSteps_155 rfl ?_
        have hm := some_in hm
        subst hm
        exact ⟨rfl, rfl⟩
      · have hm := it_p c_15 hm
        refine e_aload_n (i := 0) rfl dX3_readSteps_18 ?_
        refine q_getF 3 0 6 dX3_readSteps_19 fl_RX3_22 rfl iz_134 (fr_134_0 hF.1) ?_
        refine k_getI 2 6 dX3_readSteps_22 fl_RX3_168 rfl iz_6 (by decide) ?_
        refine q_istore_n (i := 3) (by decide) rfl dX3_readSteps_25 ?_
        refine e_aload_n (i := 0) rfl dX3_readSteps_26 ?_
        refine e_iload_n (i := 3) rfl dX3_readSteps_27 ?_
        obtain ⟨q3, eq3, hm⟩ := ob_some hm
        refine e_cV1 hko dX3_readSteps_28 ml_RX3_171 iz_134 (by decide) rfl (by omega) (Nat.le_of_ble_eq_true rfl) (tX3_countWord hko I J F hF (I 6 6) _ eq3) ?_
        rintro _ _ ⟨rfl, rfl⟩
        refine e_iload_n (i := 3) rfl dX3_readSteps_31 ?_
        by_cases c_32_0 : (I 6 6) = 308
        · have hm := it_p c_32_0 hm
          refine e_tableIn 90 dX3_readSteps_32 (by rw [c_32_0]; decide) (by rw [c_32_0]; decide) (off := 58) (by rw [c_32_0]; decide) (by decide) ?_
          refine e_iload_n (i := 2) rfl dX3_readSteps_90 ?_
          refine e_aload_n (i := 0) rfl dX3_readSteps_91 ?_
          refine e_iload_n (i := 1) rfl dX3_readSteps_92 ?_
          obtain ⟨q4, eq4, hm⟩ := ob_some hm
          refine e_cV1 hko dX3_readSteps_93 ml_RX3_177 iz_134 (by decide) rfl (by omega) (Nat.le_of_ble_eq_true rfl) (hR.2.2.1 q3 J F x1 hF q4 eq4) ?_
          rintro _ _ ⟨rfl, rfl⟩
          refine e_iadd dX3_readSteps_96 ?_
          refine e_iret dX3_readSteps_97 rfl ?_
          have hm := some_in hm
          subst hm
          exact ⟨rfl, rfl⟩
        have hm := it_n c_32_0 hm
        by_cases c_32_1 : (I 6 6) = 309
        · have hm := it_p c_32_1 hm
          refine e_tableIn 117 dX3_readSteps_32 (by rw [c_32_1]; decide) (by rw [c_32_1]; decide) (off := 85) (by rw [c_32_1]; decide) (by decide) ?_
          refine e_aload_n (i := 0) rfl dX3_readSteps_117 ?_
          refine e_iload_n (i := 1) rfl dX3_readSteps_118 ?_
          obtain ⟨q5, eq5, hm⟩ := ob_some hm
          refine e_cV1 hko dX3_readSteps_119 ml_RX3_189 iz_134 (by decide) rfl (by omega) (Nat.le_of_ble_eq_true rfl) (tX3_readNew hko q3 J F hF x1 _ eq5) ?_
          rintro _ _ ⟨rfl, rfl⟩
          refine e_goto 139 dX3_readSteps_122 (by decide) ?_
          refine e_weak [.ref 134, .int x1, .int x2, .int (I 6 6)] ⟨rfl, ⟨rfl, ⟨rfl, ⟨rfl, trivial⟩⟩⟩⟩ ?_
          exact tX3_readSteps_139 hko hB hR (ih) q5 F x1 x2 (I 6 6) hF _ hm
        have hm := it_n c_32_1 hm
        by_cases c_32_2 : (I 6 6) = 310
        · have hm := it_p c_32_2 hm
          refine e_tableIn 111 dX3_readSteps_32 (by rw [c_32_2]; decide) (by rw [c_32_2]; decide) (off := 79) (by rw [c_32_2]; decide) (by decide) ?_
          refine e_aload_n (i := 0) rfl dX3_readSteps_111 ?_
          obtain ⟨q6, eq6, hm⟩ := ob_some hm
          refine e_cV0 hko dX3_readSteps_112 ml_RX3_186 iz_134 (by decide) rfl (by omega) (Nat.le_of_ble_eq_true rfl) (tX3_readSame hko q3 J F hF _ eq6) ?_
          rintro _ _ ⟨rfl, rfl⟩
          refine e_iload_n (i := 2) rfl dX3_readSteps_115 ?_
          refine e_iret dX3_readSteps_116 rfl ?_
          have hm := some_in hm
          subst hm
          exact ⟨rfl, rfl⟩
        have hm := it_n c_32_2 hm
        by_cases c_32_3 : (I 6 6) = 311
        · have hm := it_p c_32_3 hm
          refine e_tableIn 104 dX3_readSteps_32 (by rw [c_32_3]; decide) (by rw [c_32_3]; decide) (off := 72) (by rw [c_32_3]; decide) (by decide) ?_
          refine e_aload_n (i := 0) rfl dX3_readSteps_104 ?_
          refine e_iload_n (i := 1) rfl dX3_readSteps_105 ?_
          obtain ⟨q7, eq7, hm⟩ := ob_some hm
          refine e_cV1 hko dX3_readSteps_106 ml_RX3_183 iz_134 (by decide) rfl (by omega) (Nat.le_of_ble_eq_true rfl) (tX3_readGo hko q3 J F hF x1 _ eq7) ?_
          rintro _ _ ⟨rfl, rfl⟩
          refine e_iload_n (i := 2) rfl dX3_readSteps_109 ?_
          refine e_iret dX3_readSteps_110 rfl ?_
          have hm := some_in hm
          subst hm
          exact ⟨rfl, rfl⟩
        have hm := it_n c_32_3 hm
        by_cases c_32_4 : (I 6 6) = 312
        · have hm := it_p c_32_4 hm
          refine e_tableIn 80 dX3_readSteps_32 (by rw [c_32_4]; decide) (by rw [c_32_4]; decide) (off := 48) (by rw [c_32_4]; decide) (by decide) ?_
          refine e_iload_n (i := 2) rfl dX3_readSteps_80 ?_
          refine e_iconst (v := 1) (by decide) dX3_readSteps_81 ?_
          refine e_isub dX3_readSteps_82 ?_
          refine e_aload_n (i := 0) rfl dX3_readSteps_83 ?_
          refine e_iload_n (i := 1) rfl dX3_readSteps_84 ?_
          obtain ⟨q8, eq8, hm⟩ := ob_some hm
          refine e_cV1 hko dX3_readSteps_85 ml_RX3_174 iz_134 (by decide) rfl (by omega) (Nat.le_of_ble_eq_true rfl) (hR.2.2.2.1 q3 J F x1 hF q8 eq8) ?_
          rintro _ _ ⟨rfl, rfl⟩
          refine e_iadd dX3_readSteps_88 ?_
          refine e_iret dX3_readSteps_89 rfl ?_
          have hm := some_in hm
          subst hm
          exact ⟨rfl, rfl⟩
        have hm := it_n c_32_4 hm
        by_cases c_32_5 : (I 6 6) = 313
        · have hm := it_p c_32_5 hm
          refine e_tableIn 133 dX3_readSteps_32 (by rw [c_32_5]; decide) (by rw [c_32_5]; decide) (off := 101) (by rw [c_32_5]; decide) (by decide) ?_
          refine e_aload_n (i := 0) rfl dX3_readSteps_133 ?_
          refine e_iload_n (i := 3) rfl dX3_readSteps_134 ?_
          refine e_iload_n (i := 1) rfl dX3_readSteps_135 ?_
          obtain ⟨q9, eq9, hm⟩ := ob_some hm
          refine e_cV2 hko dX3_readSteps_136 ml_RX3_195 iz_134 (by decide) rfl (by omega) (Nat.le_of_ble_eq_true rfl) (tX3_readTalk hko q3 J F hF (I 6 6) x1 _ eq9) ?_
          rintro _ _ ⟨rfl, rfl⟩
          refine e_weak [.ref 134, .int x1, .int x2, .int (I 6 6)] ⟨rfl, ⟨rfl, ⟨rfl, ⟨rfl, trivial⟩⟩⟩⟩ ?_
          exact tX3_readSteps_139 hko hB hR (ih) q9 F x1 x2 (I 6 6) hF _ hm
        have hm := it_n c_32_5 hm
        by_cases c_32_6 : (I 6 6) = 314
        · have hm := it_p c_32_6 hm
          refine e_tableIn 125 dX3_readSteps_32 (by rw [c_32_6]; decide) (by rw [c_32_6]; decide) (off := 93) (by rw [c_32_6]; decide) (by decide) ?_
          refine e_aload_n (i := 0) rfl dX3_readSteps_125 ?_
          refine e_iload_n (i := 1) rfl dX3_readSteps_126 ?_
          obtain ⟨q10, eq10, hm⟩ := ob_some hm
          refine e_cV1 hko dX3_readSteps_127 ml_RX3_192 iz_134 (by decide) rfl (by omega) (Nat.le_of_ble_eq_true rfl) (tX3_readSay hko q3 J F hF x1 _ eq10) ?_
          rintro _ _ ⟨rfl, rfl⟩
          refine e_goto 139 dX3_readSteps_130 (by decide) ?_
          refine e_weak [.ref 134, .int x1, .int x2, .int (I 6 6)] ⟨rfl, ⟨rfl, ⟨rfl, ⟨rfl, trivial⟩⟩⟩⟩ ?_
          exact tX3_readSteps_139 hko hB hR (ih) q10 F x1 x2 (I 6 6) hF _ hm
        have hm := it_n c_32_6 hm
        by_cases c_32_7 : (I 6 6) = 315
        · have hm := it_p c_32_7 hm
          refine e_tableIn 98 dX3_readSteps_32 (by rw [c_32_7]; decide) (by rw [c_32_7]; decide) (off := 66) (by rw [c_32_7]; decide) (by decide) ?_
          refine e_aload_n (i := 0) rfl dX3_readSteps_98 ?_
          obtain ⟨q11, eq11, hm⟩ := ob_some hm
          refine e_cV0 hko dX3_readSteps_99 ml_RX3_180 iz_134 (by decide) rfl (by omega) (Nat.le_of_ble_eq_true rfl) (tX3_readClose hko q3 J F hF _ eq11) ?_
          rintro _ _ ⟨rfl, rfl⟩
          refine e_iload_n (i := 2) rfl dX3_readSteps_102 ?_
          refine e_iret dX3_readSteps_103 rfl ?_
          have hm := some_in hm
          subst hm
          exact ⟨rfl, rfl⟩
        have hm := it_n c_32_7 hm
        have n_32_0 := lv_neT (a := 308) c_32_0 (by decide)
        have n_32_1 := lv_neT (a := 309) c_32_1 (by decide)
        have n_32_2 := lv_neT (a := 310) c_32_2 (by decide)
        have n_32_3 := lv_neT (a := 311) c_32_3 (by decide)
        have n_32_4 := lv_neT (a := 312) c_32_4 (by decide)
        have n_32_5 := lv_neT (a := 313) c_32_5 (by decide)
        have n_32_6 := lv_neT (a := 314) c_32_6 (by decide)
        have n_32_7 := lv_neT (a := 315) c_32_7 (by decide)
        refine e_tableOut 133 dX3_readSteps_32 (by omega) (by decide) ?_
        refine e_aload_n (i := 0) rfl dX3_readSteps_133 ?_
        refine e_iload_n (i := 3) rfl dX3_readSteps_134 ?_
        refine e_iload_n (i := 1) rfl dX3_readSteps_135 ?_
        obtain ⟨q12, eq12, hm⟩ := ob_some hm
        refine e_cV2 hko dX3_readSteps_136 ml_RX3_195 iz_134 (by decide) rfl (by omega) (Nat.le_of_ble_eq_true rfl) (tX3_readTalk hko q3 J F hF (I 6 6) x1 _ eq12) ?_
        rintro _ _ ⟨rfl, rfl⟩
        refine e_weak [.ref 134, .int x1, .int x2, .int (I 6 6)] ⟨rfl, ⟨rfl, ⟨rfl, ⟨rfl, trivial⟩⟩⟩⟩ ?_
        exact tX3_readSteps_139 hko hB hR (ih) q12 F x1 x2 (I 6 6) hF _ hm
set_option maxRecDepth 100000 in
set_option maxHeartbeats 4000000 in
theorem tbX3_readSteps {l : Launch} {K : a_KT} {g : a_GT} {IB : iT} {D0 : Nat} {R : sc_3readAlternativeT} (hko : a_kok K) (hB : 455 ≤ D0 + 1) (hR : sc_3readAlternative_ok l K g D0 R) (I : iT) (J : jT) (F : fT) (hF : FK F) (x1 : Int32) (q : Int32 × iT) (hm : bX3_readSteps R I F x1 = some q) : C l K g (D0 + 1) 0 0 yX3_readSteps cX3_readSteps 4 (some .int) [.ref 134, .int x1] (hg I IB J F) (fun r2 h2 => r2 = some (.int q.1) ∧ h2 = hg q.2 IB J F) := by
  unfold bX3_readSteps at hm
  refine c_of [.ref 134, .int x1, .null, .null] (by decide) (Nat.le_of_ble_eq_true rfl) rfl ?_
  refine e_iconst (v := 1) (by decide) dX3_readSteps_0 ?_
  refine q_istore_n (i := 2) (by decide) rfl dX3_readSteps_1 ?_
  refine e_weak [.ref 134, .int x1, .int 1, .null] ⟨rfl, ⟨rfl, ⟨rfl, ⟨trivial, trivial⟩⟩⟩⟩ ?_
  exact tX3_readSteps_2 hko hB hR LF I F x1 1 hF _ hm
set_option maxRecDepth 100000 in
set_option maxHeartbeats 4000000 in
theorem sc_3readAlternative_all {l : Launch} {K : a_KT} {g : a_GT} (hko : a_kok K) : ∀ n : Nat, sc_3readAlternative_ok l K g (455 + n) (sc_3readAlternative n) := by
  intro n
  induction n with
  | zero => exact ⟨(by intros; rename_i h; cases (show (none : Option _) = some _ from h)), (by intros; rename_i h; cases (show (none : Option _) = some _ from h)), (by intros; rename_i h; cases (show (none : Option _) = some _ from h)), (by intros; rename_i h; cases (show (none : Option _) = some _ from h)), (by intros; rename_i h; cases (show (none : Option _) = some _ from h))⟩
  | succ n ih =>
    exact ⟨fun I J F x1 x2 hF q hm => tbX3_readAlternative hko (by omega) ih I J F hF x1 x2 q hm, fun I J F x1 hF q hm => tbX3_readBraced hko (by omega) ih I J F hF x1 q hm, fun I J F x1 hF q hm => tbX3_readCase hko (by omega) ih I J F hF x1 q hm, fun I J F x1 hF q hm => tbX3_readIf hko (by omega) ih I J F hF x1 q hm, fun I J F x1 hF q hm => tbX3_readSteps hko (by omega) ih I J F hF x1 q hm⟩
theorem tX3_readAlternative {l : Launch} {K : a_KT} {g : a_GT} {IB : iT} (hko : a_kok K) (I : iT) (J : jT) (F : fT) (hF : FK F) (x1 : Int32) (x2 : Int32) (q : Int32 × iT) (hm : mX3_readAlternative SF I F x1 x2 = some q) : C l K g 905 0 0 yX3_readAlternative cX3_readAlternative 9 (some .int) [.ref 134, .int x1, .int x2] (hg I IB J F) (fun r2 h2 => r2 = some (.int q.1) ∧ h2 = hg q.2 IB J F) := (sc_3readAlternative_all hko SF).1 I J F x1 x2 hF q hm
theorem tX3_readBraced {l : Launch} {K : a_KT} {g : a_GT} {IB : iT} (hko : a_kok K) (I : iT) (J : jT) (F : fT) (hF : FK F) (x1 : Int32) (q : Int32 × iT) (hm : mX3_readBraced SF I F x1 = some q) : C l K g 905 0 0 yX3_readBraced cX3_readBraced 3 (some .int) [.ref 134, .int x1] (hg I IB J F) (fun r2 h2 => r2 = some (.int q.1) ∧ h2 = hg q.2 IB J F) := (sc_3readAlternative_all hko SF).2.1 I J F x1 hF q hm
theorem tX3_readCase {l : Launch} {K : a_KT} {g : a_GT} {IB : iT} (hko : a_kok K) (I : iT) (J : jT) (F : fT) (hF : FK F) (x1 : Int32) (q : Int32 × iT) (hm : mX3_readCase SF I F x1 = some q) : C l K g 905 0 0 yX3_readCase cX3_readCase 9 (some .int) [.ref 134, .int x1] (hg I IB J F) (fun r2 h2 => r2 = some (.int q.1) ∧ h2 = hg q.2 IB J F) := (sc_3readAlternative_all hko SF).2.2.1 I J F x1 hF q hm
theorem tX3_readIf {l : Launch} {K : a_KT} {g : a_GT} {IB : iT} (hko : a_kok K) (I : iT) (J : jT) (F : fT) (hF : FK F) (x1 : Int32) (q : Int32 × iT) (hm : mX3_readIf SF I F x1 = some q) : C l K g 905 0 0 yX3_readIf cX3_readIf 4 (some .int) [.ref 134, .int x1] (hg I IB J F) (fun r2 h2 => r2 = some (.int q.1) ∧ h2 = hg q.2 IB J F) := (sc_3readAlternative_all hko SF).2.2.2.1 I J F x1 hF q hm
theorem tX3_readSteps {l : Launch} {K : a_KT} {g : a_GT} {IB : iT} (hko : a_kok K) (I : iT) (J : jT) (F : fT) (hF : FK F) (x1 : Int32) (q : Int32 × iT) (hm : mX3_readSteps SF I F x1 = some q) : C l K g 905 0 0 yX3_readSteps cX3_readSteps 4 (some .int) [.ref 134, .int x1] (hg I IB J F) (fun r2 h2 => r2 = some (.int q.1) ∧ h2 = hg q.2 IB J F) := (sc_3readAlternative_all hko SF).2.2.2.2 I J F x1 hF q hm
theorem dX3_readDef_0 : decode cX3_readDef 0 = .ok (.aload_n 0, 1) := by decide +kernel
theorem dX3_readDef_1 : decode cX3_readDef 1 = .ok (.getfield 22, 3) := by decide +kernel
theorem dX3_readDef_4 : decode cX3_readDef 4 = .ok (.sipush 301, 3) := by decide +kernel
theorem dX3_readDef_7 : decode cX3_readDef 7 = .ok (.invokevirtual 78, 3) := by decide +kernel
theorem dX3_readDef_10 : decode cX3_readDef 10 = .ok (.aload_n 0, 1) := by decide +kernel
theorem dX3_readDef_11 : decode cX3_readDef 11 = .ok (.aload_n 0, 1) := by decide +kernel
theorem dX3_readDef_12 : decode cX3_readDef 12 = .ok (.getfield 26, 3) := by decide +kernel
theorem dX3_readDef_15 : decode cX3_readDef 15 = .ok (.getfield 111, 3) := by decide +kernel
theorem dX3_readDef_18 : decode cX3_readDef 18 = .ok (.bipush 12, 2) := by decide +kernel
theorem dX3_readDef_20 : decode cX3_readDef 20 = .ok (.invokevirtual 74, 3) := by decide +kernel
theorem dX3_readDef_23 : decode cX3_readDef 23 = .ok (.istore_n 1, 1) := by decide +kernel
theorem dX3_readDef_24 : decode cX3_readDef 24 = .ok (.aload_n 0, 1) := by decide +kernel
theorem dX3_readDef_25 : decode cX3_readDef 25 = .ok (.getfield 12, 3) := by decide +kernel
theorem dX3_readDef_28 : decode cX3_readDef 28 = .ok (.invokevirtual 114, 3) := by decide +kernel
theorem dX3_readDef_31 : decode cX3_readDef 31 = .ok (.aload_n 0, 1) := by decide +kernel
theorem dX3_readDef_32 : decode cX3_readDef 32 = .ok (.invokevirtual 117, 3) := by decide +kernel
theorem dX3_readDef_35 : decode cX3_readDef 35 = .ok (.aload_n 0, 1) := by decide +kernel
theorem dX3_readDef_36 : decode cX3_readDef 36 = .ok (.invokevirtual 120, 3) := by decide +kernel
theorem dX3_readDef_39 : decode cX3_readDef 39 = .ok (.istore_n 2, 1) := by decide +kernel
theorem dX3_readDef_40 : decode cX3_readDef 40 = .ok (.aload_n 0, 1) := by decide +kernel
theorem dX3_readDef_41 : decode cX3_readDef 41 = .ok (.getfield 22, 3) := by decide +kernel
theorem dX3_readDef_44 : decode cX3_readDef 44 = .ok (.bipush 58, 2) := by decide +kernel
theorem dX3_readDef_46 : decode cX3_readDef 46 = .ok (.invokevirtual 78, 3) := by decide +kernel
theorem dX3_readDef_49 : decode cX3_readDef 49 = .ok (.aload_n 0, 1) := by decide +kernel
theorem dX3_readDef_50 : decode cX3_readDef 50 = .ok (.getfield 35, 3) := by decide +kernel
theorem dX3_readDef_53 : decode cX3_readDef 53 = .ok (.invokevirtual 82, 3) := by decide +kernel
theorem dX3_readDef_56 : decode cX3_readDef 56 = .ok (.istore_n 3, 1) := by decide +kernel
theorem dX3_readDef_57 : decode cX3_readDef 57 = .ok (.aload_n 0, 1) := by decide +kernel
theorem dX3_readDef_58 : decode cX3_readDef 58 = .ok (.getfield 12, 3) := by decide +kernel
theorem dX3_readDef_61 : decode cX3_readDef 61 = .ok (.iconst 0, 1) := by decide +kernel
theorem dX3_readDef_62 : decode cX3_readDef 62 = .ok (.iload_n 2, 1) := by decide +kernel
theorem dX3_readDef_63 : decode cX3_readDef 63 = .ok (.iload_n 3, 1) := by decide +kernel
theorem dX3_readDef_64 : decode cX3_readDef 64 = .ok (.invokevirtual 123, 3) := by decide +kernel
theorem dX3_readDef_67 : decode cX3_readDef 67 = .ok (.aload_n 0, 1) := by decide +kernel
theorem dX3_readDef_68 : decode cX3_readDef 68 = .ok (.getfield 22, 3) := by decide +kernel
theorem dX3_readDef_71 : decode cX3_readDef 71 = .ok (.bipush 61, 2) := by decide +kernel
theorem dX3_readDef_73 : decode cX3_readDef 73 = .ok (.invokevirtual 78, 3) := by decide +kernel
theorem dX3_readDef_76 : decode cX3_readDef 76 = .ok (.aload_n 0, 1) := by decide +kernel
theorem dX3_readDef_77 : decode cX3_readDef 77 = .ok (.iconst 0, 1) := by decide +kernel
theorem dX3_readDef_78 : decode cX3_readDef 78 = .ok (.putfield 127, 3) := by decide +kernel
theorem dX3_readDef_81 : decode cX3_readDef 81 = .ok (.aload_n 0, 1) := by decide +kernel
theorem dX3_readDef_82 : decode cX3_readDef 82 = .ok (.getfield 26, 3) := by decide +kernel
theorem dX3_readDef_85 : decode cX3_readDef 85 = .ok (.getfield 130, 3) := by decide +kernel
theorem dX3_readDef_88 : decode cX3_readDef 88 = .ok (.iload_n 3, 1) := by decide +kernel
theorem dX3_readDef_89 : decode cX3_readDef 89 = .ok (.invokevirtual 86, 3) := by decide +kernel
theorem dX3_readDef_92 : decode cX3_readDef 92 = .ok (.pop, 1) := by decide +kernel
theorem dX3_readDef_93 : decode cX3_readDef 93 = .ok (.aload_n 0, 1) := by decide +kernel
theorem dX3_readDef_94 : decode cX3_readDef 94 = .ok (.getfield 26, 3) := by decide +kernel
theorem dX3_readDef_97 : decode cX3_readDef 97 = .ok (.getfield 133, 3) := by decide +kernel
theorem dX3_readDef_100 : decode cX3_readDef 100 = .ok (.aload_n 0, 1) := by decide +kernel
theorem dX3_readDef_101 : decode cX3_readDef 101 = .ok (.getfield 26, 3) := by decide +kernel
theorem dX3_readDef_104 : decode cX3_readDef 104 = .ok (.getfield 136, 3) := by decide +kernel
theorem dX3_readDef_107 : decode cX3_readDef 107 = .ok (.invokevirtual 108, 3) := by decide +kernel
theorem dX3_readDef_110 : decode cX3_readDef 110 = .ok (.invokevirtual 86, 3) := by decide +kernel
theorem dX3_readDef_113 : decode cX3_readDef 113 = .ok (.pop, 1) := by decide +kernel
theorem dX3_readDef_114 : decode cX3_readDef 114 = .ok (.aload_n 0, 1) := by decide +kernel
theorem dX3_readDef_115 : decode cX3_readDef 115 = .ok (.getfield 26, 3) := by decide +kernel
theorem dX3_readDef_118 : decode cX3_readDef 118 = .ok (.getfield 139, 3) := by decide +kernel
theorem dX3_readDef_121 : decode cX3_readDef 121 = .ok (.aload_n 0, 1) := by decide +kernel
theorem dX3_readDef_122 : decode cX3_readDef 122 = .ok (.iconst 0, 1) := by decide +kernel
theorem dX3_readDef_123 : decode cX3_readDef 123 = .ok (.invokevirtual 142, 3) := by decide +kernel
theorem dX3_readDef_126 : decode cX3_readDef 126 = .ok (.invokevirtual 86, 3) := by decide +kernel
theorem dX3_readDef_129 : decode cX3_readDef 129 = .ok (.pop, 1) := by decide +kernel
theorem dX3_readDef_130 : decode cX3_readDef 130 = .ok (.aload_n 0, 1) := by decide +kernel
theorem dX3_readDef_131 : decode cX3_readDef 131 = .ok (.getfield 26, 3) := by decide +kernel
theorem dX3_readDef_134 : decode cX3_readDef 134 = .ok (.getfield 145, 3) := by decide +kernel
theorem dX3_readDef_137 : decode cX3_readDef 137 = .ok (.aload_n 0, 1) := by decide +kernel
theorem dX3_readDef_138 : decode cX3_readDef 138 = .ok (.getfield 127, 3) := by decide +kernel
theorem dX3_readDef_141 : decode cX3_readDef 141 = .ok (.invokevirtual 86, 3) := by decide +kernel
theorem dX3_readDef_144 : decode cX3_readDef 144 = .ok (.pop, 1) := by decide +kernel
theorem dX3_readDef_145 : decode cX3_readDef 145 = .ok (.aload_n 0, 1) := by decide +kernel
theorem dX3_readDef_146 : decode cX3_readDef 146 = .ok (.getfield 26, 3) := by decide +kernel
theorem dX3_readDef_149 : decode cX3_readDef 149 = .ok (.getfield 111, 3) := by decide +kernel
theorem dX3_readDef_152 : decode cX3_readDef 152 = .ok (.iload_n 1, 1) := by decide +kernel
theorem dX3_readDef_153 : decode cX3_readDef 153 = .ok (.invokevirtual 86, 3) := by decide +kernel
theorem dX3_readDef_156 : decode cX3_readDef 156 = .ok (.pop, 1) := by decide +kernel
theorem dX3_readDef_157 : decode cX3_readDef 157 = .ok (.return_, 1) := by decide +kernel
def mX3_readDef (I : iT) (F : fT) : Option (iT) := (mX2_want I 301).bind fun q1 => (mX3_readFresh ((F 134 4) + 33) q1 12).bind fun q2 => (mX5_start q2.2).bind fun q3 => (mX3_readParams q3 F).bind fun q4 => (mX3_readFreshThing q4).bind fun q5 => (mX2_want q5.2 58).bind fun q6 => (mX9_readWhole q6 F).bind fun q7 => (mX5_set q7.2 0 q5.1 q7.1).bind fun q8 => (mX2_want q8 61).bind fun q9 => (mX4_add ((F 134 4) + 35) (a_u2 q9 134 5 0) q7.1).bind fun q10 => (mX4_size ((F 134 4) + 47) q10.2).bind fun q11 => (mX4_add ((F 134 4) + 37) q10.2 q11).bind fun q12 => (mX3_readSteps SF q12.2 F 0).bind fun q13 => (mX4_add ((F 134 4) + 41) q13.2 q13.1).bind fun q14 => (mX4_add ((F 134 4) + 39) q14.2 (q14.2 134 5)).bind fun q15 => (mX4_add ((F 134 4) + 33) q15.2 q2.1).bind fun q16 => some q16.2
set_option maxRecDepth 100000 in
set_option maxHeartbeats 4000000 in
theorem tX3_readDef {l : Launch} {K : a_KT} {g : a_GT} {IB : iT} (hko : a_kok K) (I : iT) (J : jT) (F : fT) (hF : FK F) (q : iT) (hm : mX3_readDef I F = some q) : C l K g 906 0 0 yX3_readDef cX3_readDef 4 none [.ref 134] (hg I IB J F) (fun r2 h2 => r2 = none ∧ h2 = hg q IB J F) := by
  unfold mX3_readDef at hm
  refine c_of [.ref 134, .null, .null, .null] (by decide) (Nat.le_of_ble_eq_true rfl) rfl ?_
  refine e_aload_n (i := 0) rfl dX3_readDef_0 ?_
  refine q_getF 3 0 6 dX3_readDef_1 fl_RX3_22 rfl iz_134 (fr_134_0 hF.1) ?_
  refine e_sipush (v := 301) (by decide) dX3_readDef_4 ?_
  obtain ⟨q1, eq1, hm⟩ := ob_some hm
  refine e_cV1 hko dX3_readDef_7 ml_RX3_78 iz_6 (by decide) rfl (by omega) (Nat.le_of_ble_eq_true rfl) (tX2_want hko I J F hF 301 _ eq1) ?_
  rintro _ _ ⟨rfl, rfl⟩
  refine e_aload_n (i := 0) rfl dX3_readDef_10 ?_
  refine e_aload_n (i := 0) rfl dX3_readDef_11 ?_
  refine q_getF 3 4 (F 134 4) dX3_readDef_12 fl_RX3_26 rfl iz_134 rfl ?_
  refine q_getF 0 4 ((F 134 4) + 33) dX3_readDef_15 fl_RX3_111 rfl (iz_bk hF.2.2.2.1) (frb_4 hF.1 hF.2.2.2.1) ?_
  refine e_bipush (v := 12) (by decide) dX3_readDef_18 ?_
  obtain ⟨q2, eq2, hm⟩ := ob_some hm
  refine e_cV2 hko dX3_readDef_20 ml_RX3_74 iz_134 (by decide) rfl (by omega) (Nat.le_of_ble_eq_true rfl) (tX3_readFresh hko (rwb_33 hF.2.2.2.1) q1 J F hF 12 _ eq2) ?_
  rintro _ _ ⟨rfl, rfl⟩
  refine q_istore_n (i := 1) (by decide) rfl dX3_readDef_23 ?_
  refine e_aload_n (i := 0) rfl dX3_readDef_24 ?_
  refine q_getF 3 1 135 dX3_readDef_25 fl_RX3_12 rfl iz_134 (fr_134_1 hF.1) ?_
  obtain ⟨q3, eq3, hm⟩ := ob_some hm
  refine e_cV0 hko dX3_readDef_28 ml_RX3_114 iz_135 (by decide) rfl (by omega) (Nat.le_of_ble_eq_true rfl) (tX5_start hko q2.2 J F hF _ eq3) ?_
  rintro _ _ ⟨rfl, rfl⟩
  refine e_aload_n (i := 0) rfl dX3_readDef_31 ?_
  obtain ⟨q4, eq4, hm⟩ := ob_some hm
  refine e_cV0 hko dX3_readDef_32 ml_RX3_117 iz_134 (by decide) rfl (by omega) (Nat.le_of_ble_eq_true rfl) (tX3_readParams hko q3 J F hF _ eq4) ?_
  rintro _ _ ⟨rfl, rfl⟩
  refine e_aload_n (i := 0) rfl dX3_readDef_35 ?_
  obtain ⟨q5, eq5, hm⟩ := ob_some hm
  refine e_cV0 hko dX3_readDef_36 ml_RX3_120 iz_134 (by decide) rfl (by omega) (Nat.le_of_ble_eq_true rfl) (tX3_readFreshThing hko q4 J F hF _ eq5) ?_
  rintro _ _ ⟨rfl, rfl⟩
  refine q_istore_n (i := 2) (by decide) rfl dX3_readDef_39 ?_
  refine e_aload_n (i := 0) rfl dX3_readDef_40 ?_
  refine q_getF 3 0 6 dX3_readDef_41 fl_RX3_22 rfl iz_134 (fr_134_0 hF.1) ?_
  refine e_bipush (v := 58) (by decide) dX3_readDef_44 ?_
  obtain ⟨q6, eq6, hm⟩ := ob_some hm
  refine e_cV1 hko dX3_readDef_46 ml_RX3_78 iz_6 (by decide) rfl (by omega) (Nat.le_of_ble_eq_true rfl) (tX2_want hko q5.2 J F hF 58 _ eq6) ?_
  rintro _ _ ⟨rfl, rfl⟩
  refine e_aload_n (i := 0) rfl dX3_readDef_49 ?_
  refine q_getF 3 2 142 dX3_readDef_50 fl_RX3_35 rfl iz_134 (fr_134_2 hF.1) ?_
  obtain ⟨q7, eq7, hm⟩ := ob_some hm
  refine e_cV0 hko dX3_readDef_53 ml_RX3_82 iz_142 (by decide) rfl (by omega) (Nat.le_of_ble_eq_true rfl) (tX9_readWhole hko q6 J F hF _ eq7) ?_
  rintro _ _ ⟨rfl, rfl⟩
  refine q_istore_n (i := 3) (by decide) rfl dX3_readDef_56 ?_
  refine e_aload_n (i := 0) rfl dX3_readDef_57 ?_
  refine q_getF 3 1 135 dX3_readDef_58 fl_RX3_12 rfl iz_134 (fr_134_1 hF.1) ?_
  refine e_iconst (v := 0) (by decide) dX3_readDef_61 ?_
  refine e_iload_n (i := 2) rfl dX3_readDef_62 ?_
  refine e_iload_n (i := 3) rfl dX3_readDef_63 ?_
  obtain ⟨q8, eq8, hm⟩ := ob_some hm
  refine e_cV3 hko dX3_readDef_64 ml_RX3_123 iz_135 (by decide) rfl (by omega) (Nat.le_of_ble_eq_true rfl) (tX5_set hko q7.2 J F hF 0 q5.1 q7.1 _ eq8) ?_
  rintro _ _ ⟨rfl, rfl⟩
  refine e_aload_n (i := 0) rfl dX3_readDef_67 ?_
  refine q_getF 3 0 6 dX3_readDef_68 fl_RX3_22 rfl iz_134 (fr_134_0 hF.1) ?_
  refine e_bipush (v := 61) (by decide) dX3_readDef_71 ?_
  obtain ⟨q9, eq9, hm⟩ := ob_some hm
  refine e_cV1 hko dX3_readDef_73 ml_RX3_78 iz_6 (by decide) rfl (by omega) (Nat.le_of_ble_eq_true rfl) (tX2_want hko q8 J F hF 61 _ eq9) ?_
  rintro _ _ ⟨rfl, rfl⟩
  refine e_aload_n (i := 0) rfl dX3_readDef_76 ?_
  refine e_iconst (v := 0) (by decide) dX3_readDef_77 ?_
  refine k_putI 3 5 dX3_readDef_78 fl_RX3_127 rfl rfl iz_134 (by decide) ?_
  refine e_aload_n (i := 0) rfl dX3_readDef_81 ?_
  refine q_getF 3 4 (F 134 4) dX3_readDef_82 fl_RX3_26 rfl iz_134 rfl ?_
  refine q_getF 0 5 ((F 134 4) + 35) dX3_readDef_85 fl_RX3_130 rfl (iz_bk hF.2.2.2.1) (frb_5 hF.1 hF.2.2.2.1) ?_
  refine e_iload_n (i := 3) rfl dX3_readDef_88 ?_
  obtain ⟨q10, eq10, hm⟩ := ob_some hm
  refine e_cV1 hko dX3_readDef_89 ml_RX3_86 (iz_row (rwb_35 hF.2.2.2.1)) (by decide) rfl (by omega) (Nat.le_of_ble_eq_true rfl) (tX4_add hko (rwb_35 hF.2.2.2.1) (a_u2 q9 134 5 0) J F hF q7.1 _ eq10) ?_
  rintro _ _ ⟨rfl, rfl⟩
  refine e_pop rfl dX3_readDef_92 ?_
  refine e_aload_n (i := 0) rfl dX3_readDef_93 ?_
  refine q_getF 3 4 (F 134 4) dX3_readDef_94 fl_RX3_26 rfl iz_134 rfl ?_
  refine q_getF 0 6 ((F 134 4) + 37) dX3_readDef_97 fl_RX3_133 rfl (iz_bk hF.2.2.2.1) (frb_6 hF.1 hF.2.2.2.1) ?_
  refine e_aload_n (i := 0) rfl dX3_readDef_100 ?_
  refine q_getF 3 4 (F 134 4) dX3_readDef_101 fl_RX3_26 rfl iz_134 rfl ?_
  refine q_getF 0 11 ((F 134 4) + 47) dX3_readDef_104 fl_RX3_136 rfl (iz_bk hF.2.2.2.1) (frb_11 hF.1 hF.2.2.2.1) ?_
  obtain ⟨q11, eq11, hm⟩ := ob_some hm
  refine e_cV0 hko dX3_readDef_107 ml_RX3_108 (iz_row (rwb_47 hF.2.2.2.1)) (by decide) rfl (by omega) (Nat.le_of_ble_eq_true rfl) (tX4_size hko (rwb_47 hF.2.2.2.1) q10.2 J F hF _ eq11) ?_
  rintro _ _ ⟨rfl, rfl⟩
  obtain ⟨q12, eq12, hm⟩ := ob_some hm
  refine e_cV1 hko dX3_readDef_110 ml_RX3_86 (iz_row (rwb_37 hF.2.2.2.1)) (by decide) rfl (by omega) (Nat.le_of_ble_eq_true rfl) (tX4_add hko (rwb_37 hF.2.2.2.1) q10.2 J F hF q11 _ eq12) ?_
  rintro _ _ ⟨rfl, rfl⟩
  refine e_pop rfl dX3_readDef_113 ?_
  refine e_aload_n (i := 0) rfl dX3_readDef_114 ?_
  refine q_getF 3 4 (F 134 4) dX3_readDef_115 fl_RX3_26 rfl iz_134 rfl ?_
  refine q_getF 0 8 ((F 134 4) + 41) dX3_readDef_118 fl_RX3_139 rfl (iz_bk hF.2.2.2.1) (frb_8 hF.1 hF.2.2.2.1) ?_
  refine e_aload_n (i := 0) rfl dX3_readDef_121 ?_
  refine e_iconst (v := 0) (by decide) dX3_readDef_122 ?_
  obtain ⟨q13, eq13, hm⟩ := ob_some hm
  refine e_cV1 hko dX3_readDef_123 ml_RX3_142 iz_134 (by decide) rfl (by omega) (Nat.le_of_ble_eq_true rfl) (tX3_readSteps hko q12.2 J F hF 0 _ eq13) ?_
  rintro _ _ ⟨rfl, rfl⟩
  obtain ⟨q14, eq14, hm⟩ := ob_some hm
  refine e_cV1 hko dX3_readDef_126 ml_RX3_86 (iz_row (rwb_41 hF.2.2.2.1)) (by decide) rfl (by omega) (Nat.le_of_ble_eq_true rfl) (tX4_add hko (rwb_41 hF.2.2.2.1) q13.2 J F hF q13.1 _ eq14) ?_
  rintro _ _ ⟨rfl, rfl⟩
  refine e_pop rfl dX3_readDef_129 ?_
  refine e_aload_n (i := 0) rfl dX3_readDef_130 ?_
  refine q_getF 3 4 (F 134 4) dX3_readDef_131 fl_RX3_26 rfl iz_134 rfl ?_
  refine q_getF 0 7 ((F 134 4) + 39) dX3_readDef_134 fl_RX3_145 rfl (iz_bk hF.2.2.2.1) (frb_7 hF.1 hF.2.2.2.1) ?_
  refine e_aload_n (i := 0) rfl dX3_readDef_137 ?_
  refine k_getI 3 5 dX3_readDef_138 fl_RX3_127 rfl iz_134 (by decide) ?_
  obtain ⟨q15, eq15, hm⟩ := ob_some hm
  refine e_cV1 hko dX3_readDef_141 ml_RX3_86 (iz_row (rwb_39 hF.2.2.2.1)) (by decide) rfl (by omega) (Nat.le_of_ble_eq_true rfl) (tX4_add hko (rwb_39 hF.2.2.2.1) q14.2 J F hF (q14.2 134 5) _ eq15) ?_
  rintro _ _ ⟨rfl, rfl⟩
  refine e_pop rfl dX3_readDef_144 ?_
  refine e_aload_n (i := 0) rfl dX3_readDef_145 ?_
  refine q_getF 3 4 (F 134 4) dX3_readDef_146 fl_RX3_26 rfl iz_134 rfl ?_
  refine q_getF 0 4 ((F 134 4) + 33) dX3_readDef_149 fl_RX3_111 rfl (iz_bk hF.2.2.2.1) (frb_4 hF.1 hF.2.2.2.1) ?_
  refine e_iload_n (i := 1) rfl dX3_readDef_152 ?_
  obtain ⟨q16, eq16, hm⟩ := ob_some hm
  refine e_cV1 hko dX3_readDef_153 ml_RX3_86 (iz_row (rwb_33 hF.2.2.2.1)) (by decide) rfl (by omega) (Nat.le_of_ble_eq_true rfl) (tX4_add hko (rwb_33 hF.2.2.2.1) q15.2 J F hF q2.1 _ eq16) ?_
  rintro _ _ ⟨rfl, rfl⟩
  refine e_pop rfl dX3_readDef_156 ?_
  refine e_vret dX3_readDef_157 rfl ?_
  have hm := some_in hm
  subst hm
  exact ⟨rfl, rfl⟩
theorem dX3_readTypes_0 : decode cX3_readTypes 0 = .ok (.iconst 0, 1) := by decide +kernel
theorem dX3_readTypes_1 : decode cX3_readTypes 1 = .ok (.istore_n 1, 1) := by decide +kernel
theorem dX3_readTypes_2 : decode cX3_readTypes 2 = .ok (.iload_n 1, 1) := by decide +kernel
theorem dX3_readTypes_3 : decode cX3_readTypes 3 = .ok (.bipush 12, 2) := by decide +kernel
theorem dX3_readTypes_5 : decode cX3_readTypes 5 = .ok (.if_icmp .gt 86, 3) := by decide +kernel
theorem dX3_readTypes_8 : decode cX3_readTypes 8 = .ok (.aload_n 0, 1) := by decide +kernel
theorem dX3_readTypes_9 : decode cX3_readTypes 9 = .ok (.getfield 22, 3) := by decide +kernel
theorem dX3_readTypes_12 : decode cX3_readTypes 12 = .ok (.sipush 300, 3) := by decide +kernel
theorem dX3_readTypes_15 : decode cX3_readTypes 15 = .ok (.invokevirtual 64, 3) := by decide +kernel
theorem dX3_readTypes_18 : decode cX3_readTypes 18 = .ok (.ifCond .eq 73, 3) := by decide +kernel
theorem dX3_readTypes_21 : decode cX3_readTypes 21 = .ok (.aload_n 0, 1) := by decide +kernel
theorem dX3_readTypes_22 : decode cX3_readTypes 22 = .ok (.aload_n 0, 1) := by decide +kernel
theorem dX3_readTypes_23 : decode cX3_readTypes 23 = .ok (.getfield 26, 3) := by decide +kernel
theorem dX3_readTypes_26 : decode cX3_readTypes 26 = .ok (.getfield 70, 3) := by decide +kernel
theorem dX3_readTypes_29 : decode cX3_readTypes 29 = .ok (.bipush 12, 2) := by decide +kernel
theorem dX3_readTypes_31 : decode cX3_readTypes 31 = .ok (.invokevirtual 74, 3) := by decide +kernel
theorem dX3_readTypes_34 : decode cX3_readTypes 34 = .ok (.istore_n 2, 1) := by decide +kernel
theorem dX3_readTypes_35 : decode cX3_readTypes 35 = .ok (.aload_n 0, 1) := by decide +kernel
theorem dX3_readTypes_36 : decode cX3_readTypes 36 = .ok (.getfield 22, 3) := by decide +kernel
theorem dX3_readTypes_39 : decode cX3_readTypes 39 = .ok (.bipush 61, 2) := by decide +kernel
theorem dX3_readTypes_41 : decode cX3_readTypes 41 = .ok (.invokevirtual 78, 3) := by decide +kernel
theorem dX3_readTypes_44 : decode cX3_readTypes 44 = .ok (.aload_n 0, 1) := by decide +kernel
theorem dX3_readTypes_45 : decode cX3_readTypes 45 = .ok (.getfield 35, 3) := by decide +kernel
theorem dX3_readTypes_48 : decode cX3_readTypes 48 = .ok (.invokevirtual 82, 3) := by decide +kernel
theorem dX3_readTypes_51 : decode cX3_readTypes 51 = .ok (.istore_n 3, 1) := by decide +kernel
theorem dX3_readTypes_52 : decode cX3_readTypes 52 = .ok (.aload_n 0, 1) := by decide +kernel
theorem dX3_readTypes_53 : decode cX3_readTypes 53 = .ok (.getfield 22, 3) := by decide +kernel
theorem dX3_readTypes_56 : decode cX3_readTypes 56 = .ok (.bipush 59, 2) := by decide +kernel
theorem dX3_readTypes_58 : decode cX3_readTypes 58 = .ok (.invokevirtual 78, 3) := by decide +kernel
theorem dX3_readTypes_61 : decode cX3_readTypes 61 = .ok (.aload_n 0, 1) := by decide +kernel
theorem dX3_readTypes_62 : decode cX3_readTypes 62 = .ok (.getfield 26, 3) := by decide +kernel
theorem dX3_readTypes_65 : decode cX3_readTypes 65 = .ok (.getfield 70, 3) := by decide +kernel
theorem dX3_readTypes_68 : decode cX3_readTypes 68 = .ok (.iload_n 2, 1) := by decide +kernel
theorem dX3_readTypes_69 : decode cX3_readTypes 69 = .ok (.invokevirtual 86, 3) := by decide +kernel
theorem dX3_readTypes_72 : decode cX3_readTypes 72 = .ok (.pop, 1) := by decide +kernel
theorem dX3_readTypes_73 : decode cX3_readTypes 73 = .ok (.aload_n 0, 1) := by decide +kernel
theorem dX3_readTypes_74 : decode cX3_readTypes 74 = .ok (.getfield 26, 3) := by decide +kernel
theorem dX3_readTypes_77 : decode cX3_readTypes 77 = .ok (.getfield 92, 3) := by decide +kernel
theorem dX3_readTypes_80 : decode cX3_readTypes 80 = .ok (.iload_n 3, 1) := by decide +kernel
theorem dX3_readTypes_81 : decode cX3_readTypes 81 = .ok (.invokevirtual 86, 3) := by decide +kernel
theorem dX3_readTypes_84 : decode cX3_readTypes 84 = .ok (.pop, 1) := by decide +kernel
theorem dX3_readTypes_85 : decode cX3_readTypes 85 = .ok (.iinc 1 1, 3) := by decide +kernel
theorem dX3_readTypes_88 : decode cX3_readTypes 88 = .ok (.goto (-86), 3) := by decide +kernel
theorem dX3_readTypes_91 : decode cX3_readTypes 91 = .ok (.return_, 1) := by decide +kernel
def mX3_readTypes_2 : Nat → iT → fT → Int32 → Option (iT)
  | 0, _, _, _ => none
  | n + 1, I, F, x1 => if 12 < x1 then some I else (mX2_skip I 300).bind fun q1 => if q1.1 = 0 then some q1.2 else (mX3_readFresh ((F 134 4) + 29) q1.2 12).bind fun q2 => (mX2_want q2.2 61).bind fun q3 => (mX9_readWhole q3 F).bind fun q4 => (mX2_want q4.2 59).bind fun q5 => (mX4_add ((F 134 4) + 29) q5 q2.1).bind fun q6 => (mX4_add ((F 134 4) + 31) q6.2 q4.1).bind fun q7 => mX3_readTypes_2 n q7.2 F (x1 + 1)
def mX3_readTypes (I : iT) (F : fT) : Option (iT) := mX3_readTypes_2 LF I F 0
set_option maxRecDepth 100000 in
set_option maxHeartbeats 4000000 in
theorem tX3_readTypes_2 {l : Launch} {K : a_KT} {g : a_GT} {IB : iT} (hko : a_kok K) {J : jT} : ∀ (n : Nat) (I : iT) (F : fT) (x1 : Int32) (hF : FK F) (q : iT), mX3_readTypes_2 n I F x1 = some q → E l K g 455 0 0 yX3_readTypes cX3_readTypes 4 none 2 [.ref 134, .int x1, .null, .null] [] (hg I IB J F) (fun r2 h2 => r2 = none ∧ h2 = hg q IB J F) := by
  intro n
  induction n with
  | zero => intro I F x1 hF q hm; cases hm
  | succ n ih =>
    intro I F x1 hF q hm
    rw [mX3_readTypes_2] at hm
    refine e_iload_n (i := 1) rfl dX3_readTypes_2 ?_
    refine e_bipush (v := 12) (by decide) dX3_readTypes_3 ?_
    refine e_icmp_gt 91 dX3_readTypes_5 (by decide) (fun c_5 => ?_) (fun c_5 => ?_)
    · have hm := it_p c_5 hm
      refine e_vret dX3_readTypes_91 rfl ?_
      have hm := some_in hm
      subst hm
      exact ⟨rfl, rfl⟩
    · have hm := it_n c_5 hm
      refine e_aload_n (i := 0) rfl dX3_readTypes_8 ?_
      refine q_getF 3 0 6 dX3_readTypes_9 fl_RX3_22 rfl iz_134 (fr_134_0 hF.1) ?_
      refine e_sipush (v := 300) (by decide) dX3_readTypes_12 ?_
      obtain ⟨q1, eq1, hm⟩ := ob_some hm
      refine e_cV1 hko dX3_readTypes_15 ml_RX3_64 iz_6 (by decide) rfl (by omega) (Nat.le_of_ble_eq_true rfl) (tX2_skip hko I J F hF 300 _ eq1) ?_
      rintro _ _ ⟨rfl, rfl⟩
      refine e_if_eq 91 dX3_readTypes_18 (by decide) (fun c_18 => ?_) (fun c_18 => ?_)
      · have hm := it_p c_18 hm
        refine e_vret dX3_readTypes_91 rfl ?_
        have hm := some_in hm
        subst hm
        exact ⟨rfl, rfl⟩
      · have hm := it_n c_18 hm
        refine e_aload_n (i := 0) rfl dX3_readTypes_21 ?_
        refine e_aload_n (i := 0) rfl dX3_readTypes_22 ?_
        refine q_getF 3 4 (F 134 4) dX3_readTypes_23 fl_RX3_26 rfl iz_134 rfl ?_
        refine q_getF 0 2 ((F 134 4) + 29) dX3_readTypes_26 fl_RX3_70 rfl (iz_bk hF.2.2.2.1) (frb_2 hF.1 hF.2.2.2.1) ?_
        refine e_bipush (v := 12) (by decide) dX3_readTypes_29 ?_
        obtain ⟨q2, eq2, hm⟩ := ob_some hm
        refine e_cV2 hko dX3_readTypes_31 ml_RX3_74 iz_134 (by decide) rfl (by omega) (Nat.le_of_ble_eq_true rfl) (tX3_readFresh hko (rwb_29 hF.2.2.2.1) q1.2 J F hF 12 _ eq2) ?_
        rintro _ _ ⟨rfl, rfl⟩
        refine q_istore_n (i := 2) (by decide) rfl dX3_readTypes_34 ?_
        refine e_aload_n (i := 0) rfl dX3_readTypes_35 ?_
        refine q_getF 3 0 6 dX3_readTypes_36 fl_RX3_22 rfl iz_134 (fr_134_0 hF.1) ?_
        refine e_bipush (v := 61) (by decide) dX3_readTypes_39 ?_
        obtain ⟨q3, eq3, hm⟩ := ob_some hm
        refine e_cV1 hko dX3_readTypes_41 ml_RX3_78 iz_6 (by decide) rfl (by omega) (Nat.le_of_ble_eq_true rfl) (tX2_want hko q2.2 J F hF 61 _ eq3) ?_
        rintro _ _ ⟨rfl, rfl⟩
        refine e_aload_n (i := 0) rfl dX3_readTypes_44 ?_
        refine q_getF 3 2 142 dX3_readTypes_45 fl_RX3_35 rfl iz_134 (fr_134_2 hF.1) ?_
        obtain ⟨q4, eq4, hm⟩ := ob_some hm
        refine e_cV0 hko dX3_readTypes_48 ml_RX3_82 iz_142 (by decide) rfl (by omega) (Nat.le_of_ble_eq_true rfl) (tX9_readWhole hko q3 J F hF _ eq4) ?_
        rintro _ _ ⟨rfl, rfl⟩
        refine q_istore_n (i := 3) (by decide) rfl dX3_readTypes_51 ?_
        refine e_aload_n (i := 0) rfl dX3_readTypes_52 ?_
        refine q_getF 3 0 6 dX3_readTypes_53 fl_RX3_22 rfl iz_134 (fr_134_0 hF.1) ?_
        refine e_bipush (v := 59) (by decide) dX3_readTypes_56 ?_
        obtain ⟨q5, eq5, hm⟩ := ob_some hm
        refine e_cV1 hko dX3_readTypes_58 ml_RX3_78 iz_6 (by decide) rfl (by omega) (Nat.le_of_ble_eq_true rfl) (tX2_want hko q4.2 J F hF 59 _ eq5) ?_
        rintro _ _ ⟨rfl, rfl⟩
        refine e_aload_n (i := 0) rfl dX3_readTypes_61 ?_
        refine q_getF 3 4 (F 134 4) dX3_readTypes_62 fl_RX3_26 rfl iz_134 rfl ?_
        refine q_getF 0 2 ((F 134 4) + 29) dX3_readTypes_65 fl_RX3_70 rfl (iz_bk hF.2.2.2.1) (frb_2 hF.1 hF.2.2.2.1) ?_
        refine e_iload_n (i := 2) rfl dX3_readTypes_68 ?_
        obtain ⟨q6, eq6, hm⟩ := ob_some hm
        refine e_cV1 hko dX3_readTypes_69 ml_RX3_86 (iz_row (rwb_29 hF.2.2.2.1)) (by decide) rfl (by omega) (Nat.le_of_ble_eq_true rfl) (tX4_add hko (rwb_29 hF.2.2.2.1) q5 J F hF q2.1 _ eq6) ?_
        rintro _ _ ⟨rfl, rfl⟩
        refine e_pop rfl dX3_readTypes_72 ?_
        refine e_aload_n (i := 0) rfl dX3_readTypes_73 ?_
        refine q_getF 3 4 (F 134 4) dX3_readTypes_74 fl_RX3_26 rfl iz_134 rfl ?_
        refine q_getF 0 3 ((F 134 4) + 31) dX3_readTypes_77 fl_RX3_92 rfl (iz_bk hF.2.2.2.1) (frb_3 hF.1 hF.2.2.2.1) ?_
        refine e_iload_n (i := 3) rfl dX3_readTypes_80 ?_
        obtain ⟨q7, eq7, hm⟩ := ob_some hm
        refine e_cV1 hko dX3_readTypes_81 ml_RX3_86 (iz_row (rwb_31 hF.2.2.2.1)) (by decide) rfl (by omega) (Nat.le_of_ble_eq_true rfl) (tX4_add hko (rwb_31 hF.2.2.2.1) q6.2 J F hF q4.1 _ eq7) ?_
        rintro _ _ ⟨rfl, rfl⟩
        refine e_pop rfl dX3_readTypes_84 ?_
        refine q_iinc (i := 1) (x1 + 1) rfl ic_1 rfl dX3_readTypes_85 ?_
        refine e_goto 2 dX3_readTypes_88 (by decide) ?_
        refine e_weak [.ref 134, .int (x1 + 1), .null, .null] ⟨rfl, ⟨rfl, ⟨trivial, ⟨trivial, trivial⟩⟩⟩⟩ ?_
        exact ih q7.2 F (x1 + 1) hF _ hm
set_option maxRecDepth 100000 in
set_option maxHeartbeats 4000000 in
theorem tX3_readTypes {l : Launch} {K : a_KT} {g : a_GT} {IB : iT} (hko : a_kok K) (I : iT) (J : jT) (F : fT) (hF : FK F) (q : iT) (hm : mX3_readTypes I F = some q) : C l K g 455 0 0 yX3_readTypes cX3_readTypes 4 none [.ref 134] (hg I IB J F) (fun r2 h2 => r2 = none ∧ h2 = hg q IB J F) := by
  unfold mX3_readTypes at hm
  refine c_of [.ref 134, .null, .null, .null] (by decide) (Nat.le_of_ble_eq_true rfl) rfl ?_
  refine e_iconst (v := 0) (by decide) dX3_readTypes_0 ?_
  refine q_istore_n (i := 1) (by decide) rfl dX3_readTypes_1 ?_
  refine e_weak [.ref 134, .int 0, .null, .null] ⟨rfl, ⟨rfl, ⟨trivial, ⟨trivial, trivial⟩⟩⟩⟩ ?_
  exact tX3_readTypes_2 hko LF I F 0 hF _ hm
theorem dX3_use_0 : decode cX3_use 0 = .ok (.aload_n 1, 1) := by decide +kernel
theorem dX3_use_1 : decode cX3_use 1 = .ok (.invokevirtual 54, 3) := by decide +kernel
theorem dX3_use_4 : decode cX3_use 4 = .ok (.aload_n 0, 1) := by decide +kernel
theorem dX3_use_5 : decode cX3_use 5 = .ok (.aload_n 1, 1) := by decide +kernel
theorem dX3_use_6 : decode cX3_use 6 = .ok (.putfield 26, 3) := by decide +kernel
theorem dX3_use_9 : decode cX3_use 9 = .ok (.aload_n 0, 1) := by decide +kernel
theorem dX3_use_10 : decode cX3_use 10 = .ok (.getfield 35, 3) := by decide +kernel
theorem dX3_use_13 : decode cX3_use 13 = .ok (.aload_n 1, 1) := by decide +kernel
theorem dX3_use_14 : decode cX3_use 14 = .ok (.invokevirtual 57, 3) := by decide +kernel
theorem dX3_use_17 : decode cX3_use 17 = .ok (.aload_n 0, 1) := by decide +kernel
theorem dX3_use_18 : decode cX3_use 18 = .ok (.getfield 50, 3) := by decide +kernel
theorem dX3_use_21 : decode cX3_use 21 = .ok (.aload_n 1, 1) := by decide +kernel
theorem dX3_use_22 : decode cX3_use 22 = .ok (.getfield 41, 3) := by decide +kernel
theorem dX3_use_25 : decode cX3_use 25 = .ok (.invokevirtual 61, 3) := by decide +kernel
theorem dX3_use_28 : decode cX3_use 28 = .ok (.aload_n 0, 1) := by decide +kernel
theorem dX3_use_29 : decode cX3_use 29 = .ok (.iconst (-1), 1) := by decide +kernel
theorem dX3_use_30 : decode cX3_use 30 = .ok (.putfield 18, 3) := by decide +kernel
theorem dX3_use_33 : decode cX3_use 33 = .ok (.return_, 1) := by decide +kernel
def mX3_use (a1 : Nat) (I : iT) (F : fT) : Option (iT × fT) := (mX0_clear a1 I).bind fun q1 => (mX9_use a1 q1 (a_u2 F 134 4 a1)).bind fun q3 => (mX7_use (a1 + 18) q3.2).bind fun q5 => some (a_u2 q3.1 134 6 ((-1)), q5)
set_option maxRecDepth 100000 in
set_option maxHeartbeats 4000000 in
theorem tX3_use {l : Launch} {K : a_KT} {g : a_GT} {IB : iT} (hko : a_kok K) {a1 : Nat} (ha1 : isBook a1) (I : iT) (J : jT) (F : fT) (hF : FK F) (q : iT × fT) (hm : mX3_use a1 I F = some q) : C l K g 3 0 0 yX3_use cX3_use 2 none [.ref 134, .ref a1] (hg I IB J F) (fun r2 h2 => r2 = none ∧ h2 = hg q.1 IB J q.2 ∧ FK q.2) := by
  unfold mX3_use at hm
  refine c_of [.ref 134, .ref a1] (by decide) (Nat.le_of_ble_eq_true rfl) rfl ?_
  refine e_aload_n (i := 1) rfl dX3_use_0 ?_
  obtain ⟨q1, eq1, hm⟩ := ob_some hm
  refine e_cV0 hko dX3_use_1 ml_RX3_54 (iz_bk ha1) (by decide) rfl (by omega) (Nat.le_of_ble_eq_true rfl) (tX0_clear hko ha1 I J F hF _ eq1) ?_
  rintro _ _ ⟨rfl, rfl⟩
  refine e_aload_n (i := 0) rfl dX3_use_4 ?_
  refine e_aload_n (i := 1) rfl dX3_use_5 ?_
  refine q_putF 3 4 dX3_use_6 fl_RX3_26 (Or.inl rfl) rfl iz_134 ?_
  have hF2 := fk_134_4 hF ha1
  refine e_aload_n (i := 0) rfl dX3_use_9 ?_
  refine q_getF 3 2 142 dX3_use_10 fl_RX3_35 rfl iz_134 (fr_134_2 hF2.1) ?_
  refine e_aload_n (i := 1) rfl dX3_use_13 ?_
  obtain ⟨q3, eq3, hm⟩ := ob_some hm
  refine e_cV1 hko dX3_use_14 ml_RX3_57 iz_142 (by decide) rfl (by omega) (Nat.le_of_ble_eq_true rfl) (tX9_use hko ha1 q1 J (a_u2 F 134 4 a1) hF2 _ eq3) ?_
  rintro _ _ ⟨rfl, rfl, hF4⟩
  refine e_aload_n (i := 0) rfl dX3_use_17 ?_
  refine q_getF 3 3 147 dX3_use_18 fl_RX3_50 rfl iz_134 (fr_134_3 hF4.1) ?_
  refine e_aload_n (i := 1) rfl dX3_use_21 ?_
  refine q_getF 0 1 (a1 + 18) dX3_use_22 fl_RX3_41 rfl (iz_bk ha1) (frb_1 hF4.1 ha1) ?_
  obtain ⟨q5, eq5, hm⟩ := ob_some hm
  refine e_cV1 hko dX3_use_25 ml_RX3_61 iz_147 (by decide) rfl (by omega) (Nat.le_of_ble_eq_true rfl) (tX7_use hko (bk_su ha1) q3.1 J q3.2 hF4 _ eq5) ?_
  rintro _ _ ⟨rfl, rfl, hF6⟩
  refine e_aload_n (i := 0) rfl dX3_use_28 ?_
  refine e_iconst (v := (-1)) (by decide) dX3_use_29 ?_
  refine k_putI 3 6 dX3_use_30 fl_RX3_18 rfl rfl iz_134 (by decide) ?_
  refine e_vret dX3_use_33 rfl ?_
  have hm := some_in hm
  subst hm
  exact ⟨rfl, rfl, hF6⟩
