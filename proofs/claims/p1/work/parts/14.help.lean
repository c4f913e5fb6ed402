/-! DECOMPILED: printed by wip/whole/gen_dec.py -/
theorem dX8_clear_0 : decode cX8_clear 0 = .ok (.aload_n 0, 1) := by decide +kernel
theorem dX8_clear_1 : decode cX8_clear 1 = .ok (.getfield 14, 3) := by decide +kernel
theorem dX8_clear_4 : decode cX8_clear 4 = .ok (.invokevirtual 32, 3) := by decide +kernel
theorem dX8_clear_7 : decode cX8_clear 7 = .ok (.aload_n 0, 1) := by decide +kernel
theorem dX8_clear_8 : decode cX8_clear 8 = .ok (.getfield 20, 3) := by decide +kernel
theorem dX8_clear_11 : decode cX8_clear 11 = .ok (.invokevirtual 32, 3) := by decide +kernel
theorem dX8_clear_14 : decode cX8_clear 14 = .ok (.aload_n 0, 1) := by decide +kernel
theorem dX8_clear_15 : decode cX8_clear 15 = .ok (.getfield 23, 3) := by decide +kernel
theorem dX8_clear_18 : decode cX8_clear 18 = .ok (.invokevirtual 32, 3) := by decide +kernel
theorem dX8_clear_21 : decode cX8_clear 21 = .ok (.aload_n 0, 1) := by decide +kernel
theorem dX8_clear_22 : decode cX8_clear 22 = .ok (.getfield 26, 3) := by decide +kernel
theorem dX8_clear_25 : decode cX8_clear 25 = .ok (.invokevirtual 32, 3) := by decide +kernel
theorem dX8_clear_28 : decode cX8_clear 28 = .ok (.aload_n 0, 1) := by decide +kernel
theorem dX8_clear_29 : decode cX8_clear 29 = .ok (.getfield 29, 3) := by decide +kernel
theorem dX8_clear_32 : decode cX8_clear 32 = .ok (.invokevirtual 32, 3) := by decide +kernel
theorem dX8_clear_35 : decode cX8_clear 35 = .ok (.return_, 1) := by decide +kernel
def mX8_clear (a0 : Nat) (I : iT) : Option (iT) := (mX4_clear (a0 + 1) I).bind fun q1 => (mX4_clear (a0 + 3) q1).bind fun q2 => (mX4_clear (a0 + 5) q2).bind fun q3 => (mX4_clear (a0 + 7) q3).bind fun q4 => (mX4_clear (a0 + 9) q4).bind fun q5 => some q5
set_option maxRecDepth 100000 in
set_option maxHeartbeats 4000000 in
theorem tX8_clear {l : Launch} {K : a_KT} {g : a_GT} {IB : iT} (hko : a_kok K) {a0 : Nat} (ha0 : isSums a0) (I : iT) (J : jT) (F : fT) (hF : FK F) (q : iT) (hm : mX8_clear a0 I = some q) : C l K g 1 0 0 yX8_clear cX8_clear 1 none [.ref a0] (hg I IB J F) (fun r2 h2 => r2 = none ∧ h2 = hg q IB J F) := by
  unfold mX8_clear at hm
  refine c_of [.ref a0] (by decide) (Nat.le_of_ble_eq_true rfl) rfl ?_
  refine e_aload_n (i := 0) rfl dX8_clear_0 ?_
  refine q_getF 8 0 (a0 + 1) dX8_clear_1 fl_RX8_14 rfl (iz_su ha0) (fru_0 hF.1 ha0) ?_
  obtain ⟨q1, eq1, hm⟩ := ob_some hm
  refine e_cV0 hko dX8_clear_4 ml_RX8_32 (iz_row (rwu_1 ha0)) (by decide) rfl (by omega) (Nat.le_of_ble_eq_true rfl) (tX4_clear hko (rwu_1 ha0) I J F hF _ eq1) ?_
  rintro _ _ ⟨rfl, rfl⟩
  refine e_aload_n (i := 0) rfl dX8_clear_7 ?_
  refine q_getF 8 1 (a0 + 3) dX8_clear_8 fl_RX8_20 rfl (iz_su ha0) (fru_1 hF.1 ha0) ?_
  obtain ⟨q2, eq2, hm⟩ := ob_some hm
  refine e_cV0 hko dX8_clear_11 ml_RX8_32 (iz_row (rwu_3 ha0)) (by decide) rfl (by omega) (Nat.le_of_ble_eq_true rfl) (tX4_clear hko (rwu_3 ha0) q1 J F hF _ eq2) ?_
  rintro _ _ ⟨rfl, rfl⟩
  refine e_aload_n (i := 0) rfl dX8_clear_14 ?_
  refine q_getF 8 2 (a0 + 5) dX8_clear_15 fl_RX8_23 rfl (iz_su ha0) (fru_2 hF.1 ha0) ?_
  obtain ⟨q3, eq3, hm⟩ := ob_some hm
  refine e_cV0 hko dX8_clear_18 ml_RX8_32 (iz_row (rwu_5 ha0)) (by decide) rfl (by omega) (Nat.le_of_ble_eq_true rfl) (tX4_clear hko (rwu_5 ha0) q2 J F hF _ eq3) ?_
  rintro _ _ ⟨rfl, rfl⟩
  refine e_aload_n (i := 0) rfl dX8_clear_21 ?_
  refine q_getF 8 3 (a0 + 7) dX8_clear_22 fl_RX8_26 rfl (iz_su ha0) (fru_3 hF.1 ha0) ?_
  obtain ⟨q4, eq4, hm⟩ := ob_some hm
  refine e_cV0 hko dX8_clear_25 ml_RX8_32 (iz_row (rwu_7 ha0)) (by decide) rfl (by omega) (Nat.le_of_ble_eq_true rfl) (tX4_clear hko (rwu_7 ha0) q3 J F hF _ eq4) ?_
  rintro _ _ ⟨rfl, rfl⟩
  refine e_aload_n (i := 0) rfl dX8_clear_28 ?_
  refine q_getF 8 4 (a0 + 9) dX8_clear_29 fl_RX8_29 rfl (iz_su ha0) (fru_4 hF.1 ha0) ?_
  obtain ⟨q5, eq5, hm⟩ := ob_some hm
  refine e_cV0 hko dX8_clear_32 ml_RX8_32 (iz_row (rwu_9 ha0)) (by decide) rfl (by omega) (Nat.le_of_ble_eq_true rfl) (tX4_clear hko (rwu_9 ha0) q4 J F hF _ eq5) ?_
  rintro _ _ ⟨rfl, rfl⟩
  refine e_vret dX8_clear_35 rfl ?_
  have hm := some_in hm
  subst hm
  exact ⟨rfl, rfl⟩
theorem dX11_shiftOf_0 : decode cX11_shiftOf 0 = .ok (.iconst 5, 1) := by decide +kernel
theorem dX11_shiftOf_1 : decode cX11_shiftOf 1 = .ok (.iconst 5, 1) := by decide +kernel
theorem dX11_shiftOf_2 : decode cX11_shiftOf 2 = .ok (.iload_n 0, 1) := by decide +kernel
theorem dX11_shiftOf_3 : decode cX11_shiftOf 3 = .ok (.isub, 1) := by decide +kernel
theorem dX11_shiftOf_4 : decode cX11_shiftOf 4 = .ok (.imul, 1) := by decide +kernel
theorem dX11_shiftOf_5 : decode cX11_shiftOf 5 = .ok (.ireturn, 1) := by decide +kernel
def mX11_shiftOf (x0 : Int32) : Option (Int32) := some (5 * (5 - x0))
set_option maxRecDepth 100000 in
set_option maxHeartbeats 4000000 in
theorem tX11_shiftOf {l : Launch} {K : a_KT} {g : a_GT} {IB : iT} (hko : a_kok K) (I : iT) (J : jT) (F : fT) (hF : FK F) (x0 : Int32) (q : Int32) (hm : mX11_shiftOf x0 = some q) : C l K g 0 0 0 yX11_shiftOf cX11_shiftOf 1 (some .int) [.int x0] (hg I IB J F) (fun r2 h2 => r2 = some (.int q) ∧ h2 = hg I IB J F) := by
  unfold mX11_shiftOf at hm
  refine c_of [.int x0] (by decide) (Nat.le_of_ble_eq_true rfl) rfl ?_
  refine e_iconst (v := 5) (by decide) dX11_shiftOf_0 ?_
  refine e_iconst (v := 5) (by decide) dX11_shiftOf_1 ?_
  refine e_iload_n (i := 0) rfl dX11_shiftOf_2 ?_
  refine e_isub dX11_shiftOf_3 ?_
  refine e_imul dX11_shiftOf_4 ?_
  refine e_iret dX11_shiftOf_5 rfl ?_
  have hm := some_in hm
  subst hm
  exact ⟨rfl, rfl⟩
theorem dX11_letterOf_0 : decode cX11_letterOf 0 = .ok (.iload_n 1, 1) := by decide +kernel
theorem dX11_letterOf_1 : decode cX11_letterOf 1 = .ok (.ifCond .lt 9, 3) := by decide +kernel
theorem dX11_letterOf_4 : decode cX11_letterOf 4 = .ok (.iload_n 1, 1) := by decide +kernel
theorem dX11_letterOf_5 : decode cX11_letterOf 5 = .ok (.bipush 6, 2) := by decide +kernel
theorem dX11_letterOf_7 : decode cX11_letterOf 7 = .ok (.if_icmp .lt 5, 3) := by decide +kernel
theorem dX11_letterOf_10 : decode cX11_letterOf 10 = .ok (.iconst (-1), 1) := by decide +kernel
theorem dX11_letterOf_11 : decode cX11_letterOf 11 = .ok (.ireturn, 1) := by decide +kernel
theorem dX11_letterOf_12 : decode cX11_letterOf 12 = .ok (.iload_n 0, 1) := by decide +kernel
theorem dX11_letterOf_13 : decode cX11_letterOf 13 = .ok (.iload_n 1, 1) := by decide +kernel
theorem dX11_letterOf_14 : decode cX11_letterOf 14 = .ok (.invokestatic 234, 3) := by decide +kernel
theorem dX11_letterOf_17 : decode cX11_letterOf 17 = .ok (.iushr, 1) := by decide +kernel
theorem dX11_letterOf_18 : decode cX11_letterOf 18 = .ok (.bipush 31, 2) := by decide +kernel
theorem dX11_letterOf_20 : decode cX11_letterOf 20 = .ok (.iand, 1) := by decide +kernel
theorem dX11_letterOf_21 : decode cX11_letterOf 21 = .ok (.istore_n 2, 1) := by decide +kernel
theorem dX11_letterOf_22 : decode cX11_letterOf 22 = .ok (.iload_n 2, 1) := by decide +kernel
theorem dX11_letterOf_23 : decode cX11_letterOf 23 = .ok (.ifCond .ne 7, 3) := by decide +kernel
theorem dX11_letterOf_26 : decode cX11_letterOf 26 = .ok (.iconst (-1), 1) := by decide +kernel
theorem dX11_letterOf_27 : decode cX11_letterOf 27 = .ok (.goto 7, 3) := by decide +kernel
theorem dX11_letterOf_30 : decode cX11_letterOf 30 = .ok (.bipush 96, 2) := by decide +kernel
theorem dX11_letterOf_32 : decode cX11_letterOf 32 = .ok (.iload_n 2, 1) := by decide +kernel
theorem dX11_letterOf_33 : decode cX11_letterOf 33 = .ok (.iadd, 1) := by decide +kernel
theorem dX11_letterOf_34 : decode cX11_letterOf 34 = .ok (.ireturn, 1) := by decide +kernel
def mX11_letterOf (x0 : Int32) (x1 : Int32) : Option (Int32) := if x1 < 0 then some ((-1)) else if x1 < 6 then (mX11_shiftOf x1).bind fun q1 => if (((x0.toUInt32 >>> (q1.toUInt32 &&& Int32.toUInt32 31)).toInt32) &&& 31) = 0 then some ((-1)) else some (96 + (((x0.toUInt32 >>> (q1.toUInt32 &&& Int32.toUInt32 31)).toInt32) &&& 31)) else some ((-1))
set_option maxRecDepth 100000 in
set_option maxHeartbeats 4000000 in
theorem tX11_letterOf {l : Launch} {K : a_KT} {g : a_GT} {IB : iT} (hko : a_kok K) (I : iT) (J : jT) (F : fT) (hF : FK F) (x0 : Int32) (x1 : Int32) (q : Int32) (hm : mX11_letterOf x0 x1 = some q) : C l K g 1 0 0 yX11_letterOf cX11_letterOf 3 (some .int) [.int x0, .int x1] (hg I IB J F) (fun r2 h2 => r2 = some (.int q) ∧ h2 = hg I IB J F) := by
  unfold mX11_letterOf at hm
  refine c_of [.int x0, .int x1, .null] (by decide) (Nat.le_of_ble_eq_true rfl) rfl ?_
  refine e_iload_n (i := 1) rfl dX11_letterOf_0 ?_
  refine e_if_lt 10 dX11_letterOf_1 (by decide) (fun c_1 => ?_) (fun c_1 => ?_)
  · have hm := it_p c_1 hm
    refine e_iconst (v := (-1)) (by decide) dX11_letterOf_10 ?_
    refine e_iret dX11_letterOf_11 rfl ?_
    have hm := some_in hm
    subst hm
    exact ⟨rfl, rfl⟩
  · have hm := it_n c_1 hm
    refine e_iload_n (i := 1) rfl dX11_letterOf_4 ?_
    refine e_bipush (v := 6) (by decide) dX11_letterOf_5 ?_
    refine e_icmp_lt 12 dX11_letterOf_7 (by decide) (fun c_7 => ?_) (fun c_7 => ?_)
    · have hm := it_p c_7 hm
      refine e_iload_n (i := 0) rfl dX11_letterOf_12 ?_
      refine e_iload_n (i := 1) rfl dX11_letterOf_13 ?_
      obtain ⟨q1, eq1, hm⟩ := ob_some hm
      refine e_cS1 hko dX11_letterOf_14 ml_RX11_234 (by omega) (Nat.le_of_ble_eq_true rfl) (tX11_shiftOf hko I J F hF x1 _ eq1) ?_
      rintro _ _ ⟨rfl, rfl⟩
      refine e_iushr dX11_letterOf_17 ?_
      refine e_bipush (v := 31) (by decide) dX11_letterOf_18 ?_
      refine e_iand dX11_letterOf_20 ?_
      refine q_istore_n (i := 2) (by decide) rfl dX11_letterOf_21 ?_
      refine e_iload_n (i := 2) rfl dX11_letterOf_22 ?_
      refine e_if_ne 30 dX11_letterOf_23 (by decide) (fun c_23 => ?_) (fun c_23 => ?_)
      · have hm := it_n c_23 hm
        refine e_bipush (v := 96) (by decide) dX11_letterOf_30 ?_
        refine e_iload_n (i := 2) rfl dX11_letterOf_32 ?_
        refine e_iadd dX11_letterOf_33 ?_
        refine e_iret dX11_letterOf_34 rfl ?_
        have hm := some_in hm
        subst hm
        exact ⟨rfl, rfl⟩
      · have hm := it_p c_23 hm
        refine e_iconst (v := (-1)) (by decide) dX11_letterOf_26 ?_
        refine e_goto 34 dX11_letterOf_27 (by decide) ?_
        refine e_iret dX11_letterOf_34 rfl ?_
        have hm := some_in hm
        subst hm
        exact ⟨rfl, rfl⟩
    · have hm := it_n c_7 hm
      refine e_iconst (v := (-1)) (by decide) dX11_letterOf_10 ?_
      refine e_iret dX11_letterOf_11 rfl ?_
      have hm := some_in hm
      subst hm
      exact ⟨rfl, rfl⟩
theorem dX11_lettersIn_0 : decode cX11_lettersIn 0 = .ok (.iconst 0, 1) := by decide +kernel
theorem dX11_lettersIn_1 : decode cX11_lettersIn 1 = .ok (.istore_n 1, 1) := by decide +kernel
theorem dX11_lettersIn_2 : decode cX11_lettersIn 2 = .ok (.iconst 0, 1) := by decide +kernel
theorem dX11_lettersIn_3 : decode cX11_lettersIn 3 = .ok (.istore_n 2, 1) := by decide +kernel
theorem dX11_lettersIn_4 : decode cX11_lettersIn 4 = .ok (.iload_n 2, 1) := by decide +kernel
theorem dX11_lettersIn_5 : decode cX11_lettersIn 5 = .ok (.bipush 6, 2) := by decide +kernel
theorem dX11_lettersIn_7 : decode cX11_lettersIn 7 = .ok (.if_icmp .ge 21, 3) := by decide +kernel
theorem dX11_lettersIn_10 : decode cX11_lettersIn 10 = .ok (.iload_n 0, 1) := by decide +kernel
theorem dX11_lettersIn_11 : decode cX11_lettersIn 11 = .ok (.iload_n 2, 1) := by decide +kernel
theorem dX11_lettersIn_12 : decode cX11_lettersIn 12 = .ok (.invokestatic 222, 3) := by decide +kernel
theorem dX11_lettersIn_15 : decode cX11_lettersIn 15 = .ok (.iconst (-1), 1) := by decide +kernel
theorem dX11_lettersIn_16 : decode cX11_lettersIn 16 = .ok (.if_icmp .eq 6, 3) := by decide +kernel
theorem dX11_lettersIn_19 : decode cX11_lettersIn 19 = .ok (.iinc 1 1, 3) := by decide +kernel
theorem dX11_lettersIn_22 : decode cX11_lettersIn 22 = .ok (.iinc 2 1, 3) := by decide +kernel
theorem dX11_lettersIn_25 : decode cX11_lettersIn 25 = .ok (.goto (-21), 3) := by decide +kernel
theorem dX11_lettersIn_28 : decode cX11_lettersIn 28 = .ok (.iload_n 1, 1) := by decide +kernel
theorem dX11_lettersIn_29 : decode cX11_lettersIn 29 = .ok (.ireturn, 1) := by decide +kernel
def mX11_lettersIn_22 (k4 : Int32 → Int32 → Int32 → Option (Int32)) (x0 : Int32) (x1 : Int32) (x2 : Int32) : Option (Int32) := k4 x0 x1 (x2 + 1)
def mX11_lettersIn_4 : Nat → Int32 → Int32 → Int32 → Option (Int32)
  | 0, _, _, _ => none
  | n + 1, x0, x1, x2 => if 6 ≤ x2 then some x1 else (mX11_letterOf x0 x2).bind fun q1 => if q1 = ((-1)) then mX11_lettersIn_22 (mX11_lettersIn_4 n) x0 x1 x2 else mX11_lettersIn_22 (mX11_lettersIn_4 n) x0 (x1 + 1) x2
def mX11_lettersIn (x0 : Int32) : Option (Int32) := mX11_lettersIn_4 LF x0 0 0
set_option maxRecDepth 100000 in
set_option maxHeartbeats 4000000 in
theorem tX11_lettersIn_22 {l : Launch} {K : a_KT} {g : a_GT} {IB : iT} (hko : a_kok K) {I : iT} {J : jT} {F : fT} {k4 : Int32 → Int32 → Int32 → Option (Int32)} (hk4 : ∀ (x0 : Int32) (x1 : Int32) (x2 : Int32) (_ : FK F) (q : Int32), k4 x0 x1 x2 = some q → E l K g 2 0 0 yX11_lettersIn cX11_lettersIn 3 (some .int) 4 [.int x0, .int x1, .int x2] [] (hg I IB J F) (fun r2 h2 => r2 = some (.int q) ∧ h2 = hg I IB J F)) (x0 : Int32) (x1 : Int32) (x2 : Int32) (hF : FK F) (q : Int32) (hm : mX11_lettersIn_22 k4 x0 x1 x2 = some q) : E l K g 2 0 0 yX11_lettersIn cX11_lettersIn 3 (some .int) 22 [.int x0, .int x1, .int x2] [] (hg I IB J F) (fun r2 h2 => r2 = some (.int q) ∧ h2 = hg I IB J F) := by
  unfold mX11_lettersIn_22 at hm
  refine q_iinc (i := 2) (x2 + 1) rfl ic_1 rfl dX11_lettersIn_22 ?_
  refine e_goto 4 dX11_lettersIn_25 (by decide) ?_
  refine e_weak [.int x0, .int x1, .int (x2 + 1)] ⟨rfl, ⟨rfl, ⟨rfl, trivial⟩⟩⟩ ?_
  exact hk4 x0 x1 (x2 + 1) hF _ hm
set_option maxRecDepth 100000 in
set_option maxHeartbeats 4000000 in
theorem tX11_lettersIn_4 {l : Launch} {K : a_KT} {g : a_GT} {IB : iT} (hko : a_kok K) {I : iT} {J : jT} {F : fT} : ∀ (n : Nat) (x0 : Int32) (x1 : Int32) (x2 : Int32) (hF : FK F) (q : Int32), mX11_lettersIn_4 n x0 x1 x2 = some q → E l K g 2 0 0 yX11_lettersIn cX11_lettersIn 3 (some .int) 4 [.int x0, .int x1, .int x2] [] (hg I IB J F) (fun r2 h2 => r2 = some (.int q) ∧ h2 = hg I IB J F) := by
  intro n
  induction n with
  | zero => intro x0 x1 x2 hF q hm; cases hm
  | succ n ih =>
    intro x0 x1 x2 hF q hm
    rw [mX11_lettersIn_4] at hm
    refine e_iload_n (i := 2) rfl dX11_lettersIn_4 ?_
    refine e_bipush (v := 6) (by decide) dX11_lettersIn_5 ?_
    refine e_icmp_ge 28 dX11_lettersIn_7 (by decide) (fun c_7 => ?_) (fun c_7 => ?_)
    · have hm := it_p c_7 hm
      refine e_iload_n (i := 1) rfl dX11_lettersIn_28 ?_
      refine e_iret dX11_lettersIn_29 rfl ?_
      have hm := some_in hm
      subst hm
      exact ⟨rfl, rfl⟩
    · have hm := it_n c_7 hm
      refine e_iload_n (i := 0) rfl dX11_lettersIn_10 ?_
      refine e_iload_n (i := 2) rfl dX11_lettersIn_11 ?_
      obtain ⟨q1, eq1, hm⟩ := ob_some hm
      refine e_cS2 hko dX11_lettersIn_12 ml_RX11_222 (by omega) (Nat.le_of_ble_eq_true rfl) (tX11_letterOf hko I J F hF x0 x2 _ eq1) ?_
      rintro _ _ ⟨rfl, rfl⟩
      refine e_iconst (v := (-1)) (by decide) dX11_lettersIn_15 ?_
      refine e_icmp_eq 22 dX11_lettersIn_16 (by decide) (fun c_16 => ?_) (fun c_16 => ?_)
      · have hm := it_p c_16 hm
        refine e_weak [.int x0, .int x1, .int x2] ⟨rfl, ⟨rfl, ⟨rfl, trivial⟩⟩⟩ ?_
        exact tX11_lettersIn_22 hko (ih) x0 x1 x2 hF _ hm
      · have hm := it_n c_16 hm
        refine q_iinc (i := 1) (x1 + 1) rfl ic_1 rfl dX11_lettersIn_19 ?_
        refine e_weak [.int x0, .int (x1 + 1), .int x2] ⟨rfl, ⟨rfl, ⟨rfl, trivial⟩⟩⟩ ?_
        exact tX11_lettersIn_22 hko (ih) x0 (x1 + 1) x2 hF _ hm
set_option maxRecDepth 100000 in
set_option maxHeartbeats 4000000 in
theorem tX11_lettersIn {l : Launch} {K : a_KT} {g : a_GT} {IB : iT} (hko : a_kok K) (I : iT) (J : jT) (F : fT) (hF : FK F) (x0 : Int32) (q : Int32) (hm : mX11_lettersIn x0 = some q) : C l K g 2 0 0 yX11_lettersIn cX11_lettersIn 3 (some .int) [.int x0] (hg I IB J F) (fun r2 h2 => r2 = some (.int q) ∧ h2 = hg I IB J F) := by
  unfold mX11_lettersIn at hm
  refine c_of [.int x0, .null, .null] (by decide) (Nat.le_of_ble_eq_true rfl) rfl ?_
  refine e_iconst (v := 0) (by decide) dX11_lettersIn_0 ?_
  refine q_istore_n (i := 1) (by decide) rfl dX11_lettersIn_1 ?_
  refine e_iconst (v := 0) (by decide) dX11_lettersIn_2 ?_
  refine q_istore_n (i := 2) (by decide) rfl dX11_lettersIn_3 ?_
  refine e_weak [.int x0, .int 0, .int 0] ⟨rfl, ⟨rfl, ⟨rfl, trivial⟩⟩⟩ ?_
  exact tX11_lettersIn_4 hko LF x0 0 0 hF _ hm
theorem dX1_clear_0 : decode cX1_clear 0 = .ok (.aload_n 0, 1) := by decide +kernel
theorem dX1_clear_1 : decode cX1_clear 1 = .ok (.getfield 14, 3) := by decide +kernel
theorem dX1_clear_4 : decode cX1_clear 4 = .ok (.invokevirtual 38, 3) := by decide +kernel
theorem dX1_clear_7 : decode cX1_clear 7 = .ok (.aload_n 0, 1) := by decide +kernel
theorem dX1_clear_8 : decode cX1_clear 8 = .ok (.getfield 20, 3) := by decide +kernel
theorem dX1_clear_11 : decode cX1_clear 11 = .ok (.invokevirtual 38, 3) := by decide +kernel
theorem dX1_clear_14 : decode cX1_clear 14 = .ok (.aload_n 0, 1) := by decide +kernel
theorem dX1_clear_15 : decode cX1_clear 15 = .ok (.getfield 23, 3) := by decide +kernel
theorem dX1_clear_18 : decode cX1_clear 18 = .ok (.invokevirtual 38, 3) := by decide +kernel
theorem dX1_clear_21 : decode cX1_clear 21 = .ok (.aload_n 0, 1) := by decide +kernel
theorem dX1_clear_22 : decode cX1_clear 22 = .ok (.getfield 26, 3) := by decide +kernel
theorem dX1_clear_25 : decode cX1_clear 25 = .ok (.invokevirtual 38, 3) := by decide +kernel
theorem dX1_clear_28 : decode cX1_clear 28 = .ok (.aload_n 0, 1) := by decide +kernel
theorem dX1_clear_29 : decode cX1_clear 29 = .ok (.getfield 29, 3) := by decide +kernel
theorem dX1_clear_32 : decode cX1_clear 32 = .ok (.invokevirtual 38, 3) := by decide +kernel
theorem dX1_clear_35 : decode cX1_clear 35 = .ok (.aload_n 0, 1) := by decide +kernel
theorem dX1_clear_36 : decode cX1_clear 36 = .ok (.getfield 32, 3) := by decide +kernel
theorem dX1_clear_39 : decode cX1_clear 39 = .ok (.invokevirtual 38, 3) := by decide +kernel
theorem dX1_clear_42 : decode cX1_clear 42 = .ok (.aload_n 0, 1) := by decide +kernel
theorem dX1_clear_43 : decode cX1_clear 43 = .ok (.getfield 35, 3) := by decide +kernel
theorem dX1_clear_46 : decode cX1_clear 46 = .ok (.invokevirtual 38, 3) := by decide +kernel
theorem dX1_clear_49 : decode cX1_clear 49 = .ok (.return_, 1) := by decide +kernel
def mX1_clear (I : iT) : Option (iT) := (mX4_clear 150 I).bind fun q1 => (mX4_clear 152 q1).bind fun q2 => (mX4_clear 154 q2).bind fun q3 => (mX4_clear 156 q3).bind fun q4 => (mX4_clear 158 q4).bind fun q5 => (mX4_clear 160 q5).bind fun q6 => (mX4_clear 162 q6).bind fun q7 => some q7
set_option maxRecDepth 100000 in
set_option maxHeartbeats 4000000 in
theorem tX1_clear {l : Launch} {K : a_KT} {g : a_GT} {IB : iT} (hko : a_kok K) (I : iT) (J : jT) (F : fT) (hF : FK F) (q : iT) (hm : mX1_clear I = some q) : C l K g 1 0 0 yX1_clear cX1_clear 1 none [.ref 149] (hg I IB J F) (fun r2 h2 => r2 = none ∧ h2 = hg q IB J F) := by
  unfold mX1_clear at hm
  refine c_of [.ref 149] (by decide) (Nat.le_of_ble_eq_true rfl) rfl ?_
  refine e_aload_n (i := 0) rfl dX1_clear_0 ?_
  refine q_getF 1 0 150 dX1_clear_1 fl_RX1_14 rfl iz_149 (fr_149_0 hF.1) ?_
  obtain ⟨q1, eq1, hm⟩ := ob_some hm
  refine e_cV0 hko dX1_clear_4 ml_RX1_38 iz_150 (by decide) rfl (by omega) (Nat.le_of_ble_eq_true rfl) (tX4_clear hko rw_150 I J F hF _ eq1) ?_
  rintro _ _ ⟨rfl, rfl⟩
  refine e_aload_n (i := 0) rfl dX1_clear_7 ?_
  refine q_getF 1 1 152 dX1_clear_8 fl_RX1_20 rfl iz_149 (fr_149_1 hF.1) ?_
  obtain ⟨q2, eq2, hm⟩ := ob_some hm
  refine e_cV0 hko dX1_clear_11 ml_RX1_38 iz_152 (by decide) rfl (by omega) (Nat.le_of_ble_eq_true rfl) (tX4_clear hko rw_152 q1 J F hF _ eq2) ?_
  rintro _ _ ⟨rfl, rfl⟩
  refine e_aload_n (i := 0) rfl dX1_clear_14 ?_
  refine q_getF 1 2 154 dX1_clear_15 fl_RX1_23 rfl iz_149 (fr_149_2 hF.1) ?_
  obtain ⟨q3, eq3, hm⟩ := ob_some hm
  refine e_cV0 hko dX1_clear_18 ml_RX1_38 iz_154 (by decide) rfl (by omega) (Nat.le_of_ble_eq_true rfl) (tX4_clear hko rw_154 q2 J F hF _ eq3) ?_
  rintro _ _ ⟨rfl, rfl⟩
  refine e_aload_n (i := 0) rfl dX1_clear_21 ?_
  refine q_getF 1 3 156 dX1_clear_22 fl_RX1_26 rfl iz_149 (fr_149_3 hF.1) ?_
  obtain ⟨q4, eq4, hm⟩ := ob_some hm
  refine e_cV0 hko dX1_clear_25 ml_RX1_38 iz_156 (by decide) rfl (by omega) (Nat.le_of_ble_eq_true rfl) (tX4_clear hko rw_156 q3 J F hF _ eq4) ?_
  rintro _ _ ⟨rfl, rfl⟩
  refine e_aload_n (i := 0) rfl dX1_clear_28 ?_
  refine q_getF 1 4 158 dX1_clear_29 fl_RX1_29 rfl iz_149 (fr_149_4 hF.1) ?_
  obtain ⟨q5, eq5, hm⟩ := ob_some hm
  refine e_cV0 hko dX1_clear_32 ml_RX1_38 iz_158 (by decide) rfl (by omega) (Nat.le_of_ble_eq_true rfl) (tX4_clear hko rw_158 q4 J F hF _ eq5) ?_
  rintro _ _ ⟨rfl, rfl⟩
  refine e_aload_n (i := 0) rfl dX1_clear_35 ?_
  refine q_getF 1 5 160 dX1_clear_36 fl_RX1_32 rfl iz_149 (fr_149_5 hF.1) ?_
  obtain ⟨q6, eq6, hm⟩ := ob_some hm
  refine e_cV0 hko dX1_clear_39 ml_RX1_38 iz_160 (by decide) rfl (by omega) (Nat.le_of_ble_eq_true rfl) (tX4_clear hko rw_160 q5 J F hF _ eq6) ?_
  rintro _ _ ⟨rfl, rfl⟩
  refine e_aload_n (i := 0) rfl dX1_clear_42 ?_
  refine q_getF 1 6 162 dX1_clear_43 fl_RX1_35 rfl iz_149 (fr_149_6 hF.1) ?_
  obtain ⟨q7, eq7, hm⟩ := ob_some hm
  refine e_cV0 hko dX1_clear_46 ml_RX1_38 iz_162 (by decide) rfl (by omega) (Nat.le_of_ble_eq_true rfl) (tX4_clear hko rw_162 q6 J F hF _ eq7) ?_
  rintro _ _ ⟨rfl, rfl⟩
  refine e_vret dX1_clear_49 rfl ?_
  have hm := some_in hm
  subst hm
  exact ⟨rfl, rfl⟩
theorem dX1_open_0 : decode cX1_open 0 = .ok (.iconst 0, 1) := by decide +kernel
theorem dX1_open_1 : decode cX1_open 1 = .ok (.istore_n 1, 1) := by decide +kernel
theorem dX1_open_2 : decode cX1_open 2 = .ok (.iload_n 1, 1) := by decide +kernel
theorem dX1_open_3 : decode cX1_open 3 = .ok (.iconst 1, 1) := by decide +kernel
theorem dX1_open_4 : decode cX1_open 4 = .ok (.if_icmp .gt 36, 3) := by decide +kernel
theorem dX1_open_7 : decode cX1_open 7 = .ok (.aload_n 0, 1) := by decide +kernel
theorem dX1_open_8 : decode cX1_open 8 = .ok (.getfield 20, 3) := by decide +kernel
theorem dX1_open_11 : decode cX1_open 11 = .ok (.iconst (-1), 1) := by decide +kernel
theorem dX1_open_12 : decode cX1_open 12 = .ok (.invokevirtual 45, 3) := by decide +kernel
theorem dX1_open_15 : decode cX1_open 15 = .ok (.pop, 1) := by decide +kernel
theorem dX1_open_16 : decode cX1_open 16 = .ok (.aload_n 0, 1) := by decide +kernel
theorem dX1_open_17 : decode cX1_open 17 = .ok (.getfield 23, 3) := by decide +kernel
theorem dX1_open_20 : decode cX1_open 20 = .ok (.iconst (-1), 1) := by decide +kernel
theorem dX1_open_21 : decode cX1_open 21 = .ok (.invokevirtual 45, 3) := by decide +kernel
theorem dX1_open_24 : decode cX1_open 24 = .ok (.pop, 1) := by decide +kernel
theorem dX1_open_25 : decode cX1_open 25 = .ok (.aload_n 0, 1) := by decide +kernel
theorem dX1_open_26 : decode cX1_open 26 = .ok (.getfield 26, 3) := by decide +kernel
theorem dX1_open_29 : decode cX1_open 29 = .ok (.iconst 0, 1) := by decide +kernel
theorem dX1_open_30 : decode cX1_open 30 = .ok (.invokevirtual 45, 3) := by decide +kernel
theorem dX1_open_33 : decode cX1_open 33 = .ok (.pop, 1) := by decide +kernel
theorem dX1_open_34 : decode cX1_open 34 = .ok (.iinc 1 1, 3) := by decide +kernel
theorem dX1_open_37 : decode cX1_open 37 = .ok (.goto (-35), 3) := by decide +kernel
theorem dX1_open_40 : decode cX1_open 40 = .ok (.aload_n 0, 1) := by decide +kernel
theorem dX1_open_41 : decode cX1_open 41 = .ok (.getfield 14, 3) := by decide +kernel
theorem dX1_open_44 : decode cX1_open 44 = .ok (.iconst (-1), 1) := by decide +kernel
theorem dX1_open_45 : decode cX1_open 45 = .ok (.invokevirtual 45, 3) := by decide +kernel
theorem dX1_open_48 : decode cX1_open 48 = .ok (.ireturn, 1) := by decide +kernel
def mX1_open_2 : Nat → iT → Int32 → Option (Int32 × iT)
  | 0, _, _ => none
  | n + 1, I, x1 => if 1 < x1 then (mX4_add 150 I ((-1))).bind fun q1 => some (q1.1, q1.2) else (mX4_add 152 I ((-1))).bind fun q2 => (mX4_add 154 q2.2 ((-1))).bind fun q3 => (mX4_add 156 q3.2 0).bind fun q4 => mX1_open_2 n q4.2 (x1 + 1)
def mX1_open (I : iT) : Option (Int32 × iT) := mX1_open_2 LF I 0
set_option maxRecDepth 100000 in
set_option maxHeartbeats 4000000 in
theorem tX1_open_2 {l : Launch} {K : a_KT} {g : a_GT} {IB : iT} (hko : a_kok K) {J : jT} {F : fT} : ∀ (n : Nat) (I : iT) (x1 : Int32) (hF : FK F) (q : Int32 × iT), mX1_open_2 n I x1 = some q → E l K g 1 0 0 yX1_open cX1_open 2 (some .int) 2 [.ref 149, .int x1] [] (hg I IB J F) (fun r2 h2 => r2 = some (.int q.1) ∧ h2 = hg q.2 IB J F) := by
  intro n
  induction n with
  | zero => intro I x1 hF q hm; cases hm
  | succ n ih =>
    intro I x1 hF q hm
    rw [mX1_open_2] at hm
    refine e_iload_n (i := 1) rfl dX1_open_2 ?_
    refine e_iconst (v := 1) (by decide) dX1_open_3 ?_
    refine e_icmp_gt 40 dX1_open_4 (by decide) (fun c_4 => ?_) (fun c_4 => ?_)
    · have hm := it_p c_4 hm
      refine e_aload_n (i := 0) rfl dX1_open_40 ?_
      refine q_getF 1 0 150 dX1_open_41 fl_RX1_14 rfl iz_149 (fr_149_0 hF.1) ?_
      refine e_iconst (v := (-1)) (by decide) dX1_open_44 ?_
      obtain ⟨q1, eq1, hm⟩ := ob_some hm
      refine e_cV1 hko dX1_open_45 ml_RX1_45 iz_150 (by decide) rfl (by omega) (Nat.le_of_ble_eq_true rfl) (tX4_add hko rw_150 I J F hF ((-1)) _ eq1) ?_
      rintro _ _ ⟨rfl, rfl⟩
      refine e_iret dX1_open_48 rfl ?_
      have hm := some_in hm
      subst hm
      exact ⟨rfl, rfl⟩
    · have hm := it_n c_4 hm
      refine e_aload_n (i := 0) rfl dX1_open_7 ?_
      refine q_getF 1 1 152 dX1_open_8 fl_RX1_20 rfl iz_149 (fr_149_1 hF.1) ?_
      refine e_iconst (v := (-1)) (by decide) dX1_open_11 ?_
      obtain ⟨q2, eq2, hm⟩ := ob_some hm
      refine e_cV1 hko dX1_open_12 ml_RX1_45 iz_152 (by decide) rfl (by omega) (Nat.le_of_ble_eq_true rfl) (tX4_add hko rw_152 I J F hF ((-1)) _ eq2) ?_
      rintro _ _ ⟨rfl, rfl⟩
      refine e_pop rfl dX1_open_15 ?_
      refine e_aload_n (i := 0) rfl dX1_open_16 ?_
      refine q_getF 1 2 154 dX1_open_17 fl_RX1_23 rfl iz_149 (fr_149_2 hF.1) ?_
      refine e_iconst (v := (-1)) (by decide) dX1_open_20 ?_
      obtain ⟨q3, eq3, hm⟩ := ob_some hm
      refine e_cV1 hko dX1_open_21 ml_RX1_45 iz_154 (by decide) rfl (by omega) (Nat.le_of_ble_eq_true rfl) (tX4_add hko rw_154 q2.2 J F hF ((-1)) _ eq3) ?_
      rintro _ _ ⟨rfl, rfl⟩
      refine e_pop rfl dX1_open_24 ?_
      refine e_aload_n (i := 0) rfl dX1_open_25 ?_
      refine q_getF 1 3 156 dX1_open_26 fl_RX1_26 rfl iz_149 (fr_149_3 hF.1) ?_
      refine e_iconst (v := 0) (by decide) dX1_open_29 ?_
      obtain ⟨q4, eq4, hm⟩ := ob_some hm
      refine e_cV1 hko dX1_open_30 ml_RX1_45 iz_156 (by decide) rfl (by omega) (Nat.le_of_ble_eq_true rfl) (tX4_add hko rw_156 q3.2 J F hF 0 _ eq4) ?_
      rintro _ _ ⟨rfl, rfl⟩
      refine e_pop rfl dX1_open_33 ?_
      refine q_iinc (i := 1) (x1 + 1) rfl ic_1 rfl dX1_open_34 ?_
      refine e_goto 2 dX1_open_37 (by decide) ?_
      refine e_weak [.ref 149, .int (x1 + 1)] ⟨rfl, ⟨rfl, trivial⟩⟩ ?_
      exact ih q4.2 (x1 + 1) hF _ hm
set_option maxRecDepth 100000 in
set_option maxHeartbeats 4000000 in
theorem tX1_open {l : Launch} {K : a_KT} {g : a_GT} {IB : iT} (hko : a_kok K) (I : iT) (J : jT) (F : fT) (hF : FK F) (q : Int32 × iT) (hm : mX1_open I = some q) : C l K g 1 0 0 yX1_open cX1_open 2 (some .int) [.ref 149] (hg I IB J F) (fun r2 h2 => r2 = some (.int q.1) ∧ h2 = hg q.2 IB J F) := by
  unfold mX1_open at hm
  refine c_of [.ref 149, .null] (by decide) (Nat.le_of_ble_eq_true rfl) rfl ?_
  refine e_iconst (v := 0) (by decide) dX1_open_0 ?_
  refine q_istore_n (i := 1) (by decide) rfl dX1_open_1 ?_
  refine e_weak [.ref 149, .int 0] ⟨rfl, ⟨rfl, trivial⟩⟩ ?_
  exact tX1_open_2 hko LF I 0 hF _ hm
theorem dX1_count_0 : decode cX1_count 0 = .ok (.aload_n 0, 1) := by decide +kernel
theorem dX1_count_1 : decode cX1_count 1 = .ok (.getfield 26, 3) := by decide +kernel
theorem dX1_count_4 : decode cX1_count 4 = .ok (.iconst 2, 1) := by decide +kernel
theorem dX1_count_5 : decode cX1_count 5 = .ok (.iload_n 1, 1) := by decide +kernel
theorem dX1_count_6 : decode cX1_count 6 = .ok (.imul, 1) := by decide +kernel
theorem dX1_count_7 : decode cX1_count 7 = .ok (.iload_n 2, 1) := by decide +kernel
theorem dX1_count_8 : decode cX1_count 8 = .ok (.iadd, 1) := by decide +kernel
theorem dX1_count_9 : decode cX1_count 9 = .ok (.invokevirtual 49, 3) := by decide +kernel
theorem dX1_count_12 : decode cX1_count 12 = .ok (.ireturn, 1) := by decide +kernel
def mX1_count (I : iT) (x1 : Int32) (x2 : Int32) : Option (Int32) := (mX4_at 156 I ((2 * x1) + x2)).bind fun q1 => some q1
set_option maxRecDepth 100000 in
set_option maxHeartbeats 4000000 in
theorem tX1_count {l : Launch} {K : a_KT} {g : a_GT} {IB : iT} (hko : a_kok K) (I : iT) (J : jT) (F : fT) (hF : FK F) (x1 : Int32) (x2 : Int32) (q : Int32) (hm : mX1_count I x1 x2 = some q) : C l K g 1 0 0 yX1_count cX1_count 3 (some .int) [.ref 149, .int x1, .int x2] (hg I IB J F) (fun r2 h2 => r2 = some (.int q) ∧ h2 = hg I IB J F) := by
  unfold mX1_count at hm
  refine c_of [.ref 149, .int x1, .int x2] (by decide) (Nat.le_of_ble_eq_true rfl) rfl ?_
  refine e_aload_n (i := 0) rfl dX1_count_0 ?_
  refine q_getF 1 3 156 dX1_count_1 fl_RX1_26 rfl iz_149 (fr_149_3 hF.1) ?_
  refine e_iconst (v := 2) (by decide) dX1_count_4 ?_
  refine e_iload_n (i := 1) rfl dX1_count_5 ?_
  refine e_imul dX1_count_6 ?_
  refine e_iload_n (i := 2) rfl dX1_count_7 ?_
  refine e_iadd dX1_count_8 ?_
  obtain ⟨q1, eq1, hm⟩ := ob_some hm
  refine e_cV1 hko dX1_count_9 ml_RX1_49 iz_156 (by decide) rfl (by omega) (Nat.le_of_ble_eq_true rfl) (tX4_at hko rw_156 I J F hF ((2 * x1) + x2) _ eq1) ?_
  rintro _ _ ⟨rfl, rfl⟩
  refine e_iret dX1_count_12 rfl ?_
  have hm := some_in hm
  subst hm
  exact ⟨rfl, rfl⟩
theorem dX1_follow_0 : decode cX1_follow 0 = .ok (.iload_n 1, 1) := by decide +kernel
theorem dX1_follow_1 : decode cX1_follow 1 = .ok (.istore_n 2, 1) := by decide +kernel
theorem dX1_follow_2 : decode cX1_follow 2 = .ok (.iconst 0, 1) := by decide +kernel
theorem dX1_follow_3 : decode cX1_follow 3 = .ok (.istore_n 3, 1) := by decide +kernel
theorem dX1_follow_4 : decode cX1_follow 4 = .ok (.iload_n 3, 1) := by decide +kernel
theorem dX1_follow_5 : decode cX1_follow 5 = .ok (.bipush 80, 2) := by decide +kernel
theorem dX1_follow_7 : decode cX1_follow 7 = .ok (.if_icmp .ge 30, 3) := by decide +kernel
theorem dX1_follow_10 : decode cX1_follow 10 = .ok (.aload_n 0, 1) := by decide +kernel
theorem dX1_follow_11 : decode cX1_follow 11 = .ok (.getfield 14, 3) := by decide +kernel
theorem dX1_follow_14 : decode cX1_follow 14 = .ok (.iload_n 2, 1) := by decide +kernel
theorem dX1_follow_15 : decode cX1_follow 15 = .ok (.invokevirtual 49, 3) := by decide +kernel
theorem dX1_follow_18 : decode cX1_follow 18 = .ok (.iconst (-1), 1) := by decide +kernel
theorem dX1_follow_19 : decode cX1_follow 19 = .ok (.if_icmp .eq 18, 3) := by decide +kernel
theorem dX1_follow_22 : decode cX1_follow 22 = .ok (.aload_n 0, 1) := by decide +kernel
theorem dX1_follow_23 : decode cX1_follow 23 = .ok (.getfield 14, 3) := by decide +kernel
theorem dX1_follow_26 : decode cX1_follow 26 = .ok (.iload_n 2, 1) := by decide +kernel
theorem dX1_follow_27 : decode cX1_follow 27 = .ok (.invokevirtual 49, 3) := by decide +kernel
theorem dX1_follow_30 : decode cX1_follow 30 = .ok (.istore_n 2, 1) := by decide +kernel
theorem dX1_follow_31 : decode cX1_follow 31 = .ok (.iinc 3 1, 3) := by decide +kernel
theorem dX1_follow_34 : decode cX1_follow 34 = .ok (.goto (-30), 3) := by decide +kernel
theorem dX1_follow_37 : decode cX1_follow 37 = .ok (.iload_n 2, 1) := by decide +kernel
theorem dX1_follow_38 : decode cX1_follow 38 = .ok (.ireturn, 1) := by decide +kernel
def mX1_follow_4 : Nat → iT → Int32 → Int32 → Int32 → Option (Int32)
  | 0, _, _, _, _ => none
  | n + 1, I, x1, x2, x3 => if 80 ≤ x3 then some x2 else (mX4_at 150 I x2).bind fun q1 => if q1 = ((-1)) then some x2 else (mX4_at 150 I x2).bind fun q2 => mX1_follow_4 n I x1 q2 (x3 + 1)
def mX1_follow (I : iT) (x1 : Int32) : Option (Int32) := mX1_follow_4 LF I x1 x1 0
set_option maxRecDepth 100000 in
set_option maxHeartbeats 4000000 in
theorem tX1_follow_4 {l : Launch} {K : a_KT} {g : a_GT} {IB : iT} (hko : a_kok K) {J : jT} {F : fT} : ∀ (n : Nat) (I : iT) (x1 : Int32) (x2 : Int32) (x3 : Int32) (hF : FK F) (q : Int32), mX1_follow_4 n I x1 x2 x3 = some q → E l K g 1 0 0 yX1_follow cX1_follow 4 (some .int) 4 [.ref 149, .int x1, .int x2, .int x3] [] (hg I IB J F) (fun r2 h2 => r2 = some (.int q) ∧ h2 = hg I IB J F) := by
  intro n
  induction n with
  | zero => intro I x1 x2 x3 hF q hm; cases hm
  | succ n ih =>
    intro I x1 x2 x3 hF q hm
    rw [mX1_follow_4] at hm
    refine e_iload_n (i := 3) rfl dX1_follow_4 ?_
    refine e_bipush (v := 80) (by decide) dX1_follow_5 ?_
    refine e_icmp_ge 37 dX1_follow_7 (by decide) (fun c_7 => ?_) (fun c_7 => ?_)
    · have hm := it_p c_7 hm
      refine e_iload_n (i := 2) rfl dX1_follow_37 ?_
      refine e_iret dX1_follow_38 rfl ?_
      have hm := some_in hm
      subst hm
      exact ⟨rfl, rfl⟩
    · have hm := it_n c_7 hm
      refine e_aload_n (i := 0) rfl dX1_follow_10 ?_
      refine q_getF 1 0 150 dX1_follow_11 fl_RX1_14 rfl iz_149 (fr_149_0 hF.1) ?_
      refine e_iload_n (i := 2) rfl dX1_follow_14 ?_
      obtain ⟨q1, eq1, hm⟩ := ob_some hm
      refine e_cV1 hko dX1_follow_15 ml_RX1_49 iz_150 (by decide) rfl (by omega) (Nat.le_of_ble_eq_true rfl) (tX4_at hko rw_150 I J F hF x2 _ eq1) ?_
      rintro _ _ ⟨rfl, rfl⟩
      refine e_iconst (v := (-1)) (by decide) dX1_follow_18 ?_
      refine e_icmp_eq 37 dX1_follow_19 (by decide) (fun c_19 => ?_) (fun c_19 => ?_)
      · have hm := it_p c_19 hm
        refine e_iload_n (i := 2) rfl dX1_follow_37 ?_
        refine e_iret dX1_follow_38 rfl ?_
        have hm := some_in hm
        subst hm
        exact ⟨rfl, rfl⟩
      · have hm := it_n c_19 hm
        refine e_aload_n (i := 0) rfl dX1_follow_22 ?_
        refine q_getF 1 0 150 dX1_follow_23 fl_RX1_14 rfl iz_149 (fr_149_0 hF.1) ?_
        refine e_iload_n (i := 2) rfl dX1_follow_26 ?_
        obtain ⟨q2, eq2, hm⟩ := ob_some hm
        refine e_cV1 hko dX1_follow_27 ml_RX1_49 iz_150 (by decide) rfl (by omega) (Nat.le_of_ble_eq_true rfl) (tX4_at hko rw_150 I J F hF x2 _ eq2) ?_
        rintro _ _ ⟨rfl, rfl⟩
        refine q_istore_n (i := 2) (by decide) rfl dX1_follow_30 ?_
        refine q_iinc (i := 3) (x3 + 1) rfl ic_1 rfl dX1_follow_31 ?_
        refine e_goto 4 dX1_follow_34 (by decide) ?_
        refine e_weak [.ref 149, .int x1, .int q2, .int (x3 + 1)] ⟨rfl, ⟨rfl, ⟨rfl, ⟨rfl, trivial⟩⟩⟩⟩ ?_
        exact ih I x1 q2 (x3 + 1) hF _ hm
set_option maxRecDepth 100000 in
set_option maxHeartbeats 4000000 in
theorem tX1_follow {l : Launch} {K : a_KT} {g : a_GT} {IB : iT} (hko : a_kok K) (I : iT) (J : jT) (F : fT) (hF : FK F) (x1 : Int32) (q : Int32) (hm : mX1_follow I x1 = some q) : C l K g 1 0 0 yX1_follow cX1_follow 4 (some .int) [.ref 149, .int x1] (hg I IB J F) (fun r2 h2 => r2 = some (.int q) ∧ h2 = hg I IB J F) := by
  unfold mX1_follow at hm
  refine c_of [.ref 149, .int x1, .null, .null] (by decide) (Nat.le_of_ble_eq_true rfl) rfl ?_
  refine e_iload_n (i := 1) rfl dX1_follow_0 ?_
  refine q_istore_n (i := 2) (by decide) rfl dX1_follow_1 ?_
  refine e_iconst (v := 0) (by decide) dX1_follow_2 ?_
  refine q_istore_n (i := 3) (by decide) rfl dX1_follow_3 ?_
  refine e_weak [.ref 149, .int x1, .int x1, .int 0] ⟨rfl, ⟨rfl, ⟨rfl, ⟨rfl, trivial⟩⟩⟩⟩ ?_
  exact tX1_follow_4 hko LF I x1 x1 0 hF _ hm
theorem dX8_valueOf_0 : decode cX8_valueOf 0 = .ok (.aload_n 0, 1) := by decide +kernel
theorem dX8_valueOf_1 : decode cX8_valueOf 1 = .ok (.getfield 20, 3) := by decide +kernel
theorem dX8_valueOf_4 : decode cX8_valueOf 4 = .ok (.iload_n 1, 1) := by decide +kernel
theorem dX8_valueOf_5 : decode cX8_valueOf 5 = .ok (.invokevirtual 43, 3) := by decide +kernel
theorem dX8_valueOf_8 : decode cX8_valueOf 8 = .ok (.istore 4, 2) := by decide +kernel
theorem dX8_valueOf_10 : decode cX8_valueOf 10 = .ok (.aload_n 0, 1) := by decide +kernel
theorem dX8_valueOf_11 : decode cX8_valueOf 11 = .ok (.getfield 29, 3) := by decide +kernel
theorem dX8_valueOf_14 : decode cX8_valueOf 14 = .ok (.iload 4, 2) := by decide +kernel
theorem dX8_valueOf_16 : decode cX8_valueOf 16 = .ok (.invokevirtual 43, 3) := by decide +kernel
theorem dX8_valueOf_19 : decode cX8_valueOf 19 = .ok (.istore 5, 2) := by decide +kernel
theorem dX8_valueOf_21 : decode cX8_valueOf 21 = .ok (.aload_n 0, 1) := by decide +kernel
theorem dX8_valueOf_22 : decode cX8_valueOf 22 = .ok (.getfield 29, 3) := by decide +kernel
theorem dX8_valueOf_25 : decode cX8_valueOf 25 = .ok (.aload_n 0, 1) := by decide +kernel
theorem dX8_valueOf_26 : decode cX8_valueOf 26 = .ok (.getfield 23, 3) := by decide +kernel
theorem dX8_valueOf_29 : decode cX8_valueOf 29 = .ok (.iload_n 1, 1) := by decide +kernel
theorem dX8_valueOf_30 : decode cX8_valueOf 30 = .ok (.invokevirtual 43, 3) := by decide +kernel
theorem dX8_valueOf_33 : decode cX8_valueOf 33 = .ok (.invokevirtual 43, 3) := by decide +kernel
theorem dX8_valueOf_36 : decode cX8_valueOf 36 = .ok (.istore 6, 2) := by decide +kernel
theorem dX8_valueOf_38 : decode cX8_valueOf 38 = .ok (.aload_n 0, 1) := by decide +kernel
theorem dX8_valueOf_39 : decode cX8_valueOf 39 = .ok (.getfield 14, 3) := by decide +kernel
theorem dX8_valueOf_42 : decode cX8_valueOf 42 = .ok (.iload_n 1, 1) := by decide +kernel
theorem dX8_valueOf_43 : decode cX8_valueOf 43 = .ok (.invokevirtual 43, 3) := by decide +kernel
theorem dX8_valueOf_46 : decode cX8_valueOf 46 = .ok (.lookupswitch 113 #[(42, 94), (43, 82), (45, 88), (60, 100), (256, 69), (257, 66), (261, 78)], 66) := by decide +kernel
theorem dX8_valueOf_112 : decode cX8_valueOf 112 = .ok (.iload 4, 2) := by decide +kernel
theorem dX8_valueOf_114 : decode cX8_valueOf 114 = .ok (.ireturn, 1) := by decide +kernel
theorem dX8_valueOf_115 : decode cX8_valueOf 115 = .ok (.aload_n 2, 1) := by decide +kernel
theorem dX8_valueOf_116 : decode cX8_valueOf 116 = .ok (.iload_n 3, 1) := by decide +kernel
theorem dX8_valueOf_117 : decode cX8_valueOf 117 = .ok (.iload 4, 2) := by decide +kernel
theorem dX8_valueOf_119 : decode cX8_valueOf 119 = .ok (.iadd, 1) := by decide +kernel
theorem dX8_valueOf_120 : decode cX8_valueOf 120 = .ok (.invokevirtual 43, 3) := by decide +kernel
theorem dX8_valueOf_123 : decode cX8_valueOf 123 = .ok (.ireturn, 1) := by decide +kernel
theorem dX8_valueOf_124 : decode cX8_valueOf 124 = .ok (.iload 5, 2) := by decide +kernel
theorem dX8_valueOf_126 : decode cX8_valueOf 126 = .ok (.ineg, 1) := by decide +kernel
theorem dX8_valueOf_127 : decode cX8_valueOf 127 = .ok (.ireturn, 1) := by decide +kernel
theorem dX8_valueOf_128 : decode cX8_valueOf 128 = .ok (.iload 5, 2) := by decide +kernel
theorem dX8_valueOf_130 : decode cX8_valueOf 130 = .ok (.iload 6, 2) := by decide +kernel
theorem dX8_valueOf_132 : decode cX8_valueOf 132 = .ok (.iadd, 1) := by decide +kernel
theorem dX8_valueOf_133 : decode cX8_valueOf 133 = .ok (.ireturn, 1) := by decide +kernel
theorem dX8_valueOf_134 : decode cX8_valueOf 134 = .ok (.iload 5, 2) := by decide +kernel
theorem dX8_valueOf_136 : decode cX8_valueOf 136 = .ok (.iload 6, 2) := by decide +kernel
theorem dX8_valueOf_138 : decode cX8_valueOf 138 = .ok (.isub, 1) := by decide +kernel
theorem dX8_valueOf_139 : decode cX8_valueOf 139 = .ok (.ireturn, 1) := by decide +kernel
theorem dX8_valueOf_140 : decode cX8_valueOf 140 = .ok (.iload 5, 2) := by decide +kernel
theorem dX8_valueOf_142 : decode cX8_valueOf 142 = .ok (.iload 6, 2) := by decide +kernel
theorem dX8_valueOf_144 : decode cX8_valueOf 144 = .ok (.imul, 1) := by decide +kernel
theorem dX8_valueOf_145 : decode cX8_valueOf 145 = .ok (.ireturn, 1) := by decide +kernel
theorem dX8_valueOf_146 : decode cX8_valueOf 146 = .ok (.iload 5, 2) := by decide +kernel
theorem dX8_valueOf_148 : decode cX8_valueOf 148 = .ok (.iload 6, 2) := by decide +kernel
theorem dX8_valueOf_150 : decode cX8_valueOf 150 = .ok (.if_icmp .ge 7, 3) := by decide +kernel
theorem dX8_valueOf_153 : decode cX8_valueOf 153 = .ok (.iconst 1, 1) := by decide +kernel
theorem dX8_valueOf_154 : decode cX8_valueOf 154 = .ok (.goto 4, 3) := by decide +kernel
theorem dX8_valueOf_157 : decode cX8_valueOf 157 = .ok (.iconst 0, 1) := by decide +kernel
theorem dX8_valueOf_158 : decode cX8_valueOf 158 = .ok (.ireturn, 1) := by decide +kernel
theorem dX8_valueOf_159 : decode cX8_valueOf 159 = .ok (.iload 5, 2) := by decide +kernel
theorem dX8_valueOf_161 : decode cX8_valueOf 161 = .ok (.iload 6, 2) := by decide +kernel
theorem dX8_valueOf_163 : decode cX8_valueOf 163 = .ok (.if_icmp .ne 7, 3) := by decide +kernel
theorem dX8_valueOf_166 : decode cX8_valueOf 166 = .ok (.iconst 1, 1) := by decide +kernel
theorem dX8_valueOf_167 : decode cX8_valueOf 167 = .ok (.goto 4, 3) := by decide +kernel
theorem dX8_valueOf_170 : decode cX8_valueOf 170 = .ok (.iconst 0, 1) := by decide +kernel
theorem dX8_valueOf_171 : decode cX8_valueOf 171 = .ok (.ireturn, 1) := by decide +kernel
def mX8_valueOf (a0 : Nat) (a2 : Nat) (I : iT) (x1 : Int32) (x3 : Int32) : Option (Int32) := (mX4_at (a0 + 3) I x1).bind fun q1 => (mX4_at (a0 + 9) I q1).bind fun q2 => (mX4_at (a0 + 5) I x1).bind fun q3 => (mX4_at (a0 + 9) I q3).bind fun q4 => (mX4_at (a0 + 1) I x1).bind fun q5 => if q5 = 42 then some (q2 * q4) else if q5 = 43 then some (q2 + q4) else if q5 = 45 then some (q2 - q4) else if q5 = 60 then if q4 ≤ q2 then some 0 else some 1 else if q5 = 256 then (mX4_at a2 I (x3 + q1)).bind fun q6 => some q6 else if q5 = 257 then some q1 else if q5 = 261 then some (-q2) else if q2 = q4 then some 1 else some 0
set_option maxRecDepth 100000 in
set_option maxHeartbeats 4000000 in
theorem tX8_valueOf {l : Launch} {K : a_KT} {g : a_GT} {IB : iT} (hko : a_kok K) {a0 : Nat} (ha0 : isSums a0) {a2 : Nat} (ha2 : isRow a2) (I : iT) (J : jT) (F : fT) (hF : FK F) (x1 : Int32) (x3 : Int32) (q : Int32) (hm : mX8_valueOf a0 a2 I x1 x3 = some q) : C l K g 1 0 0 yX8_valueOf cX8_valueOf 7 (some .int) [.ref a0, .int x1, .ref a2, .int x3] (hg I IB J F) (fun r2 h2 => r2 = some (.int q) ∧ h2 = hg I IB J F) := by
  unfold mX8_valueOf at hm
  refine c_of [.ref a0, .int x1, .ref a2, .int x3, .null, .null, .null] (by decide) (Nat.le_of_ble_eq_true rfl) rfl ?_
  refine e_aload_n (i := 0) rfl dX8_valueOf_0 ?_
  refine q_getF 8 1 (a0 + 3) dX8_valueOf_1 fl_RX8_20 rfl (iz_su ha0) (fru_1 hF.1 ha0) ?_
  refine e_iload_n (i := 1) rfl dX8_valueOf_4 ?_
  obtain ⟨q1, eq1, hm⟩ := ob_some hm
  refine e_cV1 hko dX8_valueOf_5 ml_RX8_43 (iz_row (rwu_3 ha0)) (by decide) rfl (by omega) (Nat.le_of_ble_eq_true rfl) (tX4_at hko (rwu_3 ha0) I J F hF x1 _ eq1) ?_
  rintro _ _ ⟨rfl, rfl⟩
  refine q_istore (i := 4) (by decide) rfl dX8_valueOf_8 ?_
  refine e_aload_n (i := 0) rfl dX8_valueOf_10 ?_
  refine q_getF 8 4 (a0 + 9) dX8_valueOf_11 fl_RX8_29 rfl (iz_su ha0) (fru_4 hF.1 ha0) ?_
  refine e_iload (i := 4) rfl dX8_valueOf_14 ?_
  obtain ⟨q2, eq2, hm⟩ := ob_some hm
  refine e_cV1 hko dX8_valueOf_16 ml_RX8_43 (iz_row (rwu_9 ha0)) (by decide) rfl (by omega) (Nat.le_of_ble_eq_true rfl) (tX4_at hko (rwu_9 ha0) I J F hF q1 _ eq2) ?_
  rintro _ _ ⟨rfl, rfl⟩
  refine q_istore (i := 5) (by decide) rfl dX8_valueOf_19 ?_
  refine e_aload_n (i := 0) rfl dX8_valueOf_21 ?_
  refine q_getF 8 4 (a0 + 9) dX8_valueOf_22 fl_RX8_29 rfl (iz_su ha0) (fru_4 hF.1 ha0) ?_
  refine e_aload_n (i := 0) rfl dX8_valueOf_25 ?_
  refine q_getF 8 2 (a0 + 5) dX8_valueOf_26 fl_RX8_23 rfl (iz_su ha0) (fru_2 hF.1 ha0) ?_
  refine e_iload_n (i := 1) rfl dX8_valueOf_29 ?_
  obtain ⟨q3, eq3, hm⟩ := ob_some hm
  refine e_cV1 hko dX8_valueOf_30 ml_RX8_43 (iz_row (rwu_5 ha0)) (by decide) rfl (by omega) (Nat.le_of_ble_eq_true rfl) (tX4_at hko (rwu_5 ha0) I J F hF x1 _ eq3) ?_
  rintro _ _ ⟨rfl, rfl⟩
  obtain ⟨q4, eq4, hm⟩ := ob_some hm
  refine e_cV1 hko dX8_valueOf_33 ml_RX8_43 (iz_row (rwu_9 ha0)) (by decide) rfl (by omega) (Nat.le_of_ble_eq_true rfl) (tX4_at hko (rwu_9 ha0) I J F hF q3 _ eq4) ?_
  rintro _ _ ⟨rfl, rfl⟩
  refine q_istore (i := 6) (by decide) rfl dX8_valueOf_36 ?_
  refine e_aload_n (i := 0) rfl dX8_valueOf_38 ?_
  refine q_getF 8 0 (a0 + 1) dX8_valueOf_39 fl_RX8_14 rfl (iz_su ha0) (fru_0 hF.1 ha0) ?_
  refine e_iload_n (i := 1) rfl dX8_valueOf_42 ?_
  obtain ⟨q5, eq5, hm⟩ := ob_some hm
  refine e_cV1 hko dX8_valueOf_43 ml_RX8_43 (iz_row (rwu_1 ha0)) (by decide) rfl (by omega) (Nat.le_of_ble_eq_true rfl) (tX4_at hko (rwu_1 ha0) I J F hF x1 _ eq5) ?_
  rintro _ _ ⟨rfl, rfl⟩
  by_cases c_46_0 : q5 = 42
  · have hm := it_p c_46_0 hm
    refine e_lookup 140 dX8_valueOf_46 (by decide) (off := 94) (by rw [c_46_0]; decide) (by decide) ?_
    refine e_iload (i := 5) rfl dX8_valueOf_140 ?_
    refine e_iload (i := 6) rfl dX8_valueOf_142 ?_
    refine e_imul dX8_valueOf_144 ?_
    refine e_iret dX8_valueOf_145 rfl ?_
    have hm := some_in hm
    subst hm
    exact ⟨rfl, rfl⟩
  have hm := it_n c_46_0 hm
  by_cases c_46_1 : q5 = 43
  · have hm := it_p c_46_1 hm
    refine e_lookup 128 dX8_valueOf_46 (by decide) (off := 82) (by rw [c_46_1]; decide) (by decide) ?_
    refine e_iload (i := 5) rfl dX8_valueOf_128 ?_
    refine e_iload (i := 6) rfl dX8_valueOf_130 ?_
    refine e_iadd dX8_valueOf_132 ?_
    refine e_iret dX8_valueOf_133 rfl ?_
    have hm := some_in hm
    subst hm
    exact ⟨rfl, rfl⟩
  have hm := it_n c_46_1 hm
  by_cases c_46_2 : q5 = 45
  · have hm := it_p c_46_2 hm
    refine e_lookup 134 dX8_valueOf_46 (by decide) (off := 88) (by rw [c_46_2]; decide) (by decide) ?_
    refine e_iload (i := 5) rfl dX8_valueOf_134 ?_
    refine e_iload (i := 6) rfl dX8_valueOf_136 ?_
    refine e_isub dX8_valueOf_138 ?_
    refine e_iret dX8_valueOf_139 rfl ?_
    have hm := some_in hm
    subst hm
    exact ⟨rfl, rfl⟩
  have hm := it_n c_46_2 hm
  by_cases c_46_3 : q5 = 60
  · have hm := it_p c_46_3 hm
    refine e_lookup 146 dX8_valueOf_46 (by decide) (off := 100) (by rw [c_46_3]; decide) (by decide) ?_
    refine e_iload (i := 5) rfl dX8_valueOf_146 ?_
    refine e_iload (i := 6) rfl dX8_valueOf_148 ?_
    refine e_icmp_ge 157 dX8_valueOf_150 (by decide) (fun c_150 => ?_) (fun c_150 => ?_)
    · have hm := it_p c_150 hm
      refine e_iconst (v := 0) (by decide) dX8_valueOf_157 ?_
      refine e_iret dX8_valueOf_158 rfl ?_
      have hm := some_in hm
      subst hm
      exact ⟨rfl, rfl⟩
    · have hm := it_n c_150 hm
      refine e_iconst (v := 1) (by decide) dX8_valueOf_153 ?_
      refine e_goto 158 dX8_valueOf_154 (by decide) ?_
      refine e_iret dX8_valueOf_158 rfl ?_
      have hm := some_in hm
      subst hm
      exact ⟨rfl, rfl⟩
  have hm := it_n c_46_3 hm
  by_cases c_46_4 : q5 = 256
  · have hm := it_p c_46_4 hm
    refine e_lookup 115 dX8_valueOf_46 (by decide) (off := 69) (by rw [c_46_4]; decide) (by decide) ?_
    refine e_aload_n (i := 2) rfl dX8_valueOf_115 ?_
    refine e_iload_n (i := 3) rfl dX8_valueOf_116 ?_
    refine e_iload (i := 4) rfl dX8_valueOf_117 ?_
    refine e_iadd dX8_valueOf_119 ?_
    obtain ⟨q6, eq6, hm⟩ := ob_some hm
    refine e_cV1 hko dX8_valueOf_120 ml_RX8_43 (iz_row ha2) (by decide) rfl (by omega) (Nat.le_of_ble_eq_true rfl) (tX4_at hko ha2 I J F hF (x3 + q1) _ eq6) ?_
    rintro _ _ ⟨rfl, rfl⟩
    refine e_iret dX8_valueOf_123 rfl ?_
    have hm := some_in hm
    subst hm
    exact ⟨rfl, rfl⟩
  have hm := it_n c_46_4 hm
  by_cases c_46_5 : q5 = 257
  · have hm := it_p c_46_5 hm
    refine e_lookup 112 dX8_valueOf_46 (by decide) (off := 66) (by rw [c_46_5]; decide) (by decide) ?_
    refine e_iload (i := 4) rfl dX8_valueOf_112 ?_
    refine e_iret dX8_valueOf_114 rfl ?_
    have hm := some_in hm
    subst hm
    exact ⟨rfl, rfl⟩
  have hm := it_n c_46_5 hm
  by_cases c_46_6 : q5 = 261
  · have hm := it_p c_46_6 hm
    refine e_lookup 124 dX8_valueOf_46 (by decide) (off := 78) (by rw [c_46_6]; decide) (by decide) ?_
    refine e_iload (i := 5) rfl dX8_valueOf_124 ?_
    refine e_ineg dX8_valueOf_126 ?_
    refine e_iret dX8_valueOf_127 rfl ?_
    have hm := some_in hm
    subst hm
    exact ⟨rfl, rfl⟩
  have hm := it_n c_46_6 hm
  refine e_lookup 159 dX8_valueOf_46 (by decide) (off := 113) (by show Op.lookupswitch.offset [(42, 94), (43, 82), (45, 88), (60, 100), (256, 69), (257, 66), (261, 78)] 113 _ = _; rw [lv_osw c_46_0 (by decide), lv_osw c_46_1 (by decide), lv_osw c_46_2 (by decide), lv_osw c_46_3 (by decide), lv_osw c_46_4 (by decide), lv_osw c_46_5 (by decide), lv_osw c_46_6 (by decide)]; try rfl) (by decide) ?_
  refine e_iload (i := 5) rfl dX8_valueOf_159 ?_
  refine e_iload (i := 6) rfl dX8_valueOf_161 ?_
  refine e_icmp_ne 170 dX8_valueOf_163 (by decide) (fun c_163 => ?_) (fun c_163 => ?_)
  · have hm := it_n c_163 hm
    refine e_iconst (v := 0) (by decide) dX8_valueOf_170 ?_
    refine e_iret dX8_valueOf_171 rfl ?_
    have hm := some_in hm
    subst hm
    exact ⟨rfl, rfl⟩
  · have hm := it_p c_163 hm
    refine e_iconst (v := 1) (by decide) dX8_valueOf_166 ?_
    refine e_goto 171 dX8_valueOf_167 (by decide) ?_
    refine e_iret dX8_valueOf_171 rfl ?_
    have hm := some_in hm
    subst hm
    exact ⟨rfl, rfl⟩
theorem dX8_evaluate_0 : decode cX8_evaluate 0 = .ok (.aload_n 0, 1) := by decide +kernel
theorem dX8_evaluate_1 : decode cX8_evaluate 1 = .ok (.getfield 26, 3) := by decide +kernel
theorem dX8_evaluate_4 : decode cX8_evaluate 4 = .ok (.iload_n 1, 1) := by decide +kernel
theorem dX8_evaluate_5 : decode cX8_evaluate 5 = .ok (.invokevirtual 43, 3) := by decide +kernel
theorem dX8_evaluate_8 : decode cX8_evaluate 8 = .ok (.istore 4, 2) := by decide +kernel
theorem dX8_evaluate_10 : decode cX8_evaluate 10 = .ok (.iload 4, 2) := by decide +kernel
theorem dX8_evaluate_12 : decode cX8_evaluate 12 = .ok (.iload_n 1, 1) := by decide +kernel
theorem dX8_evaluate_13 : decode cX8_evaluate 13 = .ok (.if_icmp .gt 26, 3) := by decide +kernel
theorem dX8_evaluate_16 : decode cX8_evaluate 16 = .ok (.aload_n 0, 1) := by decide +kernel
theorem dX8_evaluate_17 : decode cX8_evaluate 17 = .ok (.getfield 29, 3) := by decide +kernel
theorem dX8_evaluate_20 : decode cX8_evaluate 20 = .ok (.iload 4, 2) := by decide +kernel
theorem dX8_evaluate_22 : decode cX8_evaluate 22 = .ok (.aload_n 0, 1) := by decide +kernel
theorem dX8_evaluate_23 : decode cX8_evaluate 23 = .ok (.iload 4, 2) := by decide +kernel
theorem dX8_evaluate_25 : decode cX8_evaluate 25 = .ok (.aload_n 2, 1) := by decide +kernel
theorem dX8_evaluate_26 : decode cX8_evaluate 26 = .ok (.iload_n 3, 1) := by decide +kernel
theorem dX8_evaluate_27 : decode cX8_evaluate 27 = .ok (.invokevirtual 46, 3) := by decide +kernel
theorem dX8_evaluate_30 : decode cX8_evaluate 30 = .ok (.invokevirtual 50, 3) := by decide +kernel
theorem dX8_evaluate_33 : decode cX8_evaluate 33 = .ok (.iinc 4 1, 3) := by decide +kernel
theorem dX8_evaluate_36 : decode cX8_evaluate 36 = .ok (.goto (-26), 3) := by decide +kernel
theorem dX8_evaluate_39 : decode cX8_evaluate 39 = .ok (.aload_n 0, 1) := by decide +kernel
theorem dX8_evaluate_40 : decode cX8_evaluate 40 = .ok (.getfield 29, 3) := by decide +kernel
theorem dX8_evaluate_43 : decode cX8_evaluate 43 = .ok (.iload_n 1, 1) := by decide +kernel
theorem dX8_evaluate_44 : decode cX8_evaluate 44 = .ok (.invokevirtual 43, 3) := by decide +kernel
theorem dX8_evaluate_47 : decode cX8_evaluate 47 = .ok (.ireturn, 1) := by decide +kernel
def mX8_evaluate_10 (a0 : Nat) (a2 : Nat) : Nat → iT → Int32 → Int32 → Int32 → Option (Int32 × iT)
  | 0, _, _, _, _ => none
  | n + 1, I, x1, x3, x4 => if x1 < x4 then (mX4_at (a0 + 9) I x1).bind fun q1 => some (q1, I) else (mX8_valueOf a0 a2 I x4 x3).bind fun q2 => (mX4_put (a0 + 9) I x4 q2).bind fun q3 => mX8_evaluate_10 a0 a2 n q3 x1 x3 (x4 + 1)
def mX8_evaluate (a0 : Nat) (a2 : Nat) (I : iT) (x1 : Int32) (x3 : Int32) : Option (Int32 × iT) := (mX4_at (a0 + 7) I x1).bind fun q4 => mX8_evaluate_10 a0 a2 LF I x1 x3 q4
set_option maxRecDepth 100000 in
set_option maxHeartbeats 4000000 in
theorem tX8_evaluate_10 {l : Launch} {K : a_KT} {g : a_GT} {IB : iT} (hko : a_kok K) {a0 : Nat} (ha0 : isSums a0) {a2 : Nat} (ha2 : isRow a2) {J : jT} {F : fT} : ∀ (n : Nat) (I : iT) (x1 : Int32) (x3 : Int32) (x4 : Int32) (hF : FK F) (q : Int32 × iT), mX8_evaluate_10 a0 a2 n I x1 x3 x4 = some q → E l K g 2 0 0 yX8_evaluate cX8_evaluate 5 (some .int) 10 [.ref a0, .int x1, .ref a2, .int x3, .int x4] [] (hg I IB J F) (fun r2 h2 => r2 = some (.int q.1) ∧ h2 = hg q.2 IB J F) := by
  intro n
  induction n with
  | zero => intro I x1 x3 x4 hF q hm; cases hm
  | succ n ih =>
    intro I x1 x3 x4 hF q hm
    rw [mX8_evaluate_10] at hm
    refine e_iload (i := 4) rfl dX8_evaluate_10 ?_
    refine e_iload_n (i := 1) rfl dX8_evaluate_12 ?_
    refine e_icmp_gt 39 dX8_evaluate_13 (by decide) (fun c_13 => ?_) (fun c_13 => ?_)
    · have hm := it_p c_13 hm
      refine e_aload_n (i := 0) rfl dX8_evaluate_39 ?_
      refine q_getF 8 4 (a0 + 9) dX8_evaluate_40 fl_RX8_29 rfl (iz_su ha0) (fru_4 hF.1 ha0) ?_
      refine e_iload_n (i := 1) rfl dX8_evaluate_43 ?_
      obtain ⟨q1, eq1, hm⟩ := ob_some hm
      refine e_cV1 hko dX8_evaluate_44 ml_RX8_43 (iz_row (rwu_9 ha0)) (by decide) rfl (by omega) (Nat.le_of_ble_eq_true rfl) (tX4_at hko (rwu_9 ha0) I J F hF x1 _ eq1) ?_
      rintro _ _ ⟨rfl, rfl⟩
      refine e_iret dX8_evaluate_47 rfl ?_
      have hm := some_in hm
      subst hm
      exact ⟨rfl, rfl⟩
    · have hm := it_n c_13 hm
      refine e_aload_n (i := 0) rfl dX8_evaluate_16 ?_
      refine q_getF 8 4 (a0 + 9) dX8_evaluate_17 fl_RX8_29 rfl (iz_su ha0) (fru_4 hF.1 ha0) ?_
      refine e_iload (i := 4) rfl dX8_evaluate_20 ?_
      refine e_aload_n (i := 0) rfl dX8_evaluate_22 ?_
      refine e_iload (i := 4) rfl dX8_evaluate_23 ?_
      refine e_aload_n (i := 2) rfl dX8_evaluate_25 ?_
      refine e_iload_n (i := 3) rfl dX8_evaluate_26 ?_
      obtain ⟨q2, eq2, hm⟩ := ob_some hm
      refine e_cV3 hko dX8_evaluate_27 ml_RX8_46 (iz_su ha0) (by decide) rfl (by omega) (Nat.le_of_ble_eq_true rfl) (tX8_valueOf hko ha0 ha2 I J F hF x4 x3 _ eq2) ?_
      rintro _ _ ⟨rfl, rfl⟩
      obtain ⟨q3, eq3, hm⟩ := ob_some hm
      refine e_cV2 hko dX8_evaluate_30 ml_RX8_50 (iz_row (rwu_9 ha0)) (by decide) rfl (by omega) (Nat.le_of_ble_eq_true rfl) (tX4_put hko (rwu_9 ha0) I J F hF x4 q2 _ eq3) ?_
      rintro _ _ ⟨rfl, rfl⟩
      refine q_iinc (i := 4) (x4 + 1) rfl ic_1 rfl dX8_evaluate_33 ?_
      refine e_goto 10 dX8_evaluate_36 (by decide) ?_
      refine e_weak [.ref a0, .int x1, .ref a2, .int x3, .int (x4 + 1)] ⟨rfl, ⟨rfl, ⟨rfl, ⟨rfl, ⟨rfl, trivial⟩⟩⟩⟩⟩ ?_
      exact ih q3 x1 x3 (x4 + 1) hF _ hm
set_option maxRecDepth 100000 in
set_option maxHeartbeats 4000000 in
theorem tX8_evaluate {l : Launch} {K : a_KT} {g : a_GT} {IB : iT} (hko : a_kok K) {a0 : Nat} (ha0 : isSums a0) {a2 : Nat} (ha2 : isRow a2) (I : iT) (J : jT) (F : fT) (hF : FK F) (x1 : Int32) (x3 : Int32) (q : Int32 × iT) (hm : mX8_evaluate a0 a2 I x1 x3 = some q) : C l K g 2 0 0 yX8_evaluate cX8_evaluate 5 (some .int) [.ref a0, .int x1, .ref a2, .int x3] (hg I IB J F) (fun r2 h2 => r2 = some (.int q.1) ∧ h2 = hg q.2 IB J F) := by
  unfold mX8_evaluate at hm
  refine c_of [.ref a0, .int x1, .ref a2, .int x3, .null] (by decide) (Nat.le_of_ble_eq_true rfl) rfl ?_
  refine e_aload_n (i := 0) rfl dX8_evaluate_0 ?_
  refine q_getF 8 3 (a0 + 7) dX8_evaluate_1 fl_RX8_26 rfl (iz_su ha0) (fru_3 hF.1 ha0) ?_
  refine e_iload_n (i := 1) rfl dX8_evaluate_4 ?_
  obtain ⟨q4, eq4, hm⟩ := ob_some hm
  refine e_cV1 hko dX8_evaluate_5 ml_RX8_43 (iz_row (rwu_7 ha0)) (by decide) rfl (by omega) (Nat.le_of_ble_eq_true rfl) (tX4_at hko (rwu_7 ha0) I J F hF x1 _ eq4) ?_
  rintro _ _ ⟨rfl, rfl⟩
  refine q_istore (i := 4) (by decide) rfl dX8_evaluate_8 ?_
  refine e_weak [.ref a0, .int x1, .ref a2, .int x3, .int q4] ⟨rfl, ⟨rfl, ⟨rfl, ⟨rfl, ⟨rfl, trivial⟩⟩⟩⟩⟩ ?_
  exact tX8_evaluate_10 hko ha0 ha2 LF I x1 x3 q4 hF _ hm
theorem dX1_made_0 : decode cX1_made 0 = .ok (.aload_n 0, 1) := by decide +kernel
theorem dX1_made_1 : decode cX1_made 1 = .ok (.getfield 14, 3) := by decide +kernel
theorem dX1_made_4 : decode cX1_made 4 = .ok (.invokevirtual 41, 3) := by decide +kernel
theorem dX1_made_7 : decode cX1_made 7 = .ok (.ireturn, 1) := by decide +kernel
def mX1_made (I : iT) : Option (Int32) := (mX4_size 150 I).bind fun q1 => some q1
set_option maxRecDepth 100000 in
set_option maxHeartbeats 4000000 in
theorem tX1_made {l : Launch} {K : a_KT} {g : a_GT} {IB : iT} (hko : a_kok K) (I : iT) (J : jT) (F : fT) (hF : FK F) (q : Int32) (hm : mX1_made I = some q) : C l K g 1 0 0 yX1_made cX1_made 1 (some .int) [.ref 149] (hg I IB J F) (fun r2 h2 => r2 = some (.int q) ∧ h2 = hg I IB J F) := by
  unfold mX1_made at hm
  refine c_of [.ref 149] (by decide) (Nat.le_of_ble_eq_true rfl) rfl ?_
  refine e_aload_n (i := 0) rfl dX1_made_0 ?_
  refine q_getF 1 0 150 dX1_made_1 fl_RX1_14 rfl iz_149 (fr_149_0 hF.1) ?_
  obtain ⟨q1, eq1, hm⟩ := ob_some hm
  refine e_cV0 hko dX1_made_4 ml_RX1_41 iz_150 (by decide) rfl (by omega) (Nat.le_of_ble_eq_true rfl) (tX4_size hko rw_150 I J F hF _ eq1) ?_
  rintro _ _ ⟨rfl, rfl⟩
  refine e_iret dX1_made_7 rfl ?_
  have hm := some_in hm
  subst hm
  exact ⟨rfl, rfl⟩
theorem dX11_isDigit_0 : decode cX11_isDigit 0 = .ok (.iload_n 0, 1) := by decide +kernel
theorem dX11_isDigit_1 : decode cX11_isDigit 1 = .ok (.bipush 48, 2) := by decide +kernel
theorem dX11_isDigit_3 : decode cX11_isDigit 3 = .ok (.if_icmp .lt 13, 3) := by decide +kernel
theorem dX11_isDigit_6 : decode cX11_isDigit 6 = .ok (.iload_n 0, 1) := by decide +kernel
theorem dX11_isDigit_7 : decode cX11_isDigit 7 = .ok (.bipush 57, 2) := by decide +kernel
theorem dX11_isDigit_9 : decode cX11_isDigit 9 = .ok (.if_icmp .gt 7, 3) := by decide +kernel
theorem dX11_isDigit_12 : decode cX11_isDigit 12 = .ok (.iconst 1, 1) := by decide +kernel
theorem dX11_isDigit_13 : decode cX11_isDigit 13 = .ok (.goto 4, 3) := by decide +kernel
theorem dX11_isDigit_16 : decode cX11_isDigit 16 = .ok (.iconst 0, 1) := by decide +kernel
theorem dX11_isDigit_17 : decode cX11_isDigit 17 = .ok (.ireturn, 1) := by decide +kernel
def mX11_isDigit (x0 : Int32) : Option (Int32) := if x0 < 48 then some 0 else if 57 < x0 then some 0 else some 1
set_option maxRecDepth 100000 in
set_option maxHeartbeats 4000000 in
theorem tX11_isDigit {l : Launch} {K : a_KT} {g : a_GT} {IB : iT} (hko : a_kok K) (I : iT) (J : jT) (F : fT) (hF : FK F) (x0 : Int32) (q : Int32) (hm : mX11_isDigit x0 = some q) : C l K g 0 0 0 yX11_isDigit cX11_isDigit 1 (some .boolean) [.int x0] (hg I IB J F) (fun r2 h2 => r2 = some (.int q) ∧ h2 = hg I IB J F) := by
  unfold mX11_isDigit at hm
  refine c_of [.int x0] (by decide) (Nat.le_of_ble_eq_true rfl) rfl ?_
  refine e_iload_n (i := 0) rfl dX11_isDigit_0 ?_
  refine e_bipush (v := 48) (by decide) dX11_isDigit_1 ?_
  refine e_icmp_lt 16 dX11_isDigit_3 (by decide) (fun c_3 => ?_) (fun c_3 => ?_)
  · have hm := it_p c_3 hm
    refine e_iconst (v := 0) (by decide) dX11_isDigit_16 ?_
    refine e_zret dX11_isDigit_17 rfl rfl ?_
    have hm := some_in hm
    subst hm
    exact ⟨rfl, rfl⟩
  · have hm := it_n c_3 hm
    refine e_iload_n (i := 0) rfl dX11_isDigit_6 ?_
    refine e_bipush (v := 57) (by decide) dX11_isDigit_7 ?_
    refine e_icmp_gt 16 dX11_isDigit_9 (by decide) (fun c_9 => ?_) (fun c_9 => ?_)
    · have hm := it_p c_9 hm
      refine e_iconst (v := 0) (by decide) dX11_isDigit_16 ?_
      refine e_zret dX11_isDigit_17 rfl rfl ?_
      have hm := some_in hm
      subst hm
      exact ⟨rfl, rfl⟩
    · have hm := it_n c_9 hm
      refine e_iconst (v := 1) (by decide) dX11_isDigit_12 ?_
      refine e_goto 17 dX11_isDigit_13 (by decide) ?_
      refine e_zret dX11_isDigit_17 rfl rfl ?_
      have hm := some_in hm
      subst hm
      exact ⟨rfl, rfl⟩
theorem dX11_isSmallLetter_0 : decode cX11_isSmallLetter 0 = .ok (.iload_n 0, 1) := by decide +kernel
theorem dX11_isSmallLetter_1 : decode cX11_isSmallLetter 1 = .ok (.bipush 97, 2) := by decide +kernel
theorem dX11_isSmallLetter_3 : decode cX11_isSmallLetter 3 = .ok (.if_icmp .lt 13, 3) := by decide +kernel
theorem dX11_isSmallLetter_6 : decode cX11_isSmallLetter 6 = .ok (.iload_n 0, 1) := by decide +kernel
theorem dX11_isSmallLetter_7 : decode cX11_isSmallLetter 7 = .ok (.bipush 122, 2) := by decide +kernel
theorem dX11_isSmallLetter_9 : decode cX11_isSmallLetter 9 = .ok (.if_icmp .gt 7, 3) := by decide +kernel
theorem dX11_isSmallLetter_12 : decode cX11_isSmallLetter 12 = .ok (.iconst 1, 1) := by decide +kernel
theorem dX11_isSmallLetter_13 : decode cX11_isSmallLetter 13 = .ok (.goto 4, 3) := by decide +kernel
theorem dX11_isSmallLetter_16 : decode cX11_isSmallLetter 16 = .ok (.iconst 0, 1) := by decide +kernel
theorem dX11_isSmallLetter_17 : decode cX11_isSmallLetter 17 = .ok (.ireturn, 1) := by decide +kernel
def mX11_isSmallLetter (x0 : Int32) : Option (Int32) := if x0 < 97 then some 0 else if 122 < x0 then some 0 else some 1
set_option maxRecDepth 100000 in
set_option maxHeartbeats 4000000 in
theorem tX11_isSmallLetter {l : Launch} {K : a_KT} {g : a_GT} {IB : iT} (hko : a_kok K) (I : iT) (J : jT) (F : fT) (hF : FK F) (x0 : Int32) (q : Int32) (hm : mX11_isSmallLetter x0 = some q) : C l K g 0 0 0 yX11_isSmallLetter cX11_isSmallLetter 1 (some .boolean) [.int x0] (hg I IB J F) (fun r2 h2 => r2 = some (.int q) ∧ h2 = hg I IB J F) := by
  unfold mX11_isSmallLetter at hm
  refine c_of [.int x0] (by decide) (Nat.le_of_ble_eq_true rfl) rfl ?_
  refine e_iload_n (i := 0) rfl dX11_isSmallLetter_0 ?_
  refine e_bipush (v := 97) (by decide) dX11_isSmallLetter_1 ?_
  refine e_icmp_lt 16 dX11_isSmallLetter_3 (by decide) (fun c_3 => ?_) (fun c_3 => ?_)
  · have hm := it_p c_3 hm
    refine e_iconst (v := 0) (by decide) dX11_isSmallLetter_16 ?_
    refine e_zret dX11_isSmallLetter_17 rfl rfl ?_
    have hm := some_in hm
    subst hm
    exact ⟨rfl, rfl⟩
  · have hm := it_n c_3 hm
    refine e_iload_n (i := 0) rfl dX11_isSmallLetter_6 ?_
    refine e_bipush (v := 122) (by decide) dX11_isSmallLetter_7 ?_
    refine e_icmp_gt 16 dX11_isSmallLetter_9 (by decide) (fun c_9 => ?_) (fun c_9 => ?_)
    · have hm := it_p c_9 hm
      refine e_iconst (v := 0) (by decide) dX11_isSmallLetter_16 ?_
      refine e_zret dX11_isSmallLetter_17 rfl rfl ?_
      have hm := some_in hm
      subst hm
      exact ⟨rfl, rfl⟩
    · have hm := it_n c_9 hm
      refine e_iconst (v := 1) (by decide) dX11_isSmallLetter_12 ?_
      refine e_goto 17 dX11_isSmallLetter_13 (by decide) ?_
      refine e_zret dX11_isSmallLetter_17 rfl rfl ?_
      have hm := some_in hm
      subst hm
      exact ⟨rfl, rfl⟩
theorem dX11_isLetter_0 : decode cX11_isLetter 0 = .ok (.iload_n 0, 1) := by decide +kernel
theorem dX11_isLetter_1 : decode cX11_isLetter 1 = .ok (.invokestatic 231, 3) := by decide +kernel
theorem dX11_isLetter_4 : decode cX11_isLetter 4 = .ok (.ifCond .ne 15, 3) := by decide +kernel
theorem dX11_isLetter_7 : decode cX11_isLetter 7 = .ok (.iload_n 0, 1) := by decide +kernel
theorem dX11_isLetter_8 : decode cX11_isLetter 8 = .ok (.bipush 65, 2) := by decide +kernel
theorem dX11_isLetter_10 : decode cX11_isLetter 10 = .ok (.if_icmp .lt 13, 3) := by decide +kernel
theorem dX11_isLetter_13 : decode cX11_isLetter 13 = .ok (.iload_n 0, 1) := by decide +kernel
theorem dX11_isLetter_14 : decode cX11_isLetter 14 = .ok (.bipush 90, 2) := by decide +kernel
theorem dX11_isLetter_16 : decode cX11_isLetter 16 = .ok (.if_icmp .gt 7, 3) := by decide +kernel
theorem dX11_isLetter_19 : decode cX11_isLetter 19 = .ok (.iconst 1, 1) := by decide +kernel
theorem dX11_isLetter_20 : decode cX11_isLetter 20 = .ok (.goto 4, 3) := by decide +kernel
theorem dX11_isLetter_23 : decode cX11_isLetter 23 = .ok (.iconst 0, 1) := by decide +kernel
theorem dX11_isLetter_24 : decode cX11_isLetter 24 = .ok (.ireturn, 1) := by decide +kernel
def mX11_isLetter_19 (x0 : Int32) : Option (Int32) := some 1
def mX11_isLetter (x0 : Int32) : Option (Int32) := (mX11_isSmallLetter x0).bind fun q1 => if q1 = 0 then if x0 < 65 then some 0 else if 90 < x0 then some 0 else mX11_isLetter_19 x0 else mX11_isLetter_19 x0
set_option maxRecDepth 100000 in
set_option maxHeartbeats 4000000 in
theorem tX11_isLetter_19 {l : Launch} {K : a_KT} {g : a_GT} {IB : iT} (hko : a_kok K) {I : iT} {J : jT} {F : fT} (x0 : Int32) (hF : FK F) (q : Int32) (hm : mX11_isLetter_19 x0 = some q) : E l K g 1 0 0 yX11_isLetter cX11_isLetter 1 (some .boolean) 19 [.int x0] [] (hg I IB J F) (fun r2 h2 => r2 = some (.int q) ∧ h2 = hg I IB J F) := by
  unfold mX11_isLetter_19 at hm
  refine e_iconst (v := 1) (by decide) dX11_isLetter_19 ?_
  refine e_goto 24 dX11_isLetter_20 (by decide) ?_
  refine e_zret dX11_isLetter_24 rfl rfl ?_
  have hm := some_in hm
  subst hm
  exact ⟨rfl, rfl⟩
set_option maxRecDepth 100000 in
set_option maxHeartbeats 4000000 in
theorem tX11_isLetter {l : Launch} {K : a_KT} {g : a_GT} {IB : iT} (hko : a_kok K) (I : iT) (J : jT) (F : fT) (hF : FK F) (x0 : Int32) (q : Int32) (hm : mX11_isLetter x0 = some q) : C l K g 1 0 0 yX11_isLetter cX11_isLetter 1 (some .boolean) [.int x0] (hg I IB J F) (fun r2 h2 => r2 = some (.int q) ∧ h2 = hg I IB J F) := by
  unfold mX11_isLetter at hm
  refine c_of [.int x0] (by decide) (Nat.le_of_ble_eq_true rfl) rfl ?_
  refine e_iload_n (i := 0) rfl dX11_isLetter_0 ?_
  obtain ⟨q1, eq1, hm⟩ := ob_some hm
  refine e_cS1 hko dX11_isLetter_1 ml_RX11_231 (by omega) (Nat.le_of_ble_eq_true rfl) (tX11_isSmallLetter hko I J F hF x0 _ eq1) ?_
  rintro _ _ ⟨rfl, rfl⟩
  refine e_if_ne 19 dX11_isLetter_4 (by decide) (fun c_4 => ?_) (fun c_4 => ?_)
  · have hm := it_n c_4 hm
    refine e_weak [.int x0] ⟨rfl, trivial⟩ ?_
    exact tX11_isLetter_19 hko x0 hF _ hm
  · have hm := it_p c_4 hm
    refine e_iload_n (i := 0) rfl dX11_isLetter_7 ?_
    refine e_bipush (v := 65) (by decide) dX11_isLetter_8 ?_
    refine e_icmp_lt 23 dX11_isLetter_10 (by decide) (fun c_10 => ?_) (fun c_10 => ?_)
    · have hm := it_p c_10 hm
      refine e_iconst (v := 0) (by decide) dX11_isLetter_23 ?_
      refine e_zret dX11_isLetter_24 rfl rfl ?_
      have hm := some_in hm
      subst hm
      exact ⟨rfl, rfl⟩
    · have hm := it_n c_10 hm
      refine e_iload_n (i := 0) rfl dX11_isLetter_13 ?_
      refine e_bipush (v := 90) (by decide) dX11_isLetter_14 ?_
      refine e_icmp_gt 23 dX11_isLetter_16 (by decide) (fun c_16 => ?_) (fun c_16 => ?_)
      · have hm := it_p c_16 hm
        refine e_iconst (v := 0) (by decide) dX11_isLetter_23 ?_
        refine e_zret dX11_isLetter_24 rfl rfl ?_
        have hm := some_in hm
        subst hm
        exact ⟨rfl, rfl⟩
      · have hm := it_n c_16 hm
        refine e_weak [.int x0] ⟨rfl, trivial⟩ ?_
        exact tX11_isLetter_19 hko x0 hF _ hm
theorem dX11_withLetter_0 : decode cX11_withLetter 0 = .ok (.iload_n 1, 1) := by decide +kernel
theorem dX11_withLetter_1 : decode cX11_withLetter 1 = .ok (.ifCond .lt 9, 3) := by decide +kernel
theorem dX11_withLetter_4 : decode cX11_withLetter 4 = .ok (.iload_n 1, 1) := by decide +kernel
theorem dX11_withLetter_5 : decode cX11_withLetter 5 = .ok (.bipush 6, 2) := by decide +kernel
theorem dX11_withLetter_7 : decode cX11_withLetter 7 = .ok (.if_icmp .lt 5, 3) := by decide +kernel
theorem dX11_withLetter_10 : decode cX11_withLetter 10 = .ok (.iload_n 0, 1) := by decide +kernel
theorem dX11_withLetter_11 : decode cX11_withLetter 11 = .ok (.ireturn, 1) := by decide +kernel
theorem dX11_withLetter_12 : decode cX11_withLetter 12 = .ok (.iload_n 0, 1) := by decide +kernel
theorem dX11_withLetter_13 : decode cX11_withLetter 13 = .ok (.iload_n 2, 1) := by decide +kernel
theorem dX11_withLetter_14 : decode cX11_withLetter 14 = .ok (.bipush 97, 2) := by decide +kernel
theorem dX11_withLetter_16 : decode cX11_withLetter 16 = .ok (.isub, 1) := by decide +kernel
theorem dX11_withLetter_17 : decode cX11_withLetter 17 = .ok (.iconst 1, 1) := by decide +kernel
theorem dX11_withLetter_18 : decode cX11_withLetter 18 = .ok (.iadd, 1) := by decide +kernel
theorem dX11_withLetter_19 : decode cX11_withLetter 19 = .ok (.iload_n 1, 1) := by decide +kernel
theorem dX11_withLetter_20 : decode cX11_withLetter 20 = .ok (.invokestatic 234, 3) := by decide +kernel
theorem dX11_withLetter_23 : decode cX11_withLetter 23 = .ok (.ishl, 1) := by decide +kernel
theorem dX11_withLetter_24 : decode cX11_withLetter 24 = .ok (.ior, 1) := by decide +kernel
theorem dX11_withLetter_25 : decode cX11_withLetter 25 = .ok (.ireturn, 1) := by decide +kernel
def mX11_withLetter (x0 : Int32) (x1 : Int32) (x2 : Int32) : Option (Int32) := if x1 < 0 then some x0 else if x1 < 6 then (mX11_shiftOf x1).bind fun q1 => some (x0 ||| (((x2 - 97) + 1) <<< (q1 &&& 31))) else some x0
set_option maxRecDepth 100000 in
set_option maxHeartbeats 4000000 in
theorem tX11_withLetter {l : Launch} {K : a_KT} {g : a_GT} {IB : iT} (hko : a_kok K) (I : iT) (J : jT) (F : fT) (hF : FK F) (x0 : Int32) (x1 : Int32) (x2 : Int32) (q : Int32) (hm : mX11_withLetter x0 x1 x2 = some q) : C l K g 1 0 0 yX11_withLetter cX11_withLetter 3 (some .int) [.int x0, .int x1, .int x2] (hg I IB J F) (fun r2 h2 => r2 = some (.int q) ∧ h2 = hg I IB J F) := by
  unfold mX11_withLetter at hm
  refine c_of [.int x0, .int x1, .int x2] (by decide) (Nat.le_of_ble_eq_true rfl) rfl ?_
  refine e_iload_n (i := 1) rfl dX11_withLetter_0 ?_
  refine e_if_lt 10 dX11_withLetter_1 (by decide) (fun c_1 => ?_) (fun c_1 => ?_)
  · have hm := it_p c_1 hm
    refine e_iload_n (i := 0) rfl dX11_withLetter_10 ?_
    refine e_iret dX11_withLetter_11 rfl ?_
    have hm := some_in hm
    subst hm
    exact ⟨rfl, rfl⟩
  · have hm := it_n c_1 hm
    refine e_iload_n (i := 1) rfl dX11_withLetter_4 ?_
    refine e_bipush (v := 6) (by decide) dX11_withLetter_5 ?_
    refine e_icmp_lt 12 dX11_withLetter_7 (by decide) (fun c_7 => ?_) (fun c_7 => ?_)
    · have hm := it_p c_7 hm
      refine e_iload_n (i := 0) rfl dX11_withLetter_12 ?_
      refine e_iload_n (i := 2) rfl dX11_withLetter_13 ?_
      refine e_bipush (v := 97) (by decide) dX11_withLetter_14 ?_
      refine e_isub dX11_withLetter_16 ?_
      refine e_iconst (v := 1) (by decide) dX11_withLetter_17 ?_
      refine e_iadd dX11_withLetter_18 ?_
      refine e_iload_n (i := 1) rfl dX11_withLetter_19 ?_
      obtain ⟨q1, eq1, hm⟩ := ob_some hm
      refine e_cS1 hko dX11_withLetter_20 ml_RX11_234 (by omega) (Nat.le_of_ble_eq_true rfl) (tX11_shiftOf hko I J F hF x1 _ eq1) ?_
      rintro _ _ ⟨rfl, rfl⟩
      refine e_ishl dX11_withLetter_23 ?_
      refine e_ior dX11_withLetter_24 ?_
      refine e_iret dX11_withLetter_25 rfl ?_
      have hm := some_in hm
      subst hm
      exact ⟨rfl, rfl⟩
    · have hm := it_n c_7 hm
      refine e_iload_n (i := 0) rfl dX11_withLetter_10 ?_
      refine e_iret dX11_withLetter_11 rfl ?_
      have hm := some_in hm
      subst hm
      exact ⟨rfl, rfl⟩
theorem dX5_find_0 : decode cX5_find 0 = .ok (.iconst 0, 1) := by decide +kernel
theorem dX5_find_1 : decode cX5_find 1 = .ok (.istore_n 2, 1) := by decide +kernel
theorem dX5_find_2 : decode cX5_find 2 = .ok (.iload_n 2, 1) := by decide +kernel
theorem dX5_find_3 : decode cX5_find 3 = .ok (.aload_n 0, 1) := by decide +kernel
theorem dX5_find_4 : decode cX5_find 4 = .ok (.getfield 23, 3) := by decide +kernel
theorem dX5_find_7 : decode cX5_find 7 = .ok (.aload_n 0, 1) := by decide +kernel
theorem dX5_find_8 : decode cX5_find 8 = .ok (.getfield 29, 3) := by decide +kernel
theorem dX5_find_11 : decode cX5_find 11 = .ok (.invokevirtual 41, 3) := by decide +kernel
theorem dX5_find_14 : decode cX5_find 14 = .ok (.if_icmp .ge 35, 3) := by decide +kernel
theorem dX5_find_17 : decode cX5_find 17 = .ok (.iload_n 1, 1) := by decide +kernel
theorem dX5_find_18 : decode cX5_find 18 = .ok (.ifCond .eq 25, 3) := by decide +kernel
theorem dX5_find_21 : decode cX5_find 21 = .ok (.aload_n 0, 1) := by decide +kernel
theorem dX5_find_22 : decode cX5_find 22 = .ok (.getfield 14, 3) := by decide +kernel
theorem dX5_find_25 : decode cX5_find 25 = .ok (.aload_n 0, 1) := by decide +kernel
theorem dX5_find_26 : decode cX5_find 26 = .ok (.getfield 29, 3) := by decide +kernel
theorem dX5_find_29 : decode cX5_find 29 = .ok (.bipush 85, 2) := by decide +kernel
theorem dX5_find_31 : decode cX5_find 31 = .ok (.imul, 1) := by decide +kernel
theorem dX5_find_32 : decode cX5_find 32 = .ok (.iload_n 2, 1) := by decide +kernel
theorem dX5_find_33 : decode cX5_find 33 = .ok (.iadd, 1) := by decide +kernel
theorem dX5_find_34 : decode cX5_find 34 = .ok (.invokevirtual 41, 3) := by decide +kernel
theorem dX5_find_37 : decode cX5_find 37 = .ok (.iload_n 1, 1) := by decide +kernel
theorem dX5_find_38 : decode cX5_find 38 = .ok (.if_icmp .ne 5, 3) := by decide +kernel
theorem dX5_find_41 : decode cX5_find 41 = .ok (.iload_n 2, 1) := by decide +kernel
theorem dX5_find_42 : decode cX5_find 42 = .ok (.ireturn, 1) := by decide +kernel
theorem dX5_find_43 : decode cX5_find 43 = .ok (.iinc 2 1, 3) := by decide +kernel
theorem dX5_find_46 : decode cX5_find 46 = .ok (.goto (-44), 3) := by decide +kernel
theorem dX5_find_49 : decode cX5_find 49 = .ok (.iconst (-1), 1) := by decide +kernel
theorem dX5_find_50 : decode cX5_find 50 = .ok (.ireturn, 1) := by decide +kernel
def mX5_find_43 (k2 : iT → Int32 → Int32 → Option (Int32)) (I : iT) (x1 : Int32) (x2 : Int32) : Option (Int32) := k2 I x1 (x2 + 1)
def mX5_find_2 : Nat → iT → Int32 → Int32 → Option (Int32)
  | 0, _, _, _ => none
  | n + 1, I, x1, x2 => (mX4_at 140 I (I 135 3)).bind fun q1 => if q1 ≤ x2 then some ((-1)) else if x1 = 0 then mX5_find_43 (mX5_find_2 n) I x1 x2 else (mX4_at 136 I (((I 135 3) * 85) + x2)).bind fun q2 => if q2 = x1 then some x2 else mX5_find_43 (mX5_find_2 n) I x1 x2
def mX5_find (I : iT) (x1 : Int32) : Option (Int32) := mX5_find_2 LF I x1 0
set_option maxRecDepth 100000 in
set_option maxHeartbeats 4000000 in
theorem tX5_find_43 {l : Launch} {K : a_KT} {g : a_GT} {IB : iT} (hko : a_kok K) {J : jT} {F : fT} {k2 : iT → Int32 → Int32 → Option (Int32)} (hk2 : ∀ (I : iT) (x1 : Int32) (x2 : Int32) (_ : FK F) (q : Int32), k2 I x1 x2 = some q → E l K g 1 0 0 yX5_find cX5_find 3 (some .int) 2 [.ref 135, .int x1, .int x2] [] (hg I IB J F) (fun r2 h2 => r2 = some (.int q) ∧ h2 = hg I IB J F)) (I : iT) (x1 : Int32) (x2 : Int32) (hF : FK F) (q : Int32) (hm : mX5_find_43 k2 I x1 x2 = some q) : E l K g 1 0 0 yX5_find cX5_find 3 (some .int) 43 [.ref 135, .int x1, .int x2] [] (hg I IB J F) (fun r2 h2 => r2 = some (.int q) ∧ h2 = hg I IB J F) := by
  unfold mX5_find_43 at hm
  refine q_iinc (i := 2) (x2 + 1) rfl ic_1 rfl dX5_find_43 ?_
  refine e_goto 2 dX5_find_46 (by decide) ?_
  refine e_weak [.ref 135, .int x1, .int (x2 + 1)] ⟨rfl, ⟨rfl, ⟨rfl, trivial⟩⟩⟩ ?_
  exact hk2 I x1 (x2 + 1) hF _ hm
set_option maxRecDepth 100000 in
set_option maxHeartbeats 4000000 in
theorem tX5_find_2 {l : Launch} {K : a_KT} {g : a_GT} {IB : iT} (hko : a_kok K) {J : jT} {F : fT} : ∀ (n : Nat) (I : iT) (x1 : Int32) (x2 : Int32) (hF : FK F) (q : Int32), mX5_find_2 n I x1 x2 = some q → E l K g 1 0 0 yX5_find cX5_find 3 (some .int) 2 [.ref 135, .int x1, .int x2] [] (hg I IB J F) (fun r2 h2 => r2 = some (.int q) ∧ h2 = hg I IB J F) := by
  intro n
  induction n with
  | zero => intro I x1 x2 hF q hm; cases hm
  | succ n ih =>
    intro I x1 x2 hF q hm
    rw [mX5_find_2] at hm
    refine e_iload_n (i := 2) rfl dX5_find_2 ?_
    refine e_aload_n (i := 0) rfl dX5_find_3 ?_
    refine q_getF 5 2 140 dX5_find_4 fl_RX5_23 rfl iz_135 (fr_135_2 hF.1) ?_
    refine e_aload_n (i := 0) rfl dX5_find_7 ?_
    refine k_getI 5 3 dX5_find_8 fl_RX5_29 rfl iz_135 (by decide) ?_
    obtain ⟨q1, eq1, hm⟩ := ob_some hm
    refine e_cV1 hko dX5_find_11 ml_RX5_41 iz_140 (by decide) rfl (by omega) (Nat.le_of_ble_eq_true rfl) (tX4_at hko rw_140 I J F hF (I 135 3) _ eq1) ?_
    rintro _ _ ⟨rfl, rfl⟩
    refine e_icmp_ge 49 dX5_find_14 (by decide) (fun c_14 => ?_) (fun c_14 => ?_)
    · have hm := it_p c_14 hm
      refine e_iconst (v := (-1)) (by decide) dX5_find_49 ?_
      refine e_iret dX5_find_50 rfl ?_
      have hm := some_in hm
      subst hm
      exact ⟨rfl, rfl⟩
    · have hm := it_n c_14 hm
      refine e_iload_n (i := 1) rfl dX5_find_17 ?_
      refine e_if_eq 43 dX5_find_18 (by decide) (fun c_18 => ?_) (fun c_18 => ?_)
      · have hm := it_p c_18 hm
        refine e_weak [.ref 135, .int x1, .int x2] ⟨rfl, ⟨rfl, ⟨rfl, trivial⟩⟩⟩ ?_
        exact tX5_find_43 hko (ih) I x1 x2 hF _ hm
      · have hm := it_n c_18 hm
        refine e_aload_n (i := 0) rfl dX5_find_21 ?_
        refine q_getF 5 0 136 dX5_find_22 fl_RX5_14 rfl iz_135 (fr_135_0 hF.1) ?_
        refine e_aload_n (i := 0) rfl dX5_find_25 ?_
        refine k_getI 5 3 dX5_find_26 fl_RX5_29 rfl iz_135 (by decide) ?_
        refine e_bipush (v := 85) (by decide) dX5_find_29 ?_
        refine e_imul dX5_find_31 ?_
        refine e_iload_n (i := 2) rfl dX5_find_32 ?_
        refine e_iadd dX5_find_33 ?_
        obtain ⟨q2, eq2, hm⟩ := ob_some hm
        refine e_cV1 hko dX5_find_34 ml_RX5_41 iz_136 (by decide) rfl (by omega) (Nat.le_of_ble_eq_true rfl) (tX4_at hko rw_136 I J F hF (((I 135 3) * 85) + x2) _ eq2) ?_
        rintro _ _ ⟨rfl, rfl⟩
        refine e_iload_n (i := 1) rfl dX5_find_37 ?_
        refine e_icmp_ne 43 dX5_find_38 (by decide) (fun c_38 => ?_) (fun c_38 => ?_)
        · have hm := it_n c_38 hm
          refine e_weak [.ref 135, .int x1, .int x2] ⟨rfl, ⟨rfl, ⟨rfl, trivial⟩⟩⟩ ?_
          exact tX5_find_43 hko (ih) I x1 x2 hF _ hm
        · have hm := it_p c_38 hm
          refine e_iload_n (i := 2) rfl dX5_find_41 ?_
          refine e_iret dX5_find_42 rfl ?_
          have hm := some_in hm
          subst hm
          exact ⟨rfl, rfl⟩
set_option maxRecDepth 100000 in
set_option maxHeartbeats 4000000 in
theorem tX5_find {l : Launch} {K : a_KT} {g : a_GT} {IB : iT} (hko : a_kok K) (I : iT) (J : jT) (F : fT) (hF : FK F) (x1 : Int32) (q : Int32) (hm : mX5_find I x1 = some q) : C l K g 1 0 0 yX5_find cX5_find 3 (some .int) [.ref 135, .int x1] (hg I IB J F) (fun r2 h2 => r2 = some (.int q) ∧ h2 = hg I IB J F) := by
  unfold mX5_find at hm
  refine c_of [.ref 135, .int x1, .null] (by decide) (Nat.le_of_ble_eq_true rfl) rfl ?_
  refine e_iconst (v := 0) (by decide) dX5_find_0 ?_
  refine q_istore_n (i := 2) (by decide) rfl dX5_find_1 ?_
  refine e_weak [.ref 135, .int x1, .int 0] ⟨rfl, ⟨rfl, ⟨rfl, trivial⟩⟩⟩ ?_
  exact tX5_find_2 hko LF I x1 0 hF _ hm
theorem dX5_index_0 : decode cX5_index 0 = .ok (.iload_n 1, 1) := by decide +kernel
theorem dX5_index_1 : decode cX5_index 1 = .ok (.ifCond .lt 21, 3) := by decide +kernel
theorem dX5_index_4 : decode cX5_index 4 = .ok (.iload_n 1, 1) := by decide +kernel
theorem dX5_index_5 : decode cX5_index 5 = .ok (.bipush 85, 2) := by decide +kernel
theorem dX5_index_7 : decode cX5_index 7 = .ok (.if_icmp .ge 15, 3) := by decide +kernel
theorem dX5_index_10 : decode cX5_index 10 = .ok (.aload_n 0, 1) := by decide +kernel
theorem dX5_index_11 : decode cX5_index 11 = .ok (.getfield 29, 3) := by decide +kernel
theorem dX5_index_14 : decode cX5_index 14 = .ok (.bipush 85, 2) := by decide +kernel
theorem dX5_index_16 : decode cX5_index 16 = .ok (.imul, 1) := by decide +kernel
theorem dX5_index_17 : decode cX5_index 17 = .ok (.iload_n 1, 1) := by decide +kernel
theorem dX5_index_18 : decode cX5_index 18 = .ok (.iadd, 1) := by decide +kernel
theorem dX5_index_19 : decode cX5_index 19 = .ok (.goto 4, 3) := by decide +kernel
theorem dX5_index_22 : decode cX5_index 22 = .ok (.iconst (-1), 1) := by decide +kernel
theorem dX5_index_23 : decode cX5_index 23 = .ok (.ireturn, 1) := by decide +kernel
def mX5_index (I : iT) (x1 : Int32) : Option (Int32) := if x1 < 0 then some ((-1)) else if 85 ≤ x1 then some ((-1)) else some (((I 135 3) * 85) + x1)
set_option maxRecDepth 100000 in
set_option maxHeartbeats 4000000 in
theorem tX5_index {l : Launch} {K : a_KT} {g : a_GT} {IB : iT} (hko : a_kok K) (I : iT) (J : jT) (F : fT) (hF : FK F) (x1 : Int32) (q : Int32) (hm : mX5_index I x1 = some q) : C l K g 0 0 0 yX5_index cX5_index 2 (some .int) [.ref 135, .int x1] (hg I IB J F) (fun r2 h2 => r2 = some (.int q) ∧ h2 = hg I IB J F) := by
  unfold mX5_index at hm
  refine c_of [.ref 135, .int x1] (by decide) (Nat.le_of_ble_eq_true rfl) rfl ?_
  refine e_iload_n (i := 1) rfl dX5_index_0 ?_
  refine e_if_lt 22 dX5_index_1 (by decide) (fun c_1 => ?_) (fun c_1 => ?_)
  · have hm := it_p c_1 hm
    refine e_iconst (v := (-1)) (by decide) dX5_index_22 ?_
    refine e_iret dX5_index_23 rfl ?_
    have hm := some_in hm
    subst hm
    exact ⟨rfl, rfl⟩
  · have hm := it_n c_1 hm
    refine e_iload_n (i := 1) rfl dX5_index_4 ?_
    refine e_bipush (v := 85) (by decide) dX5_index_5 ?_
    refine e_icmp_ge 22 dX5_index_7 (by decide) (fun c_7 => ?_) (fun c_7 => ?_)
    · have hm := it_p c_7 hm
      refine e_iconst (v := (-1)) (by decide) dX5_index_22 ?_
      refine e_iret dX5_index_23 rfl ?_
      have hm := some_in hm
      subst hm
      exact ⟨rfl, rfl⟩
    · have hm := it_n c_7 hm
      refine e_aload_n (i := 0) rfl dX5_index_10 ?_
      refine k_getI 5 3 dX5_index_11 fl_RX5_29 rfl iz_135 (by decide) ?_
      refine e_bipush (v := 85) (by decide) dX5_index_14 ?_
      refine e_imul dX5_index_16 ?_
      refine e_iload_n (i := 1) rfl dX5_index_17 ?_
      refine e_iadd dX5_index_18 ?_
      refine e_goto 23 dX5_index_19 (by decide) ?_
      refine e_iret dX5_index_23 rfl ?_
      have hm := some_in hm
      subst hm
      exact ⟨rfl, rfl⟩
theorem dX5_set_0 : decode cX5_set 0 = .ok (.aload_n 0, 1) := by decide +kernel
theorem dX5_set_1 : decode cX5_set 1 = .ok (.getfield 14, 3) := by decide +kernel
theorem dX5_set_4 : decode cX5_set 4 = .ok (.aload_n 0, 1) := by decide +kernel
theorem dX5_set_5 : decode cX5_set 5 = .ok (.iload_n 1, 1) := by decide +kernel
theorem dX5_set_6 : decode cX5_set 6 = .ok (.invokevirtual 50, 3) := by decide +kernel
theorem dX5_set_9 : decode cX5_set 9 = .ok (.iload_n 2, 1) := by decide +kernel
theorem dX5_set_10 : decode cX5_set 10 = .ok (.invokevirtual 33, 3) := by decide +kernel
theorem dX5_set_13 : decode cX5_set 13 = .ok (.aload_n 0, 1) := by decide +kernel
theorem dX5_set_14 : decode cX5_set 14 = .ok (.getfield 20, 3) := by decide +kernel
theorem dX5_set_17 : decode cX5_set 17 = .ok (.aload_n 0, 1) := by decide +kernel
theorem dX5_set_18 : decode cX5_set 18 = .ok (.iload_n 1, 1) := by decide +kernel
theorem dX5_set_19 : decode cX5_set 19 = .ok (.invokevirtual 50, 3) := by decide +kernel
theorem dX5_set_22 : decode cX5_set 22 = .ok (.iload_n 3, 1) := by decide +kernel
theorem dX5_set_23 : decode cX5_set 23 = .ok (.invokevirtual 33, 3) := by decide +kernel
theorem dX5_set_26 : decode cX5_set 26 = .ok (.return_, 1) := by decide +kernel
def mX5_set (I : iT) (x1 : Int32) (x2 : Int32) (x3 : Int32) : Option (iT) := (mX5_index I x1).bind fun q1 => (mX4_put 136 I q1 x2).bind fun q2 => (mX5_index q2 x1).bind fun q3 => (mX4_put 138 q2 q3 x3).bind fun q4 => some q4
set_option maxRecDepth 100000 in
set_option maxHeartbeats 4000000 in
theorem tX5_set {l : Launch} {K : a_KT} {g : a_GT} {IB : iT} (hko : a_kok K) (I : iT) (J : jT) (F : fT) (hF : FK F) (x1 : Int32) (x2 : Int32) (x3 : Int32) (q : iT) (hm : mX5_set I x1 x2 x3 = some q) : C l K g 1 0 0 yX5_set cX5_set 4 none [.ref 135, .int x1, .int x2, .int x3] (hg I IB J F) (fun r2 h2 => r2 = none ∧ h2 = hg q IB J F) := by
  unfold mX5_set at hm
  refine c_of [.ref 135, .int x1, .int x2, .int x3] (by decide) (Nat.le_of_ble_eq_true rfl) rfl ?_
  refine e_aload_n (i := 0) rfl dX5_set_0 ?_
  refine q_getF 5 0 136 dX5_set_1 fl_RX5_14 rfl iz_135 (fr_135_0 hF.1) ?_
  refine e_aload_n (i := 0) rfl dX5_set_4 ?_
  refine e_iload_n (i := 1) rfl dX5_set_5 ?_
  obtain ⟨q1, eq1, hm⟩ := ob_some hm
  refine e_cV1 hko dX5_set_6 ml_RX5_50 iz_135 (by decide) rfl (by omega) (Nat.le_of_ble_eq_true rfl) (tX5_index hko I J F hF x1 _ eq1) ?_
  rintro _ _ ⟨rfl, rfl⟩
  refine e_iload_n (i := 2) rfl dX5_set_9 ?_
  obtain ⟨q2, eq2, hm⟩ := ob_some hm
  refine e_cV2 hko dX5_set_10 ml_RX5_33 iz_136 (by decide) rfl (by omega) (Nat.le_of_ble_eq_true rfl) (tX4_put hko rw_136 I J F hF q1 x2 _ eq2) ?_
  rintro _ _ ⟨rfl, rfl⟩
  refine e_aload_n (i := 0) rfl dX5_set_13 ?_
  refine q_getF 5 1 138 dX5_set_14 fl_RX5_20 rfl iz_135 (fr_135_1 hF.1) ?_
  refine e_aload_n (i := 0) rfl dX5_set_17 ?_
  refine e_iload_n (i := 1) rfl dX5_set_18 ?_
  obtain ⟨q3, eq3, hm⟩ := ob_some hm
  refine e_cV1 hko dX5_set_19 ml_RX5_50 iz_135 (by decide) rfl (by omega) (Nat.le_of_ble_eq_true rfl) (tX5_index hko q2 J F hF x1 _ eq3) ?_
  rintro _ _ ⟨rfl, rfl⟩
  refine e_iload_n (i := 3) rfl dX5_set_22 ?_
  obtain ⟨q4, eq4, hm⟩ := ob_some hm
  refine e_cV2 hko dX5_set_23 ml_RX5_33 iz_138 (by decide) rfl (by omega) (Nat.le_of_ble_eq_true rfl) (tX4_put hko rw_138 q2 J F hF q3 x3 _ eq4) ?_
  rintro _ _ ⟨rfl, rfl⟩
  refine e_vret dX5_set_26 rfl ?_
  have hm := some_in hm
  subst hm
  exact ⟨rfl, rfl⟩
theorem dX5_add_0 : decode cX5_add 0 = .ok (.aload_n 0, 1) := by decide +kernel
theorem dX5_add_1 : decode cX5_add 1 = .ok (.getfield 23, 3) := by decide +kernel
theorem dX5_add_4 : decode cX5_add 4 = .ok (.aload_n 0, 1) := by decide +kernel
theorem dX5_add_5 : decode cX5_add 5 = .ok (.getfield 29, 3) := by decide +kernel
theorem dX5_add_8 : decode cX5_add 8 = .ok (.invokevirtual 41, 3) := by decide +kernel
theorem dX5_add_11 : decode cX5_add 11 = .ok (.istore_n 3, 1) := by decide +kernel
theorem dX5_add_12 : decode cX5_add 12 = .ok (.aload_n 0, 1) := by decide +kernel
theorem dX5_add_13 : decode cX5_add 13 = .ok (.iload_n 3, 1) := by decide +kernel
theorem dX5_add_14 : decode cX5_add 14 = .ok (.iload_n 1, 1) := by decide +kernel
theorem dX5_add_15 : decode cX5_add 15 = .ok (.iload_n 2, 1) := by decide +kernel
theorem dX5_add_16 : decode cX5_add 16 = .ok (.invokevirtual 53, 3) := by decide +kernel
theorem dX5_add_19 : decode cX5_add 19 = .ok (.aload_n 0, 1) := by decide +kernel
theorem dX5_add_20 : decode cX5_add 20 = .ok (.getfield 23, 3) := by decide +kernel
theorem dX5_add_23 : decode cX5_add 23 = .ok (.aload_n 0, 1) := by decide +kernel
theorem dX5_add_24 : decode cX5_add 24 = .ok (.getfield 29, 3) := by decide +kernel
theorem dX5_add_27 : decode cX5_add 27 = .ok (.iconst 1, 1) := by decide +kernel
theorem dX5_add_28 : decode cX5_add 28 = .ok (.invokevirtual 57, 3) := by decide +kernel
theorem dX5_add_31 : decode cX5_add 31 = .ok (.iload_n 3, 1) := by decide +kernel
theorem dX5_add_32 : decode cX5_add 32 = .ok (.ireturn, 1) := by decide +kernel
def mX5_add (I : iT) (x1 : Int32) (x2 : Int32) : Option (Int32 × iT) := (mX4_at 140 I (I 135 3)).bind fun q1 => (mX5_set I q1 x1 x2).bind fun q2 => (mX4_bump 140 q2 (q2 135 3) 1).bind fun q3 => some (q1, q3)
set_option maxRecDepth 100000 in
set_option maxHeartbeats 4000000 in
theorem tX5_add {l : Launch} {K : a_KT} {g : a_GT} {IB : iT} (hko : a_kok K) (I : iT) (J : jT) (F : fT) (hF : FK F) (x1 : Int32) (x2 : Int32) (q : Int32 × iT) (hm : mX5_add I x1 x2 = some q) : C l K g 2 0 0 yX5_add cX5_add 4 (some .int) [.ref 135, .int x1, .int x2] (hg I IB J F) (fun r2 h2 => r2 = some (.int q.1) ∧ h2 = hg q.2 IB J F) := by
  unfold mX5_add at hm
  refine c_of [.ref 135, .int x1, .int x2, .null] (by decide) (Nat.le_of_ble_eq_true rfl) rfl ?_
  refine e_aload_n (i := 0) rfl dX5_add_0 ?_
  refine q_getF 5 2 140 dX5_add_1 fl_RX5_23 rfl iz_135 (fr_135_2 hF.1) ?_
  refine e_aload_n (i := 0) rfl dX5_add_4 ?_
  refine k_getI 5 3 dX5_add_5 fl_RX5_29 rfl iz_135 (by decide) ?_
  obtain ⟨q1, eq1, hm⟩ := ob_some hm
  refine e_cV1 hko dX5_add_8 ml_RX5_41 iz_140 (by decide) rfl (by omega) (Nat.le_of_ble_eq_true rfl) (tX4_at hko rw_140 I J F hF (I 135 3) _ eq1) ?_
  rintro _ _ ⟨rfl, rfl⟩
  refine q_istore_n (i := 3) (by decide) rfl dX5_add_11 ?_
  refine e_aload_n (i := 0) rfl dX5_add_12 ?_
  refine e_iload_n (i := 3) rfl dX5_add_13 ?_
  refine e_iload_n (i := 1) rfl dX5_add_14 ?_
  refine e_iload_n (i := 2) rfl dX5_add_15 ?_
  obtain ⟨q2, eq2, hm⟩ := ob_some hm
  refine e_cV3 hko dX5_add_16 ml_RX5_53 iz_135 (by decide) rfl (by omega) (Nat.le_of_ble_eq_true rfl) (tX5_set hko I J F hF q1 x1 x2 _ eq2) ?_
  rintro _ _ ⟨rfl, rfl⟩
  refine e_aload_n (i := 0) rfl dX5_add_19 ?_
  refine q_getF 5 2 140 dX5_add_20 fl_RX5_23 rfl iz_135 (fr_135_2 hF.1) ?_
  refine e_aload_n (i := 0) rfl dX5_add_23 ?_
  refine k_getI 5 3 dX5_add_24 fl_RX5_29 rfl iz_135 (by decide) ?_
  refine e_iconst (v := 1) (by decide) dX5_add_27 ?_
  obtain ⟨q3, eq3, hm⟩ := ob_some hm
  refine e_cV2 hko dX5_add_28 ml_RX5_57 iz_140 (by decide) rfl (by omega) (Nat.le_of_ble_eq_true rfl) (tX4_bump hko rw_140 q2 J F hF (q2 135 3) 1 _ eq3) ?_
  rintro _ _ ⟨rfl, rfl⟩
  refine e_iload_n (i := 3) rfl dX5_add_31 ?_
  refine e_iret dX5_add_32 rfl ?_
  have hm := some_in hm
  subst hm
  exact ⟨rfl, rfl⟩
theorem dX5_hasChannels_0 : decode cX5_hasChannels 0 = .ok (.iconst 1, 1) := by decide +kernel
theorem dX5_hasChannels_1 : decode cX5_hasChannels 1 = .ok (.istore_n 1, 1) := by decide +kernel
theorem dX5_hasChannels_2 : decode cX5_hasChannels 2 = .ok (.iload_n 1, 1) := by decide +kernel
theorem dX5_hasChannels_3 : decode cX5_hasChannels 3 = .ok (.aload_n 0, 1) := by decide +kernel
theorem dX5_hasChannels_4 : decode cX5_hasChannels 4 = .ok (.getfield 23, 3) := by decide +kernel
theorem dX5_hasChannels_7 : decode cX5_hasChannels 7 = .ok (.aload_n 0, 1) := by decide +kernel
theorem dX5_hasChannels_8 : decode cX5_hasChannels 8 = .ok (.getfield 29, 3) := by decide +kernel
theorem dX5_hasChannels_11 : decode cX5_hasChannels 11 = .ok (.invokevirtual 41, 3) := by decide +kernel
theorem dX5_hasChannels_14 : decode cX5_hasChannels 14 = .ok (.if_icmp .ge 31, 3) := by decide +kernel
theorem dX5_hasChannels_17 : decode cX5_hasChannels 17 = .ok (.aload_n 0, 1) := by decide +kernel
theorem dX5_hasChannels_18 : decode cX5_hasChannels 18 = .ok (.getfield 20, 3) := by decide +kernel
theorem dX5_hasChannels_21 : decode cX5_hasChannels 21 = .ok (.aload_n 0, 1) := by decide +kernel
theorem dX5_hasChannels_22 : decode cX5_hasChannels 22 = .ok (.getfield 29, 3) := by decide +kernel
theorem dX5_hasChannels_25 : decode cX5_hasChannels 25 = .ok (.bipush 85, 2) := by decide +kernel
theorem dX5_hasChannels_27 : decode cX5_hasChannels 27 = .ok (.imul, 1) := by decide +kernel
theorem dX5_hasChannels_28 : decode cX5_hasChannels 28 = .ok (.iload_n 1, 1) := by decide +kernel
theorem dX5_hasChannels_29 : decode cX5_hasChannels 29 = .ok (.iadd, 1) := by decide +kernel
theorem dX5_hasChannels_30 : decode cX5_hasChannels 30 = .ok (.invokevirtual 41, 3) := by decide +kernel
theorem dX5_hasChannels_33 : decode cX5_hasChannels 33 = .ok (.iconst (-1), 1) := by decide +kernel
theorem dX5_hasChannels_34 : decode cX5_hasChannels 34 = .ok (.if_icmp .eq 5, 3) := by decide +kernel
theorem dX5_hasChannels_37 : decode cX5_hasChannels 37 = .ok (.iconst 1, 1) := by decide +kernel
theorem dX5_hasChannels_38 : decode cX5_hasChannels 38 = .ok (.ireturn, 1) := by decide +kernel
theorem dX5_hasChannels_39 : decode cX5_hasChannels 39 = .ok (.iinc 1 1, 3) := by decide +kernel
theorem dX5_hasChannels_42 : decode cX5_hasChannels 42 = .ok (.goto (-40), 3) := by decide +kernel
theorem dX5_hasChannels_45 : decode cX5_hasChannels 45 = .ok (.iconst 0, 1) := by decide +kernel
theorem dX5_hasChannels_46 : decode cX5_hasChannels 46 = .ok (.ireturn, 1) := by decide +kernel
def mX5_hasChannels_2 : Nat → iT → Int32 → Option (Int32)
  | 0, _, _ => none
  | n + 1, I, x1 => (mX4_at 140 I (I 135 3)).bind fun q1 => if q1 ≤ x1 then some 0 else (mX4_at 138 I (((I 135 3) * 85) + x1)).bind fun q2 => if q2 = ((-1)) then mX5_hasChannels_2 n I (x1 + 1) else some 1
def mX5_hasChannels (I : iT) : Option (Int32) := mX5_hasChannels_2 LF I 1
set_option maxRecDepth 100000 in
set_option maxHeartbeats 4000000 in
theorem tX5_hasChannels_2 {l : Launch} {K : a_KT} {g : a_GT} {IB : iT} (hko : a_kok K) {J : jT} {F : fT} : ∀ (n : Nat) (I : iT) (x1 : Int32) (hF : FK F) (q : Int32), mX5_hasChannels_2 n I x1 = some q → E l K g 1 0 0 yX5_hasChannels cX5_hasChannels 2 (some .boolean) 2 [.ref 135, .int x1] [] (hg I IB J F) (fun r2 h2 => r2 = some (.int q) ∧ h2 = hg I IB J F) := by
  intro n
  induction n with
  | zero => intro I x1 hF q hm; cases hm
  | succ n ih =>
    intro I x1 hF q hm
    rw [mX5_hasChannels_2] at hm
    refine e_iload_n (i := 1) rfl dX5_hasChannels_2 ?_
    refine e_aload_n (i := 0) rfl dX5_hasChannels_3 ?_
    refine q_getF 5 2 140 dX5_hasChannels_4 fl_RX5_23 rfl iz_135 (fr_135_2 hF.1) ?_
    refine e_aload_n (i := 0) rfl dX5_hasChannels_7 ?_
    refine k_getI 5 3 dX5_hasChannels_8 fl_RX5_29 rfl iz_135 (by decide) ?_
    obtain ⟨q1, eq1, hm⟩ := ob_some hm
    refine e_cV1 hko dX5_hasChannels_11 ml_RX5_41 iz_140 (by decide) rfl (by omega) (Nat.le_of_ble_eq_true rfl) (tX4_at hko rw_140 I J F hF (I 135 3) _ eq1) ?_
    rintro _ _ ⟨rfl, rfl⟩
    refine e_icmp_ge 45 dX5_hasChannels_14 (by decide) (fun c_14 => ?_) (fun c_14 => ?_)
    · have hm := it_p c_14 hm
      refine e_iconst (v := 0) (by decide) dX5_hasChannels_45 ?_
      refine e_zret dX5_hasChannels_46 rfl rfl ?_
      have hm := some_in hm
      subst hm
      exact ⟨rfl, rfl⟩
    · have hm := it_n c_14 hm
      refine e_aload_n (i := 0) rfl dX5_hasChannels_17 ?_
      refine q_getF 5 1 138 dX5_hasChannels_18 fl_RX5_20 rfl iz_135 (fr_135_1 hF.1) ?_
      refine e_aload_n (i := 0) rfl dX5_hasChannels_21 ?_
      refine k_getI 5 3 dX5_hasChannels_22 fl_RX5_29 rfl iz_135 (by decide) ?_
      refine e_bipush (v := 85) (by decide) dX5_hasChannels_25 ?_
      refine e_imul dX5_hasChannels_27 ?_
      refine e_iload_n (i := 1) rfl dX5_hasChannels_28 ?_
      refine e_iadd dX5_hasChannels_29 ?_
      obtain ⟨q2, eq2, hm⟩ := ob_some hm
      refine e_cV1 hko dX5_hasChannels_30 ml_RX5_41 iz_138 (by decide) rfl (by omega) (Nat.le_of_ble_eq_true rfl) (tX4_at hko rw_138 I J F hF (((I 135 3) * 85) + x1) _ eq2) ?_
      rintro _ _ ⟨rfl, rfl⟩
      refine e_iconst (v := (-1)) (by decide) dX5_hasChannels_33 ?_
      refine e_icmp_eq 39 dX5_hasChannels_34 (by decide) (fun c_34 => ?_) (fun c_34 => ?_)
      · have hm := it_p c_34 hm
        refine q_iinc (i := 1) (x1 + 1) rfl ic_1 rfl dX5_hasChannels_39 ?_
        refine e_goto 2 dX5_hasChannels_42 (by decide) ?_
        refine e_weak [.ref 135, .int (x1 + 1)] ⟨rfl, ⟨rfl, trivial⟩⟩ ?_
        exact ih I (x1 + 1) hF _ hm
      · have hm := it_n c_34 hm
        refine e_iconst (v := 1) (by decide) dX5_hasChannels_37 ?_
        refine e_zret dX5_hasChannels_38 rfl rfl ?_
        have hm := some_in hm
        subst hm
        exact ⟨rfl, rfl⟩
set_option maxRecDepth 100000 in
set_option maxHeartbeats 4000000 in
theorem tX5_hasChannels {l : Launch} {K : a_KT} {g : a_GT} {IB : iT} (hko : a_kok K) (I : iT) (J : jT) (F : fT) (hF : FK F) (q : Int32) (hm : mX5_hasChannels I = some q) : C l K g 1 0 0 yX5_hasChannels cX5_hasChannels 2 (some .boolean) [.ref 135] (hg I IB J F) (fun r2 h2 => r2 = some (.int q) ∧ h2 = hg I IB J F) := by
  unfold mX5_hasChannels at hm
  refine c_of [.ref 135, .null] (by decide) (Nat.le_of_ble_eq_true rfl) rfl ?_
  refine e_iconst (v := 1) (by decide) dX5_hasChannels_0 ?_
  refine q_istore_n (i := 1) (by decide) rfl dX5_hasChannels_1 ?_
  refine e_weak [.ref 135, .int 1] ⟨rfl, ⟨rfl, trivial⟩⟩ ?_
  exact tX5_hasChannels_2 hko LF I 1 hF _ hm
theorem dX5_enter_0 : decode cX5_enter 0 = .ok (.aload_n 0, 1) := by decide +kernel
theorem dX5_enter_1 : decode cX5_enter 1 = .ok (.getfield 29, 3) := by decide +kernel
theorem dX5_enter_4 : decode cX5_enter 4 = .ok (.bipush 8, 2) := by decide +kernel
theorem dX5_enter_6 : decode cX5_enter 6 = .ok (.if_icmp .lt 4, 3) := by decide +kernel
theorem dX5_enter_9 : decode cX5_enter 9 = .ok (.return_, 1) := by decide +kernel
theorem dX5_enter_10 : decode cX5_enter 10 = .ok (.aload_n 0, 1) := by decide +kernel
theorem dX5_enter_11 : decode cX5_enter 11 = .ok (.getfield 29, 3) := by decide +kernel
theorem dX5_enter_14 : decode cX5_enter 14 = .ok (.bipush 85, 2) := by decide +kernel
theorem dX5_enter_16 : decode cX5_enter 16 = .ok (.imul, 1) := by decide +kernel
theorem dX5_enter_17 : decode cX5_enter 17 = .ok (.istore_n 1, 1) := by decide +kernel
theorem dX5_enter_18 : decode cX5_enter 18 = .ok (.aload_n 0, 1) := by decide +kernel
theorem dX5_enter_19 : decode cX5_enter 19 = .ok (.dup, 1) := by decide +kernel
theorem dX5_enter_20 : decode cX5_enter 20 = .ok (.getfield 29, 3) := by decide +kernel
theorem dX5_enter_23 : decode cX5_enter 23 = .ok (.iconst 1, 1) := by decide +kernel
theorem dX5_enter_24 : decode cX5_enter 24 = .ok (.iadd, 1) := by decide +kernel
theorem dX5_enter_25 : decode cX5_enter 25 = .ok (.putfield 29, 3) := by decide +kernel
theorem dX5_enter_28 : decode cX5_enter 28 = .ok (.aload_n 0, 1) := by decide +kernel
theorem dX5_enter_29 : decode cX5_enter 29 = .ok (.getfield 23, 3) := by decide +kernel
theorem dX5_enter_32 : decode cX5_enter 32 = .ok (.aload_n 0, 1) := by decide +kernel
theorem dX5_enter_33 : decode cX5_enter 33 = .ok (.getfield 29, 3) := by decide +kernel
theorem dX5_enter_36 : decode cX5_enter 36 = .ok (.iconst 1, 1) := by decide +kernel
theorem dX5_enter_37 : decode cX5_enter 37 = .ok (.isub, 1) := by decide +kernel
theorem dX5_enter_38 : decode cX5_enter 38 = .ok (.invokevirtual 41, 3) := by decide +kernel
theorem dX5_enter_41 : decode cX5_enter 41 = .ok (.istore_n 2, 1) := by decide +kernel
theorem dX5_enter_42 : decode cX5_enter 42 = .ok (.aload_n 0, 1) := by decide +kernel
theorem dX5_enter_43 : decode cX5_enter 43 = .ok (.getfield 23, 3) := by decide +kernel
theorem dX5_enter_46 : decode cX5_enter 46 = .ok (.aload_n 0, 1) := by decide +kernel
theorem dX5_enter_47 : decode cX5_enter 47 = .ok (.getfield 29, 3) := by decide +kernel
theorem dX5_enter_50 : decode cX5_enter 50 = .ok (.iload_n 2, 1) := by decide +kernel
theorem dX5_enter_51 : decode cX5_enter 51 = .ok (.invokevirtual 33, 3) := by decide +kernel
theorem dX5_enter_54 : decode cX5_enter 54 = .ok (.iconst 0, 1) := by decide +kernel
theorem dX5_enter_55 : decode cX5_enter 55 = .ok (.istore_n 3, 1) := by decide +kernel
theorem dX5_enter_56 : decode cX5_enter 56 = .ok (.iload_n 3, 1) := by decide +kernel
theorem dX5_enter_57 : decode cX5_enter 57 = .ok (.iload_n 2, 1) := by decide +kernel
theorem dX5_enter_58 : decode cX5_enter 58 = .ok (.if_icmp .ge 55, 3) := by decide +kernel
theorem dX5_enter_61 : decode cX5_enter 61 = .ok (.aload_n 0, 1) := by decide +kernel
theorem dX5_enter_62 : decode cX5_enter 62 = .ok (.getfield 14, 3) := by decide +kernel
theorem dX5_enter_65 : decode cX5_enter 65 = .ok (.iload_n 1, 1) := by decide +kernel
theorem dX5_enter_66 : decode cX5_enter 66 = .ok (.bipush 85, 2) := by decide +kernel
theorem dX5_enter_68 : decode cX5_enter 68 = .ok (.iadd, 1) := by decide +kernel
theorem dX5_enter_69 : decode cX5_enter 69 = .ok (.iload_n 3, 1) := by decide +kernel
theorem dX5_enter_70 : decode cX5_enter 70 = .ok (.iadd, 1) := by decide +kernel
theorem dX5_enter_71 : decode cX5_enter 71 = .ok (.aload_n 0, 1) := by decide +kernel
theorem dX5_enter_72 : decode cX5_enter 72 = .ok (.getfield 14, 3) := by decide +kernel
theorem dX5_enter_75 : decode cX5_enter 75 = .ok (.iload_n 1, 1) := by decide +kernel
theorem dX5_enter_76 : decode cX5_enter 76 = .ok (.iload_n 3, 1) := by decide +kernel
theorem dX5_enter_77 : decode cX5_enter 77 = .ok (.iadd, 1) := by decide +kernel
theorem dX5_enter_78 : decode cX5_enter 78 = .ok (.invokevirtual 41, 3) := by decide +kernel
theorem dX5_enter_81 : decode cX5_enter 81 = .ok (.invokevirtual 33, 3) := by decide +kernel
theorem dX5_enter_84 : decode cX5_enter 84 = .ok (.aload_n 0, 1) := by decide +kernel
theorem dX5_enter_85 : decode cX5_enter 85 = .ok (.getfield 20, 3) := by decide +kernel
theorem dX5_enter_88 : decode cX5_enter 88 = .ok (.iload_n 1, 1) := by decide +kernel
theorem dX5_enter_89 : decode cX5_enter 89 = .ok (.bipush 85, 2) := by decide +kernel
theorem dX5_enter_91 : decode cX5_enter 91 = .ok (.iadd, 1) := by decide +kernel
theorem dX5_enter_92 : decode cX5_enter 92 = .ok (.iload_n 3, 1) := by decide +kernel
theorem dX5_enter_93 : decode cX5_enter 93 = .ok (.iadd, 1) := by decide +kernel
theorem dX5_enter_94 : decode cX5_enter 94 = .ok (.aload_n 0, 1) := by decide +kernel
theorem dX5_enter_95 : decode cX5_enter 95 = .ok (.getfield 20, 3) := by decide +kernel
theorem dX5_enter_98 : decode cX5_enter 98 = .ok (.iload_n 1, 1) := by decide +kernel
theorem dX5_enter_99 : decode cX5_enter 99 = .ok (.iload_n 3, 1) := by decide +kernel
theorem dX5_enter_100 : decode cX5_enter 100 = .ok (.iadd, 1) := by decide +kernel
theorem dX5_enter_101 : decode cX5_enter 101 = .ok (.invokevirtual 41, 3) := by decide +kernel
theorem dX5_enter_104 : decode cX5_enter 104 = .ok (.invokevirtual 33, 3) := by decide +kernel
theorem dX5_enter_107 : decode cX5_enter 107 = .ok (.iinc 3 1, 3) := by decide +kernel
theorem dX5_enter_110 : decode cX5_enter 110 = .ok (.goto (-54), 3) := by decide +kernel
theorem dX5_enter_113 : decode cX5_enter 113 = .ok (.return_, 1) := by decide +kernel
def mX5_enter_56 : Nat → iT → Int32 → Int32 → Int32 → Option (iT)
  | 0, _, _, _, _ => none
  | n + 1, I, x1, x2, x3 => if x2 ≤ x3 then some I else (mX4_at 136 I (x1 + x3)).bind fun q1 => (mX4_put 136 I ((x1 + 85) + x3) q1).bind fun q2 => (mX4_at 138 q2 (x1 + x3)).bind fun q3 => (mX4_put 138 q2 ((x1 + 85) + x3) q3).bind fun q4 => mX5_enter_56 n q4 x1 x2 (x3 + 1)
def mX5_enter (I : iT) : Option (iT) := if (I 135 3) < 8 then (mX4_at 140 (a_u2 I 135 3 ((I 135 3) + 1)) (((a_u2 I 135 3 ((I 135 3) + 1)) 135 3) - 1)).bind fun q5 => (mX4_put 140 (a_u2 I 135 3 ((I 135 3) + 1)) ((a_u2 I 135 3 ((I 135 3) + 1)) 135 3) q5).bind fun q6 => mX5_enter_56 LF q6 ((I 135 3) * 85) q5 0 else some I
set_option maxRecDepth 100000 in
set_option maxHeartbeats 4000000 in
theorem tX5_enter_56 {l : Launch} {K : a_KT} {g : a_GT} {IB : iT} (hko : a_kok K) {J : jT} {F : fT} : ∀ (n : Nat) (I : iT) (x1 : Int32) (x2 : Int32) (x3 : Int32) (hF : FK F) (q : iT), mX5_enter_56 n I x1 x2 x3 = some q → E l K g 1 0 0 yX5_enter cX5_enter 4 none 56 [.ref 135, .int x1, .int x2, .int x3] [] (hg I IB J F) (fun r2 h2 => r2 = none ∧ h2 = hg q IB J F) := by
  intro n
  induction n with
  | zero => intro I x1 x2 x3 hF q hm; cases hm
  | succ n ih =>
    intro I x1 x2 x3 hF q hm
    rw [mX5_enter_56] at hm
    refine e_iload_n (i := 3) rfl dX5_enter_56 ?_
    refine e_iload_n (i := 2) rfl dX5_enter_57 ?_
    refine e_icmp_ge 113 dX5_enter_58 (by decide) (fun c_58 => ?_) (fun c_58 => ?_)
    · have hm := it_p c_58 hm
      refine e_vret dX5_enter_113 rfl ?_
      have hm := some_in hm
      subst hm
      exact ⟨rfl, rfl⟩
    · have hm := it_n c_58 hm
      refine e_aload_n (i := 0) rfl dX5_enter_61 ?_
      refine q_getF 5 0 136 dX5_enter_62 fl_RX5_14 rfl iz_135 (fr_135_0 hF.1) ?_
      refine e_iload_n (i := 1) rfl dX5_enter_65 ?_
      refine e_bipush (v := 85) (by decide) dX5_enter_66 ?_
      refine e_iadd dX5_enter_68 ?_
      refine e_iload_n (i := 3) rfl dX5_enter_69 ?_
      refine e_iadd dX5_enter_70 ?_
      refine e_aload_n (i := 0) rfl dX5_enter_71 ?_
      refine q_getF 5 0 136 dX5_enter_72 fl_RX5_14 rfl iz_135 (fr_135_0 hF.1) ?_
      refine e_iload_n (i := 1) rfl dX5_enter_75 ?_
      refine e_iload_n (i := 3) rfl dX5_enter_76 ?_
      refine e_iadd dX5_enter_77 ?_
      obtain ⟨q1, eq1, hm⟩ := ob_some hm
      refine e_cV1 hko dX5_enter_78 ml_RX5_41 iz_136 (by decide) rfl (by omega) (Nat.le_of_ble_eq_true rfl) (tX4_at hko rw_136 I J F hF (x1 + x3) _ eq1) ?_
      rintro _ _ ⟨rfl, rfl⟩
      obtain ⟨q2, eq2, hm⟩ := ob_some hm
      refine e_cV2 hko dX5_enter_81 ml_RX5_33 iz_136 (by decide) rfl (by omega) (Nat.le_of_ble_eq_true rfl) (tX4_put hko rw_136 I J F hF ((x1 + 85) + x3) q1 _ eq2) ?_
      rintro _ _ ⟨rfl, rfl⟩
      refine e_aload_n (i := 0) rfl dX5_enter_84 ?_
      refine q_getF 5 1 138 dX5_enter_85 fl_RX5_20 rfl iz_135 (fr_135_1 hF.1) ?_
      refine e_iload_n (i := 1) rfl dX5_enter_88 ?_
      refine e_bipush (v := 85) (by decide) dX5_enter_89 ?_
      refine e_iadd dX5_enter_91 ?_
      refine e_iload_n (i := 3) rfl dX5_enter_92 ?_
      refine e_iadd dX5_enter_93 ?_
      refine e_aload_n (i := 0) rfl dX5_enter_94 ?_
      refine q_getF 5 1 138 dX5_enter_95 fl_RX5_20 rfl iz_135 (fr_135_1 hF.1) ?_
      refine e_iload_n (i := 1) rfl dX5_enter_98 ?_
      refine e_iload_n (i := 3) rfl dX5_enter_99 ?_
      refine e_iadd dX5_enter_100 ?_
      obtain ⟨q3, eq3, hm⟩ := ob_some hm
      refine e_cV1 hko dX5_enter_101 ml_RX5_41 iz_138 (by decide) rfl (by omega) (Nat.le_of_ble_eq_true rfl) (tX4_at hko rw_138 q2 J F hF (x1 + x3) _ eq3) ?_
      rintro _ _ ⟨rfl, rfl⟩
      obtain ⟨q4, eq4, hm⟩ := ob_some hm
      refine e_cV2 hko dX5_enter_104 ml_RX5_33 iz_138 (by decide) rfl (by omega) (Nat.le_of_ble_eq_true rfl) (tX4_put hko rw_138 q2 J F hF ((x1 + 85) + x3) q3 _ eq4) ?_
      rintro _ _ ⟨rfl, rfl⟩
      refine q_iinc (i := 3) (x3 + 1) rfl ic_1 rfl dX5_enter_107 ?_
      refine e_goto 56 dX5_enter_110 (by decide) ?_
      refine e_weak [.ref 135, .int x1, .int x2, .int (x3 + 1)] ⟨rfl, ⟨rfl, ⟨rfl, ⟨rfl, trivial⟩⟩⟩⟩ ?_
      exact ih q4 x1 x2 (x3 + 1) hF _ hm
set_option maxRecDepth 100000 in
set_option maxHeartbeats 4000000 in
theorem tX5_enter {l : Launch} {K : a_KT} {g : a_GT} {IB : iT} (hko : a_kok K) (I : iT) (J : jT) (F : fT) (hF : FK F) (q : iT) (hm : mX5_enter I = some q) : C l K g 1 0 0 yX5_enter cX5_enter 4 none [.ref 135] (hg I IB J F) (fun r2 h2 => r2 = none ∧ h2 = hg q IB J F) := by
  unfold mX5_enter at hm
  refine c_of [.ref 135, .null, .null, .null] (by decide) (Nat.le_of_ble_eq_true rfl) rfl ?_
  refine e_aload_n (i := 0) rfl dX5_enter_0 ?_
  refine k_getI 5 3 dX5_enter_1 fl_RX5_29 rfl iz_135 (by decide) ?_
  refine e_bipush (v := 8) (by decide) dX5_enter_4 ?_
  refine e_icmp_lt 10 dX5_enter_6 (by decide) (fun c_6 => ?_) (fun c_6 => ?_)
  · have hm := it_p c_6 hm
    refine e_aload_n (i := 0) rfl dX5_enter_10 ?_
    refine k_getI 5 3 dX5_enter_11 fl_RX5_29 rfl iz_135 (by decide) ?_
    refine e_bipush (v := 85) (by decide) dX5_enter_14 ?_
    refine e_imul dX5_enter_16 ?_
    refine q_istore_n (i := 1) (by decide) rfl dX5_enter_17 ?_
    refine e_aload_n (i := 0) rfl dX5_enter_18 ?_
    refine e_dup rfl dX5_enter_19 ?_
    refine k_getI 5 3 dX5_enter_20 fl_RX5_29 rfl iz_135 (by decide) ?_
    refine e_iconst (v := 1) (by decide) dX5_enter_23 ?_
    refine e_iadd dX5_enter_24 ?_
    refine k_putI 5 3 dX5_enter_25 fl_RX5_29 rfl rfl iz_135 (by decide) ?_
    refine e_aload_n (i := 0) rfl dX5_enter_28 ?_
    refine q_getF 5 2 140 dX5_enter_29 fl_RX5_23 rfl iz_135 (fr_135_2 hF.1) ?_
    refine e_aload_n (i := 0) rfl dX5_enter_32 ?_
    refine k_getI 5 3 dX5_enter_33 fl_RX5_29 rfl iz_135 (by decide) ?_
    refine e_iconst (v := 1) (by decide) dX5_enter_36 ?_
    refine e_isub dX5_enter_37 ?_
    obtain ⟨q5, eq5, hm⟩ := ob_some hm
    refine e_cV1 hko dX5_enter_38 ml_RX5_41 iz_140 (by decide) rfl (by omega) (Nat.le_of_ble_eq_true rfl) (tX4_at hko rw_140 (a_u2 I 135 3 ((I 135 3) + 1)) J F hF (((a_u2 I 135 3 ((I 135 3) + 1)) 135 3) - 1) _ eq5) ?_
    rintro _ _ ⟨rfl, rfl⟩
    refine q_istore_n (i := 2) (by decide) rfl dX5_enter_41 ?_
    refine e_aload_n (i := 0) rfl dX5_enter_42 ?_
    refine q_getF 5 2 140 dX5_enter_43 fl_RX5_23 rfl iz_135 (fr_135_2 hF.1) ?_
    refine e_aload_n (i := 0) rfl dX5_enter_46 ?_
    refine k_getI 5 3 dX5_enter_47 fl_RX5_29 rfl iz_135 (by decide) ?_
    refine e_iload_n (i := 2) rfl dX5_enter_50 ?_
    obtain ⟨q6, eq6, hm⟩ := ob_some hm
    refine e_cV2 hko dX5_enter_51 ml_RX5_33 iz_140 (by decide) rfl (by omega) (Nat.le_of_ble_eq_true rfl) (tX4_put hko rw_140 (a_u2 I 135 3 ((I 135 3) + 1)) J F hF ((a_u2 I 135 3 ((I 135 3) + 1)) 135 3) q5 _ eq6) ?_
    rintro _ _ ⟨rfl, rfl⟩
    refine e_iconst (v := 0) (by decide) dX5_enter_54 ?_
    refine q_istore_n (i := 3) (by decide) rfl dX5_enter_55 ?_
    refine e_weak [.ref 135, .int ((I 135 3) * 85), .int q5, .int 0] ⟨rfl, ⟨rfl, ⟨rfl, ⟨rfl, trivial⟩⟩⟩⟩ ?_
    exact tX5_enter_56 hko LF q6 ((I 135 3) * 85) q5 0 hF _ hm
  · have hm := it_n c_6 hm
    refine e_vret dX5_enter_9 rfl ?_
    have hm := some_in hm
    subst hm
    exact ⟨rfl, rfl⟩
theorem dX5_leave_0 : decode cX5_leave 0 = .ok (.aload_n 0, 1) := by decide +kernel
theorem dX5_leave_1 : decode cX5_leave 1 = .ok (.aload_n 0, 1) := by decide +kernel
theorem dX5_leave_2 : decode cX5_leave 2 = .ok (.getfield 29, 3) := by decide +kernel
theorem dX5_leave_5 : decode cX5_leave 5 = .ok (.iconst 1, 1) := by decide +kernel
theorem dX5_leave_6 : decode cX5_leave 6 = .ok (.isub, 1) := by decide +kernel
theorem dX5_leave_7 : decode cX5_leave 7 = .ok (.iconst 0, 1) := by decide +kernel
theorem dX5_leave_8 : decode cX5_leave 8 = .ok (.invokestatic 45, 3) := by decide +kernel
theorem dX5_leave_11 : decode cX5_leave 11 = .ok (.putfield 29, 3) := by decide +kernel
theorem dX5_leave_14 : decode cX5_leave 14 = .ok (.return_, 1) := by decide +kernel
def mX5_leave (I : iT) : Option (iT) := some (a_u2 I 135 3 (if ((I 135 3) - 1) < 0 then 0 else ((I 135 3) - 1)))
set_option maxRecDepth 100000 in
set_option maxHeartbeats 4000000 in
theorem tX5_leave {l : Launch} {K : a_KT} {g : a_GT} {IB : iT} (hko : a_kok K) (I : iT) (J : jT) (F : fT) (hF : FK F) (q : iT) (hm : mX5_leave I = some q) : C l K g 1 0 0 yX5_leave cX5_leave 1 none [.ref 135] (hg I IB J F) (fun r2 h2 => r2 = none ∧ h2 = hg q IB J F) := by
  unfold mX5_leave at hm
  refine c_of [.ref 135] (by decide) (Nat.le_of_ble_eq_true rfl) rfl ?_
  refine e_aload_n (i := 0) rfl dX5_leave_0 ?_
  refine e_aload_n (i := 0) rfl dX5_leave_1 ?_
  refine k_getI 5 3 dX5_leave_2 fl_RX5_29 rfl iz_135 (by decide) ?_
  refine e_iconst (v := 1) (by decide) dX5_leave_5 ?_
  refine e_isub dX5_leave_6 ?_
  refine e_iconst (v := 0) (by decide) dX5_leave_7 ?_
  refine e_mmax dX5_leave_8 ml_RX5_45 (by omega) (Nat.le_of_ble_eq_true rfl) ?_
  refine k_putI 5 3 dX5_leave_11 fl_RX5_29 rfl rfl iz_135 (by decide) ?_
  refine e_vret dX5_leave_14 rfl ?_
  have hm := some_in hm
  subst hm
  exact ⟨rfl, rfl⟩
theorem dX5_setTalk_0 : decode cX5_setTalk 0 = .ok (.aload_n 0, 1) := by decide +kernel
theorem dX5_setTalk_1 : decode cX5_setTalk 1 = .ok (.getfield 20, 3) := by decide +kernel
theorem dX5_setTalk_4 : decode cX5_setTalk 4 = .ok (.aload_n 0, 1) := by decide +kernel
theorem dX5_setTalk_5 : decode cX5_setTalk 5 = .ok (.iload_n 1, 1) := by decide +kernel
theorem dX5_setTalk_6 : decode cX5_setTalk 6 = .ok (.invokevirtual 50, 3) := by decide +kernel
theorem dX5_setTalk_9 : decode cX5_setTalk 9 = .ok (.iload_n 2, 1) := by decide +kernel
theorem dX5_setTalk_10 : decode cX5_setTalk 10 = .ok (.invokevirtual 33, 3) := by decide +kernel
theorem dX5_setTalk_13 : decode cX5_setTalk 13 = .ok (.return_, 1) := by decide +kernel
def mX5_setTalk (I : iT) (x1 : Int32) (x2 : Int32) : Option (iT) := (mX5_index I x1).bind fun q1 => (mX4_put 138 I q1 x2).bind fun q2 => some q2
set_option maxRecDepth 100000 in
set_option maxHeartbeats 4000000 in
theorem tX5_setTalk {l : Launch} {K : a_KT} {g : a_GT} {IB : iT} (hko : a_kok K) (I : iT) (J : jT) (F : fT) (hF : FK F) (x1 : Int32) (x2 : Int32) (q : iT) (hm : mX5_setTalk I x1 x2 = some q) : C l K g 1 0 0 yX5_setTalk cX5_setTalk 3 none [.ref 135, .int x1, .int x2] (hg I IB J F) (fun r2 h2 => r2 = none ∧ h2 = hg q IB J F) := by
  unfold mX5_setTalk at hm
  refine c_of [.ref 135, .int x1, .int x2] (by decide) (Nat.le_of_ble_eq_true rfl) rfl ?_
  refine e_aload_n (i := 0) rfl dX5_setTalk_0 ?_
  refine q_getF 5 1 138 dX5_setTalk_1 fl_RX5_20 rfl iz_135 (fr_135_1 hF.1) ?_
  refine e_aload_n (i := 0) rfl dX5_setTalk_4 ?_
  refine e_iload_n (i := 1) rfl dX5_setTalk_5 ?_
  obtain ⟨q1, eq1, hm⟩ := ob_some hm
  refine e_cV1 hko dX5_setTalk_6 ml_RX5_50 iz_135 (by decide) rfl (by omega) (Nat.le_of_ble_eq_true rfl) (tX5_index hko I J F hF x1 _ eq1) ?_
  rintro _ _ ⟨rfl, rfl⟩
  refine e_iload_n (i := 2) rfl dX5_setTalk_9 ?_
  obtain ⟨q2, eq2, hm⟩ := ob_some hm
  refine e_cV2 hko dX5_setTalk_10 ml_RX5_33 iz_138 (by decide) rfl (by omega) (Nat.le_of_ble_eq_true rfl) (tX4_put hko rw_138 I J F hF q1 x2 _ eq2) ?_
  rintro _ _ ⟨rfl, rfl⟩
  refine e_vret dX5_setTalk_13 rfl ?_
  have hm := some_in hm
  subst hm
  exact ⟨rfl, rfl⟩
theorem dX5_talkAt_0 : decode cX5_talkAt 0 = .ok (.aload_n 0, 1) := by decide +kernel
theorem dX5_talkAt_1 : decode cX5_talkAt 1 = .ok (.getfield 20, 3) := by decide +kernel
theorem dX5_talkAt_4 : decode cX5_talkAt 4 = .ok (.aload_n 0, 1) := by decide +kernel
theorem dX5_talkAt_5 : decode cX5_talkAt 5 = .ok (.iload_n 1, 1) := by decide +kernel
theorem dX5_talkAt_6 : decode cX5_talkAt 6 = .ok (.invokevirtual 50, 3) := by decide +kernel
theorem dX5_talkAt_9 : decode cX5_talkAt 9 = .ok (.invokevirtual 41, 3) := by decide +kernel
theorem dX5_talkAt_12 : decode cX5_talkAt 12 = .ok (.ireturn, 1) := by decide +kernel
def mX5_talkAt (I : iT) (x1 : Int32) : Option (Int32) := (mX5_index I x1).bind fun q1 => (mX4_at 138 I q1).bind fun q2 => some q2
set_option maxRecDepth 100000 in
set_option maxHeartbeats 4000000 in
theorem tX5_talkAt {l : Launch} {K : a_KT} {g : a_GT} {IB : iT} (hko : a_kok K) (I : iT) (J : jT) (F : fT) (hF : FK F) (x1 : Int32) (q : Int32) (hm : mX5_talkAt I x1 = some q) : C l K g 1 0 0 yX5_talkAt cX5_talkAt 2 (some .int) [.ref 135, .int x1] (hg I IB J F) (fun r2 h2 => r2 = some (.int q) ∧ h2 = hg I IB J F) := by
  unfold mX5_talkAt at hm
  refine c_of [.ref 135, .int x1] (by decide) (Nat.le_of_ble_eq_true rfl) rfl ?_
  refine e_aload_n (i := 0) rfl dX5_talkAt_0 ?_
  refine q_getF 5 1 138 dX5_talkAt_1 fl_RX5_20 rfl iz_135 (fr_135_1 hF.1) ?_
  refine e_aload_n (i := 0) rfl dX5_talkAt_4 ?_
  refine e_iload_n (i := 1) rfl dX5_talkAt_5 ?_
  obtain ⟨q1, eq1, hm⟩ := ob_some hm
  refine e_cV1 hko dX5_talkAt_6 ml_RX5_50 iz_135 (by decide) rfl (by omega) (Nat.le_of_ble_eq_true rfl) (tX5_index hko I J F hF x1 _ eq1) ?_
  rintro _ _ ⟨rfl, rfl⟩
  obtain ⟨q2, eq2, hm⟩ := ob_some hm
  refine e_cV1 hko dX5_talkAt_9 ml_RX5_41 iz_138 (by decide) rfl (by omega) (Nat.le_of_ble_eq_true rfl) (tX4_at hko rw_138 I J F hF q1 _ eq2) ?_
  rintro _ _ ⟨rfl, rfl⟩
  refine e_iret dX5_talkAt_12 rfl ?_
  have hm := some_in hm
  subst hm
  exact ⟨rfl, rfl⟩
theorem dX5_drop_0 : decode cX5_drop 0 = .ok (.aload_n 0, 1) := by decide +kernel
theorem dX5_drop_1 : decode cX5_drop 1 = .ok (.getfield 14, 3) := by decide +kernel
theorem dX5_drop_4 : decode cX5_drop 4 = .ok (.aload_n 0, 1) := by decide +kernel
theorem dX5_drop_5 : decode cX5_drop 5 = .ok (.iload_n 1, 1) := by decide +kernel
theorem dX5_drop_6 : decode cX5_drop 6 = .ok (.invokevirtual 50, 3) := by decide +kernel
theorem dX5_drop_9 : decode cX5_drop 9 = .ok (.iconst 0, 1) := by decide +kernel
theorem dX5_drop_10 : decode cX5_drop 10 = .ok (.invokevirtual 33, 3) := by decide +kernel
theorem dX5_drop_13 : decode cX5_drop 13 = .ok (.aload_n 0, 1) := by decide +kernel
theorem dX5_drop_14 : decode cX5_drop 14 = .ok (.getfield 20, 3) := by decide +kernel
theorem dX5_drop_17 : decode cX5_drop 17 = .ok (.aload_n 0, 1) := by decide +kernel
theorem dX5_drop_18 : decode cX5_drop 18 = .ok (.iload_n 1, 1) := by decide +kernel
theorem dX5_drop_19 : decode cX5_drop 19 = .ok (.invokevirtual 50, 3) := by decide +kernel
theorem dX5_drop_22 : decode cX5_drop 22 = .ok (.iconst (-1), 1) := by decide +kernel
theorem dX5_drop_23 : decode cX5_drop 23 = .ok (.invokevirtual 33, 3) := by decide +kernel
theorem dX5_drop_26 : decode cX5_drop 26 = .ok (.return_, 1) := by decide +kernel
def mX5_drop (I : iT) (x1 : Int32) : Option (iT) := (mX5_index I x1).bind fun q1 => (mX4_put 136 I q1 0).bind fun q2 => (mX5_index q2 x1).bind fun q3 => (mX4_put 138 q2 q3 ((-1))).bind fun q4 => some q4
set_option maxRecDepth 100000 in
set_option maxHeartbeats 4000000 in
theorem tX5_drop {l : Launch} {K : a_KT} {g : a_GT} {IB : iT} (hko : a_kok K) (I : iT) (J : jT) (F : fT) (hF : FK F) (x1 : Int32) (q : iT) (hm : mX5_drop I x1 = some q) : C l K g 1 0 0 yX5_drop cX5_drop 2 none [.ref 135, .int x1] (hg I IB J F) (fun r2 h2 => r2 = none ∧ h2 = hg q IB J F) := by
  unfold mX5_drop at hm
  refine c_of [.ref 135, .int x1] (by decide) (Nat.le_of_ble_eq_true rfl) rfl ?_
  refine e_aload_n (i := 0) rfl dX5_drop_0 ?_
  refine q_getF 5 0 136 dX5_drop_1 fl_RX5_14 rfl iz_135 (fr_135_0 hF.1) ?_
  refine e_aload_n (i := 0) rfl dX5_drop_4 ?_
  refine e_iload_n (i := 1) rfl dX5_drop_5 ?_
  obtain ⟨q1, eq1, hm⟩ := ob_some hm
  refine e_cV1 hko dX5_drop_6 ml_RX5_50 iz_135 (by decide) rfl (by omega) (Nat.le_of_ble_eq_true rfl) (tX5_index hko I J F hF x1 _ eq1) ?_
  rintro _ _ ⟨rfl, rfl⟩
  refine e_iconst (v := 0) (by decide) dX5_drop_9 ?_
  obtain ⟨q2, eq2, hm⟩ := ob_some hm
  refine e_cV2 hko dX5_drop_10 ml_RX5_33 iz_136 (by decide) rfl (by omega) (Nat.le_of_ble_eq_true rfl) (tX4_put hko rw_136 I J F hF q1 0 _ eq2) ?_
  rintro _ _ ⟨rfl, rfl⟩
  refine e_aload_n (i := 0) rfl dX5_drop_13 ?_
  refine q_getF 5 1 138 dX5_drop_14 fl_RX5_20 rfl iz_135 (fr_135_1 hF.1) ?_
  refine e_aload_n (i := 0) rfl dX5_drop_17 ?_
  refine e_iload_n (i := 1) rfl dX5_drop_18 ?_
  obtain ⟨q3, eq3, hm⟩ := ob_some hm
  refine e_cV1 hko dX5_drop_19 ml_RX5_50 iz_135 (by decide) rfl (by omega) (Nat.le_of_ble_eq_true rfl) (tX5_index hko q2 J F hF x1 _ eq3) ?_
  rintro _ _ ⟨rfl, rfl⟩
  refine e_iconst (v := (-1)) (by decide) dX5_drop_22 ?_
  obtain ⟨q4, eq4, hm⟩ := ob_some hm
  refine e_cV2 hko dX5_drop_23 ml_RX5_33 iz_138 (by decide) rfl (by omega) (Nat.le_of_ble_eq_true rfl) (tX4_put hko rw_138 q2 J F hF q3 ((-1)) _ eq4) ?_
  rintro _ _ ⟨rfl, rfl⟩
  refine e_vret dX5_drop_26 rfl ?_
  have hm := some_in hm
  subst hm
  exact ⟨rfl, rfl⟩
theorem dX8_addLeaf_0 : decode cX8_addLeaf 0 = .ok (.aload_n 0, 1) := by decide +kernel
theorem dX8_addLeaf_1 : decode cX8_addLeaf 1 = .ok (.getfield 26, 3) := by decide +kernel
theorem dX8_addLeaf_4 : decode cX8_addLeaf 4 = .ok (.aload_n 0, 1) := by decide +kernel
theorem dX8_addLeaf_5 : decode cX8_addLeaf 5 = .ok (.getfield 14, 3) := by decide +kernel
theorem dX8_addLeaf_8 : decode cX8_addLeaf 8 = .ok (.invokevirtual 35, 3) := by decide +kernel
theorem dX8_addLeaf_11 : decode cX8_addLeaf 11 = .ok (.invokevirtual 39, 3) := by decide +kernel
theorem dX8_addLeaf_14 : decode cX8_addLeaf 14 = .ok (.pop, 1) := by decide +kernel
theorem dX8_addLeaf_15 : decode cX8_addLeaf 15 = .ok (.aload_n 0, 1) := by decide +kernel
theorem dX8_addLeaf_16 : decode cX8_addLeaf 16 = .ok (.getfield 20, 3) := by decide +kernel
theorem dX8_addLeaf_19 : decode cX8_addLeaf 19 = .ok (.iload_n 2, 1) := by decide +kernel
theorem dX8_addLeaf_20 : decode cX8_addLeaf 20 = .ok (.invokevirtual 39, 3) := by decide +kernel
theorem dX8_addLeaf_23 : decode cX8_addLeaf 23 = .ok (.pop, 1) := by decide +kernel
theorem dX8_addLeaf_24 : decode cX8_addLeaf 24 = .ok (.aload_n 0, 1) := by decide +kernel
theorem dX8_addLeaf_25 : decode cX8_addLeaf 25 = .ok (.getfield 23, 3) := by decide +kernel
theorem dX8_addLeaf_28 : decode cX8_addLeaf 28 = .ok (.iconst (-1), 1) := by decide +kernel
theorem dX8_addLeaf_29 : decode cX8_addLeaf 29 = .ok (.invokevirtual 39, 3) := by decide +kernel
theorem dX8_addLeaf_32 : decode cX8_addLeaf 32 = .ok (.pop, 1) := by decide +kernel
theorem dX8_addLeaf_33 : decode cX8_addLeaf 33 = .ok (.aload_n 0, 1) := by decide +kernel
theorem dX8_addLeaf_34 : decode cX8_addLeaf 34 = .ok (.getfield 29, 3) := by decide +kernel
theorem dX8_addLeaf_37 : decode cX8_addLeaf 37 = .ok (.iconst 0, 1) := by decide +kernel
theorem dX8_addLeaf_38 : decode cX8_addLeaf 38 = .ok (.invokevirtual 39, 3) := by decide +kernel
theorem dX8_addLeaf_41 : decode cX8_addLeaf 41 = .ok (.pop, 1) := by decide +kernel
theorem dX8_addLeaf_42 : decode cX8_addLeaf 42 = .ok (.aload_n 0, 1) := by decide +kernel
theorem dX8_addLeaf_43 : decode cX8_addLeaf 43 = .ok (.getfield 14, 3) := by decide +kernel
theorem dX8_addLeaf_46 : decode cX8_addLeaf 46 = .ok (.iload_n 1, 1) := by decide +kernel
theorem dX8_addLeaf_47 : decode cX8_addLeaf 47 = .ok (.invokevirtual 39, 3) := by decide +kernel
theorem dX8_addLeaf_50 : decode cX8_addLeaf 50 = .ok (.ireturn, 1) := by decide +kernel
def mX8_addLeaf (a0 : Nat) (I : iT) (x1 : Int32) (x2 : Int32) : Option (Int32 × iT) := (mX4_size (a0 + 1) I).bind fun q1 => (mX4_add (a0 + 7) I q1).bind fun q2 => (mX4_add (a0 + 3) q2.2 x2).bind fun q3 => (mX4_add (a0 + 5) q3.2 ((-1))).bind fun q4 => (mX4_add (a0 + 9) q4.2 0).bind fun q5 => (mX4_add (a0 + 1) q5.2 x1).bind fun q6 => some (q6.1, q6.2)
set_option maxRecDepth 100000 in
set_option maxHeartbeats 4000000 in
theorem tX8_addLeaf {l : Launch} {K : a_KT} {g : a_GT} {IB : iT} (hko : a_kok K) {a0 : Nat} (ha0 : isSums a0) (I : iT) (J : jT) (F : fT) (hF : FK F) (x1 : Int32) (x2 : Int32) (q : Int32 × iT) (hm : mX8_addLeaf a0 I x1 x2 = some q) : C l K g 1 0 0 yX8_addLeaf cX8_addLeaf 3 (some .int) [.ref a0, .int x1, .int x2] (hg I IB J F) (fun r2 h2 => r2 = some (.int q.1) ∧ h2 = hg q.2 IB J F) := by
  unfold mX8_addLeaf at hm
  refine c_of [.ref a0, .int x1, .int x2] (by decide) (Nat.le_of_ble_eq_true rfl) rfl ?_
  refine e_aload_n (i := 0) rfl dX8_addLeaf_0 ?_
  refine q_getF 8 3 (a0 + 7) dX8_addLeaf_1 fl_RX8_26 rfl (iz_su ha0) (fru_3 hF.1 ha0) ?_
  refine e_aload_n (i := 0) rfl dX8_addLeaf_4 ?_
  refine q_getF 8 0 (a0 + 1) dX8_addLeaf_5 fl_RX8_14 rfl (iz_su ha0) (fru_0 hF.1 ha0) ?_
  obtain ⟨q1, eq1, hm⟩ := ob_some hm
  refine e_cV0 hko dX8_addLeaf_8 ml_RX8_35 (iz_row (rwu_1 ha0)) (by decide) rfl (by omega) (Nat.le_of_ble_eq_true rfl) (tX4_size hko (rwu_1 ha0) I J F hF _ eq1) ?_
  rintro _ _ ⟨rfl, rfl⟩
  obtain ⟨q2, eq2, hm⟩ := ob_some hm
  refine e_cV1 hko dX8_addLeaf_11 ml_RX8_39 (iz_row (rwu_7 ha0)) (by decide) rfl (by omega) (Nat.le_of_ble_eq_true rfl) (tX4_add hko (rwu_7 ha0) I J F hF q1 _ eq2) ?_
  rintro _ _ ⟨rfl, rfl⟩
  refine e_pop rfl dX8_addLeaf_14 ?_
  refine e_aload_n (i := 0) rfl dX8_addLeaf_15 ?_
  refine q_getF 8 1 (a0 + 3) dX8_addLeaf_16 fl_RX8_20 rfl (iz_su ha0) (fru_1 hF.1 ha0) ?_
  refine e_iload_n (i := 2) rfl dX8_addLeaf_19 ?_
  obtain ⟨q3, eq3, hm⟩ := ob_some hm
  refine e_cV1 hko dX8_addLeaf_20 ml_RX8_39 (iz_row (rwu_3 ha0)) (by decide) rfl (by omega) (Nat.le_of_ble_eq_true rfl) (tX4_add hko (rwu_3 ha0) q2.2 J F hF x2 _ eq3) ?_
  rintro _ _ ⟨rfl, rfl⟩
  refine e_pop rfl dX8_addLeaf_23 ?_
  refine e_aload_n (i := 0) rfl dX8_addLeaf_24 ?_
  refine q_getF 8 2 (a0 + 5) dX8_addLeaf_25 fl_RX8_23 rfl (iz_su ha0) (fru_2 hF.1 ha0) ?_
  refine e_iconst (v := (-1)) (by decide) dX8_addLeaf_28 ?_
  obtain ⟨q4, eq4, hm⟩ := ob_some hm
  refine e_cV1 hko dX8_addLeaf_29 ml_RX8_39 (iz_row (rwu_5 ha0)) (by decide) rfl (by omega) (Nat.le_of_ble_eq_true rfl) (tX4_add hko (rwu_5 ha0) q3.2 J F hF ((-1)) _ eq4) ?_
  rintro _ _ ⟨rfl, rfl⟩
  refine e_pop rfl dX8_addLeaf_32 ?_
  refine e_aload_n (i := 0) rfl dX8_addLeaf_33 ?_
  refine q_getF 8 4 (a0 + 9) dX8_addLeaf_34 fl_RX8_29 rfl (iz_su ha0) (fru_4 hF.1 ha0) ?_
  refine e_iconst (v := 0) (by decide) dX8_addLeaf_37 ?_
  obtain ⟨q5, eq5, hm⟩ := ob_some hm
  refine e_cV1 hko dX8_addLeaf_38 ml_RX8_39 (iz_row (rwu_9 ha0)) (by decide) rfl (by omega) (Nat.le_of_ble_eq_true rfl) (tX4_add hko (rwu_9 ha0) q4.2 J F hF 0 _ eq5) ?_
  rintro _ _ ⟨rfl, rfl⟩
  refine e_pop rfl dX8_addLeaf_41 ?_
  refine e_aload_n (i := 0) rfl dX8_addLeaf_42 ?_
  refine q_getF 8 0 (a0 + 1) dX8_addLeaf_43 fl_RX8_14 rfl (iz_su ha0) (fru_0 hF.1 ha0) ?_
  refine e_iload_n (i := 1) rfl dX8_addLeaf_46 ?_
  obtain ⟨q6, eq6, hm⟩ := ob_some hm
  refine e_cV1 hko dX8_addLeaf_47 ml_RX8_39 (iz_row (rwu_1 ha0)) (by decide) rfl (by omega) (Nat.le_of_ble_eq_true rfl) (tX4_add hko (rwu_1 ha0) q5.2 J F hF x1 _ eq6) ?_
  rintro _ _ ⟨rfl, rfl⟩
  refine e_iret dX8_addLeaf_50 rfl ?_
  have hm := some_in hm
  subst hm
  exact ⟨rfl, rfl⟩
theorem dX8_addNode_0 : decode cX8_addNode 0 = .ok (.aload_n 0, 1) := by decide +kernel
theorem dX8_addNode_1 : decode cX8_addNode 1 = .ok (.getfield 26, 3) := by decide +kernel
theorem dX8_addNode_4 : decode cX8_addNode 4 = .ok (.aload_n 0, 1) := by decide +kernel
theorem dX8_addNode_5 : decode cX8_addNode 5 = .ok (.getfield 26, 3) := by decide +kernel
theorem dX8_addNode_8 : decode cX8_addNode 8 = .ok (.iload_n 2, 1) := by decide +kernel
theorem dX8_addNode_9 : decode cX8_addNode 9 = .ok (.invokevirtual 43, 3) := by decide +kernel
theorem dX8_addNode_12 : decode cX8_addNode 12 = .ok (.invokevirtual 39, 3) := by decide +kernel
theorem dX8_addNode_15 : decode cX8_addNode 15 = .ok (.pop, 1) := by decide +kernel
theorem dX8_addNode_16 : decode cX8_addNode 16 = .ok (.aload_n 0, 1) := by decide +kernel
theorem dX8_addNode_17 : decode cX8_addNode 17 = .ok (.getfield 20, 3) := by decide +kernel
theorem dX8_addNode_20 : decode cX8_addNode 20 = .ok (.iload_n 2, 1) := by decide +kernel
theorem dX8_addNode_21 : decode cX8_addNode 21 = .ok (.invokevirtual 39, 3) := by decide +kernel
theorem dX8_addNode_24 : decode cX8_addNode 24 = .ok (.pop, 1) := by decide +kernel
theorem dX8_addNode_25 : decode cX8_addNode 25 = .ok (.aload_n 0, 1) := by decide +kernel
theorem dX8_addNode_26 : decode cX8_addNode 26 = .ok (.getfield 23, 3) := by decide +kernel
theorem dX8_addNode_29 : decode cX8_addNode 29 = .ok (.iload_n 3, 1) := by decide +kernel
theorem dX8_addNode_30 : decode cX8_addNode 30 = .ok (.invokevirtual 39, 3) := by decide +kernel
theorem dX8_addNode_33 : decode cX8_addNode 33 = .ok (.pop, 1) := by decide +kernel
theorem dX8_addNode_34 : decode cX8_addNode 34 = .ok (.aload_n 0, 1) := by decide +kernel
theorem dX8_addNode_35 : decode cX8_addNode 35 = .ok (.getfield 29, 3) := by decide +kernel
theorem dX8_addNode_38 : decode cX8_addNode 38 = .ok (.iconst 0, 1) := by decide +kernel
theorem dX8_addNode_39 : decode cX8_addNode 39 = .ok (.invokevirtual 39, 3) := by decide +kernel
theorem dX8_addNode_42 : decode cX8_addNode 42 = .ok (.pop, 1) := by decide +kernel
theorem dX8_addNode_43 : decode cX8_addNode 43 = .ok (.aload_n 0, 1) := by decide +kernel
theorem dX8_addNode_44 : decode cX8_addNode 44 = .ok (.getfield 14, 3) := by decide +kernel
theorem dX8_addNode_47 : decode cX8_addNode 47 = .ok (.iload_n 1, 1) := by decide +kernel
theorem dX8_addNode_48 : decode cX8_addNode 48 = .ok (.invokevirtual 39, 3) := by decide +kernel
theorem dX8_addNode_51 : decode cX8_addNode 51 = .ok (.ireturn, 1) := by decide +kernel
def mX8_addNode (a0 : Nat) (I : iT) (x1 : Int32) (x2 : Int32) (x3 : Int32) : Option (Int32 × iT) := (mX4_at (a0 + 7) I x2).bind fun q1 => (mX4_add (a0 + 7) I q1).bind fun q2 => (mX4_add (a0 + 3) q2.2 x2).bind fun q3 => (mX4_add (a0 + 5) q3.2 x3).bind fun q4 => (mX4_add (a0 + 9) q4.2 0).bind fun q5 => (mX4_add (a0 + 1) q5.2 x1).bind fun q6 => some (q6.1, q6.2)
set_option maxRecDepth 100000 in
set_option maxHeartbeats 4000000 in
theorem tX8_addNode {l : Launch} {K : a_KT} {g : a_GT} {IB : iT} (hko : a_kok K) {a0 : Nat} (ha0 : isSums a0) (I : iT) (J : jT) (F : fT) (hF : FK F) (x1 : Int32) (x2 : Int32) (x3 : Int32) (q : Int32 × iT) (hm : mX8_addNode a0 I x1 x2 x3 = some q) : C l K g 1 0 0 yX8_addNode cX8_addNode 4 (some .int) [.ref a0, .int x1, .int x2, .int x3] (hg I IB J F) (fun r2 h2 => r2 = some (.int q.1) ∧ h2 = hg q.2 IB J F) := by
  unfold mX8_addNode at hm
  refine c_of [.ref a0, .int x1, .int x2, .int x3] (by decide) (Nat.le_of_ble_eq_true rfl) rfl ?_
  refine e_aload_n (i := 0) rfl dX8_addNode_0 ?_
  refine q_getF 8 3 (a0 + 7) dX8_addNode_1 fl_RX8_26 rfl (iz_su ha0) (fru_3 hF.1 ha0) ?_
  refine e_aload_n (i := 0) rfl dX8_addNode_4 ?_
  refine q_getF 8 3 (a0 + 7) dX8_addNode_5 fl_RX8_26 rfl (iz_su ha0) (fru_3 hF.1 ha0) ?_
  refine e_iload_n (i := 2) rfl dX8_addNode_8 ?_
  obtain ⟨q1, eq1, hm⟩ := ob_some hm
  refine e_cV1 hko dX8_addNode_9 ml_RX8_43 (iz_row (rwu_7 ha0)) (by decide) rfl (by omega) (Nat.le_of_ble_eq_true rfl) (tX4_at hko (rwu_7 ha0) I J F hF x2 _ eq1) ?_
  rintro _ _ ⟨rfl, rfl⟩
  obtain ⟨q2, eq2, hm⟩ := ob_some hm
  refine e_cV1 hko dX8_addNode_12 ml_RX8_39 (iz_row (rwu_7 ha0)) (by decide) rfl (by omega) (Nat.le_of_ble_eq_true rfl) (tX4_add hko (rwu_7 ha0) I J F hF q1 _ eq2) ?_
  rintro _ _ ⟨rfl, rfl⟩
  refine e_pop rfl dX8_addNode_15 ?_
  refine e_aload_n (i := 0) rfl dX8_addNode_16 ?_
  refine q_getF 8 1 (a0 + 3) dX8_addNode_17 fl_RX8_20 rfl (iz_su ha0) (fru_1 hF.1 ha0) ?_
  refine e_iload_n (i := 2) rfl dX8_addNode_20 ?_
  obtain ⟨q3, eq3, hm⟩ := ob_some hm
  refine e_cV1 hko dX8_addNode_21 ml_RX8_39 (iz_row (rwu_3 ha0)) (by decide) rfl (by omega) (Nat.le_of_ble_eq_true rfl) (tX4_add hko (rwu_3 ha0) q2.2 J F hF x2 _ eq3) ?_
  rintro _ _ ⟨rfl, rfl⟩
  refine e_pop rfl dX8_addNode_24 ?_
  refine e_aload_n (i := 0) rfl dX8_addNode_25 ?_
  refine q_getF 8 2 (a0 + 5) dX8_addNode_26 fl_RX8_23 rfl (iz_su ha0) (fru_2 hF.1 ha0) ?_
  refine e_iload_n (i := 3) rfl dX8_addNode_29 ?_
  obtain ⟨q4, eq4, hm⟩ := ob_some hm
  refine e_cV1 hko dX8_addNode_30 ml_RX8_39 (iz_row (rwu_5 ha0)) (by decide) rfl (by omega) (Nat.le_of_ble_eq_true rfl) (tX4_add hko (rwu_5 ha0) q3.2 J F hF x3 _ eq4) ?_
  rintro _ _ ⟨rfl, rfl⟩
  refine e_pop rfl dX8_addNode_33 ?_
  refine e_aload_n (i := 0) rfl dX8_addNode_34 ?_
  refine q_getF 8 4 (a0 + 9) dX8_addNode_35 fl_RX8_29 rfl (iz_su ha0) (fru_4 hF.1 ha0) ?_
  refine e_iconst (v := 0) (by decide) dX8_addNode_38 ?_
  obtain ⟨q5, eq5, hm⟩ := ob_some hm
  refine e_cV1 hko dX8_addNode_39 ml_RX8_39 (iz_row (rwu_9 ha0)) (by decide) rfl (by omega) (Nat.le_of_ble_eq_true rfl) (tX4_add hko (rwu_9 ha0) q4.2 J F hF 0 _ eq5) ?_
  rintro _ _ ⟨rfl, rfl⟩
  refine e_pop rfl dX8_addNode_42 ?_
  refine e_aload_n (i := 0) rfl dX8_addNode_43 ?_
  refine q_getF 8 0 (a0 + 1) dX8_addNode_44 fl_RX8_14 rfl (iz_su ha0) (fru_0 hF.1 ha0) ?_
  refine e_iload_n (i := 1) rfl dX8_addNode_47 ?_
  obtain ⟨q6, eq6, hm⟩ := ob_some hm
  refine e_cV1 hko dX8_addNode_48 ml_RX8_39 (iz_row (rwu_1 ha0)) (by decide) rfl (by omega) (Nat.le_of_ble_eq_true rfl) (tX4_add hko (rwu_1 ha0) q5.2 J F hF x1 _ eq6) ?_
  rintro _ _ ⟨rfl, rfl⟩
  refine e_iret dX8_addNode_51 rfl ?_
  have hm := some_in hm
  subst hm
  exact ⟨rfl, rfl⟩
theorem dX5_start_0 : decode cX5_start 0 = .ok (.aload_n 0, 1) := by decide +kernel
theorem dX5_start_1 : decode cX5_start 1 = .ok (.iconst 0, 1) := by decide +kernel
theorem dX5_start_2 : decode cX5_start 2 = .ok (.putfield 29, 3) := by decide +kernel
theorem dX5_start_5 : decode cX5_start 5 = .ok (.aload_n 0, 1) := by decide +kernel
theorem dX5_start_6 : decode cX5_start 6 = .ok (.getfield 23, 3) := by decide +kernel
theorem dX5_start_9 : decode cX5_start 9 = .ok (.aload_n 0, 1) := by decide +kernel
theorem dX5_start_10 : decode cX5_start 10 = .ok (.getfield 29, 3) := by decide +kernel
theorem dX5_start_13 : decode cX5_start 13 = .ok (.iconst 0, 1) := by decide +kernel
theorem dX5_start_14 : decode cX5_start 14 = .ok (.invokevirtual 33, 3) := by decide +kernel
theorem dX5_start_17 : decode cX5_start 17 = .ok (.aload_n 0, 1) := by decide +kernel
theorem dX5_start_18 : decode cX5_start 18 = .ok (.iconst 0, 1) := by decide +kernel
theorem dX5_start_19 : decode cX5_start 19 = .ok (.iconst (-1), 1) := by decide +kernel
theorem dX5_start_20 : decode cX5_start 20 = .ok (.invokevirtual 37, 3) := by decide +kernel
theorem dX5_start_23 : decode cX5_start 23 = .ok (.pop, 1) := by decide +kernel
theorem dX5_start_24 : decode cX5_start 24 = .ok (.return_, 1) := by decide +kernel
def mX5_start (I : iT) : Option (iT) := (mX4_put 140 (a_u2 I 135 3 0) ((a_u2 I 135 3 0) 135 3) 0).bind fun q1 => (mX5_add q1 0 ((-1))).bind fun q2 => some q2.2
set_option maxRecDepth 100000 in
set_option maxHeartbeats 4000000 in
theorem tX5_start {l : Launch} {K : a_KT} {g : a_GT} {IB : iT} (hko : a_kok K) (I : iT) (J : jT) (F : fT) (hF : FK F) (q : iT) (hm : mX5_start I = some q) : C l K g 3 0 0 yX5_start cX5_start 1 none [.ref 135] (hg I IB J F) (fun r2 h2 => r2 = none ∧ h2 = hg q IB J F) := by
  unfold mX5_start at hm
  refine c_of [.ref 135] (by decide) (Nat.le_of_ble_eq_true rfl) rfl ?_
  refine e_aload_n (i := 0) rfl dX5_start_0 ?_
  refine e_iconst (v := 0) (by decide) dX5_start_1 ?_
  refine k_putI 5 3 dX5_start_2 fl_RX5_29 rfl rfl iz_135 (by decide) ?_
  refine e_aload_n (i := 0) rfl dX5_start_5 ?_
  refine q_getF 5 2 140 dX5_start_6 fl_RX5_23 rfl iz_135 (fr_135_2 hF.1) ?_
  refine e_aload_n (i := 0) rfl dX5_start_9 ?_
  refine k_getI 5 3 dX5_start_10 fl_RX5_29 rfl iz_135 (by decide) ?_
  refine e_iconst (v := 0) (by decide) dX5_start_13 ?_
  obtain ⟨q1, eq1, hm⟩ := ob_some hm
  refine e_cV2 hko dX5_start_14 ml_RX5_33 iz_140 (by decide) rfl (by omega) (Nat.le_of_ble_eq_true rfl) (tX4_put hko rw_140 (a_u2 I 135 3 0) J F hF ((a_u2 I 135 3 0) 135 3) 0 _ eq1) ?_
  rintro _ _ ⟨rfl, rfl⟩
  refine e_aload_n (i := 0) rfl dX5_start_17 ?_
  refine e_iconst (v := 0) (by decide) dX5_start_18 ?_
  refine e_iconst (v := (-1)) (by decide) dX5_start_19 ?_
  obtain ⟨q2, eq2, hm⟩ := ob_some hm
  refine e_cV2 hko dX5_start_20 ml_RX5_37 iz_135 (by decide) rfl (by omega) (Nat.le_of_ble_eq_true rfl) (tX5_add hko q1 J F hF 0 ((-1)) _ eq2) ?_
  rintro _ _ ⟨rfl, rfl⟩
  refine e_pop rfl dX5_start_23 ?_
  refine e_vret dX5_start_24 rfl ?_
  have hm := some_in hm
  subst hm
  exact ⟨rfl, rfl⟩
theorem dX1_find_0 : decode cX1_find 0 = .ok (.iload_n 1, 1) := by decide +kernel
theorem dX1_find_1 : decode cX1_find 1 = .ok (.ifCond .lt 25, 3) := by decide +kernel
theorem dX1_find_4 : decode cX1_find 4 = .ok (.iload_n 1, 1) := by decide +kernel
theorem dX1_find_5 : decode cX1_find 5 = .ok (.aload_n 0, 1) := by decide +kernel
theorem dX1_find_6 : decode cX1_find 6 = .ok (.invokevirtual 59, 3) := by decide +kernel
theorem dX1_find_9 : decode cX1_find 9 = .ok (.if_icmp .ge 17, 3) := by decide +kernel
theorem dX1_find_12 : decode cX1_find 12 = .ok (.iload_n 2, 1) := by decide +kernel
theorem dX1_find_13 : decode cX1_find 13 = .ok (.ifCond .lt 13, 3) := by decide +kernel
theorem dX1_find_16 : decode cX1_find 16 = .ok (.iload_n 2, 1) := by decide +kernel
theorem dX1_find_17 : decode cX1_find 17 = .ok (.aload_n 0, 1) := by decide +kernel
theorem dX1_find_18 : decode cX1_find 18 = .ok (.iload_n 1, 1) := by decide +kernel
theorem dX1_find_19 : decode cX1_find 19 = .ok (.iconst 0, 1) := by decide +kernel
theorem dX1_find_20 : decode cX1_find 20 = .ok (.invokevirtual 62, 3) := by decide +kernel
theorem dX1_find_23 : decode cX1_find 23 = .ok (.if_icmp .lt 5, 3) := by decide +kernel
theorem dX1_find_26 : decode cX1_find 26 = .ok (.iconst (-1), 1) := by decide +kernel
theorem dX1_find_27 : decode cX1_find 27 = .ok (.ireturn, 1) := by decide +kernel
theorem dX1_find_28 : decode cX1_find 28 = .ok (.aload_n 0, 1) := by decide +kernel
theorem dX1_find_29 : decode cX1_find 29 = .ok (.getfield 20, 3) := by decide +kernel
theorem dX1_find_32 : decode cX1_find 32 = .ok (.iconst 2, 1) := by decide +kernel
theorem dX1_find_33 : decode cX1_find 33 = .ok (.iload_n 1, 1) := by decide +kernel
theorem dX1_find_34 : decode cX1_find 34 = .ok (.imul, 1) := by decide +kernel
theorem dX1_find_35 : decode cX1_find 35 = .ok (.iconst 0, 1) := by decide +kernel
theorem dX1_find_36 : decode cX1_find 36 = .ok (.iadd, 1) := by decide +kernel
theorem dX1_find_37 : decode cX1_find 37 = .ok (.invokevirtual 49, 3) := by decide +kernel
theorem dX1_find_40 : decode cX1_find 40 = .ok (.istore_n 3, 1) := by decide +kernel
theorem dX1_find_41 : decode cX1_find 41 = .ok (.iconst 0, 1) := by decide +kernel
theorem dX1_find_42 : decode cX1_find 42 = .ok (.istore 4, 2) := by decide +kernel
theorem dX1_find_44 : decode cX1_find 44 = .ok (.iload 4, 2) := by decide +kernel
theorem dX1_find_46 : decode cX1_find 46 = .ok (.iload_n 2, 1) := by decide +kernel
theorem dX1_find_47 : decode cX1_find 47 = .ok (.if_icmp .ge 18, 3) := by decide +kernel
theorem dX1_find_50 : decode cX1_find 50 = .ok (.aload_n 0, 1) := by decide +kernel
theorem dX1_find_51 : decode cX1_find 51 = .ok (.getfield 35, 3) := by decide +kernel
theorem dX1_find_54 : decode cX1_find 54 = .ok (.iload_n 3, 1) := by decide +kernel
theorem dX1_find_55 : decode cX1_find 55 = .ok (.invokevirtual 49, 3) := by decide +kernel
theorem dX1_find_58 : decode cX1_find 58 = .ok (.istore_n 3, 1) := by decide +kernel
theorem dX1_find_59 : decode cX1_find 59 = .ok (.iinc 4 1, 3) := by decide +kernel
theorem dX1_find_62 : decode cX1_find 62 = .ok (.goto (-18), 3) := by decide +kernel
theorem dX1_find_65 : decode cX1_find 65 = .ok (.iload_n 3, 1) := by decide +kernel
theorem dX1_find_66 : decode cX1_find 66 = .ok (.ireturn, 1) := by decide +kernel
def mX1_find_44 : Nat → iT → Int32 → Int32 → Int32 → Int32 → Option (Int32)
  | 0, _, _, _, _, _ => none
  | n + 1, I, x1, x2, x3, x4 => if x2 ≤ x4 then some x3 else (mX4_at 162 I x3).bind fun q1 => mX1_find_44 n I x1 x2 q1 (x4 + 1)
def mX1_find (I : iT) (x1 : Int32) (x2 : Int32) : Option (Int32) := if x1 < 0 then some ((-1)) else (mX1_made I).bind fun q2 => if q2 ≤ x1 then some ((-1)) else if x2 < 0 then some ((-1)) else (mX1_count I x1 0).bind fun q3 => if x2 < q3 then (mX4_at 152 I ((2 * x1) + 0)).bind fun q4 => mX1_find_44 LF I x1 x2 q4 0 else some ((-1))
set_option maxRecDepth 100000 in
set_option maxHeartbeats 4000000 in
theorem tX1_find_44 {l : Launch} {K : a_KT} {g : a_GT} {IB : iT} (hko : a_kok K) {J : jT} {F : fT} : ∀ (n : Nat) (I : iT) (x1 : Int32) (x2 : Int32) (x3 : Int32) (x4 : Int32) (hF : FK F) (q : Int32), mX1_find_44 n I x1 x2 x3 x4 = some q → E l K g 2 0 0 yX1_find cX1_find 5 (some .int) 44 [.ref 149, .int x1, .int x2, .int x3, .int x4] [] (hg I IB J F) (fun r2 h2 => r2 = some (.int q) ∧ h2 = hg I IB J F) := by
  intro n
  induction n with
  | zero => intro I x1 x2 x3 x4 hF q hm; cases hm
  | succ n ih =>
    intro I x1 x2 x3 x4 hF q hm
    rw [mX1_find_44] at hm
    refine e_iload (i := 4) rfl dX1_find_44 ?_
    refine e_iload_n (i := 2) rfl dX1_find_46 ?_
    refine e_icmp_ge 65 dX1_find_47 (by decide) (fun c_47 => ?_) (fun c_47 => ?_)
    · have hm := it_p c_47 hm
      refine e_iload_n (i := 3) rfl dX1_find_65 ?_
      refine e_iret dX1_find_66 rfl ?_
      have hm := some_in hm
      subst hm
      exact ⟨rfl, rfl⟩
    · have hm := it_n c_47 hm
      refine e_aload_n (i := 0) rfl dX1_find_50 ?_
      refine q_getF 1 6 162 dX1_find_51 fl_RX1_35 rfl iz_149 (fr_149_6 hF.1) ?_
      refine e_iload_n (i := 3) rfl dX1_find_54 ?_
      obtain ⟨q1, eq1, hm⟩ := ob_some hm
      refine e_cV1 hko dX1_find_55 ml_RX1_49 iz_162 (by decide) rfl (by omega) (Nat.le_of_ble_eq_true rfl) (tX4_at hko rw_162 I J F hF x3 _ eq1) ?_
      rintro _ _ ⟨rfl, rfl⟩
      refine q_istore_n (i := 3) (by decide) rfl dX1_find_58 ?_
      refine q_iinc (i := 4) (x4 + 1) rfl ic_1 rfl dX1_find_59 ?_
      refine e_goto 44 dX1_find_62 (by decide) ?_
      refine e_weak [.ref 149, .int x1, .int x2, .int q1, .int (x4 + 1)] ⟨rfl, ⟨rfl, ⟨rfl, ⟨rfl, ⟨rfl, trivial⟩⟩⟩⟩⟩ ?_
      exact ih I x1 x2 q1 (x4 + 1) hF _ hm
set_option maxRecDepth 100000 in
set_option maxHeartbeats 4000000 in
theorem tX1_find {l : Launch} {K : a_KT} {g : a_GT} {IB : iT} (hko : a_kok K) (I : iT) (J : jT) (F : fT) (hF : FK F) (x1 : Int32) (x2 : Int32) (q : Int32) (hm : mX1_find I x1 x2 = some q) : C l K g 2 0 0 yX1_find cX1_find 5 (some .int) [.ref 149, .int x1, .int x2] (hg I IB J F) (fun r2 h2 => r2 = some (.int q) ∧ h2 = hg I IB J F) := by
  unfold mX1_find at hm
  refine c_of [.ref 149, .int x1, .int x2, .null, .null] (by decide) (Nat.le_of_ble_eq_true rfl) rfl ?_
  refine e_iload_n (i := 1) rfl dX1_find_0 ?_
  refine e_if_lt 26 dX1_find_1 (by decide) (fun c_1 => ?_) (fun c_1 => ?_)
  · have hm := it_p c_1 hm
    refine e_iconst (v := (-1)) (by decide) dX1_find_26 ?_
    refine e_iret dX1_find_27 rfl ?_
    have hm := some_in hm
    subst hm
    exact ⟨rfl, rfl⟩
  · have hm := it_n c_1 hm
    refine e_iload_n (i := 1) rfl dX1_find_4 ?_
    refine e_aload_n (i := 0) rfl dX1_find_5 ?_
    obtain ⟨q2, eq2, hm⟩ := ob_some hm
    refine e_cV0 hko dX1_find_6 ml_RX1_59 iz_149 (by decide) rfl (by omega) (Nat.le_of_ble_eq_true rfl) (tX1_made hko I J F hF _ eq2) ?_
    rintro _ _ ⟨rfl, rfl⟩
    refine e_icmp_ge 26 dX1_find_9 (by decide) (fun c_9 => ?_) (fun c_9 => ?_)
    · have hm := it_p c_9 hm
      refine e_iconst (v := (-1)) (by decide) dX1_find_26 ?_
      refine e_iret dX1_find_27 rfl ?_
      have hm := some_in hm
      subst hm
      exact ⟨rfl, rfl⟩
    · have hm := it_n c_9 hm
      refine e_iload_n (i := 2) rfl dX1_find_12 ?_
      refine e_if_lt 26 dX1_find_13 (by decide) (fun c_13 => ?_) (fun c_13 => ?_)
      · have hm := it_p c_13 hm
        refine e_iconst (v := (-1)) (by decide) dX1_find_26 ?_
        refine e_iret dX1_find_27 rfl ?_
        have hm := some_in hm
        subst hm
        exact ⟨rfl, rfl⟩
      · have hm := it_n c_13 hm
        refine e_iload_n (i := 2) rfl dX1_find_16 ?_
        refine e_aload_n (i := 0) rfl dX1_find_17 ?_
        refine e_iload_n (i := 1) rfl dX1_find_18 ?_
        refine e_iconst (v := 0) (by decide) dX1_find_19 ?_
        obtain ⟨q3, eq3, hm⟩ := ob_some hm
        refine e_cV2 hko dX1_find_20 ml_RX1_62 iz_149 (by decide) rfl (by omega) (Nat.le_of_ble_eq_true rfl) (tX1_count hko I J F hF x1 0 _ eq3) ?_
        rintro _ _ ⟨rfl, rfl⟩
        refine e_icmp_lt 28 dX1_find_23 (by decide) (fun c_23 => ?_) (fun c_23 => ?_)
        · have hm := it_p c_23 hm
          refine e_aload_n (i := 0) rfl dX1_find_28 ?_
          refine q_getF 1 1 152 dX1_find_29 fl_RX1_20 rfl iz_149 (fr_149_1 hF.1) ?_
          refine e_iconst (v := 2) (by decide) dX1_find_32 ?_
          refine e_iload_n (i := 1) rfl dX1_find_33 ?_
          refine e_imul dX1_find_34 ?_
          refine e_iconst (v := 0) (by decide) dX1_find_35 ?_
          refine e_iadd dX1_find_36 ?_
          obtain ⟨q4, eq4, hm⟩ := ob_some hm
          refine e_cV1 hko dX1_find_37 ml_RX1_49 iz_152 (by decide) rfl (by omega) (Nat.le_of_ble_eq_true rfl) (tX4_at hko rw_152 I J F hF ((2 * x1) + 0) _ eq4) ?_
          rintro _ _ ⟨rfl, rfl⟩
          refine q_istore_n (i := 3) (by decide) rfl dX1_find_40 ?_
          refine e_iconst (v := 0) (by decide) dX1_find_41 ?_
          refine q_istore (i := 4) (by decide) rfl dX1_find_42 ?_
          refine e_weak [.ref 149, .int x1, .int x2, .int q4, .int 0] ⟨rfl, ⟨rfl, ⟨rfl, ⟨rfl, ⟨rfl, trivial⟩⟩⟩⟩⟩ ?_
          exact tX1_find_44 hko LF I x1 x2 q4 0 hF _ hm
        · have hm := it_n c_23 hm
          refine e_iconst (v := (-1)) (by decide) dX1_find_26 ?_
          refine e_iret dX1_find_27 rfl ?_
          have hm := some_in hm
          subst hm
          exact ⟨rfl, rfl⟩
theorem dX1_append_0 : decode cX1_append 0 = .ok (.aload_n 0, 1) := by decide +kernel
theorem dX1_append_1 : decode cX1_append 1 = .ok (.getfield 26, 3) := by decide +kernel
theorem dX1_append_4 : decode cX1_append 4 = .ok (.iload_n 2, 1) := by decide +kernel
theorem dX1_append_5 : decode cX1_append 5 = .ok (.invokevirtual 49, 3) := by decide +kernel
theorem dX1_append_8 : decode cX1_append 8 = .ok (.ifCond .gt 4, 3) := by decide +kernel
theorem dX1_append_11 : decode cX1_append 11 = .ok (.return_, 1) := by decide +kernel
theorem dX1_append_12 : decode cX1_append 12 = .ok (.aload_n 0, 1) := by decide +kernel
theorem dX1_append_13 : decode cX1_append 13 = .ok (.getfield 26, 3) := by decide +kernel
theorem dX1_append_16 : decode cX1_append 16 = .ok (.iload_n 1, 1) := by decide +kernel
theorem dX1_append_17 : decode cX1_append 17 = .ok (.invokevirtual 49, 3) := by decide +kernel
theorem dX1_append_20 : decode cX1_append 20 = .ok (.ifCond .ne 22, 3) := by decide +kernel
theorem dX1_append_23 : decode cX1_append 23 = .ok (.aload_n 0, 1) := by decide +kernel
theorem dX1_append_24 : decode cX1_append 24 = .ok (.getfield 20, 3) := by decide +kernel
theorem dX1_append_27 : decode cX1_append 27 = .ok (.iload_n 1, 1) := by decide +kernel
theorem dX1_append_28 : decode cX1_append 28 = .ok (.aload_n 0, 1) := by decide +kernel
theorem dX1_append_29 : decode cX1_append 29 = .ok (.getfield 20, 3) := by decide +kernel
theorem dX1_append_32 : decode cX1_append 32 = .ok (.iload_n 2, 1) := by decide +kernel
theorem dX1_append_33 : decode cX1_append 33 = .ok (.invokevirtual 49, 3) := by decide +kernel
theorem dX1_append_36 : decode cX1_append 36 = .ok (.invokevirtual 52, 3) := by decide +kernel
theorem dX1_append_39 : decode cX1_append 39 = .ok (.goto 26, 3) := by decide +kernel
theorem dX1_append_42 : decode cX1_append 42 = .ok (.aload_n 0, 1) := by decide +kernel
theorem dX1_append_43 : decode cX1_append 43 = .ok (.getfield 35, 3) := by decide +kernel
theorem dX1_append_46 : decode cX1_append 46 = .ok (.aload_n 0, 1) := by decide +kernel
theorem dX1_append_47 : decode cX1_append 47 = .ok (.getfield 23, 3) := by decide +kernel
theorem dX1_append_50 : decode cX1_append 50 = .ok (.iload_n 1, 1) := by decide +kernel
theorem dX1_append_51 : decode cX1_append 51 = .ok (.invokevirtual 49, 3) := by decide +kernel
theorem dX1_append_54 : decode cX1_append 54 = .ok (.aload_n 0, 1) := by decide +kernel
theorem dX1_append_55 : decode cX1_append 55 = .ok (.getfield 20, 3) := by decide +kernel
theorem dX1_append_58 : decode cX1_append 58 = .ok (.iload_n 2, 1) := by decide +kernel
theorem dX1_append_59 : decode cX1_append 59 = .ok (.invokevirtual 49, 3) := by decide +kernel
theorem dX1_append_62 : decode cX1_append 62 = .ok (.invokevirtual 52, 3) := by decide +kernel
theorem dX1_append_65 : decode cX1_append 65 = .ok (.aload_n 0, 1) := by decide +kernel
theorem dX1_append_66 : decode cX1_append 66 = .ok (.getfield 23, 3) := by decide +kernel
theorem dX1_append_69 : decode cX1_append 69 = .ok (.iload_n 1, 1) := by decide +kernel
theorem dX1_append_70 : decode cX1_append 70 = .ok (.aload_n 0, 1) := by decide +kernel
theorem dX1_append_71 : decode cX1_append 71 = .ok (.getfield 23, 3) := by decide +kernel
theorem dX1_append_74 : decode cX1_append 74 = .ok (.iload_n 2, 1) := by decide +kernel
theorem dX1_append_75 : decode cX1_append 75 = .ok (.invokevirtual 49, 3) := by decide +kernel
theorem dX1_append_78 : decode cX1_append 78 = .ok (.invokevirtual 52, 3) := by decide +kernel
theorem dX1_append_81 : decode cX1_append 81 = .ok (.aload_n 0, 1) := by decide +kernel
theorem dX1_append_82 : decode cX1_append 82 = .ok (.getfield 26, 3) := by decide +kernel
theorem dX1_append_85 : decode cX1_append 85 = .ok (.iload_n 1, 1) := by decide +kernel
theorem dX1_append_86 : decode cX1_append 86 = .ok (.aload_n 0, 1) := by decide +kernel
theorem dX1_append_87 : decode cX1_append 87 = .ok (.getfield 26, 3) := by decide +kernel
theorem dX1_append_90 : decode cX1_append 90 = .ok (.iload_n 2, 1) := by decide +kernel
theorem dX1_append_91 : decode cX1_append 91 = .ok (.invokevirtual 49, 3) := by decide +kernel
theorem dX1_append_94 : decode cX1_append 94 = .ok (.invokevirtual 56, 3) := by decide +kernel
theorem dX1_append_97 : decode cX1_append 97 = .ok (.return_, 1) := by decide +kernel
def mX1_append_65 (I : iT) (x1 : Int32) (x2 : Int32) : Option (iT) := (mX4_at 154 I x2).bind fun q1 => (mX4_put 154 I x1 q1).bind fun q2 => (mX4_at 156 q2 x2).bind fun q3 => (mX4_bump 156 q2 x1 q3).bind fun q4 => some q4
def mX1_append (I : iT) (x1 : Int32) (x2 : Int32) : Option (iT) := (mX4_at 156 I x2).bind fun q5 => if 0 < q5 then (mX4_at 156 I x1).bind fun q6 => if q6 = 0 then (mX4_at 152 I x2).bind fun q10 => (mX4_put 152 I x1 q10).bind fun q11 => mX1_append_65 q11 x1 x2 else (mX4_at 154 I x1).bind fun q7 => (mX4_at 152 I x2).bind fun q8 => (mX4_put 162 I q7 q8).bind fun q9 => mX1_append_65 q9 x1 x2 else some I
set_option maxRecDepth 100000 in
set_option maxHeartbeats 4000000 in
theorem tX1_append_65 {l : Launch} {K : a_KT} {g : a_GT} {IB : iT} (hko : a_kok K) {J : jT} {F : fT} (I : iT) (x1 : Int32) (x2 : Int32) (hF : FK F) (q : iT) (hm : mX1_append_65 I x1 x2 = some q) : E l K g 1 0 0 yX1_append cX1_append 3 none 65 [.ref 149, .int x1, .int x2] [] (hg I IB J F) (fun r2 h2 => r2 = none ∧ h2 = hg q IB J F) := by
  unfold mX1_append_65 at hm
  refine e_aload_n (i := 0) rfl dX1_append_65 ?_
  refine q_getF 1 2 154 dX1_append_66 fl_RX1_23 rfl iz_149 (fr_149_2 hF.1) ?_
  refine e_iload_n (i := 1) rfl dX1_append_69 ?_
  refine e_aload_n (i := 0) rfl dX1_append_70 ?_
  refine q_getF 1 2 154 dX1_append_71 fl_RX1_23 rfl iz_149 (fr_149_2 hF.1) ?_
  refine e_iload_n (i := 2) rfl dX1_append_74 ?_
  obtain ⟨q1, eq1, hm⟩ := ob_some hm
  refine e_cV1 hko dX1_append_75 ml_RX1_49 iz_154 (by decide) rfl (by omega) (Nat.le_of_ble_eq_true rfl) (tX4_at hko rw_154 I J F hF x2 _ eq1) ?_
  rintro _ _ ⟨rfl, rfl⟩
  obtain ⟨q2, eq2, hm⟩ := ob_some hm
  refine e_cV2 hko dX1_append_78 ml_RX1_52 iz_154 (by decide) rfl (by omega) (Nat.le_of_ble_eq_true rfl) (tX4_put hko rw_154 I J F hF x1 q1 _ eq2) ?_
  rintro _ _ ⟨rfl, rfl⟩
  refine e_aload_n (i := 0) rfl dX1_append_81 ?_
  refine q_getF 1 3 156 dX1_append_82 fl_RX1_26 rfl iz_149 (fr_149_3 hF.1) ?_
  refine e_iload_n (i := 1) rfl dX1_append_85 ?_
  refine e_aload_n (i := 0) rfl dX1_append_86 ?_
  refine q_getF 1 3 156 dX1_append_87 fl_RX1_26 rfl iz_149 (fr_149_3 hF.1) ?_
  refine e_iload_n (i := 2) rfl dX1_append_90 ?_
  obtain ⟨q3, eq3, hm⟩ := ob_some hm
  refine e_cV1 hko dX1_append_91 ml_RX1_49 iz_156 (by decide) rfl (by omega) (Nat.le_of_ble_eq_true rfl) (tX4_at hko rw_156 q2 J F hF x2 _ eq3) ?_
  rintro _ _ ⟨rfl, rfl⟩
  obtain ⟨q4, eq4, hm⟩ := ob_some hm
  refine e_cV2 hko dX1_append_94 ml_RX1_56 iz_156 (by decide) rfl (by omega) (Nat.le_of_ble_eq_true rfl) (tX4_bump hko rw_156 q2 J F hF x1 q3 _ eq4) ?_
  rintro _ _ ⟨rfl, rfl⟩
  refine e_vret dX1_append_97 rfl ?_
  have hm := some_in hm
  subst hm
  exact ⟨rfl, rfl⟩
set_option maxRecDepth 100000 in
set_option maxHeartbeats 4000000 in
theorem tX1_append {l : Launch} {K : a_KT} {g : a_GT} {IB : iT} (hko : a_kok K) (I : iT) (J : jT) (F : fT) (hF : FK F) (x1 : Int32) (x2 : Int32) (q : iT) (hm : mX1_append I x1 x2 = some q) : C l K g 1 0 0 yX1_append cX1_append 3 none [.ref 149, .int x1, .int x2] (hg I IB J F) (fun r2 h2 => r2 = none ∧ h2 = hg q IB J F) := by
  unfold mX1_append at hm
  refine c_of [.ref 149, .int x1, .int x2] (by decide) (Nat.le_of_ble_eq_true rfl) rfl ?_
  refine e_aload_n (i := 0) rfl dX1_append_0 ?_
  refine q_getF 1 3 156 dX1_append_1 fl_RX1_26 rfl iz_149 (fr_149_3 hF.1) ?_
  refine e_iload_n (i := 2) rfl dX1_append_4 ?_
  obtain ⟨q5, eq5, hm⟩ := ob_some hm
  refine e_cV1 hko dX1_append_5 ml_RX1_49 iz_156 (by decide) rfl (by omega) (Nat.le_of_ble_eq_true rfl) (tX4_at hko rw_156 I J F hF x2 _ eq5) ?_
  rintro _ _ ⟨rfl, rfl⟩
  refine e_if_gt 12 dX1_append_8 (by decide) (fun c_8 => ?_) (fun c_8 => ?_)
  · have hm := it_p c_8 hm
    refine e_aload_n (i := 0) rfl dX1_append_12 ?_
    refine q_getF 1 3 156 dX1_append_13 fl_RX1_26 rfl iz_149 (fr_149_3 hF.1) ?_
    refine e_iload_n (i := 1) rfl dX1_append_16 ?_
    obtain ⟨q6, eq6, hm⟩ := ob_some hm
    refine e_cV1 hko dX1_append_17 ml_RX1_49 iz_156 (by decide) rfl (by omega) (Nat.le_of_ble_eq_true rfl) (tX4_at hko rw_156 I J F hF x1 _ eq6) ?_
    rintro _ _ ⟨rfl, rfl⟩
    refine e_if_ne 42 dX1_append_20 (by decide) (fun c_20 => ?_) (fun c_20 => ?_)
    · have hm := it_n c_20 hm
      refine e_aload_n (i := 0) rfl dX1_append_42 ?_
      refine q_getF 1 6 162 dX1_append_43 fl_RX1_35 rfl iz_149 (fr_149_6 hF.1) ?_
      refine e_aload_n (i := 0) rfl dX1_append_46 ?_
      refine q_getF 1 2 154 dX1_append_47 fl_RX1_23 rfl iz_149 (fr_149_2 hF.1) ?_
      refine e_iload_n (i := 1) rfl dX1_append_50 ?_
      obtain ⟨q7, eq7, hm⟩ := ob_some hm
      refine e_cV1 hko dX1_append_51 ml_RX1_49 iz_154 (by decide) rfl (by omega) (Nat.le_of_ble_eq_true rfl) (tX4_at hko rw_154 I J F hF x1 _ eq7) ?_
      rintro _ _ ⟨rfl, rfl⟩
      refine e_aload_n (i := 0) rfl dX1_append_54 ?_
      refine q_getF 1 1 152 dX1_append_55 fl_RX1_20 rfl iz_149 (fr_149_1 hF.1) ?_
      refine e_iload_n (i := 2) rfl dX1_append_58 ?_
      obtain ⟨q8, eq8, hm⟩ := ob_some hm
      refine e_cV1 hko dX1_append_59 ml_RX1_49 iz_152 (by decide) rfl (by omega) (Nat.le_of_ble_eq_true rfl) (tX4_at hko rw_152 I J F hF x2 _ eq8) ?_
      rintro _ _ ⟨rfl, rfl⟩
      obtain ⟨q9, eq9, hm⟩ := ob_some hm
      refine e_cV2 hko dX1_append_62 ml_RX1_52 iz_162 (by decide) rfl (by omega) (Nat.le_of_ble_eq_true rfl) (tX4_put hko rw_162 I J F hF q7 q8 _ eq9) ?_
      rintro _ _ ⟨rfl, rfl⟩
      refine e_weak [.ref 149, .int x1, .int x2] ⟨rfl, ⟨rfl, ⟨rfl, trivial⟩⟩⟩ ?_
      exact tX1_append_65 hko q9 x1 x2 hF _ hm
    · have hm := it_p c_20 hm
      refine e_aload_n (i := 0) rfl dX1_append_23 ?_
      refine q_getF 1 1 152 dX1_append_24 fl_RX1_20 rfl iz_149 (fr_149_1 hF.1) ?_
      refine e_iload_n (i := 1) rfl dX1_append_27 ?_
      refine e_aload_n (i := 0) rfl dX1_append_28 ?_
      refine q_getF 1 1 152 dX1_append_29 fl_RX1_20 rfl iz_149 (fr_149_1 hF.1) ?_
      refine e_iload_n (i := 2) rfl dX1_append_32 ?_
      obtain ⟨q10, eq10, hm⟩ := ob_some hm
      refine e_cV1 hko dX1_append_33 ml_RX1_49 iz_152 (by decide) rfl (by omega) (Nat.le_of_ble_eq_true rfl) (tX4_at hko rw_152 I J F hF x2 _ eq10) ?_
      rintro _ _ ⟨rfl, rfl⟩
      obtain ⟨q11, eq11, hm⟩ := ob_some hm
      refine e_cV2 hko dX1_append_36 ml_RX1_52 iz_152 (by decide) rfl (by omega) (Nat.le_of_ble_eq_true rfl) (tX4_put hko rw_152 I J F hF x1 q10 _ eq11) ?_
      rintro _ _ ⟨rfl, rfl⟩
      refine e_goto 65 dX1_append_39 (by decide) ?_
      refine e_weak [.ref 149, .int x1, .int x2] ⟨rfl, ⟨rfl, ⟨rfl, trivial⟩⟩⟩ ?_
      exact tX1_append_65 hko q11 x1 x2 hF _ hm
  · have hm := it_n c_8 hm
    refine e_vret dX1_append_11 rfl ?_
    have hm := some_in hm
    subst hm
    exact ⟨rfl, rfl⟩
theorem dX1_join_0 : decode cX1_join 0 = .ok (.iload_n 1, 1) := by decide +kernel
theorem dX1_join_1 : decode cX1_join 1 = .ok (.iload_n 2, 1) := by decide +kernel
theorem dX1_join_2 : decode cX1_join 2 = .ok (.if_icmp .ne 4, 3) := by decide +kernel
theorem dX1_join_5 : decode cX1_join 5 = .ok (.return_, 1) := by decide +kernel
theorem dX1_join_6 : decode cX1_join 6 = .ok (.aload_n 0, 1) := by decide +kernel
theorem dX1_join_7 : decode cX1_join 7 = .ok (.iconst 2, 1) := by decide +kernel
theorem dX1_join_8 : decode cX1_join 8 = .ok (.iload_n 1, 1) := by decide +kernel
theorem dX1_join_9 : decode cX1_join 9 = .ok (.imul, 1) := by decide +kernel
theorem dX1_join_10 : decode cX1_join 10 = .ok (.iconst 0, 1) := by decide +kernel
theorem dX1_join_11 : decode cX1_join 11 = .ok (.iadd, 1) := by decide +kernel
theorem dX1_join_12 : decode cX1_join 12 = .ok (.iconst 2, 1) := by decide +kernel
theorem dX1_join_13 : decode cX1_join 13 = .ok (.iload_n 2, 1) := by decide +kernel
theorem dX1_join_14 : decode cX1_join 14 = .ok (.imul, 1) := by decide +kernel
theorem dX1_join_15 : decode cX1_join 15 = .ok (.iconst 0, 1) := by decide +kernel
theorem dX1_join_16 : decode cX1_join 16 = .ok (.iadd, 1) := by decide +kernel
theorem dX1_join_17 : decode cX1_join 17 = .ok (.invokevirtual 66, 3) := by decide +kernel
theorem dX1_join_20 : decode cX1_join 20 = .ok (.aload_n 0, 1) := by decide +kernel
theorem dX1_join_21 : decode cX1_join 21 = .ok (.iconst 2, 1) := by decide +kernel
theorem dX1_join_22 : decode cX1_join 22 = .ok (.iload_n 2, 1) := by decide +kernel
theorem dX1_join_23 : decode cX1_join 23 = .ok (.imul, 1) := by decide +kernel
theorem dX1_join_24 : decode cX1_join 24 = .ok (.iconst 1, 1) := by decide +kernel
theorem dX1_join_25 : decode cX1_join 25 = .ok (.iadd, 1) := by decide +kernel
theorem dX1_join_26 : decode cX1_join 26 = .ok (.iconst 2, 1) := by decide +kernel
theorem dX1_join_27 : decode cX1_join 27 = .ok (.iload_n 1, 1) := by decide +kernel
theorem dX1_join_28 : decode cX1_join 28 = .ok (.imul, 1) := by decide +kernel
theorem dX1_join_29 : decode cX1_join 29 = .ok (.iconst 1, 1) := by decide +kernel
theorem dX1_join_30 : decode cX1_join 30 = .ok (.iadd, 1) := by decide +kernel
theorem dX1_join_31 : decode cX1_join 31 = .ok (.invokevirtual 66, 3) := by decide +kernel
theorem dX1_join_34 : decode cX1_join 34 = .ok (.aload_n 0, 1) := by decide +kernel
theorem dX1_join_35 : decode cX1_join 35 = .ok (.getfield 20, 3) := by decide +kernel
theorem dX1_join_38 : decode cX1_join 38 = .ok (.iconst 2, 1) := by decide +kernel
theorem dX1_join_39 : decode cX1_join 39 = .ok (.iload_n 1, 1) := by decide +kernel
theorem dX1_join_40 : decode cX1_join 40 = .ok (.imul, 1) := by decide +kernel
theorem dX1_join_41 : decode cX1_join 41 = .ok (.iconst 1, 1) := by decide +kernel
theorem dX1_join_42 : decode cX1_join 42 = .ok (.iadd, 1) := by decide +kernel
theorem dX1_join_43 : decode cX1_join 43 = .ok (.aload_n 0, 1) := by decide +kernel
theorem dX1_join_44 : decode cX1_join 44 = .ok (.getfield 20, 3) := by decide +kernel
theorem dX1_join_47 : decode cX1_join 47 = .ok (.iconst 2, 1) := by decide +kernel
theorem dX1_join_48 : decode cX1_join 48 = .ok (.iload_n 2, 1) := by decide +kernel
theorem dX1_join_49 : decode cX1_join 49 = .ok (.imul, 1) := by decide +kernel
theorem dX1_join_50 : decode cX1_join 50 = .ok (.iconst 1, 1) := by decide +kernel
theorem dX1_join_51 : decode cX1_join 51 = .ok (.iadd, 1) := by decide +kernel
theorem dX1_join_52 : decode cX1_join 52 = .ok (.invokevirtual 49, 3) := by decide +kernel
theorem dX1_join_55 : decode cX1_join 55 = .ok (.invokevirtual 52, 3) := by decide +kernel
theorem dX1_join_58 : decode cX1_join 58 = .ok (.aload_n 0, 1) := by decide +kernel
theorem dX1_join_59 : decode cX1_join 59 = .ok (.getfield 23, 3) := by decide +kernel
theorem dX1_join_62 : decode cX1_join 62 = .ok (.iconst 2, 1) := by decide +kernel
theorem dX1_join_63 : decode cX1_join 63 = .ok (.iload_n 1, 1) := by decide +kernel
theorem dX1_join_64 : decode cX1_join 64 = .ok (.imul, 1) := by decide +kernel
theorem dX1_join_65 : decode cX1_join 65 = .ok (.iconst 1, 1) := by decide +kernel
theorem dX1_join_66 : decode cX1_join 66 = .ok (.iadd, 1) := by decide +kernel
theorem dX1_join_67 : decode cX1_join 67 = .ok (.aload_n 0, 1) := by decide +kernel
theorem dX1_join_68 : decode cX1_join 68 = .ok (.getfield 23, 3) := by decide +kernel
theorem dX1_join_71 : decode cX1_join 71 = .ok (.iconst 2, 1) := by decide +kernel
theorem dX1_join_72 : decode cX1_join 72 = .ok (.iload_n 2, 1) := by decide +kernel
theorem dX1_join_73 : decode cX1_join 73 = .ok (.imul, 1) := by decide +kernel
theorem dX1_join_74 : decode cX1_join 74 = .ok (.iconst 1, 1) := by decide +kernel
theorem dX1_join_75 : decode cX1_join 75 = .ok (.iadd, 1) := by decide +kernel
theorem dX1_join_76 : decode cX1_join 76 = .ok (.invokevirtual 49, 3) := by decide +kernel
theorem dX1_join_79 : decode cX1_join 79 = .ok (.invokevirtual 52, 3) := by decide +kernel
theorem dX1_join_82 : decode cX1_join 82 = .ok (.aload_n 0, 1) := by decide +kernel
theorem dX1_join_83 : decode cX1_join 83 = .ok (.getfield 26, 3) := by decide +kernel
theorem dX1_join_86 : decode cX1_join 86 = .ok (.iconst 2, 1) := by decide +kernel
theorem dX1_join_87 : decode cX1_join 87 = .ok (.iload_n 1, 1) := by decide +kernel
theorem dX1_join_88 : decode cX1_join 88 = .ok (.imul, 1) := by decide +kernel
theorem dX1_join_89 : decode cX1_join 89 = .ok (.iconst 1, 1) := by decide +kernel
theorem dX1_join_90 : decode cX1_join 90 = .ok (.iadd, 1) := by decide +kernel
theorem dX1_join_91 : decode cX1_join 91 = .ok (.aload_n 0, 1) := by decide +kernel
theorem dX1_join_92 : decode cX1_join 92 = .ok (.getfield 26, 3) := by decide +kernel
theorem dX1_join_95 : decode cX1_join 95 = .ok (.iconst 2, 1) := by decide +kernel
theorem dX1_join_96 : decode cX1_join 96 = .ok (.iload_n 2, 1) := by decide +kernel
theorem dX1_join_97 : decode cX1_join 97 = .ok (.imul, 1) := by decide +kernel
theorem dX1_join_98 : decode cX1_join 98 = .ok (.iconst 1, 1) := by decide +kernel
theorem dX1_join_99 : decode cX1_join 99 = .ok (.iadd, 1) := by decide +kernel
theorem dX1_join_100 : decode cX1_join 100 = .ok (.invokevirtual 49, 3) := by decide +kernel
theorem dX1_join_103 : decode cX1_join 103 = .ok (.invokevirtual 52, 3) := by decide +kernel
theorem dX1_join_106 : decode cX1_join 106 = .ok (.aload_n 0, 1) := by decide +kernel
theorem dX1_join_107 : decode cX1_join 107 = .ok (.getfield 14, 3) := by decide +kernel
theorem dX1_join_110 : decode cX1_join 110 = .ok (.iload_n 2, 1) := by decide +kernel
theorem dX1_join_111 : decode cX1_join 111 = .ok (.iload_n 1, 1) := by decide +kernel
theorem dX1_join_112 : decode cX1_join 112 = .ok (.invokevirtual 52, 3) := by decide +kernel
theorem dX1_join_115 : decode cX1_join 115 = .ok (.return_, 1) := by decide +kernel
def mX1_join (I : iT) (x1 : Int32) (x2 : Int32) : Option (iT) := if x1 = x2 then some I else (mX1_append I ((2 * x1) + 0) ((2 * x2) + 0)).bind fun q1 => (mX1_append q1 ((2 * x2) + 1) ((2 * x1) + 1)).bind fun q2 => (mX4_at 152 q2 ((2 * x2) + 1)).bind fun q3 => (mX4_put 152 q2 ((2 * x1) + 1) q3).bind fun q4 => (mX4_at 154 q4 ((2 * x2) + 1)).bind fun q5 => (mX4_put 154 q4 ((2 * x1) + 1) q5).bind fun q6 => (mX4_at 156 q6 ((2 * x2) + 1)).bind fun q7 => (mX4_put 156 q6 ((2 * x1) + 1) q7).bind fun q8 => (mX4_put 150 q8 x2 x1).bind fun q9 => some q9
set_option maxRecDepth 100000 in
set_option maxHeartbeats 4000000 in
theorem tX1_join {l : Launch} {K : a_KT} {g : a_GT} {IB : iT} (hko : a_kok K) (I : iT) (J : jT) (F : fT) (hF : FK F) (x1 : Int32) (x2 : Int32) (q : iT) (hm : mX1_join I x1 x2 = some q) : C l K g 2 0 0 yX1_join cX1_join 3 none [.ref 149, .int x1, .int x2] (hg I IB J F) (fun r2 h2 => r2 = none ∧ h2 = hg q IB J F) := by
  unfold mX1_join at hm
  refine c_of [.ref 149, .int x1, .int x2] (by decide) (Nat.le_of_ble_eq_true rfl) rfl ?_
  refine e_iload_n (i := 1) rfl dX1_join_0 ?_
  refine e_iload_n (i := 2) rfl dX1_join_1 ?_
  refine e_icmp_ne 6 dX1_join_2 (by decide) (fun c_2 => ?_) (fun c_2 => ?_)
  · have hm := it_n c_2 hm
    refine e_aload_n (i := 0) rfl dX1_join_6 ?_
    refine e_iconst (v := 2) (by decide) dX1_join_7 ?_
    refine e_iload_n (i := 1) rfl dX1_join_8 ?_
    refine e_imul dX1_join_9 ?_
    refine e_iconst (v := 0) (by decide) dX1_join_10 ?_
    refine e_iadd dX1_join_11 ?_
    refine e_iconst (v := 2) (by decide) dX1_join_12 ?_
    refine e_iload_n (i := 2) rfl dX1_join_13 ?_
    refine e_imul dX1_join_14 ?_
    refine e_iconst (v := 0) (by decide) dX1_join_15 ?_
    refine e_iadd dX1_join_16 ?_
    obtain ⟨q1, eq1, hm⟩ := ob_some hm
    refine e_cV2 hko dX1_join_17 ml_RX1_66 iz_149 (by decide) rfl (by omega) (Nat.le_of_ble_eq_true rfl) (tX1_append hko I J F hF ((2 * x1) + 0) ((2 * x2) + 0) _ eq1) ?_
    rintro _ _ ⟨rfl, rfl⟩
    refine e_aload_n (i := 0) rfl dX1_join_20 ?_
    refine e_iconst (v := 2) (by decide) dX1_join_21 ?_
    refine e_iload_n (i := 2) rfl dX1_join_22 ?_
    refine e_imul dX1_join_23 ?_
    refine e_iconst (v := 1) (by decide) dX1_join_24 ?_
    refine e_iadd dX1_join_25 ?_
    refine e_iconst (v := 2) (by decide) dX1_join_26 ?_
    refine e_iload_n (i := 1) rfl dX1_join_27 ?_
    refine e_imul dX1_join_28 ?_
    refine e_iconst (v := 1) (by decide) dX1_join_29 ?_
    refine e_iadd dX1_join_30 ?_
    obtain ⟨q2, eq2, hm⟩ := ob_some hm
    refine e_cV2 hko dX1_join_31 ml_RX1_66 iz_149 (by decide) rfl (by omega) (Nat.le_of_ble_eq_true rfl) (tX1_append hko q1 J F hF ((2 * x2) + 1) ((2 * x1) + 1) _ eq2) ?_
    rintro _ _ ⟨rfl, rfl⟩
    refine e_aload_n (i := 0) rfl dX1_join_34 ?_
    refine q_getF 1 1 152 dX1_join_35 fl_RX1_20 rfl iz_149 (fr_149_1 hF.1) ?_
    refine e_iconst (v := 2) (by decide) dX1_join_38 ?_
    refine e_iload_n (i := 1) rfl dX1_join_39 ?_
    refine e_imul dX1_join_40 ?_
    refine e_iconst (v := 1) (by decide) dX1_join_41 ?_
    refine e_iadd dX1_join_42 ?_
    refine e_aload_n (i := 0) rfl dX1_join_43 ?_
    refine q_getF 1 1 152 dX1_join_44 fl_RX1_20 rfl iz_149 (fr_149_1 hF.1) ?_
    refine e_iconst (v := 2) (by decide) dX1_join_47 ?_
    refine e_iload_n (i := 2) rfl dX1_join_48 ?_
    refine e_imul dX1_join_49 ?_
    refine e_iconst (v := 1) (by decide) dX1_join_50 ?_
    refine e_iadd dX1_join_51 ?_
    obtain ⟨q3, eq3, hm⟩ := ob_some hm
    refine e_cV1 hko dX1_join_52 ml_RX1_49 iz_152 (by decide) rfl (by omega) (Nat.le_of_ble_eq_true rfl) (tX4_at hko rw_152 q2 J F hF ((2 * x2) + 1) _ eq3) ?_
    rintro _ _ ⟨rfl, rfl⟩
    obtain ⟨q4, eq4, hm⟩ := ob_some hm
    refine e_cV2 hko dX1_join_55 ml_RX1_52 iz_152 (by decide) rfl (by omega) (Nat.le_of_ble_eq_true rfl) (tX4_put hko rw_152 q2 J F hF ((2 * x1) + 1) q3 _ eq4) ?_
    rintro _ _ ⟨rfl, rfl⟩
    refine e_aload_n (i := 0) rfl dX1_join_58 ?_
    refine q_getF 1 2 154 dX1_join_59 fl_RX1_23 rfl iz_149 (fr_149_2 hF.1) ?_
    refine e_iconst (v := 2) (by decide) dX1_join_62 ?_
    refine e_iload_n (i := 1) rfl dX1_join_63 ?_
    refine e_imul dX1_join_64 ?_
    refine e_iconst (v := 1) (by decide) dX1_join_65 ?_
    refine e_iadd dX1_join_66 ?_
    refine e_aload_n (i := 0) rfl dX1_join_67 ?_
    refine q_getF 1 2 154 dX1_join_68 fl_RX1_23 rfl iz_149 (fr_149_2 hF.1) ?_
    refine e_iconst (v := 2) (by decide) dX1_join_71 ?_
    refine e_iload_n (i := 2) rfl dX1_join_72 ?_
    refine e_imul dX1_join_73 ?_
    refine e_iconst (v := 1) (by decide) dX1_join_74 ?_
    refine e_iadd dX1_join_75 ?_
    obtain ⟨q5, eq5, hm⟩ := ob_some hm
    refine e_cV1 hko dX1_join_76 ml_RX1_49 iz_154 (by decide) rfl (by omega) (Nat.le_of_ble_eq_true rfl) (tX4_at hko rw_154 q4 J F hF ((2 * x2) + 1) _ eq5) ?_
    rintro _ _ ⟨rfl, rfl⟩
    obtain ⟨q6, eq6, hm⟩ := ob_some hm
    refine e_cV2 hko dX1_join_79 ml_RX1_52 iz_154 (by decide) rfl (by omega) (Nat.le_of_ble_eq_true rfl) (tX4_put hko rw_154 q4 J F hF ((2 * x1) + 1) q5 _ eq6) ?_
    rintro _ _ ⟨rfl, rfl⟩
    refine e_aload_n (i := 0) rfl dX1_join_82 ?_
    refine q_getF 1 3 156 dX1_join_83 fl_RX1_26 rfl iz_149 (fr_149_3 hF.1) ?_
    refine e_iconst (v := 2) (by decide) dX1_join_86 ?_
    refine e_iload_n (i := 1) rfl dX1_join_87 ?_
    refine e_imul dX1_join_88 ?_
    refine e_iconst (v := 1) (by decide) dX1_join_89 ?_
    refine e_iadd dX1_join_90 ?_
    refine e_aload_n (i := 0) rfl dX1_join_91 ?_
    refine q_getF 1 3 156 dX1_join_92 fl_RX1_26 rfl iz_149 (fr_149_3 hF.1) ?_
    refine e_iconst (v := 2) (by decide) dX1_join_95 ?_
    refine e_iload_n (i := 2) rfl dX1_join_96 ?_
    refine e_imul dX1_join_97 ?_
    refine e_iconst (v := 1) (by decide) dX1_join_98 ?_
    refine e_iadd dX1_join_99 ?_
    obtain ⟨q7, eq7, hm⟩ := ob_some hm
    refine e_cV1 hko dX1_join_100 ml_RX1_49 iz_156 (by decide) rfl (by omega) (Nat.le_of_ble_eq_true rfl) (tX4_at hko rw_156 q6 J F hF ((2 * x2) + 1) _ eq7) ?_
    rintro _ _ ⟨rfl, rfl⟩
    obtain ⟨q8, eq8, hm⟩ := ob_some hm
    refine e_cV2 hko dX1_join_103 ml_RX1_52 iz_156 (by decide) rfl (by omega) (Nat.le_of_ble_eq_true rfl) (tX4_put hko rw_156 q6 J F hF ((2 * x1) + 1) q7 _ eq8) ?_
    rintro _ _ ⟨rfl, rfl⟩
    refine e_aload_n (i := 0) rfl dX1_join_106 ?_
    refine q_getF 1 0 150 dX1_join_107 fl_RX1_14 rfl iz_149 (fr_149_0 hF.1) ?_
    refine e_iload_n (i := 2) rfl dX1_join_110 ?_
    refine e_iload_n (i := 1) rfl dX1_join_111 ?_
    obtain ⟨q9, eq9, hm⟩ := ob_some hm
    refine e_cV2 hko dX1_join_112 ml_RX1_52 iz_150 (by decide) rfl (by omega) (Nat.le_of_ble_eq_true rfl) (tX4_put hko rw_150 q8 J F hF x2 x1 _ eq9) ?_
    rintro _ _ ⟨rfl, rfl⟩
    refine e_vret dX1_join_115 rfl ?_
    have hm := some_in hm
    subst hm
    exact ⟨rfl, rfl⟩
  · have hm := it_p c_2 hm
    refine e_vret dX1_join_5 rfl ?_
    have hm := some_in hm
    subst hm
    exact ⟨rfl, rfl⟩
theorem dX1_lay_0 : decode cX1_lay 0 = .ok (.iconst 2, 1) := by decide +kernel
theorem dX1_lay_1 : decode cX1_lay 1 = .ok (.iload_n 1, 1) := by decide +kernel
theorem dX1_lay_2 : decode cX1_lay 2 = .ok (.imul, 1) := by decide +kernel
theorem dX1_lay_3 : decode cX1_lay 3 = .ok (.iload_n 2, 1) := by decide +kernel
theorem dX1_lay_4 : decode cX1_lay 4 = .ok (.iadd, 1) := by decide +kernel
theorem dX1_lay_5 : decode cX1_lay 5 = .ok (.istore 5, 2) := by decide +kernel
theorem dX1_lay_7 : decode cX1_lay 7 = .ok (.aload_n 0, 1) := by decide +kernel
theorem dX1_lay_8 : decode cX1_lay 8 = .ok (.getfield 29, 3) := by decide +kernel
theorem dX1_lay_11 : decode cX1_lay 11 = .ok (.iload_n 3, 1) := by decide +kernel
theorem dX1_lay_12 : decode cX1_lay 12 = .ok (.invokevirtual 45, 3) := by decide +kernel
theorem dX1_lay_15 : decode cX1_lay 15 = .ok (.pop, 1) := by decide +kernel
theorem dX1_lay_16 : decode cX1_lay 16 = .ok (.aload_n 0, 1) := by decide +kernel
theorem dX1_lay_17 : decode cX1_lay 17 = .ok (.getfield 32, 3) := by decide +kernel
theorem dX1_lay_20 : decode cX1_lay 20 = .ok (.iload 4, 2) := by decide +kernel
theorem dX1_lay_22 : decode cX1_lay 22 = .ok (.invokevirtual 45, 3) := by decide +kernel
theorem dX1_lay_25 : decode cX1_lay 25 = .ok (.pop, 1) := by decide +kernel
theorem dX1_lay_26 : decode cX1_lay 26 = .ok (.aload_n 0, 1) := by decide +kernel
theorem dX1_lay_27 : decode cX1_lay 27 = .ok (.getfield 35, 3) := by decide +kernel
theorem dX1_lay_30 : decode cX1_lay 30 = .ok (.iconst (-1), 1) := by decide +kernel
theorem dX1_lay_31 : decode cX1_lay 31 = .ok (.invokevirtual 45, 3) := by decide +kernel
theorem dX1_lay_34 : decode cX1_lay 34 = .ok (.istore 6, 2) := by decide +kernel
theorem dX1_lay_36 : decode cX1_lay 36 = .ok (.aload_n 0, 1) := by decide +kernel
theorem dX1_lay_37 : decode cX1_lay 37 = .ok (.getfield 26, 3) := by decide +kernel
theorem dX1_lay_40 : decode cX1_lay 40 = .ok (.iload 5, 2) := by decide +kernel
theorem dX1_lay_42 : decode cX1_lay 42 = .ok (.invokevirtual 49, 3) := by decide +kernel
theorem dX1_lay_45 : decode cX1_lay 45 = .ok (.ifCond .ne 17, 3) := by decide +kernel
theorem dX1_lay_48 : decode cX1_lay 48 = .ok (.aload_n 0, 1) := by decide +kernel
theorem dX1_lay_49 : decode cX1_lay 49 = .ok (.getfield 20, 3) := by decide +kernel
theorem dX1_lay_52 : decode cX1_lay 52 = .ok (.iload 5, 2) := by decide +kernel
theorem dX1_lay_54 : decode cX1_lay 54 = .ok (.iload 6, 2) := by decide +kernel
theorem dX1_lay_56 : decode cX1_lay 56 = .ok (.invokevirtual 52, 3) := by decide +kernel
theorem dX1_lay_59 : decode cX1_lay 59 = .ok (.goto 21, 3) := by decide +kernel
theorem dX1_lay_62 : decode cX1_lay 62 = .ok (.aload_n 0, 1) := by decide +kernel
theorem dX1_lay_63 : decode cX1_lay 63 = .ok (.getfield 35, 3) := by decide +kernel
theorem dX1_lay_66 : decode cX1_lay 66 = .ok (.aload_n 0, 1) := by decide +kernel
theorem dX1_lay_67 : decode cX1_lay 67 = .ok (.getfield 23, 3) := by decide +kernel
theorem dX1_lay_70 : decode cX1_lay 70 = .ok (.iload 5, 2) := by decide +kernel
theorem dX1_lay_72 : decode cX1_lay 72 = .ok (.invokevirtual 49, 3) := by decide +kernel
theorem dX1_lay_75 : decode cX1_lay 75 = .ok (.iload 6, 2) := by decide +kernel
theorem dX1_lay_77 : decode cX1_lay 77 = .ok (.invokevirtual 52, 3) := by decide +kernel
theorem dX1_lay_80 : decode cX1_lay 80 = .ok (.aload_n 0, 1) := by decide +kernel
theorem dX1_lay_81 : decode cX1_lay 81 = .ok (.getfield 23, 3) := by decide +kernel
theorem dX1_lay_84 : decode cX1_lay 84 = .ok (.iload 5, 2) := by decide +kernel
theorem dX1_lay_86 : decode cX1_lay 86 = .ok (.iload 6, 2) := by decide +kernel
theorem dX1_lay_88 : decode cX1_lay 88 = .ok (.invokevirtual 52, 3) := by decide +kernel
theorem dX1_lay_91 : decode cX1_lay 91 = .ok (.aload_n 0, 1) := by decide +kernel
theorem dX1_lay_92 : decode cX1_lay 92 = .ok (.getfield 26, 3) := by decide +kernel
theorem dX1_lay_95 : decode cX1_lay 95 = .ok (.iload 5, 2) := by decide +kernel
theorem dX1_lay_97 : decode cX1_lay 97 = .ok (.iconst 1, 1) := by decide +kernel
theorem dX1_lay_98 : decode cX1_lay 98 = .ok (.invokevirtual 56, 3) := by decide +kernel
theorem dX1_lay_101 : decode cX1_lay 101 = .ok (.return_, 1) := by decide +kernel
def mX1_lay_80 (I : iT) (x1 : Int32) (x2 : Int32) (x3 : Int32) (x4 : Int32) (x5 : Int32) (x6 : Int32) : Option (iT) := (mX4_put 154 I x5 x6).bind fun q1 => (mX4_bump 156 q1 x5 1).bind fun q2 => some q2
def mX1_lay (I : iT) (x1 : Int32) (x2 : Int32) (x3 : Int32) (x4 : Int32) : Option (iT) := (mX4_add 158 I x3).bind fun q3 => (mX4_add 160 q3.2 x4).bind fun q4 => (mX4_add 162 q4.2 ((-1))).bind fun q5 => (mX4_at 156 q5.2 ((2 * x1) + x2)).bind fun q6 => if q6 = 0 then (mX4_put 152 q5.2 ((2 * x1) + x2) q5.1).bind fun q9 => mX1_lay_80 q9 x1 x2 x3 x4 ((2 * x1) + x2) q5.1 else (mX4_at 154 q5.2 ((2 * x1) + x2)).bind fun q7 => (mX4_put 162 q5.2 q7 q5.1).bind fun q8 => mX1_lay_80 q8 x1 x2 x3 x4 ((2 * x1) + x2) q5.1
set_option maxRecDepth 100000 in
set_option maxHeartbeats 4000000 in
theorem tX1_lay_80 {l : Launch} {K : a_KT} {g : a_GT} {IB : iT} (hko : a_kok K) {J : jT} {F : fT} (I : iT) (x1 : Int32) (x2 : Int32) (x3 : Int32) (x4 : Int32) (x5 : Int32) (x6 : Int32) (hF : FK F) (q : iT) (hm : mX1_lay_80 I x1 x2 x3 x4 x5 x6 = some q) : E l K g 1 0 0 yX1_lay cX1_lay 7 none 80 [.ref 149, .int x1, .int x2, .int x3, .int x4, .int x5, .int x6] [] (hg I IB J F) (fun r2 h2 => r2 = none ∧ h2 = hg q IB J F) := by
  unfold mX1_lay_80 at hm
  refine e_aload_n (i := 0) rfl dX1_lay_80 ?_
  refine q_getF 1 2 154 dX1_lay_81 fl_RX1_23 rfl iz_149 (fr_149_2 hF.1) ?_
  refine e_iload (i := 5) rfl dX1_lay_84 ?_
  refine e_iload (i := 6) rfl dX1_lay_86 ?_
  obtain ⟨q1, eq1, hm⟩ := ob_some hm
  refine e_cV2 hko dX1_lay_88 ml_RX1_52 iz_154 (by decide) rfl (by omega) (Nat.le_of_ble_eq_true rfl) (tX4_put hko rw_154 I J F hF x5 x6 _ eq1) ?_
  rintro _ _ ⟨rfl, rfl⟩
  refine e_aload_n (i := 0) rfl dX1_lay_91 ?_
  refine q_getF 1 3 156 dX1_lay_92 fl_RX1_26 rfl iz_149 (fr_149_3 hF.1) ?_
  refine e_iload (i := 5) rfl dX1_lay_95 ?_
  refine e_iconst (v := 1) (by decide) dX1_lay_97 ?_
  obtain ⟨q2, eq2, hm⟩ := ob_some hm
  refine e_cV2 hko dX1_lay_98 ml_RX1_56 iz_156 (by decide) rfl (by omega) (Nat.le_of_ble_eq_true rfl) (tX4_bump hko rw_156 q1 J F hF x5 1 _ eq2) ?_
  rintro _ _ ⟨rfl, rfl⟩
  refine e_vret dX1_lay_101 rfl ?_
  have hm := some_in hm
  subst hm
  exact ⟨rfl, rfl⟩
set_option maxRecDepth 100000 in
set_option maxHeartbeats 4000000 in
theorem tX1_lay {l : Launch} {K : a_KT} {g : a_GT} {IB : iT} (hko : a_kok K) (I : iT) (J : jT) (F : fT) (hF : FK F) (x1 : Int32) (x2 : Int32) (x3 : Int32) (x4 : Int32) (q : iT) (hm : mX1_lay I x1 x2 x3 x4 = some q) : C l K g 1 0 0 yX1_lay cX1_lay 7 none [.ref 149, .int x1, .int x2, .int x3, .int x4] (hg I IB J F) (fun r2 h2 => r2 = none ∧ h2 = hg q IB J F) := by
  unfold mX1_lay at hm
  refine c_of [.ref 149, .int x1, .int x2, .int x3, .int x4, .null, .null] (by decide) (Nat.le_of_ble_eq_true rfl) rfl ?_
  refine e_iconst (v := 2) (by decide) dX1_lay_0 ?_
  refine e_iload_n (i := 1) rfl dX1_lay_1 ?_
  refine e_imul dX1_lay_2 ?_
  refine e_iload_n (i := 2) rfl dX1_lay_3 ?_
  refine e_iadd dX1_lay_4 ?_
  refine q_istore (i := 5) (by decide) rfl dX1_lay_5 ?_
  refine e_aload_n (i := 0) rfl dX1_lay_7 ?_
  refine q_getF 1 4 158 dX1_lay_8 fl_RX1_29 rfl iz_149 (fr_149_4 hF.1) ?_
  refine e_iload_n (i := 3) rfl dX1_lay_11 ?_
  obtain ⟨q3, eq3, hm⟩ := ob_some hm
  refine e_cV1 hko dX1_lay_12 ml_RX1_45 iz_158 (by decide) rfl (by omega) (Nat.le_of_ble_eq_true rfl) (tX4_add hko rw_158 I J F hF x3 _ eq3) ?_
  rintro _ _ ⟨rfl, rfl⟩
  refine e_pop rfl dX1_lay_15 ?_
  refine e_aload_n (i := 0) rfl dX1_lay_16 ?_
  refine q_getF 1 5 160 dX1_lay_17 fl_RX1_32 rfl iz_149 (fr_149_5 hF.1) ?_
  refine e_iload (i := 4) rfl dX1_lay_20 ?_
  obtain ⟨q4, eq4, hm⟩ := ob_some hm
  refine e_cV1 hko dX1_lay_22 ml_RX1_45 iz_160 (by decide) rfl (by omega) (Nat.le_of_ble_eq_true rfl) (tX4_add hko rw_160 q3.2 J F hF x4 _ eq4) ?_
  rintro _ _ ⟨rfl, rfl⟩
  refine e_pop rfl dX1_lay_25 ?_
  refine e_aload_n (i := 0) rfl dX1_lay_26 ?_
  refine q_getF 1 6 162 dX1_lay_27 fl_RX1_35 rfl iz_149 (fr_149_6 hF.1) ?_
  refine e_iconst (v := (-1)) (by decide) dX1_lay_30 ?_
  obtain ⟨q5, eq5, hm⟩ := ob_some hm
  refine e_cV1 hko dX1_lay_31 ml_RX1_45 iz_162 (by decide) rfl (by omega) (Nat.le_of_ble_eq_true rfl) (tX4_add hko rw_162 q4.2 J F hF ((-1)) _ eq5) ?_
  rintro _ _ ⟨rfl, rfl⟩
  refine q_istore (i := 6) (by decide) rfl dX1_lay_34 ?_
  refine e_aload_n (i := 0) rfl dX1_lay_36 ?_
  refine q_getF 1 3 156 dX1_lay_37 fl_RX1_26 rfl iz_149 (fr_149_3 hF.1) ?_
  refine e_iload (i := 5) rfl dX1_lay_40 ?_
  obtain ⟨q6, eq6, hm⟩ := ob_some hm
  refine e_cV1 hko dX1_lay_42 ml_RX1_49 iz_156 (by decide) rfl (by omega) (Nat.le_of_ble_eq_true rfl) (tX4_at hko rw_156 q5.2 J F hF ((2 * x1) + x2) _ eq6) ?_
  rintro _ _ ⟨rfl, rfl⟩
  refine e_if_ne 62 dX1_lay_45 (by decide) (fun c_45 => ?_) (fun c_45 => ?_)
  · have hm := it_n c_45 hm
    refine e_aload_n (i := 0) rfl dX1_lay_62 ?_
    refine q_getF 1 6 162 dX1_lay_63 fl_RX1_35 rfl iz_149 (fr_149_6 hF.1) ?_
    refine e_aload_n (i := 0) rfl dX1_lay_66 ?_
    refine q_getF 1 2 154 dX1_lay_67 fl_RX1_23 rfl iz_149 (fr_149_2 hF.1) ?_
    refine e_iload (i := 5) rfl dX1_lay_70 ?_
    obtain ⟨q7, eq7, hm⟩ := ob_some hm
    refine e_cV1 hko dX1_lay_72 ml_RX1_49 iz_154 (by decide) rfl (by omega) (Nat.le_of_ble_eq_true rfl) (tX4_at hko rw_154 q5.2 J F hF ((2 * x1) + x2) _ eq7) ?_
    rintro _ _ ⟨rfl, rfl⟩
    refine e_iload (i := 6) rfl dX1_lay_75 ?_
    obtain ⟨q8, eq8, hm⟩ := ob_some hm
    refine e_cV2 hko dX1_lay_77 ml_RX1_52 iz_162 (by decide) rfl (by omega) (Nat.le_of_ble_eq_true rfl) (tX4_put hko rw_162 q5.2 J F hF q7 q5.1 _ eq8) ?_
    rintro _ _ ⟨rfl, rfl⟩
    refine e_weak [.ref 149, .int x1, .int x2, .int x3, .int x4, .int ((2 * x1) + x2), .int q5.1] ⟨rfl, ⟨rfl, ⟨rfl, ⟨rfl, ⟨rfl, ⟨rfl, ⟨rfl, trivial⟩⟩⟩⟩⟩⟩⟩ ?_
    exact tX1_lay_80 hko q8 x1 x2 x3 x4 ((2 * x1) + x2) q5.1 hF _ hm
  · have hm := it_p c_45 hm
    refine e_aload_n (i := 0) rfl dX1_lay_48 ?_
    refine q_getF 1 1 152 dX1_lay_49 fl_RX1_20 rfl iz_149 (fr_149_1 hF.1) ?_
    refine e_iload (i := 5) rfl dX1_lay_52 ?_
    refine e_iload (i := 6) rfl dX1_lay_54 ?_
    obtain ⟨q9, eq9, hm⟩ := ob_some hm
    refine e_cV2 hko dX1_lay_56 ml_RX1_52 iz_152 (by decide) rfl (by omega) (Nat.le_of_ble_eq_true rfl) (tX4_put hko rw_152 q5.2 J F hF ((2 * x1) + x2) q5.1 _ eq9) ?_
    rintro _ _ ⟨rfl, rfl⟩
    refine e_goto 80 dX1_lay_59 (by decide) ?_
    refine e_weak [.ref 149, .int x1, .int x2, .int x3, .int x4, .int ((2 * x1) + x2), .int q5.1] ⟨rfl, ⟨rfl, ⟨rfl, ⟨rfl, ⟨rfl, ⟨rfl, ⟨rfl, trivial⟩⟩⟩⟩⟩⟩⟩ ?_
    exact tX1_lay_80 hko q9 x1 x2 x3 x4 ((2 * x1) + x2) q5.1 hF _ hm
theorem dX1_takeFirst_0 : decode cX1_takeFirst 0 = .ok (.iconst 2, 1) := by decide +kernel
theorem dX1_takeFirst_1 : decode cX1_takeFirst 1 = .ok (.iload_n 1, 1) := by decide +kernel
theorem dX1_takeFirst_2 : decode cX1_takeFirst 2 = .ok (.imul, 1) := by decide +kernel
theorem dX1_takeFirst_3 : decode cX1_takeFirst 3 = .ok (.iload_n 2, 1) := by decide +kernel
theorem dX1_takeFirst_4 : decode cX1_takeFirst 4 = .ok (.iadd, 1) := by decide +kernel
theorem dX1_takeFirst_5 : decode cX1_takeFirst 5 = .ok (.istore_n 3, 1) := by decide +kernel
theorem dX1_takeFirst_6 : decode cX1_takeFirst 6 = .ok (.aload_n 0, 1) := by decide +kernel
theorem dX1_takeFirst_7 : decode cX1_takeFirst 7 = .ok (.getfield 20, 3) := by decide +kernel
theorem dX1_takeFirst_10 : decode cX1_takeFirst 10 = .ok (.iload_n 3, 1) := by decide +kernel
theorem dX1_takeFirst_11 : decode cX1_takeFirst 11 = .ok (.invokevirtual 49, 3) := by decide +kernel
theorem dX1_takeFirst_14 : decode cX1_takeFirst 14 = .ok (.istore 4, 2) := by decide +kernel
theorem dX1_takeFirst_16 : decode cX1_takeFirst 16 = .ok (.aload_n 0, 1) := by decide +kernel
theorem dX1_takeFirst_17 : decode cX1_takeFirst 17 = .ok (.getfield 20, 3) := by decide +kernel
theorem dX1_takeFirst_20 : decode cX1_takeFirst 20 = .ok (.iload_n 3, 1) := by decide +kernel
theorem dX1_takeFirst_21 : decode cX1_takeFirst 21 = .ok (.aload_n 0, 1) := by decide +kernel
theorem dX1_takeFirst_22 : decode cX1_takeFirst 22 = .ok (.getfield 35, 3) := by decide +kernel
theorem dX1_takeFirst_25 : decode cX1_takeFirst 25 = .ok (.iload 4, 2) := by decide +kernel
theorem dX1_takeFirst_27 : decode cX1_takeFirst 27 = .ok (.invokevirtual 49, 3) := by decide +kernel
theorem dX1_takeFirst_30 : decode cX1_takeFirst 30 = .ok (.invokevirtual 52, 3) := by decide +kernel
theorem dX1_takeFirst_33 : decode cX1_takeFirst 33 = .ok (.aload_n 0, 1) := by decide +kernel
theorem dX1_takeFirst_34 : decode cX1_takeFirst 34 = .ok (.getfield 26, 3) := by decide +kernel
theorem dX1_takeFirst_37 : decode cX1_takeFirst 37 = .ok (.iload_n 3, 1) := by decide +kernel
theorem dX1_takeFirst_38 : decode cX1_takeFirst 38 = .ok (.iconst (-1), 1) := by decide +kernel
theorem dX1_takeFirst_39 : decode cX1_takeFirst 39 = .ok (.invokevirtual 56, 3) := by decide +kernel
theorem dX1_takeFirst_42 : decode cX1_takeFirst 42 = .ok (.aload_n 0, 1) := by decide +kernel
theorem dX1_takeFirst_43 : decode cX1_takeFirst 43 = .ok (.getfield 32, 3) := by decide +kernel
theorem dX1_takeFirst_46 : decode cX1_takeFirst 46 = .ok (.iload 4, 2) := by decide +kernel
theorem dX1_takeFirst_48 : decode cX1_takeFirst 48 = .ok (.invokevirtual 49, 3) := by decide +kernel
theorem dX1_takeFirst_51 : decode cX1_takeFirst 51 = .ok (.ireturn, 1) := by decide +kernel
def mX1_takeFirst (I : iT) (x1 : Int32) (x2 : Int32) : Option (Int32 × iT) := (mX4_at 152 I ((2 * x1) + x2)).bind fun q1 => (mX4_at 162 I q1).bind fun q2 => (mX4_put 152 I ((2 * x1) + x2) q2).bind fun q3 => (mX4_bump 156 q3 ((2 * x1) + x2) ((-1))).bind fun q4 => (mX4_at 160 q4 q1).bind fun q5 => some (q5, q4)
set_option maxRecDepth 100000 in
set_option maxHeartbeats 4000000 in
theorem tX1_takeFirst {l : Launch} {K : a_KT} {g : a_GT} {IB : iT} (hko : a_kok K) (I : iT) (J : jT) (F : fT) (hF : FK F) (x1 : Int32) (x2 : Int32) (q : Int32 × iT) (hm : mX1_takeFirst I x1 x2 = some q) : C l K g 1 0 0 yX1_takeFirst cX1_takeFirst 5 (some .int) [.ref 149, .int x1, .int x2] (hg I IB J F) (fun r2 h2 => r2 = some (.int q.1) ∧ h2 = hg q.2 IB J F) := by
  unfold mX1_takeFirst at hm
  refine c_of [.ref 149, .int x1, .int x2, .null, .null] (by decide) (Nat.le_of_ble_eq_true rfl) rfl ?_
  refine e_iconst (v := 2) (by decide) dX1_takeFirst_0 ?_
  refine e_iload_n (i := 1) rfl dX1_takeFirst_1 ?_
  refine e_imul dX1_takeFirst_2 ?_
  refine e_iload_n (i := 2) rfl dX1_takeFirst_3 ?_
  refine e_iadd dX1_takeFirst_4 ?_
  refine q_istore_n (i := 3) (by decide) rfl dX1_takeFirst_5 ?_
  refine e_aload_n (i := 0) rfl dX1_takeFirst_6 ?_
  refine q_getF 1 1 152 dX1_takeFirst_7 fl_RX1_20 rfl iz_149 (fr_149_1 hF.1) ?_
  refine e_iload_n (i := 3) rfl dX1_takeFirst_10 ?_
  obtain ⟨q1, eq1, hm⟩ := ob_some hm
  refine e_cV1 hko dX1_takeFirst_11 ml_RX1_49 iz_152 (by decide) rfl (by omega) (Nat.le_of_ble_eq_true rfl) (tX4_at hko rw_152 I J F hF ((2 * x1) + x2) _ eq1) ?_
  rintro _ _ ⟨rfl, rfl⟩
  refine q_istore (i := 4) (by decide) rfl dX1_takeFirst_14 ?_
  refine e_aload_n (i := 0) rfl dX1_takeFirst_16 ?_
  refine q_getF 1 1 152 dX1_takeFirst_17 fl_RX1_20 rfl iz_149 (fr_149_1 hF.1) ?_
  refine e_iload_n (i := 3) rfl dX1_takeFirst_20 ?_
  refine e_aload_n (i := 0) rfl dX1_takeFirst_21 ?_
  refine q_getF 1 6 162 dX1_takeFirst_22 fl_RX1_35 rfl iz_149 (fr_149_6 hF.1) ?_
  refine e_iload (i := 4) rfl dX1_takeFirst_25 ?_
  obtain ⟨q2, eq2, hm⟩ := ob_some hm
  refine e_cV1 hko dX1_takeFirst_27 ml_RX1_49 iz_162 (by decide) rfl (by omega) (Nat.le_of_ble_eq_true rfl) (tX4_at hko rw_162 I J F hF q1 _ eq2) ?_
  rintro _ _ ⟨rfl, rfl⟩
  obtain ⟨q3, eq3, hm⟩ := ob_some hm
  refine e_cV2 hko dX1_takeFirst_30 ml_RX1_52 iz_152 (by decide) rfl (by omega) (Nat.le_of_ble_eq_true rfl) (tX4_put hko rw_152 I J F hF ((2 * x1) + x2) q2 _ eq3) ?_
  rintro _ _ ⟨rfl, rfl⟩
  refine e_aload_n (i := 0) rfl dX1_takeFirst_33 ?_
  refine q_getF 1 3 156 dX1_takeFirst_34 fl_RX1_26 rfl iz_149 (fr_149_3 hF.1) ?_
  refine e_iload_n (i := 3) rfl dX1_takeFirst_37 ?_
  refine e_iconst (v := (-1)) (by decide) dX1_takeFirst_38 ?_
  obtain ⟨q4, eq4, hm⟩ := ob_some hm
  refine e_cV2 hko dX1_takeFirst_39 ml_RX1_56 iz_156 (by decide) rfl (by omega) (Nat.le_of_ble_eq_true rfl) (tX4_bump hko rw_156 q3 J F hF ((2 * x1) + x2) ((-1)) _ eq4) ?_
  rintro _ _ ⟨rfl, rfl⟩
  refine e_aload_n (i := 0) rfl dX1_takeFirst_42 ?_
  refine q_getF 1 5 160 dX1_takeFirst_43 fl_RX1_32 rfl iz_149 (fr_149_5 hF.1) ?_
  refine e_iload (i := 4) rfl dX1_takeFirst_46 ?_
  obtain ⟨q5, eq5, hm⟩ := ob_some hm
  refine e_cV1 hko dX1_takeFirst_48 ml_RX1_49 iz_160 (by decide) rfl (by omega) (Nat.le_of_ble_eq_true rfl) (tX4_at hko rw_160 q4 J F hF q1 _ eq5) ?_
  rintro _ _ ⟨rfl, rfl⟩
  refine e_iret dX1_takeFirst_51 rfl ?_
  have hm := some_in hm
  subst hm
  exact ⟨rfl, rfl⟩
