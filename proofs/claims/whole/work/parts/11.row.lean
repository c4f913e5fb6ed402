/-! ROW -/
theorem dX4_size_0 : decode cX4_size 0 = .ok (.aload_n 0, 1) := by decide +kernel
theorem dX4_size_1 : decode cX4_size 1 = .ok (.getfield 21, 3) := by decide +kernel
theorem dX4_size_4 : decode cX4_size 4 = .ok (.ireturn, 1) := by decide +kernel
theorem dX4_clear_0 : decode cX4_clear 0 = .ok (.aload_n 0, 1) := by decide +kernel
theorem dX4_clear_1 : decode cX4_clear 1 = .ok (.iconst 0, 1) := by decide +kernel
theorem dX4_clear_2 : decode cX4_clear 2 = .ok (.putfield 21, 3) := by decide +kernel
theorem dX4_clear_5 : decode cX4_clear 5 = .ok (.return_, 1) := by decide +kernel
theorem dX4_cut_0 : decode cX4_cut 0 = .ok (.iload_n 1, 1) := by decide +kernel
theorem dX4_cut_1 : decode cX4_cut 1 = .ok (.ifCond .lt 16, 3) := by decide +kernel
theorem dX4_cut_4 : decode cX4_cut 4 = .ok (.iload_n 1, 1) := by decide +kernel
theorem dX4_cut_5 : decode cX4_cut 5 = .ok (.aload_n 0, 1) := by decide +kernel
theorem dX4_cut_6 : decode cX4_cut 6 = .ok (.getfield 21, 3) := by decide +kernel
theorem dX4_cut_9 : decode cX4_cut 9 = .ok (.if_icmp .ge 8, 3) := by decide +kernel
theorem dX4_cut_12 : decode cX4_cut 12 = .ok (.aload_n 0, 1) := by decide +kernel
theorem dX4_cut_13 : decode cX4_cut 13 = .ok (.iload_n 1, 1) := by decide +kernel
theorem dX4_cut_14 : decode cX4_cut 14 = .ok (.putfield 21, 3) := by decide +kernel
theorem dX4_cut_17 : decode cX4_cut 17 = .ok (.return_, 1) := by decide +kernel
theorem dX4_at_0 : decode cX4_at 0 = .ok (.iload_n 1, 1) := by decide +kernel
theorem dX4_at_1 : decode cX4_at 1 = .ok (.ifCond .lt 20, 3) := by decide +kernel
theorem dX4_at_4 : decode cX4_at 4 = .ok (.iload_n 1, 1) := by decide +kernel
theorem dX4_at_5 : decode cX4_at 5 = .ok (.aload_n 0, 1) := by decide +kernel
theorem dX4_at_6 : decode cX4_at 6 = .ok (.getfield 21, 3) := by decide +kernel
theorem dX4_at_9 : decode cX4_at 9 = .ok (.if_icmp .ge 12, 3) := by decide +kernel
theorem dX4_at_12 : decode cX4_at 12 = .ok (.aload_n 0, 1) := by decide +kernel
theorem dX4_at_13 : decode cX4_at 13 = .ok (.getfield 15, 3) := by decide +kernel
theorem dX4_at_16 : decode cX4_at 16 = .ok (.iload_n 1, 1) := by decide +kernel
theorem dX4_at_17 : decode cX4_at 17 = .ok (.iaload, 1) := by decide +kernel
theorem dX4_at_18 : decode cX4_at 18 = .ok (.goto 4, 3) := by decide +kernel
theorem dX4_at_21 : decode cX4_at 21 = .ok (.iconst (-1), 1) := by decide +kernel
theorem dX4_at_22 : decode cX4_at 22 = .ok (.ireturn, 1) := by decide +kernel
theorem dX4_put_0 : decode cX4_put 0 = .ok (.iload_n 1, 1) := by decide +kernel
theorem dX4_put_1 : decode cX4_put 1 = .ok (.ifCond .lt 18, 3) := by decide +kernel
theorem dX4_put_4 : decode cX4_put 4 = .ok (.iload_n 1, 1) := by decide +kernel
theorem dX4_put_5 : decode cX4_put 5 = .ok (.aload_n 0, 1) := by decide +kernel
theorem dX4_put_6 : decode cX4_put 6 = .ok (.getfield 21, 3) := by decide +kernel
theorem dX4_put_9 : decode cX4_put 9 = .ok (.if_icmp .ge 10, 3) := by decide +kernel
theorem dX4_put_12 : decode cX4_put 12 = .ok (.aload_n 0, 1) := by decide +kernel
theorem dX4_put_13 : decode cX4_put 13 = .ok (.getfield 15, 3) := by decide +kernel
theorem dX4_put_16 : decode cX4_put 16 = .ok (.iload_n 1, 1) := by decide +kernel
theorem dX4_put_17 : decode cX4_put 17 = .ok (.iload_n 2, 1) := by decide +kernel
theorem dX4_put_18 : decode cX4_put 18 = .ok (.iastore, 1) := by decide +kernel
theorem dX4_put_19 : decode cX4_put 19 = .ok (.return_, 1) := by decide +kernel
theorem dX4_bump_0 : decode cX4_bump 0 = .ok (.iload_n 1, 1) := by decide +kernel
theorem dX4_bump_1 : decode cX4_bump 1 = .ok (.ifCond .lt 21, 3) := by decide +kernel
theorem dX4_bump_4 : decode cX4_bump 4 = .ok (.iload_n 1, 1) := by decide +kernel
theorem dX4_bump_5 : decode cX4_bump 5 = .ok (.aload_n 0, 1) := by decide +kernel
theorem dX4_bump_6 : decode cX4_bump 6 = .ok (.getfield 21, 3) := by decide +kernel
theorem dX4_bump_9 : decode cX4_bump 9 = .ok (.if_icmp .ge 13, 3) := by decide +kernel
theorem dX4_bump_12 : decode cX4_bump 12 = .ok (.aload_n 0, 1) := by decide +kernel
theorem dX4_bump_13 : decode cX4_bump 13 = .ok (.getfield 15, 3) := by decide +kernel
theorem dX4_bump_16 : decode cX4_bump 16 = .ok (.iload_n 1, 1) := by decide +kernel
theorem dX4_bump_17 : decode cX4_bump 17 = .ok (.dup2, 1) := by decide +kernel
theorem dX4_bump_18 : decode cX4_bump 18 = .ok (.iaload, 1) := by decide +kernel
theorem dX4_bump_19 : decode cX4_bump 19 = .ok (.iload_n 2, 1) := by decide +kernel
theorem dX4_bump_20 : decode cX4_bump 20 = .ok (.iadd, 1) := by decide +kernel
theorem dX4_bump_21 : decode cX4_bump 21 = .ok (.iastore, 1) := by decide +kernel
theorem dX4_bump_22 : decode cX4_bump 22 = .ok (.return_, 1) := by decide +kernel
theorem dX4_add_0 : decode cX4_add 0 = .ok (.aload_n 0, 1) := by decide +kernel
theorem dX4_add_1 : decode cX4_add 1 = .ok (.getfield 21, 3) := by decide +kernel
theorem dX4_add_4 : decode cX4_add 4 = .ok (.aload_n 0, 1) := by decide +kernel
theorem dX4_add_5 : decode cX4_add 5 = .ok (.getfield 15, 3) := by decide +kernel
theorem dX4_add_8 : decode cX4_add 8 = .ok (.arraylength, 1) := by decide +kernel
theorem dX4_add_9 : decode cX4_add 9 = .ok (.if_icmp .lt 5, 3) := by decide +kernel
theorem dX4_add_12 : decode cX4_add 12 = .ok (.iconst (-1), 1) := by decide +kernel
theorem dX4_add_13 : decode cX4_add 13 = .ok (.ireturn, 1) := by decide +kernel
theorem dX4_add_14 : decode cX4_add 14 = .ok (.aload_n 0, 1) := by decide +kernel
theorem dX4_add_15 : decode cX4_add 15 = .ok (.getfield 15, 3) := by decide +kernel
theorem dX4_add_18 : decode cX4_add 18 = .ok (.aload_n 0, 1) := by decide +kernel
theorem dX4_add_19 : decode cX4_add 19 = .ok (.getfield 21, 3) := by decide +kernel
theorem dX4_add_22 : decode cX4_add 22 = .ok (.iload_n 1, 1) := by decide +kernel
theorem dX4_add_23 : decode cX4_add 23 = .ok (.iastore, 1) := by decide +kernel
theorem dX4_add_24 : decode cX4_add 24 = .ok (.aload_n 0, 1) := by decide +kernel
theorem dX4_add_25 : decode cX4_add 25 = .ok (.dup, 1) := by decide +kernel
theorem dX4_add_26 : decode cX4_add 26 = .ok (.getfield 21, 3) := by decide +kernel
theorem dX4_add_29 : decode cX4_add 29 = .ok (.iconst 1, 1) := by decide +kernel
theorem dX4_add_30 : decode cX4_add 30 = .ok (.iadd, 1) := by decide +kernel
theorem dX4_add_31 : decode cX4_add 31 = .ok (.putfield 21, 3) := by decide +kernel
theorem dX4_add_34 : decode cX4_add 34 = .ok (.aload_n 0, 1) := by decide +kernel
theorem dX4_add_35 : decode cX4_add 35 = .ok (.getfield 21, 3) := by decide +kernel
theorem dX4_add_38 : decode cX4_add 38 = .ok (.iconst 1, 1) := by decide +kernel
theorem dX4_add_39 : decode cX4_add 39 = .ok (.isub, 1) := by decide +kernel
theorem dX4_add_40 : decode cX4_add 40 = .ok (.ireturn, 1) := by decide +kernel
theorem dX4_fill_0 : decode cX4_fill 0 = .ok (.iconst 0, 1) := by decide +kernel
theorem dX4_fill_1 : decode cX4_fill 1 = .ok (.istore_n 2, 1) := by decide +kernel
theorem dX4_fill_2 : decode cX4_fill 2 = .ok (.iload_n 2, 1) := by decide +kernel
theorem dX4_fill_3 : decode cX4_fill 3 = .ok (.aload_n 0, 1) := by decide +kernel
theorem dX4_fill_4 : decode cX4_fill 4 = .ok (.getfield 15, 3) := by decide +kernel
theorem dX4_fill_7 : decode cX4_fill 7 = .ok (.arraylength, 1) := by decide +kernel
theorem dX4_fill_8 : decode cX4_fill 8 = .ok (.if_icmp .ge 16, 3) := by decide +kernel
theorem dX4_fill_11 : decode cX4_fill 11 = .ok (.aload_n 0, 1) := by decide +kernel
theorem dX4_fill_12 : decode cX4_fill 12 = .ok (.getfield 15, 3) := by decide +kernel
theorem dX4_fill_15 : decode cX4_fill 15 = .ok (.iload_n 2, 1) := by decide +kernel
theorem dX4_fill_16 : decode cX4_fill 16 = .ok (.iload_n 1, 1) := by decide +kernel
theorem dX4_fill_17 : decode cX4_fill 17 = .ok (.iastore, 1) := by decide +kernel
theorem dX4_fill_18 : decode cX4_fill 18 = .ok (.iinc 2 1, 3) := by decide +kernel
theorem dX4_fill_21 : decode cX4_fill 21 = .ok (.goto (-19), 3) := by decide +kernel
theorem dX4_fill_24 : decode cX4_fill 24 = .ok (.aload_n 0, 1) := by decide +kernel
theorem dX4_fill_25 : decode cX4_fill 25 = .ok (.aload_n 0, 1) := by decide +kernel
theorem dX4_fill_26 : decode cX4_fill 26 = .ok (.getfield 15, 3) := by decide +kernel
theorem dX4_fill_29 : decode cX4_fill 29 = .ok (.arraylength, 1) := by decide +kernel
theorem dX4_fill_30 : decode cX4_fill 30 = .ok (.putfield 21, 3) := by decide +kernel
theorem dX4_fill_33 : decode cX4_fill 33 = .ok (.return_, 1) := by decide +kernel
theorem dX4_find_0 : decode cX4_find 0 = .ok (.iconst 0, 1) := by decide +kernel
theorem dX4_find_1 : decode cX4_find 1 = .ok (.istore_n 2, 1) := by decide +kernel
theorem dX4_find_2 : decode cX4_find 2 = .ok (.iload_n 2, 1) := by decide +kernel
theorem dX4_find_3 : decode cX4_find 3 = .ok (.aload_n 0, 1) := by decide +kernel
theorem dX4_find_4 : decode cX4_find 4 = .ok (.getfield 21, 3) := by decide +kernel
theorem dX4_find_7 : decode cX4_find 7 = .ok (.if_icmp .ge 21, 3) := by decide +kernel
theorem dX4_find_10 : decode cX4_find 10 = .ok (.aload_n 0, 1) := by decide +kernel
theorem dX4_find_11 : decode cX4_find 11 = .ok (.getfield 15, 3) := by decide +kernel
theorem dX4_find_14 : decode cX4_find 14 = .ok (.iload_n 2, 1) := by decide +kernel
theorem dX4_find_15 : decode cX4_find 15 = .ok (.iaload, 1) := by decide +kernel
theorem dX4_find_16 : decode cX4_find 16 = .ok (.iload_n 1, 1) := by decide +kernel
theorem dX4_find_17 : decode cX4_find 17 = .ok (.if_icmp .ne 5, 3) := by decide +kernel
theorem dX4_find_20 : decode cX4_find 20 = .ok (.iload_n 2, 1) := by decide +kernel
theorem dX4_find_21 : decode cX4_find 21 = .ok (.ireturn, 1) := by decide +kernel
theorem dX4_find_22 : decode cX4_find 22 = .ok (.iinc 2 1, 3) := by decide +kernel
theorem dX4_find_25 : decode cX4_find 25 = .ok (.goto (-23), 3) := by decide +kernel
theorem dX4_find_28 : decode cX4_find 28 = .ok (.iconst (-1), 1) := by decide +kernel
theorem dX4_find_29 : decode cX4_find 29 = .ok (.ireturn, 1) := by decide +kernel
theorem dX4_addBytes_0 : decode cX4_addBytes 0 = .ok (.bipush 24, 2) := by decide +kernel
theorem dX4_addBytes_2 : decode cX4_addBytes 2 = .ok (.istore_n 2, 1) := by decide +kernel
theorem dX4_addBytes_3 : decode cX4_addBytes 3 = .ok (.iload_n 2, 1) := by decide +kernel
theorem dX4_addBytes_4 : decode cX4_addBytes 4 = .ok (.ifCond .lt 21, 3) := by decide +kernel
theorem dX4_addBytes_7 : decode cX4_addBytes 7 = .ok (.aload_n 0, 1) := by decide +kernel
theorem dX4_addBytes_8 : decode cX4_addBytes 8 = .ok (.iload_n 1, 1) := by decide +kernel
theorem dX4_addBytes_9 : decode cX4_addBytes 9 = .ok (.iload_n 2, 1) := by decide +kernel
theorem dX4_addBytes_10 : decode cX4_addBytes 10 = .ok (.iushr, 1) := by decide +kernel
theorem dX4_addBytes_11 : decode cX4_addBytes 11 = .ok (.sipush 255, 3) := by decide +kernel
theorem dX4_addBytes_14 : decode cX4_addBytes 14 = .ok (.iand, 1) := by decide +kernel
theorem dX4_addBytes_15 : decode cX4_addBytes 15 = .ok (.invokevirtual 25, 3) := by decide +kernel
theorem dX4_addBytes_18 : decode cX4_addBytes 18 = .ok (.pop, 1) := by decide +kernel
theorem dX4_addBytes_19 : decode cX4_addBytes 19 = .ok (.iinc 2 (-8), 3) := by decide +kernel
theorem dX4_addBytes_22 : decode cX4_addBytes 22 = .ok (.goto (-19), 3) := by decide +kernel
theorem dX4_addBytes_25 : decode cX4_addBytes 25 = .ok (.return_, 1) := by decide +kernel
set_option maxRecDepth 100000 in
set_option maxHeartbeats 4000000 in
theorem c_size (l : Launch) (K : a_KT) (g : a_GT) (d : Nat) (I : iT) (J : jT) (F : fT) (hF : FOK F) {a : Nat} (hr : isRow a) : C l K g d 0 0 yX4_size cX4_size 1 (some .int) [.ref a] (hp I J F) (fun r h2 => r = some (.int (I a 1)) ∧ h2 = hp I J F) := by
  refine c_of [.ref a] (by decide) (Nat.le_of_ble_eq_true rfl) rfl ?_
  refine e_aload_n (i := 0) rfl dX4_size_0 ?_
  refine q_getI 4 1 dX4_size_1 fl_RX4_21 rfl (iz_row hr) ?_
  refine e_iret dX4_size_4 rfl ?_
  exact ⟨rfl, rfl⟩
set_option maxRecDepth 100000 in
set_option maxHeartbeats 4000000 in
theorem c_clear (l : Launch) (K : a_KT) (g : a_GT) (d : Nat) (I : iT) (J : jT) (F : fT) (hF : FOK F) {a : Nat} (hr : isRow a) : C l K g d 0 0 yX4_clear cX4_clear 1 none [.ref a] (hp I J F) (fun r h2 => r = none ∧ h2 = hp (a_u2 I a 1 0) J F) := by
  refine c_of [.ref a] (by decide) (Nat.le_of_ble_eq_true rfl) rfl ?_
  refine e_aload_n (i := 0) rfl dX4_clear_0 ?_
  refine e_iconst (v := 0) (by decide) dX4_clear_1 ?_
  refine q_putI 4 1 dX4_clear_2 fl_RX4_21 rfl rfl (iz_row hr) ?_
  refine e_vret dX4_clear_5 rfl ?_
  exact ⟨rfl, rfl⟩
set_option maxRecDepth 100000 in
set_option maxHeartbeats 4000000 in
theorem c_cut (l : Launch) (K : a_KT) (g : a_GT) (d : Nat) (I : iT) (J : jT) (F : fT) (hF : FOK F) {a : Nat} (hr : isRow a) (i : Int32) : C l K g d 0 0 yX4_cut cX4_cut 2 none [.ref a, .int i] (hp I J F) (fun r h2 => r = none ∧ h2 = hp (if i < 0 ∨ I a 1 ≤ i then I else a_u2 I a 1 i) J F) := by
  refine c_of [.ref a, .int i] (by decide) (Nat.le_of_ble_eq_true rfl) rfl ?_
  refine e_iload_n (i := 1) rfl dX4_cut_0 ?_
  refine e_if_lt 17 dX4_cut_1 (by decide) (fun c_1 => ?_) (fun c_1 => ?_)
  · refine e_vret dX4_cut_17 rfl ?_
    first
      | exact ⟨rfl, by rw [if_pos (Or.inl c_1)]⟩
      | exact ⟨rfl, by rw [if_pos (Or.inr c_9)]⟩
      | exact ⟨rfl, by rw [if_neg (fun q => q.elim c_1 c_9)]⟩
  · refine e_iload_n (i := 1) rfl dX4_cut_4 ?_
    refine e_aload_n (i := 0) rfl dX4_cut_5 ?_
    refine q_getI 4 1 dX4_cut_6 fl_RX4_21 rfl (iz_row hr) ?_
    refine e_icmp_ge 17 dX4_cut_9 (by decide) (fun c_9 => ?_) (fun c_9 => ?_)
    · refine e_vret dX4_cut_17 rfl ?_
      first
        | exact ⟨rfl, by rw [if_pos (Or.inl c_1)]⟩
        | exact ⟨rfl, by rw [if_pos (Or.inr c_9)]⟩
        | exact ⟨rfl, by rw [if_neg (fun q => q.elim c_1 c_9)]⟩
    · refine e_aload_n (i := 0) rfl dX4_cut_12 ?_
      refine e_iload_n (i := 1) rfl dX4_cut_13 ?_
      refine q_putI 4 1 dX4_cut_14 fl_RX4_21 rfl rfl (iz_row hr) ?_
      refine e_vret dX4_cut_17 rfl ?_
      first
        | exact ⟨rfl, by rw [if_pos (Or.inl c_1)]⟩
        | exact ⟨rfl, by rw [if_pos (Or.inr c_9)]⟩
        | exact ⟨rfl, by rw [if_neg (fun q => q.elim c_1 c_9)]⟩
theorem row_in {I : iT} {a : Nat} {i : Int32} (hn : (I a 1).toInt ≤ LEN (a + 1)) (h0 : ¬ i < 0) (h1 : ¬ I a 1 ≤ i) : vp_in i (LEN (a + 1)) := by
  rw [vp_in_iff]
  rw [Int32.lt_iff_toInt_lt, Int32.toInt_zero] at h0
  rw [Int32.le_iff_toInt_le] at h1
  omega
set_option maxRecDepth 100000 in
set_option maxHeartbeats 4000000 in
theorem c_at (l : Launch) (K : a_KT) (g : a_GT) (d : Nat) (I : iT) (J : jT) (F : fT) (hF : FOK F) {a : Nat} (hr : isRow a) (i : Int32) (hn : (I a 1).toInt ≤ LEN (a + 1)) : C l K g d 0 0 yX4_at cX4_at 2 (some .int) [.ref a, .int i] (hp I J F) (fun r h2 => h2 = hp I J F ∧ r = some (.int (if i < 0 ∨ I a 1 ≤ i then -1 else I (a + 1) i.toNatClampNeg))) := by
  refine c_of [.ref a, .int i] (by decide) (Nat.le_of_ble_eq_true rfl) rfl ?_
  refine e_iload_n (i := 1) rfl dX4_at_0 ?_
  refine e_if_lt 21 dX4_at_1 (by decide) (fun c_1 => ?_) (fun c_1 => ?_)
  · refine e_iconst (v := (-1)) (by decide) dX4_at_21 ?_
    refine e_iret dX4_at_22 rfl ?_
    first
      | exact ⟨rfl, by rw [if_pos (Or.inl c_1)]⟩
      | exact ⟨rfl, by rw [if_pos (Or.inr c_9)]⟩
      | exact ⟨rfl, by rw [if_neg (fun q => q.elim c_1 c_9)]⟩
  · refine e_iload_n (i := 1) rfl dX4_at_4 ?_
    refine e_aload_n (i := 0) rfl dX4_at_5 ?_
    refine q_getI 4 1 dX4_at_6 fl_RX4_21 rfl (iz_row hr) ?_
    refine e_icmp_ge 21 dX4_at_9 (by decide) (fun c_9 => ?_) (fun c_9 => ?_)
    · refine e_iconst (v := (-1)) (by decide) dX4_at_21 ?_
      refine e_iret dX4_at_22 rfl ?_
      first
        | exact ⟨rfl, by rw [if_pos (Or.inl c_1)]⟩
        | exact ⟨rfl, by rw [if_pos (Or.inr c_9)]⟩
        | exact ⟨rfl, by rw [if_neg (fun q => q.elim c_1 c_9)]⟩
    · refine e_aload_n (i := 0) rfl dX4_at_12 ?_
      refine q_getF 4 0 (a + 1) dX4_at_13 fl_RX4_15 rfl (iz_row hr) (fr_row hF hr) ?_
      refine e_iload_n (i := 1) rfl dX4_at_16 ?_
      refine q_iald dX4_at_17 (iz_items hr) (row_in hn c_1 c_9) ?_
      refine e_goto 22 dX4_at_18 (by decide) ?_
      refine e_iret dX4_at_22 rfl ?_
      first
        | exact ⟨rfl, by rw [if_pos (Or.inl c_1)]⟩
        | exact ⟨rfl, by rw [if_pos (Or.inr c_9)]⟩
        | exact ⟨rfl, by rw [if_neg (fun q => q.elim c_1 c_9)]⟩
set_option maxRecDepth 100000 in
set_option maxHeartbeats 4000000 in
theorem c_put (l : Launch) (K : a_KT) (g : a_GT) (d : Nat) (I : iT) (J : jT) (F : fT) (hF : FOK F) {a : Nat} (hr : isRow a) (i x : Int32) (hn : (I a 1).toInt ≤ LEN (a + 1)) : C l K g d 0 0 yX4_put cX4_put 3 none [.ref a, .int i, .int x] (hp I J F) (fun r h2 => r = none ∧ h2 = hp (if i < 0 ∨ I a 1 ≤ i then I else a_u2 I (a + 1) i.toNatClampNeg x) J F) := by
  refine c_of [.ref a, .int i, .int x] (by decide) (Nat.le_of_ble_eq_true rfl) rfl ?_
  refine e_iload_n (i := 1) rfl dX4_put_0 ?_
  refine e_if_lt 19 dX4_put_1 (by decide) (fun c_1 => ?_) (fun c_1 => ?_)
  · refine e_vret dX4_put_19 rfl ?_
    first
      | exact ⟨rfl, by rw [if_pos (Or.inl c_1)]⟩
      | exact ⟨rfl, by rw [if_pos (Or.inr c_9)]⟩
      | exact ⟨rfl, by rw [if_neg (fun q => q.elim c_1 c_9)]⟩
  · refine e_iload_n (i := 1) rfl dX4_put_4 ?_
    refine e_aload_n (i := 0) rfl dX4_put_5 ?_
    refine q_getI 4 1 dX4_put_6 fl_RX4_21 rfl (iz_row hr) ?_
    refine e_icmp_ge 19 dX4_put_9 (by decide) (fun c_9 => ?_) (fun c_9 => ?_)
    · refine e_vret dX4_put_19 rfl ?_
      first
        | exact ⟨rfl, by rw [if_pos (Or.inl c_1)]⟩
        | exact ⟨rfl, by rw [if_pos (Or.inr c_9)]⟩
        | exact ⟨rfl, by rw [if_neg (fun q => q.elim c_1 c_9)]⟩
    · refine e_aload_n (i := 0) rfl dX4_put_12 ?_
      refine q_getF 4 0 (a + 1) dX4_put_13 fl_RX4_15 rfl (iz_row hr) (fr_row hF hr) ?_
      refine e_iload_n (i := 1) rfl dX4_put_16 ?_
      refine e_iload_n (i := 2) rfl dX4_put_17 ?_
      refine q_iast dX4_put_18 (iz_items hr) (row_in hn c_1 c_9) ?_
      refine e_vret dX4_put_19 rfl ?_
      first
        | exact ⟨rfl, by rw [if_pos (Or.inl c_1)]⟩
        | exact ⟨rfl, by rw [if_pos (Or.inr c_9)]⟩
        | exact ⟨rfl, by rw [if_neg (fun q => q.elim c_1 c_9)]⟩
set_option maxRecDepth 100000 in
set_option maxHeartbeats 4000000 in
theorem c_bump (l : Launch) (K : a_KT) (g : a_GT) (d : Nat) (I : iT) (J : jT) (F : fT) (hF : FOK F) {a : Nat} (hr : isRow a) (i x : Int32) (hn : (I a 1).toInt ≤ LEN (a + 1)) : C l K g d 0 0 yX4_bump cX4_bump 3 none [.ref a, .int i, .int x] (hp I J F) (fun r h2 => r = none ∧ h2 = hp (if i < 0 ∨ I a 1 ≤ i then I else a_u2 I (a + 1) i.toNatClampNeg (I (a + 1) i.toNatClampNeg + x)) J F) := by
  refine c_of [.ref a, .int i, .int x] (by decide) (Nat.le_of_ble_eq_true rfl) rfl ?_
  refine e_iload_n (i := 1) rfl dX4_bump_0 ?_
  refine e_if_lt 22 dX4_bump_1 (by decide) (fun c_1 => ?_) (fun c_1 => ?_)
  · refine e_vret dX4_bump_22 rfl ?_
    first
      | exact ⟨rfl, by rw [if_pos (Or.inl c_1)]⟩
      | exact ⟨rfl, by rw [if_pos (Or.inr c_9)]⟩
      | exact ⟨rfl, by rw [if_neg (fun q => q.elim c_1 c_9)]⟩
  · refine e_iload_n (i := 1) rfl dX4_bump_4 ?_
    refine e_aload_n (i := 0) rfl dX4_bump_5 ?_
    refine q_getI 4 1 dX4_bump_6 fl_RX4_21 rfl (iz_row hr) ?_
    refine e_icmp_ge 22 dX4_bump_9 (by decide) (fun c_9 => ?_) (fun c_9 => ?_)
    · refine e_vret dX4_bump_22 rfl ?_
      first
        | exact ⟨rfl, by rw [if_pos (Or.inl c_1)]⟩
        | exact ⟨rfl, by rw [if_pos (Or.inr c_9)]⟩
        | exact ⟨rfl, by rw [if_neg (fun q => q.elim c_1 c_9)]⟩
    · refine e_aload_n (i := 0) rfl dX4_bump_12 ?_
      refine q_getF 4 0 (a + 1) dX4_bump_13 fl_RX4_15 rfl (iz_row hr) (fr_row hF hr) ?_
      refine e_iload_n (i := 1) rfl dX4_bump_16 ?_
      refine e_dup2 rfl rfl dX4_bump_17 ?_
      refine q_iald dX4_bump_18 (iz_items hr) (row_in hn c_1 c_9) ?_
      refine e_iload_n (i := 2) rfl dX4_bump_19 ?_
      refine e_iadd dX4_bump_20 ?_
      refine q_iast dX4_bump_21 (iz_items hr) (row_in hn c_1 c_9) ?_
      refine e_vret dX4_bump_22 rfl ?_
      first
        | exact ⟨rfl, by rw [if_pos (Or.inl c_1)]⟩
        | exact ⟨rfl, by rw [if_pos (Or.inr c_9)]⟩
        | exact ⟨rfl, by rw [if_neg (fun q => q.elim c_1 c_9)]⟩
theorem row_add_in {I : iT} {a : Nat} (h0 : 0 ≤ (I a 1).toInt) (hl : LEN (a + 1) < 2 ^ 31) (h : I a 1 < nI (LEN (a + 1))) : vp_in (I a 1) (LEN (a + 1)) := by
  rw [vp_in_iff]
  rw [Int32.lt_iff_toInt_lt, nI_toInt hl] at h
  omega
set_option maxRecDepth 100000 in
set_option maxHeartbeats 4000000 in
theorem c_add (l : Launch) (K : a_KT) (g : a_GT) (d : Nat) (I : iT) (J : jT) (F : fT) (hF : FOK F) {a : Nat} (hr : isRow a) (x : Int32) (h0 : 0 ≤ (I a 1).toInt) (hl : LEN (a + 1) < 2 ^ 31) : C l K g d 0 0 yX4_add cX4_add 2 (some .int) [.ref a, .int x] (hp I J F) (fun r h2 => (nI (LEN (a + 1)) ≤ I a 1 → r = some (.int (-1)) ∧ h2 = hp I J F) ∧ (I a 1 < nI (LEN (a + 1)) → r = some (.int (I a 1)) ∧ h2 = hp (a_u2 (a_u2 I (a + 1) (I a 1).toNatClampNeg x) a 1 (I a 1 + 1)) J F)) := by
  refine c_of [.ref a, .int x] (by decide) (Nat.le_of_ble_eq_true rfl) rfl ?_
  refine e_aload_n (i := 0) rfl dX4_add_0 ?_
  refine q_getI 4 1 dX4_add_1 fl_RX4_21 rfl (iz_row hr) ?_
  refine e_aload_n (i := 0) rfl dX4_add_4 ?_
  refine q_getF 4 0 (a + 1) dX4_add_5 fl_RX4_15 rfl (iz_row hr) (fr_row hF hr) ?_
  refine q_alen dX4_add_8 (iz_items hr) ?_
  refine e_icmp_lt 14 dX4_add_9 (by decide) (fun c_9 => ?_) (fun c_9 => ?_)
  · refine e_aload_n (i := 0) rfl dX4_add_14 ?_
    refine q_getF 4 0 (a + 1) dX4_add_15 fl_RX4_15 rfl (iz_row hr) (fr_row hF hr) ?_
    refine e_aload_n (i := 0) rfl dX4_add_18 ?_
    refine q_getI 4 1 dX4_add_19 fl_RX4_21 rfl (iz_row hr) ?_
    refine e_iload_n (i := 1) rfl dX4_add_22 ?_
    refine q_iast dX4_add_23 (iz_items hr) (row_add_in h0 hl c_9) ?_
    refine e_aload_n (i := 0) rfl dX4_add_24 ?_
    refine e_dup rfl dX4_add_25 ?_
    refine q_getI 4 1 dX4_add_26 fl_RX4_21 rfl (iz_row hr) ?_
    refine e_iconst (v := 1) (by decide) dX4_add_29 ?_
    refine e_iadd dX4_add_30 ?_
    refine q_putI 4 1 dX4_add_31 fl_RX4_21 rfl rfl (iz_row hr) ?_
    refine e_aload_n (i := 0) rfl dX4_add_34 ?_
    refine q_getI 4 1 dX4_add_35 fl_RX4_21 rfl (iz_row hr) ?_
    refine e_iconst (v := 1) (by decide) dX4_add_38 ?_
    refine e_isub dX4_add_39 ?_
    refine e_iret dX4_add_40 rfl ?_
    first
      | exact ⟨fun _ => ⟨rfl, rfl⟩, fun q => absurd q c_9⟩
      | (have e1 : a_u2 (a_u2 I (a + 1) (I a 1).toNatClampNeg x) a 1 (I a 1 + 1) a 1 = I a 1 + 1 := a_u2_s _ _ _ _
         have e2 : a_u2 I (a + 1) (I a 1).toNatClampNeg x a 1 = I a 1 := a_u2_n _ _ (by omega)
         refine ⟨fun q => absurd c_9 (Int32.not_lt.mpr q), fun _ => ?_⟩
         simp only [e2, e1, Int32.add_sub_cancel, and_self])
  · refine e_iconst (v := (-1)) (by decide) dX4_add_12 ?_
    refine e_iret dX4_add_13 rfl ?_
    first
      | exact ⟨fun _ => ⟨rfl, rfl⟩, fun q => absurd q c_9⟩
      | (have e1 : a_u2 (a_u2 I (a + 1) (I a 1).toNatClampNeg x) a 1 (I a 1 + 1) a 1 = I a 1 + 1 := a_u2_s _ _ _ _
         have e2 : a_u2 I (a + 1) (I a 1).toNatClampNeg x a 1 = I a 1 := a_u2_n _ _ (by omega)
         refine ⟨fun q => absurd c_9 (Int32.not_lt.mpr q), fun _ => ?_⟩
         simp only [e2, e1, Int32.add_sub_cancel, and_self])
