/-! DECOMPILED: printed by wip/whole/gen_dec.py -/
theorem dX4_at_0 : decode cX4_at 0 = .ok (.iload_n 1, 1) := by decide +kernel
theorem dX4_at_1 : decode cX4_at 1 = .ok (.ifCond .lt 20, 3) := by decide +kernel
theorem dX4_at_4 : decode cX4_at 4 = .ok (.iload_n 1, 1) := by decide +kernel
theorem dX4_at_5 : decode cX4_at 5 = .ok (.aload_n 0, 1) := by decide +kernel
theorem dX4_at_6 : decode cX4_at 6 = .ok (.getfield 21, 3) := by decide +kernel
theorem dX4_at_9 : decode cX4_at 9 = .ok (.if_icmp .ge 12, 3) := by decide +kernel
theorem dX4_at_12 : decode cX4_at 12 = .ok (.aload_n 0, 1) := by decide +kernel
theorem dX4_at_13 : decode cX4_at 13 = .ok (.getfield 15, 3) := by decide +kernel
theorem dX4_at_16 : decode cX4_at 16 = .ok (.iload_n 1, 1) := by decide +kernel
theorem dX4_at_17 : decode cX4_at 17 = .ok (.iaload, 1) := by decide +kernel
theorem dX4_at_18 : decode cX4_at 18 = .ok (.goto 4, 3) := by decide +kernel
theorem dX4_at_21 : decode cX4_at 21 = .ok (.iconst (-1), 1) := by decide +kernel
theorem dX4_at_22 : decode cX4_at 22 = .ok (.ireturn, 1) := by decide +kernel
def mX4_at (a0 : Nat) (I : iT) (x1 : Int32) : Option (Int32) := if x1 < 0 then some ((-1)) else if (I a0 1) ≤ x1 then some ((-1)) else if inb x1 (LEN (a0 + 1)) then some (I (a0 + 1) x1.toNatClampNeg) else none
set_option maxRecDepth 100000 in
set_option maxHeartbeats 4000000 in
theorem tX4_at {l : Launch} {K : a_KT} {g : a_GT} {IB : iT} (hko : a_kok K) {a0 : Nat} (ha0 : isRow a0) (I : iT) (J : jT) (F : fT) (hF : FK F) (x1 : Int32) (q : Int32) (hm : mX4_at a0 I x1 = some q) : C l K g 0 0 0 yX4_at cX4_at 2 (some .int) [.ref a0, .int x1] (hg I IB J F) (fun r2 h2 => r2 = some (.int q) ∧ h2 = hg I IB J F) := by
  unfold mX4_at at hm
  refine c_of [.ref a0, .int x1] (by decide) (Nat.le_of_ble_eq_true rfl) rfl ?_
  refine e_iload_n (i := 1) rfl dX4_at_0 ?_
  refine e_if_lt 21 dX4_at_1 (by decide) (fun c_1 => ?_) (fun c_1 => ?_)
  · have hm := it_p c_1 hm
    refine e_iconst (v := (-1)) (by decide) dX4_at_21 ?_
    refine e_iret dX4_at_22 rfl ?_
    have hm := some_in hm
    subst hm
    exact ⟨rfl, rfl⟩
  · have hm := it_n c_1 hm
    refine e_iload_n (i := 1) rfl dX4_at_4 ?_
    refine e_aload_n (i := 0) rfl dX4_at_5 ?_
    refine k_getI 4 1 dX4_at_6 fl_RX4_21 rfl (iz_row ha0) (rb_le ha0) ?_
    refine e_icmp_ge 21 dX4_at_9 (by decide) (fun c_9 => ?_) (fun c_9 => ?_)
    · have hm := it_p c_9 hm
      refine e_iconst (v := (-1)) (by decide) dX4_at_21 ?_
      refine e_iret dX4_at_22 rfl ?_
      have hm := some_in hm
      subst hm
      exact ⟨rfl, rfl⟩
    · have hm := it_n c_9 hm
      refine e_aload_n (i := 0) rfl dX4_at_12 ?_
      refine q_getF 4 0 (a0 + 1) dX4_at_13 fl_RX4_15 rfl (iz_row ha0) (fr_row hF.1 ha0) ?_
      refine e_iload_n (i := 1) rfl dX4_at_16 ?_
      obtain ⟨c_17, hm⟩ := gd_s hm
      refine k_iald dX4_at_17 (iz_items ha0) (inb_in rfl c_17) (rbi_le ha0) ?_
      refine e_goto 22 dX4_at_18 (by decide) ?_
      refine e_iret dX4_at_22 rfl ?_
      have hm := some_in hm
      subst hm
      exact ⟨rfl, rfl⟩
theorem dX4_add_0 : decode cX4_add 0 = .ok (.aload_n 0, 1) := by decide +kernel
theorem dX4_add_1 : decode cX4_add 1 = .ok (.getfield 21, 3) := by decide +kernel
theorem dX4_add_4 : decode cX4_add 4 = .ok (.aload_n 0, 1) := by decide +kernel
theorem dX4_add_5 : decode cX4_add 5 = .ok (.getfield 15, 3) := by decide +kernel
theorem dX4_add_8 : decode cX4_add 8 = .ok (.arraylength, 1) := by decide +kernel
theorem dX4_add_9 : decode cX4_add 9 = .ok (.if_icmp .lt 5, 3) := by decide +kernel
theorem dX4_add_12 : decode cX4_add 12 = .ok (.iconst (-1), 1) := by decide +kernel
theorem dX4_add_13 : decode cX4_add 13 = .ok (.ireturn, 1) := by decide +kernel
theorem dX4_add_14 : decode cX4_add 14 = .ok (.aload_n 0, 1) := by decide +kernel
theorem dX4_add_15 : decode cX4_add 15 = .ok (.getfield 15, 3) := by decide +kernel
theorem dX4_add_18 : decode cX4_add 18 = .ok (.aload_n 0, 1) := by decide +kernel
theorem dX4_add_19 : decode cX4_add 19 = .ok (.getfield 21, 3) := by decide +kernel
theorem dX4_add_22 : decode cX4_add 22 = .ok (.iload_n 1, 1) := by decide +kernel
theorem dX4_add_23 : decode cX4_add 23 = .ok (.iastore, 1) := by decide +kernel
theorem dX4_add_24 : decode cX4_add 24 = .ok (.aload_n 0, 1) := by decide +kernel
theorem dX4_add_25 : decode cX4_add 25 = .ok (.dup, 1) := by decide +kernel
theorem dX4_add_26 : decode cX4_add 26 = .ok (.getfield 21, 3) := by decide +kernel
theorem dX4_add_29 : decode cX4_add 29 = .ok (.iconst 1, 1) := by decide +kernel
theorem dX4_add_30 : decode cX4_add 30 = .ok (.iadd, 1) := by decide +kernel
theorem dX4_add_31 : decode cX4_add 31 = .ok (.putfield 21, 3) := by decide +kernel
theorem dX4_add_34 : decode cX4_add 34 = .ok (.aload_n 0, 1) := by decide +kernel
theorem dX4_add_35 : decode cX4_add 35 = .ok (.getfield 21, 3) := by decide +kernel
theorem dX4_add_38 : decode cX4_add 38 = .ok (.iconst 1, 1) := by decide +kernel
theorem dX4_add_39 : decode cX4_add 39 = .ok (.isub, 1) := by decide +kernel
theorem dX4_add_40 : decode cX4_add 40 = .ok (.ireturn, 1) := by decide +kernel
def mX4_add (a0 : Nat) (I : iT) (x1 : Int32) : Option (Int32 × iT) := if (I a0 1) < (nI (LEN (a0 + 1))) then if inb (I a0 1) (LEN (a0 + 1)) then some (((a_u2 (a_u2 I (a0 + 1) (I a0 1).toNatClampNeg x1) a0 1 (((a_u2 I (a0 + 1) (I a0 1).toNatClampNeg x1) a0 1) + 1)) a0 1) - 1, a_u2 (a_u2 I (a0 + 1) (I a0 1).toNatClampNeg x1) a0 1 (((a_u2 I (a0 + 1) (I a0 1).toNatClampNeg x1) a0 1) + 1)) else none else some ((-1), I)
set_option maxRecDepth 100000 in
set_option maxHeartbeats 4000000 in
theorem tX4_add {l : Launch} {K : a_KT} {g : a_GT} {IB : iT} (hko : a_kok K) {a0 : Nat} (ha0 : isRow a0) (I : iT) (J : jT) (F : fT) (hF : FK F) (x1 : Int32) (q : Int32 × iT) (hm : mX4_add a0 I x1 = some q) : C l K g 0 0 0 yX4_add cX4_add 2 (some .int) [.ref a0, .int x1] (hg I IB J F) (fun r2 h2 => r2 = some (.int q.1) ∧ h2 = hg q.2 IB J F) := by
  unfold mX4_add at hm
  refine c_of [.ref a0, .int x1] (by decide) (Nat.le_of_ble_eq_true rfl) rfl ?_
  refine e_aload_n (i := 0) rfl dX4_add_0 ?_
  refine k_getI 4 1 dX4_add_1 fl_RX4_21 rfl (iz_row ha0) (rb_le ha0) ?_
  refine e_aload_n (i := 0) rfl dX4_add_4 ?_
  refine q_getF 4 0 (a0 + 1) dX4_add_5 fl_RX4_15 rfl (iz_row ha0) (fr_row hF.1 ha0) ?_
  refine q_alen dX4_add_8 (iz_items ha0) ?_
  refine e_icmp_lt 14 dX4_add_9 (by decide) (fun c_9 => ?_) (fun c_9 => ?_)
  · have hm := it_p c_9 hm
    refine e_aload_n (i := 0) rfl dX4_add_14 ?_
    refine q_getF 4 0 (a0 + 1) dX4_add_15 fl_RX4_15 rfl (iz_row ha0) (fr_row hF.1 ha0) ?_
    refine e_aload_n (i := 0) rfl dX4_add_18 ?_
    refine k_getI 4 1 dX4_add_19 fl_RX4_21 rfl (iz_row ha0) (rb_le ha0) ?_
    refine e_iload_n (i := 1) rfl dX4_add_22 ?_
    obtain ⟨c_23, hm⟩ := gd_s hm
    refine k_iast dX4_add_23 (iz_items ha0) (inb_in rfl c_23) (rbi_le ha0) ?_
    refine e_aload_n (i := 0) rfl dX4_add_24 ?_
    refine e_dup rfl dX4_add_25 ?_
    refine k_getI 4 1 dX4_add_26 fl_RX4_21 rfl (iz_row ha0) (rb_le ha0) ?_
    refine e_iconst (v := 1) (by decide) dX4_add_29 ?_
    refine e_iadd dX4_add_30 ?_
    refine k_putI 4 1 dX4_add_31 fl_RX4_21 rfl rfl (iz_row ha0) (rb_le ha0) ?_
    refine e_aload_n (i := 0) rfl dX4_add_34 ?_
    refine k_getI 4 1 dX4_add_35 fl_RX4_21 rfl (iz_row ha0) (rb_le ha0) ?_
    refine e_iconst (v := 1) (by decide) dX4_add_38 ?_
    refine e_isub dX4_add_39 ?_
    refine e_iret dX4_add_40 rfl ?_
    have hm := some_in hm
    subst hm
    exact ⟨rfl, rfl⟩
  · have hm := it_n c_9 hm
    refine e_iconst (v := (-1)) (by decide) dX4_add_12 ?_
    refine e_iret dX4_add_13 rfl ?_
    have hm := some_in hm
    subst hm
    exact ⟨rfl, rfl⟩
theorem dX4_size_0 : decode cX4_size 0 = .ok (.aload_n 0, 1) := by decide +kernel
theorem dX4_size_1 : decode cX4_size 1 = .ok (.getfield 21, 3) := by decide +kernel
theorem dX4_size_4 : decode cX4_size 4 = .ok (.ireturn, 1) := by decide +kernel
def mX4_size (a0 : Nat) (I : iT) : Option (Int32) := some (I a0 1)
set_option maxRecDepth 100000 in
set_option maxHeartbeats 4000000 in
theorem tX4_size {l : Launch} {K : a_KT} {g : a_GT} {IB : iT} (hko : a_kok K) {a0 : Nat} (ha0 : isRow a0) (I : iT) (J : jT) (F : fT) (hF : FK F) (q : Int32) (hm : mX4_size a0 I = some q) : C l K g 0 0 0 yX4_size cX4_size 1 (some .int) [.ref a0] (hg I IB J F) (fun r2 h2 => r2 = some (.int q) ∧ h2 = hg I IB J F) := by
  unfold mX4_size at hm
  refine c_of [.ref a0] (by decide) (Nat.le_of_ble_eq_true rfl) rfl ?_
  refine e_aload_n (i := 0) rfl dX4_size_0 ?_
  refine k_getI 4 1 dX4_size_1 fl_RX4_21 rfl (iz_row ha0) (rb_le ha0) ?_
  refine e_iret dX4_size_4 rfl ?_
  have hm := some_in hm
  subst hm
  exact ⟨rfl, rfl⟩
theorem dX4_clear_0 : decode cX4_clear 0 = .ok (.aload_n 0, 1) := by decide +kernel
theorem dX4_clear_1 : decode cX4_clear 1 = .ok (.iconst 0, 1) := by decide +kernel
theorem dX4_clear_2 : decode cX4_clear 2 = .ok (.putfield 21, 3) := by decide +kernel
theorem dX4_clear_5 : decode cX4_clear 5 = .ok (.return_, 1) := by decide +kernel
def mX4_clear (a0 : Nat) (I : iT) : Option (iT) := some (a_u2 I a0 1 0)
set_option maxRecDepth 100000 in
set_option maxHeartbeats 4000000 in
theorem tX4_clear {l : Launch} {K : a_KT} {g : a_GT} {IB : iT} (hko : a_kok K) {a0 : Nat} (ha0 : isRow a0) (I : iT) (J : jT) (F : fT) (hF : FK F) (q : iT) (hm : mX4_clear a0 I = some q) : C l K g 0 0 0 yX4_clear cX4_clear 1 none [.ref a0] (hg I IB J F) (fun r2 h2 => r2 = none ∧ h2 = hg q IB J F) := by
  unfold mX4_clear at hm
  refine c_of [.ref a0] (by decide) (Nat.le_of_ble_eq_true rfl) rfl ?_
  refine e_aload_n (i := 0) rfl dX4_clear_0 ?_
  refine e_iconst (v := 0) (by decide) dX4_clear_1 ?_
  refine k_putI 4 1 dX4_clear_2 fl_RX4_21 rfl rfl (iz_row ha0) (rb_le ha0) ?_
  refine e_vret dX4_clear_5 rfl ?_
  have hm := some_in hm
  subst hm
  exact ⟨rfl, rfl⟩
theorem dX4_addText_0 : decode cX4_addText 0 = .ok (.iconst 0, 1) := by decide +kernel
theorem dX4_addText_1 : decode cX4_addText 1 = .ok (.istore_n 2, 1) := by decide +kernel
theorem dX4_addText_2 : decode cX4_addText 2 = .ok (.iload_n 2, 1) := by decide +kernel
theorem dX4_addText_3 : decode cX4_addText 3 = .ok (.aload_n 1, 1) := by decide +kernel
theorem dX4_addText_4 : decode cX4_addText 4 = .ok (.invokevirtual 29, 3) := by decide +kernel
theorem dX4_addText_7 : decode cX4_addText 7 = .ok (.if_icmp .ge 19, 3) := by decide +kernel
theorem dX4_addText_10 : decode cX4_addText 10 = .ok (.aload_n 0, 1) := by decide +kernel
theorem dX4_addText_11 : decode cX4_addText 11 = .ok (.aload_n 1, 1) := by decide +kernel
theorem dX4_addText_12 : decode cX4_addText 12 = .ok (.iload_n 2, 1) := by decide +kernel
theorem dX4_addText_13 : decode cX4_addText 13 = .ok (.invokevirtual 35, 3) := by decide +kernel
theorem dX4_addText_16 : decode cX4_addText 16 = .ok (.invokevirtual 25, 3) := by decide +kernel
theorem dX4_addText_19 : decode cX4_addText 19 = .ok (.pop, 1) := by decide +kernel
theorem dX4_addText_20 : decode cX4_addText 20 = .ok (.iinc 2 1, 3) := by decide +kernel
theorem dX4_addText_23 : decode cX4_addText 23 = .ok (.goto (-21), 3) := by decide +kernel
theorem dX4_addText_26 : decode cX4_addText 26 = .ok (.return_, 1) := by decide +kernel
def mX4_addText_2 (a0 : Nat) (a1 : Nat) : Nat → iT → Int32 → Option (iT)
  | 0, _, _ => none
  | n + 1, I, x2 => if (strLen a1) ≤ x2 then some I else if inb x2 (strLen a1).toNatClampNeg then (mX4_add a0 I (strAt a1 x2)).bind fun q1 => mX4_addText_2 a0 a1 n q1.2 (x2 + 1) else none
def mX4_addText (a0 : Nat) (a1 : Nat) (I : iT) : Option (iT) := mX4_addText_2 a0 a1 LF I 0
set_option maxRecDepth 100000 in
set_option maxHeartbeats 4000000 in
theorem tX4_addText_2 {l : Launch} {K : a_KT} {g : a_GT} {IB : iT} (hko : a_kok K) (hS : StrOK l K g) {a0 : Nat} (ha0 : isRow a0) {a1 : Nat} (ha1 : isStr a1) {J : jT} {F : fT} : ∀ (n : Nat) (I : iT) (x2 : Int32) (hF : FK F) (q : iT), mX4_addText_2 a0 a1 n I x2 = some q → E l K g 13 0 0 yX4_addText cX4_addText 3 none 2 [.ref a0, .ref a1, .int x2] [] (hg I IB J F) (fun r2 h2 => r2 = none ∧ h2 = hg q IB J F) := by
  intro n
  induction n with
  | zero => intro I x2 hF q hm; cases hm
  | succ n ih =>
    intro I x2 hF q hm
    rw [mX4_addText_2] at hm
    refine e_iload_n (i := 2) rfl dX4_addText_2 ?_
    refine e_aload_n (i := 1) rfl dX4_addText_3 ?_
    refine hS.1 a1 dX4_addText_4 ml_RX4_29 (by decide) ha1 (Nat.le_of_ble_eq_true rfl) ?_
    refine e_icmp_ge 26 dX4_addText_7 (by decide) (fun c_7 => ?_) (fun c_7 => ?_)
    · have hm := it_p c_7 hm
      refine e_vret dX4_addText_26 rfl ?_
      have hm := some_in hm
      subst hm
      exact ⟨rfl, rfl⟩
    · have hm := it_n c_7 hm
      refine e_aload_n (i := 0) rfl dX4_addText_10 ?_
      refine e_aload_n (i := 1) rfl dX4_addText_11 ?_
      refine e_iload_n (i := 2) rfl dX4_addText_12 ?_
      obtain ⟨c_13, hm⟩ := gd_s hm
      refine hS.2.1 a1 dX4_addText_13 ml_RX4_35 (by decide) ha1 (Nat.le_of_ble_eq_true rfl) c_13 ?_
      obtain ⟨q1, eq1, hm⟩ := ob_some hm
      refine e_cV1 hko dX4_addText_16 ml_RX4_25 (iz_row ha0) (by decide) rfl (by omega) (Nat.le_of_ble_eq_true rfl) (tX4_add hko ha0 I J F hF (strAt a1 x2) _ eq1) ?_
      rintro _ _ ⟨rfl, rfl⟩
      refine e_pop rfl dX4_addText_19 ?_
      refine q_iinc (i := 2) (x2 + 1) rfl ic_1 rfl dX4_addText_20 ?_
      refine e_goto 2 dX4_addText_23 (by decide) ?_
      refine e_weak [.ref a0, .ref a1, .int (x2 + 1)] ⟨rfl, ⟨rfl, ⟨rfl, trivial⟩⟩⟩ ?_
      exact ih q1.2 (x2 + 1) hF _ hm
set_option maxRecDepth 100000 in
set_option maxHeartbeats 4000000 in
theorem tX4_addText {l : Launch} {K : a_KT} {g : a_GT} {IB : iT} (hko : a_kok K) (hS : StrOK l K g) {a0 : Nat} (ha0 : isRow a0) {a1 : Nat} (ha1 : isStr a1) (I : iT) (J : jT) (F : fT) (hF : FK F) (q : iT) (hm : mX4_addText a0 a1 I = some q) : C l K g 13 0 0 yX4_addText cX4_addText 3 none [.ref a0, .ref a1] (hg I IB J F) (fun r2 h2 => r2 = none ∧ h2 = hg q IB J F) := by
  unfold mX4_addText at hm
  refine c_of [.ref a0, .ref a1, .null] (by decide) (Nat.le_of_ble_eq_true rfl) rfl ?_
  refine e_iconst (v := 0) (by decide) dX4_addText_0 ?_
  refine q_istore_n (i := 2) (by decide) rfl dX4_addText_1 ?_
  refine e_weak [.ref a0, .ref a1, .int 0] ⟨rfl, ⟨rfl, ⟨rfl, trivial⟩⟩⟩ ?_
  exact tX4_addText_2 hko hS ha0 ha1 LF I 0 hF _ hm
theorem dX4_bump_0 : decode cX4_bump 0 = .ok (.iload_n 1, 1) := by decide +kernel
theorem dX4_bump_1 : decode cX4_bump 1 = .ok (.ifCond .lt 21, 3) := by decide +kernel
theorem dX4_bump_4 : decode cX4_bump 4 = .ok (.iload_n 1, 1) := by decide +kernel
theorem dX4_bump_5 : decode cX4_bump 5 = .ok (.aload_n 0, 1) := by decide +kernel
theorem dX4_bump_6 : decode cX4_bump 6 = .ok (.getfield 21, 3) := by decide +kernel
theorem dX4_bump_9 : decode cX4_bump 9 = .ok (.if_icmp .ge 13, 3) := by decide +kernel
theorem dX4_bump_12 : decode cX4_bump 12 = .ok (.aload_n 0, 1) := by decide +kernel
theorem dX4_bump_13 : decode cX4_bump 13 = .ok (.getfield 15, 3) := by decide +kernel
theorem dX4_bump_16 : decode cX4_bump 16 = .ok (.iload_n 1, 1) := by decide +kernel
theorem dX4_bump_17 : decode cX4_bump 17 = .ok (.dup2, 1) := by decide +kernel
theorem dX4_bump_18 : decode cX4_bump 18 = .ok (.iaload, 1) := by decide +kernel
theorem dX4_bump_19 : decode cX4_bump 19 = .ok (.iload_n 2, 1) := by decide +kernel
theorem dX4_bump_20 : decode cX4_bump 20 = .ok (.iadd, 1) := by decide +kernel
theorem dX4_bump_21 : decode cX4_bump 21 = .ok (.iastore, 1) := by decide +kernel
theorem dX4_bump_22 : decode cX4_bump 22 = .ok (.return_, 1) := by decide +kernel
def mX4_bump (a0 : Nat) (I : iT) (x1 : Int32) (x2 : Int32) : Option (iT) := if x1 < 0 then some I else if (I a0 1) ≤ x1 then some I else if inb x1 (LEN (a0 + 1)) then if inb x1 (LEN (a0 + 1)) then some (a_u2 I (a0 + 1) x1.toNatClampNeg ((I (a0 + 1) x1.toNatClampNeg) + x2)) else none else none
set_option maxRecDepth 100000 in
set_option maxHeartbeats 4000000 in
theorem tX4_bump {l : Launch} {K : a_KT} {g : a_GT} {IB : iT} (hko : a_kok K) {a0 : Nat} (ha0 : isRow a0) (I : iT) (J : jT) (F : fT) (hF : FK F) (x1 : Int32) (x2 : Int32) (q : iT) (hm : mX4_bump a0 I x1 x2 = some q) : C l K g 0 0 0 yX4_bump cX4_bump 3 none [.ref a0, .int x1, .int x2] (hg I IB J F) (fun r2 h2 => r2 = none ∧ h2 = hg q IB J F) := by
  unfold mX4_bump at hm
  refine c_of [.ref a0, .int x1, .int x2] (by decide) (Nat.le_of_ble_eq_true rfl) rfl ?_
  refine e_iload_n (i := 1) rfl dX4_bump_0 ?_
  refine e_if_lt 22 dX4_bump_1 (by decide) (fun c_1 => ?_) (fun c_1 => ?_)
  · have hm := it_p c_1 hm
    refine e_vret dX4_bump_22 rfl ?_
    have hm := some_in hm
    subst hm
    exact ⟨rfl, rfl⟩
  · have hm := it_n c_1 hm
    refine e_iload_n (i := 1) rfl dX4_bump_4 ?_
    refine e_aload_n (i := 0) rfl dX4_bump_5 ?_
    refine k_getI 4 1 dX4_bump_6 fl_RX4_21 rfl (iz_row ha0) (rb_le ha0) ?_
    refine e_icmp_ge 22 dX4_bump_9 (by decide) (fun c_9 => ?_) (fun c_9 => ?_)
    · have hm := it_p c_9 hm
      refine e_vret dX4_bump_22 rfl ?_
      have hm := some_in hm
      subst hm
      exact ⟨rfl, rfl⟩
    · have hm := it_n c_9 hm
      refine e_aload_n (i := 0) rfl dX4_bump_12 ?_
      refine q_getF 4 0 (a0 + 1) dX4_bump_13 fl_RX4_15 rfl (iz_row ha0) (fr_row hF.1 ha0) ?_
      refine e_iload_n (i := 1) rfl dX4_bump_16 ?_
      refine e_dup2 rfl rfl dX4_bump_17 ?_
      obtain ⟨c_18, hm⟩ := gd_s hm
      refine k_iald dX4_bump_18 (iz_items ha0) (inb_in rfl c_18) (rbi_le ha0) ?_
      refine e_iload_n (i := 2) rfl dX4_bump_19 ?_
      refine e_iadd dX4_bump_20 ?_
      obtain ⟨c_21, hm⟩ := gd_s hm
      refine k_iast dX4_bump_21 (iz_items ha0) (inb_in rfl c_21) (rbi_le ha0) ?_
      refine e_vret dX4_bump_22 rfl ?_
      have hm := some_in hm
      subst hm
      exact ⟨rfl, rfl⟩
theorem dX4_cut_0 : decode cX4_cut 0 = .ok (.iload_n 1, 1) := by decide +kernel
theorem dX4_cut_1 : decode cX4_cut 1 = .ok (.ifCond .lt 16, 3) := by decide +kernel
theorem dX4_cut_4 : decode cX4_cut 4 = .ok (.iload_n 1, 1) := by decide +kernel
theorem dX4_cut_5 : decode cX4_cut 5 = .ok (.aload_n 0, 1) := by decide +kernel
theorem dX4_cut_6 : decode cX4_cut 6 = .ok (.getfield 21, 3) := by decide +kernel
theorem dX4_cut_9 : decode cX4_cut 9 = .ok (.if_icmp .ge 8, 3) := by decide +kernel
theorem dX4_cut_12 : decode cX4_cut 12 = .ok (.aload_n 0, 1) := by decide +kernel
theorem dX4_cut_13 : decode cX4_cut 13 = .ok (.iload_n 1, 1) := by decide +kernel
theorem dX4_cut_14 : decode cX4_cut 14 = .ok (.putfield 21, 3) := by decide +kernel
theorem dX4_cut_17 : decode cX4_cut 17 = .ok (.return_, 1) := by decide +kernel
def mX4_cut (a0 : Nat) (I : iT) (x1 : Int32) : Option (iT) := if x1 < 0 then some I else if (I a0 1) ≤ x1 then some I else some (a_u2 I a0 1 x1)
set_option maxRecDepth 100000 in
set_option maxHeartbeats 4000000 in
theorem tX4_cut {l : Launch} {K : a_KT} {g : a_GT} {IB : iT} (hko : a_kok K) {a0 : Nat} (ha0 : isRow a0) (I : iT) (J : jT) (F : fT) (hF : FK F) (x1 : Int32) (q : iT) (hm : mX4_cut a0 I x1 = some q) : C l K g 0 0 0 yX4_cut cX4_cut 2 none [.ref a0, .int x1] (hg I IB J F) (fun r2 h2 => r2 = none ∧ h2 = hg q IB J F) := by
  unfold mX4_cut at hm
  refine c_of [.ref a0, .int x1] (by decide) (Nat.le_of_ble_eq_true rfl) rfl ?_
  refine e_iload_n (i := 1) rfl dX4_cut_0 ?_
  refine e_if_lt 17 dX4_cut_1 (by decide) (fun c_1 => ?_) (fun c_1 => ?_)
  · have hm := it_p c_1 hm
    refine e_vret dX4_cut_17 rfl ?_
    have hm := some_in hm
    subst hm
    exact ⟨rfl, rfl⟩
  · have hm := it_n c_1 hm
    refine e_iload_n (i := 1) rfl dX4_cut_4 ?_
    refine e_aload_n (i := 0) rfl dX4_cut_5 ?_
    refine k_getI 4 1 dX4_cut_6 fl_RX4_21 rfl (iz_row ha0) (rb_le ha0) ?_
    refine e_icmp_ge 17 dX4_cut_9 (by decide) (fun c_9 => ?_) (fun c_9 => ?_)
    · have hm := it_p c_9 hm
      refine e_vret dX4_cut_17 rfl ?_
      have hm := some_in hm
      subst hm
      exact ⟨rfl, rfl⟩
    · have hm := it_n c_9 hm
      refine e_aload_n (i := 0) rfl dX4_cut_12 ?_
      refine e_iload_n (i := 1) rfl dX4_cut_13 ?_
      refine k_putI 4 1 dX4_cut_14 fl_RX4_21 rfl rfl (iz_row ha0) (rb_le ha0) ?_
      refine e_vret dX4_cut_17 rfl ?_
      have hm := some_in hm
      subst hm
      exact ⟨rfl, rfl⟩
theorem dX4_put_0 : decode cX4_put 0 = .ok (.iload_n 1, 1) := by decide +kernel
theorem dX4_put_1 : decode cX4_put 1 = .ok (.ifCond .lt 18, 3) := by decide +kernel
theorem dX4_put_4 : decode cX4_put 4 = .ok (.iload_n 1, 1) := by decide +kernel
theorem dX4_put_5 : decode cX4_put 5 = .ok (.aload_n 0, 1) := by decide +kernel
theorem dX4_put_6 : decode cX4_put 6 = .ok (.getfield 21, 3) := by decide +kernel
theorem dX4_put_9 : decode cX4_put 9 = .ok (.if_icmp .ge 10, 3) := by decide +kernel
theorem dX4_put_12 : decode cX4_put 12 = .ok (.aload_n 0, 1) := by decide +kernel
theorem dX4_put_13 : decode cX4_put 13 = .ok (.getfield 15, 3) := by decide +kernel
theorem dX4_put_16 : decode cX4_put 16 = .ok (.iload_n 1, 1) := by decide +kernel
theorem dX4_put_17 : decode cX4_put 17 = .ok (.iload_n 2, 1) := by decide +kernel
theorem dX4_put_18 : decode cX4_put 18 = .ok (.iastore, 1) := by decide +kernel
theorem dX4_put_19 : decode cX4_put 19 = .ok (.return_, 1) := by decide +kernel
def mX4_put (a0 : Nat) (I : iT) (x1 : Int32) (x2 : Int32) : Option (iT) := if x1 < 0 then some I else if (I a0 1) ≤ x1 then some I else if inb x1 (LEN (a0 + 1)) then some (a_u2 I (a0 + 1) x1.toNatClampNeg x2) else none
set_option maxRecDepth 100000 in
set_option maxHeartbeats 4000000 in
theorem tX4_put {l : Launch} {K : a_KT} {g : a_GT} {IB : iT} (hko : a_kok K) {a0 : Nat} (ha0 : isRow a0) (I : iT) (J : jT) (F : fT) (hF : FK F) (x1 : Int32) (x2 : Int32) (q : iT) (hm : mX4_put a0 I x1 x2 = some q) : C l K g 0 0 0 yX4_put cX4_put 3 none [.ref a0, .int x1, .int x2] (hg I IB J F) (fun r2 h2 => r2 = none ∧ h2 = hg q IB J F) := by
  unfold mX4_put at hm
  refine c_of [.ref a0, .int x1, .int x2] (by decide) (Nat.le_of_ble_eq_true rfl) rfl ?_
  refine e_iload_n (i := 1) rfl dX4_put_0 ?_
  refine e_if_lt 19 dX4_put_1 (by decide) (fun c_1 => ?_) (fun c_1 => ?_)
  · have hm := it_p c_1 hm
    refine e_vret dX4_put_19 rfl ?_
    have hm := some_in hm
    subst hm
    exact ⟨rfl, rfl⟩
  · have hm := it_n c_1 hm
    refine e_iload_n (i := 1) rfl dX4_put_4 ?_
    refine e_aload_n (i := 0) rfl dX4_put_5 ?_
    refine k_getI 4 1 dX4_put_6 fl_RX4_21 rfl (iz_row ha0) (rb_le ha0) ?_
    refine e_icmp_ge 19 dX4_put_9 (by decide) (fun c_9 => ?_) (fun c_9 => ?_)
    · have hm := it_p c_9 hm
      refine e_vret dX4_put_19 rfl ?_
      have hm := some_in hm
      subst hm
      exact ⟨rfl, rfl⟩
    · have hm := it_n c_9 hm
      refine e_aload_n (i := 0) rfl dX4_put_12 ?_
      refine q_getF 4 0 (a0 + 1) dX4_put_13 fl_RX4_15 rfl (iz_row ha0) (fr_row hF.1 ha0) ?_
      refine e_iload_n (i := 1) rfl dX4_put_16 ?_
      refine e_iload_n (i := 2) rfl dX4_put_17 ?_
      obtain ⟨c_18, hm⟩ := gd_s hm
      refine k_iast dX4_put_18 (iz_items ha0) (inb_in rfl c_18) (rbi_le ha0) ?_
      refine e_vret dX4_put_19 rfl ?_
      have hm := some_in hm
      subst hm
      exact ⟨rfl, rfl⟩
theorem dX4_addBytes_0 : decode cX4_addBytes 0 = .ok (.bipush 24, 2) := by decide +kernel
theorem dX4_addBytes_2 : decode cX4_addBytes 2 = .ok (.istore_n 2, 1) := by decide +kernel
theorem dX4_addBytes_3 : decode cX4_addBytes 3 = .ok (.iload_n 2, 1) := by decide +kernel
theorem dX4_addBytes_4 : decode cX4_addBytes 4 = .ok (.ifCond .lt 21, 3) := by decide +kernel
theorem dX4_addBytes_7 : decode cX4_addBytes 7 = .ok (.aload_n 0, 1) := by decide +kernel
theorem dX4_addBytes_8 : decode cX4_addBytes 8 = .ok (.iload_n 1, 1) := by decide +kernel
theorem dX4_addBytes_9 : decode cX4_addBytes 9 = .ok (.iload_n 2, 1) := by decide +kernel
theorem dX4_addBytes_10 : decode cX4_addBytes 10 = .ok (.iushr, 1) := by decide +kernel
theorem dX4_addBytes_11 : decode cX4_addBytes 11 = .ok (.sipush 255, 3) := by decide +kernel
theorem dX4_addBytes_14 : decode cX4_addBytes 14 = .ok (.iand, 1) := by decide +kernel
theorem dX4_addBytes_15 : decode cX4_addBytes 15 = .ok (.invokevirtual 25, 3) := by decide +kernel
theorem dX4_addBytes_18 : decode cX4_addBytes 18 = .ok (.pop, 1) := by decide +kernel
theorem dX4_addBytes_19 : decode cX4_addBytes 19 = .ok (.iinc 2 (-8), 3) := by decide +kernel
theorem dX4_addBytes_22 : decode cX4_addBytes 22 = .ok (.goto (-19), 3) := by decide +kernel
theorem dX4_addBytes_25 : decode cX4_addBytes 25 = .ok (.return_, 1) := by decide +kernel
def mX4_addBytes_3 (a0 : Nat) : Nat → iT → Int32 → Int32 → Option (iT)
  | 0, _, _, _ => none
  | n + 1, I, x1, x2 => if x2 < 0 then some I else (mX4_add a0 I (((x1.toUInt32 >>> (x2.toUInt32 &&& Int32.toUInt32 31)).toInt32) &&& 255)).bind fun q1 => mX4_addBytes_3 a0 n q1.2 x1 (x2 + (-8))
def mX4_addBytes (a0 : Nat) (I : iT) (x1 : Int32) : Option (iT) := mX4_addBytes_3 a0 LF I x1 24
set_option maxRecDepth 100000 in
set_option maxHeartbeats 4000000 in
theorem tX4_addBytes_3 {l : Launch} {K : a_KT} {g : a_GT} {IB : iT} (hko : a_kok K) {a0 : Nat} (ha0 : isRow a0) {J : jT} {F : fT} : ∀ (n : Nat) (I : iT) (x1 : Int32) (x2 : Int32) (hF : FK F) (q : iT), mX4_addBytes_3 a0 n I x1 x2 = some q → E l K g 1 0 0 yX4_addBytes cX4_addBytes 3 none 3 [.ref a0, .int x1, .int x2] [] (hg I IB J F) (fun r2 h2 => r2 = none ∧ h2 = hg q IB J F) := by
  intro n
  induction n with
  | zero => intro I x1 x2 hF q hm; cases hm
  | succ n ih =>
    intro I x1 x2 hF q hm
    rw [mX4_addBytes_3] at hm
    refine e_iload_n (i := 2) rfl dX4_addBytes_3 ?_
    refine e_if_lt 25 dX4_addBytes_4 (by decide) (fun c_4 => ?_) (fun c_4 => ?_)
    · have hm := it_p c_4 hm
      refine e_vret dX4_addBytes_25 rfl ?_
      have hm := some_in hm
      subst hm
      exact ⟨rfl, rfl⟩
    · have hm := it_n c_4 hm
      refine e_aload_n (i := 0) rfl dX4_addBytes_7 ?_
      refine e_iload_n (i := 1) rfl dX4_addBytes_8 ?_
      refine e_iload_n (i := 2) rfl dX4_addBytes_9 ?_
      refine e_iushr dX4_addBytes_10 ?_
      refine e_sipush (v := 255) (by decide) dX4_addBytes_11 ?_
      refine e_iand dX4_addBytes_14 ?_
      obtain ⟨q1, eq1, hm⟩ := ob_some hm
      refine e_cV1 hko dX4_addBytes_15 ml_RX4_25 (iz_row ha0) (by decide) rfl (by omega) (Nat.le_of_ble_eq_true rfl) (tX4_add hko ha0 I J F hF (((x1.toUInt32 >>> (x2.toUInt32 &&& Int32.toUInt32 31)).toInt32) &&& 255) _ eq1) ?_
      rintro _ _ ⟨rfl, rfl⟩
      refine e_pop rfl dX4_addBytes_18 ?_
      refine q_iinc (i := 2) (x2 + (-8)) rfl ic_m8 rfl dX4_addBytes_19 ?_
      refine e_goto 3 dX4_addBytes_22 (by decide) ?_
      refine e_weak [.ref a0, .int x1, .int (x2 + (-8))] ⟨rfl, ⟨rfl, ⟨rfl, trivial⟩⟩⟩ ?_
      exact ih q1.2 x1 (x2 + (-8)) hF _ hm
set_option maxRecDepth 100000 in
set_option maxHeartbeats 4000000 in
theorem tX4_addBytes {l : Launch} {K : a_KT} {g : a_GT} {IB : iT} (hko : a_kok K) {a0 : Nat} (ha0 : isRow a0) (I : iT) (J : jT) (F : fT) (hF : FK F) (x1 : Int32) (q : iT) (hm : mX4_addBytes a0 I x1 = some q) : C l K g 1 0 0 yX4_addBytes cX4_addBytes 3 none [.ref a0, .int x1] (hg I IB J F) (fun r2 h2 => r2 = none ∧ h2 = hg q IB J F) := by
  unfold mX4_addBytes at hm
  refine c_of [.ref a0, .int x1, .null] (by decide) (Nat.le_of_ble_eq_true rfl) rfl ?_
  refine e_bipush (v := 24) (by decide) dX4_addBytes_0 ?_
  refine q_istore_n (i := 2) (by decide) rfl dX4_addBytes_2 ?_
  refine e_weak [.ref a0, .int x1, .int 24] ⟨rfl, ⟨rfl, ⟨rfl, trivial⟩⟩⟩ ?_
  exact tX4_addBytes_3 hko ha0 LF I x1 24 hF _ hm
theorem dX4_find_0 : decode cX4_find 0 = .ok (.iconst 0, 1) := by decide +kernel
theorem dX4_find_1 : decode cX4_find 1 = .ok (.istore_n 2, 1) := by decide +kernel
theorem dX4_find_2 : decode cX4_find 2 = .ok (.iload_n 2, 1) := by decide +kernel
theorem dX4_find_3 : decode cX4_find 3 = .ok (.aload_n 0, 1) := by decide +kernel
theorem dX4_find_4 : decode cX4_find 4 = .ok (.getfield 21, 3) := by decide +kernel
theorem dX4_find_7 : decode cX4_find 7 = .ok (.if_icmp .ge 21, 3) := by decide +kernel
theorem dX4_find_10 : decode cX4_find 10 = .ok (.aload_n 0, 1) := by decide +kernel
theorem dX4_find_11 : decode cX4_find 11 = .ok (.getfield 15, 3) := by decide +kernel
theorem dX4_find_14 : decode cX4_find 14 = .ok (.iload_n 2, 1) := by decide +kernel
theorem dX4_find_15 : decode cX4_find 15 = .ok (.iaload, 1) := by decide +kernel
theorem dX4_find_16 : decode cX4_find 16 = .ok (.iload_n 1, 1) := by decide +kernel
theorem dX4_find_17 : decode cX4_find 17 = .ok (.if_icmp .ne 5, 3) := by decide +kernel
theorem dX4_find_20 : decode cX4_find 20 = .ok (.iload_n 2, 1) := by decide +kernel
theorem dX4_find_21 : decode cX4_find 21 = .ok (.ireturn, 1) := by decide +kernel
theorem dX4_find_22 : decode cX4_find 22 = .ok (.iinc 2 1, 3) := by decide +kernel
theorem dX4_find_25 : decode cX4_find 25 = .ok (.goto (-23), 3) := by decide +kernel
theorem dX4_find_28 : decode cX4_find 28 = .ok (.iconst (-1), 1) := by decide +kernel
theorem dX4_find_29 : decode cX4_find 29 = .ok (.ireturn, 1) := by decide +kernel
def mX4_find_2 (a0 : Nat) : Nat → iT → Int32 → Int32 → Option (Int32)
  | 0, _, _, _ => none
  | n + 1, I, x1, x2 => if (I a0 1) ≤ x2 then some ((-1)) else if inb x2 (LEN (a0 + 1)) then if (I (a0 + 1) x2.toNatClampNeg) = x1 then some x2 else mX4_find_2 a0 n I x1 (x2 + 1) else none
def mX4_find (a0 : Nat) (I : iT) (x1 : Int32) : Option (Int32) := mX4_find_2 a0 LF I x1 0
set_option maxRecDepth 100000 in
set_option maxHeartbeats 4000000 in
theorem tX4_find_2 {l : Launch} {K : a_KT} {g : a_GT} {IB : iT} (hko : a_kok K) {a0 : Nat} (ha0 : isRow a0) {J : jT} {F : fT} : ∀ (n : Nat) (I : iT) (x1 : Int32) (x2 : Int32) (hF : FK F) (q : Int32), mX4_find_2 a0 n I x1 x2 = some q → E l K g 0 0 0 yX4_find cX4_find 3 (some .int) 2 [.ref a0, .int x1, .int x2] [] (hg I IB J F) (fun r2 h2 => r2 = some (.int q) ∧ h2 = hg I IB J F) := by
  intro n
  induction n with
  | zero => intro I x1 x2 hF q hm; cases hm
  | succ n ih =>
    intro I x1 x2 hF q hm
    rw [mX4_find_2] at hm
    refine e_iload_n (i := 2) rfl dX4_find_2 ?_
    refine e_aload_n (i := 0) rfl dX4_find_3 ?_
    refine k_getI 4 1 dX4_find_4 fl_RX4_21 rfl (iz_row ha0) (rb_le ha0) ?_
    refine e_icmp_ge 28 dX4_find_7 (by decide) (fun c_7 => ?_) (fun c_7 => ?_)
    · have hm := it_p c_7 hm
      refine e_iconst (v := (-1)) (by decide) dX4_find_28 ?_
      refine e_iret dX4_find_29 rfl ?_
      have hm := some_in hm
      subst hm
      exact ⟨rfl, rfl⟩
    · have hm := it_n c_7 hm
      refine e_aload_n (i := 0) rfl dX4_find_10 ?_
      refine q_getF 4 0 (a0 + 1) dX4_find_11 fl_RX4_15 rfl (iz_row ha0) (fr_row hF.1 ha0) ?_
      refine e_iload_n (i := 2) rfl dX4_find_14 ?_
      obtain ⟨c_15, hm⟩ := gd_s hm
      refine k_iald dX4_find_15 (iz_items ha0) (inb_in rfl c_15) (rbi_le ha0) ?_
      refine e_iload_n (i := 1) rfl dX4_find_16 ?_
      refine e_icmp_ne 22 dX4_find_17 (by decide) (fun c_17 => ?_) (fun c_17 => ?_)
      · have hm := it_n c_17 hm
        refine q_iinc (i := 2) (x2 + 1) rfl ic_1 rfl dX4_find_22 ?_
        refine e_goto 2 dX4_find_25 (by decide) ?_
        refine e_weak [.ref a0, .int x1, .int (x2 + 1)] ⟨rfl, ⟨rfl, ⟨rfl, trivial⟩⟩⟩ ?_
        exact ih I x1 (x2 + 1) hF _ hm
      · have hm := it_p c_17 hm
        refine e_iload_n (i := 2) rfl dX4_find_20 ?_
        refine e_iret dX4_find_21 rfl ?_
        have hm := some_in hm
        subst hm
        exact ⟨rfl, rfl⟩
set_option maxRecDepth 100000 in
set_option maxHeartbeats 4000000 in
theorem tX4_find {l : Launch} {K : a_KT} {g : a_GT} {IB : iT} (hko : a_kok K) {a0 : Nat} (ha0 : isRow a0) (I : iT) (J : jT) (F : fT) (hF : FK F) (x1 : Int32) (q : Int32) (hm : mX4_find a0 I x1 = some q) : C l K g 0 0 0 yX4_find cX4_find 3 (some .int) [.ref a0, .int x1] (hg I IB J F) (fun r2 h2 => r2 = some (.int q) ∧ h2 = hg I IB J F) := by
  unfold mX4_find at hm
  refine c_of [.ref a0, .int x1, .null] (by decide) (Nat.le_of_ble_eq_true rfl) rfl ?_
  refine e_iconst (v := 0) (by decide) dX4_find_0 ?_
  refine q_istore_n (i := 2) (by decide) rfl dX4_find_1 ?_
  refine e_weak [.ref a0, .int x1, .int 0] ⟨rfl, ⟨rfl, ⟨rfl, trivial⟩⟩⟩ ?_
  exact tX4_find_2 hko ha0 LF I x1 0 hF _ hm
theorem dX4_fill_0 : decode cX4_fill 0 = .ok (.iconst 0, 1) := by decide +kernel
theorem dX4_fill_1 : decode cX4_fill 1 = .ok (.istore_n 2, 1) := by decide +kernel
theorem dX4_fill_2 : decode cX4_fill 2 = .ok (.iload_n 2, 1) := by decide +kernel
theorem dX4_fill_3 : decode cX4_fill 3 = .ok (.aload_n 0, 1) := by decide +kernel
theorem dX4_fill_4 : decode cX4_fill 4 = .ok (.getfield 15, 3) := by decide +kernel
theorem dX4_fill_7 : decode cX4_fill 7 = .ok (.arraylength, 1) := by decide +kernel
theorem dX4_fill_8 : decode cX4_fill 8 = .ok (.if_icmp .ge 16, 3) := by decide +kernel
theorem dX4_fill_11 : decode cX4_fill 11 = .ok (.aload_n 0, 1) := by decide +kernel
theorem dX4_fill_12 : decode cX4_fill 12 = .ok (.getfield 15, 3) := by decide +kernel
theorem dX4_fill_15 : decode cX4_fill 15 = .ok (.iload_n 2, 1) := by decide +kernel
theorem dX4_fill_16 : decode cX4_fill 16 = .ok (.iload_n 1, 1) := by decide +kernel
theorem dX4_fill_17 : decode cX4_fill 17 = .ok (.iastore, 1) := by decide +kernel
theorem dX4_fill_18 : decode cX4_fill 18 = .ok (.iinc 2 1, 3) := by decide +kernel
theorem dX4_fill_21 : decode cX4_fill 21 = .ok (.goto (-19), 3) := by decide +kernel
theorem dX4_fill_24 : decode cX4_fill 24 = .ok (.aload_n 0, 1) := by decide +kernel
theorem dX4_fill_25 : decode cX4_fill 25 = .ok (.aload_n 0, 1) := by decide +kernel
theorem dX4_fill_26 : decode cX4_fill 26 = .ok (.getfield 15, 3) := by decide +kernel
theorem dX4_fill_29 : decode cX4_fill 29 = .ok (.arraylength, 1) := by decide +kernel
theorem dX4_fill_30 : decode cX4_fill 30 = .ok (.putfield 21, 3) := by decide +kernel
theorem dX4_fill_33 : decode cX4_fill 33 = .ok (.return_, 1) := by decide +kernel
def mX4_fill_2 (a0 : Nat) : Nat → iT → Int32 → Int32 → Option (iT)
  | 0, _, _, _ => none
  | n + 1, I, x1, x2 => if (nI (LEN (a0 + 1))) ≤ x2 then some (a_u2 I a0 1 (nI (LEN (a0 + 1)))) else if inb x2 (LEN (a0 + 1)) then mX4_fill_2 a0 n (a_u2 I (a0 + 1) x2.toNatClampNeg x1) x1 (x2 + 1) else none
def mX4_fill (a0 : Nat) (I : iT) (x1 : Int32) : Option (iT) := mX4_fill_2 a0 LF I x1 0
set_option maxRecDepth 100000 in
set_option maxHeartbeats 4000000 in
theorem tX4_fill_2 {l : Launch} {K : a_KT} {g : a_GT} {IB : iT} (hko : a_kok K) {a0 : Nat} (ha0 : isRow a0) {J : jT} {F : fT} : ∀ (n : Nat) (I : iT) (x1 : Int32) (x2 : Int32) (hF : FK F) (q : iT), mX4_fill_2 a0 n I x1 x2 = some q → E l K g 0 0 0 yX4_fill cX4_fill 3 none 2 [.ref a0, .int x1, .int x2] [] (hg I IB J F) (fun r2 h2 => r2 = none ∧ h2 = hg q IB J F) := by
  intro n
  induction n with
  | zero => intro I x1 x2 hF q hm; cases hm
  | succ n ih =>
    intro I x1 x2 hF q hm
    rw [mX4_fill_2] at hm
    refine e_iload_n (i := 2) rfl dX4_fill_2 ?_
    refine e_aload_n (i := 0) rfl dX4_fill_3 ?_
    refine q_getF 4 0 (a0 + 1) dX4_fill_4 fl_RX4_15 rfl (iz_row ha0) (fr_row hF.1 ha0) ?_
    refine q_alen dX4_fill_7 (iz_items ha0) ?_
    refine e_icmp_ge 24 dX4_fill_8 (by decide) (fun c_8 => ?_) (fun c_8 => ?_)
    · have hm := it_p c_8 hm
      refine e_aload_n (i := 0) rfl dX4_fill_24 ?_
      refine e_aload_n (i := 0) rfl dX4_fill_25 ?_
      refine q_getF 4 0 (a0 + 1) dX4_fill_26 fl_RX4_15 rfl (iz_row ha0) (fr_row hF.1 ha0) ?_
      refine q_alen dX4_fill_29 (iz_items ha0) ?_
      refine k_putI 4 1 dX4_fill_30 fl_RX4_21 rfl rfl (iz_row ha0) (rb_le ha0) ?_
      refine e_vret dX4_fill_33 rfl ?_
      have hm := some_in hm
      subst hm
      exact ⟨rfl, rfl⟩
    · have hm := it_n c_8 hm
      refine e_aload_n (i := 0) rfl dX4_fill_11 ?_
      refine q_getF 4 0 (a0 + 1) dX4_fill_12 fl_RX4_15 rfl (iz_row ha0) (fr_row hF.1 ha0) ?_
      refine e_iload_n (i := 2) rfl dX4_fill_15 ?_
      refine e_iload_n (i := 1) rfl dX4_fill_16 ?_
      obtain ⟨c_17, hm⟩ := gd_s hm
      refine k_iast dX4_fill_17 (iz_items ha0) (inb_in rfl c_17) (rbi_le ha0) ?_
      refine q_iinc (i := 2) (x2 + 1) rfl ic_1 rfl dX4_fill_18 ?_
      refine e_goto 2 dX4_fill_21 (by decide) ?_
      refine e_weak [.ref a0, .int x1, .int (x2 + 1)] ⟨rfl, ⟨rfl, ⟨rfl, trivial⟩⟩⟩ ?_
      exact ih (a_u2 I (a0 + 1) x2.toNatClampNeg x1) x1 (x2 + 1) hF _ hm
set_option maxRecDepth 100000 in
set_option maxHeartbeats 4000000 in
theorem tX4_fill {l : Launch} {K : a_KT} {g : a_GT} {IB : iT} (hko : a_kok K) {a0 : Nat} (ha0 : isRow a0) (I : iT) (J : jT) (F : fT) (hF : FK F) (x1 : Int32) (q : iT) (hm : mX4_fill a0 I x1 = some q) : C l K g 0 0 0 yX4_fill cX4_fill 3 none [.ref a0, .int x1] (hg I IB J F) (fun r2 h2 => r2 = none ∧ h2 = hg q IB J F) := by
  unfold mX4_fill at hm
  refine c_of [.ref a0, .int x1, .null] (by decide) (Nat.le_of_ble_eq_true rfl) rfl ?_
  refine e_iconst (v := 0) (by decide) dX4_fill_0 ?_
  refine q_istore_n (i := 2) (by decide) rfl dX4_fill_1 ?_
  refine e_weak [.ref a0, .int x1, .int 0] ⟨rfl, ⟨rfl, ⟨rfl, trivial⟩⟩⟩ ?_
  exact tX4_fill_2 hko ha0 LF I x1 0 hF _ hm
