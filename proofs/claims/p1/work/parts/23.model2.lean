/-! DECOMPILED: printed by wip/whole/gen_dec.py -/
theorem dX12_partsOf_0 : decode cX12_partsOf 0 = .ok (.aload_n 0, 1) := by decide +kernel
theorem dX12_partsOf_1 : decode cX12_partsOf 1 = .ok (.getfield 17, 3) := by decide +kernel
theorem dX12_partsOf_4 : decode cX12_partsOf 4 = .ok (.iload_n 1, 1) := by decide +kernel
theorem dX12_partsOf_5 : decode cX12_partsOf 5 = .ok (.iaload, 1) := by decide +kernel
theorem dX12_partsOf_6 : decode cX12_partsOf 6 = .ok (.bipush 8, 2) := by decide +kernel
theorem dX12_partsOf_8 : decode cX12_partsOf 8 = .ok (.if_icmp .ne 7, 3) := by decide +kernel
theorem dX12_partsOf_11 : decode cX12_partsOf 11 = .ok (.iconst 0, 1) := by decide +kernel
theorem dX12_partsOf_12 : decode cX12_partsOf 12 = .ok (.goto 4, 3) := by decide +kernel
theorem dX12_partsOf_15 : decode cX12_partsOf 15 = .ok (.iconst 1, 1) := by decide +kernel
theorem dX12_partsOf_16 : decode cX12_partsOf 16 = .ok (.istore_n 2, 1) := by decide +kernel
theorem dX12_partsOf_17 : decode cX12_partsOf 17 = .ok (.aload_n 0, 1) := by decide +kernel
theorem dX12_partsOf_18 : decode cX12_partsOf 18 = .ok (.getfield 20, 3) := by decide +kernel
theorem dX12_partsOf_21 : decode cX12_partsOf 21 = .ok (.iload_n 1, 1) := by decide +kernel
theorem dX12_partsOf_22 : decode cX12_partsOf 22 = .ok (.iaload, 1) := by decide +kernel
theorem dX12_partsOf_23 : decode cX12_partsOf 23 = .ok (.iconst (-1), 1) := by decide +kernel
theorem dX12_partsOf_24 : decode cX12_partsOf 24 = .ok (.if_icmp .eq 16, 3) := by decide +kernel
theorem dX12_partsOf_27 : decode cX12_partsOf 27 = .ok (.iload_n 2, 1) := by decide +kernel
theorem dX12_partsOf_28 : decode cX12_partsOf 28 = .ok (.aload_n 0, 1) := by decide +kernel
theorem dX12_partsOf_29 : decode cX12_partsOf 29 = .ok (.aload_n 0, 1) := by decide +kernel
theorem dX12_partsOf_30 : decode cX12_partsOf 30 = .ok (.getfield 20, 3) := by decide +kernel
theorem dX12_partsOf_33 : decode cX12_partsOf 33 = .ok (.iload_n 1, 1) := by decide +kernel
theorem dX12_partsOf_34 : decode cX12_partsOf 34 = .ok (.iaload, 1) := by decide +kernel
theorem dX12_partsOf_35 : decode cX12_partsOf 35 = .ok (.invokevirtual 245, 3) := by decide +kernel
theorem dX12_partsOf_38 : decode cX12_partsOf 38 = .ok (.iadd, 1) := by decide +kernel
theorem dX12_partsOf_39 : decode cX12_partsOf 39 = .ok (.istore_n 2, 1) := by decide +kernel
theorem dX12_partsOf_40 : decode cX12_partsOf 40 = .ok (.aload_n 0, 1) := by decide +kernel
theorem dX12_partsOf_41 : decode cX12_partsOf 41 = .ok (.getfield 23, 3) := by decide +kernel
theorem dX12_partsOf_44 : decode cX12_partsOf 44 = .ok (.iload_n 1, 1) := by decide +kernel
theorem dX12_partsOf_45 : decode cX12_partsOf 45 = .ok (.iaload, 1) := by decide +kernel
theorem dX12_partsOf_46 : decode cX12_partsOf 46 = .ok (.iconst (-1), 1) := by decide +kernel
theorem dX12_partsOf_47 : decode cX12_partsOf 47 = .ok (.if_icmp .eq 16, 3) := by decide +kernel
theorem dX12_partsOf_50 : decode cX12_partsOf 50 = .ok (.iload_n 2, 1) := by decide +kernel
theorem dX12_partsOf_51 : decode cX12_partsOf 51 = .ok (.aload_n 0, 1) := by decide +kernel
theorem dX12_partsOf_52 : decode cX12_partsOf 52 = .ok (.aload_n 0, 1) := by decide +kernel
theorem dX12_partsOf_53 : decode cX12_partsOf 53 = .ok (.getfield 23, 3) := by decide +kernel
theorem dX12_partsOf_56 : decode cX12_partsOf 56 = .ok (.iload_n 1, 1) := by decide +kernel
theorem dX12_partsOf_57 : decode cX12_partsOf 57 = .ok (.iaload, 1) := by decide +kernel
theorem dX12_partsOf_58 : decode cX12_partsOf 58 = .ok (.invokevirtual 245, 3) := by decide +kernel
theorem dX12_partsOf_61 : decode cX12_partsOf 61 = .ok (.iadd, 1) := by decide +kernel
theorem dX12_partsOf_62 : decode cX12_partsOf 62 = .ok (.istore_n 2, 1) := by decide +kernel
theorem dX12_partsOf_63 : decode cX12_partsOf 63 = .ok (.aload_n 0, 1) := by decide +kernel
theorem dX12_partsOf_64 : decode cX12_partsOf 64 = .ok (.getfield 17, 3) := by decide +kernel
theorem dX12_partsOf_67 : decode cX12_partsOf 67 = .ok (.iload_n 1, 1) := by decide +kernel
theorem dX12_partsOf_68 : decode cX12_partsOf 68 = .ok (.iaload, 1) := by decide +kernel
theorem dX12_partsOf_69 : decode cX12_partsOf 69 = .ok (.bipush 8, 2) := by decide +kernel
theorem dX12_partsOf_71 : decode cX12_partsOf 71 = .ok (.if_icmp .ne 28, 3) := by decide +kernel
theorem dX12_partsOf_74 : decode cX12_partsOf 74 = .ok (.aload_n 0, 1) := by decide +kernel
theorem dX12_partsOf_75 : decode cX12_partsOf 75 = .ok (.getfield 26, 3) := by decide +kernel
theorem dX12_partsOf_78 : decode cX12_partsOf 78 = .ok (.iload_n 1, 1) := by decide +kernel
theorem dX12_partsOf_79 : decode cX12_partsOf 79 = .ok (.iaload, 1) := by decide +kernel
theorem dX12_partsOf_80 : decode cX12_partsOf 80 = .ok (.iconst (-1), 1) := by decide +kernel
theorem dX12_partsOf_81 : decode cX12_partsOf 81 = .ok (.if_icmp .eq 18, 3) := by decide +kernel
theorem dX12_partsOf_84 : decode cX12_partsOf 84 = .ok (.iload_n 2, 1) := by decide +kernel
theorem dX12_partsOf_85 : decode cX12_partsOf 85 = .ok (.aload_n 0, 1) := by decide +kernel
theorem dX12_partsOf_86 : decode cX12_partsOf 86 = .ok (.aload_n 0, 1) := by decide +kernel
theorem dX12_partsOf_87 : decode cX12_partsOf 87 = .ok (.getfield 26, 3) := by decide +kernel
theorem dX12_partsOf_90 : decode cX12_partsOf 90 = .ok (.iload_n 1, 1) := by decide +kernel
theorem dX12_partsOf_91 : decode cX12_partsOf 91 = .ok (.iaload, 1) := by decide +kernel
theorem dX12_partsOf_92 : decode cX12_partsOf 92 = .ok (.invokevirtual 245, 3) := by decide +kernel
theorem dX12_partsOf_95 : decode cX12_partsOf 95 = .ok (.iadd, 1) := by decide +kernel
theorem dX12_partsOf_96 : decode cX12_partsOf 96 = .ok (.goto 4, 3) := by decide +kernel
theorem dX12_partsOf_99 : decode cX12_partsOf 99 = .ok (.iload_n 2, 1) := by decide +kernel
theorem dX12_partsOf_100 : decode cX12_partsOf 100 = .ok (.ireturn, 1) := by decide +kernel
abbrev sc_12partsOfT : Type := (iT → Int32 → Option (Int32))
def sc_12partsOf_ok (l : Launch) (K : a_KT) (g : a_GT) (D0 : Nat) (R : sc_12partsOfT) : Prop := (∀ {IA : iT} (I : iT) (J : jT) (F : fT) (x1 : Int32), FOK F → ∀ q : Int32, R I x1 = some q → C l K g D0 0 0 yX12_partsOf cX12_partsOf 3 (some .int) [.ref 186, .int x1] (hg IA I J F) (fun r2 h2 => r2 = some (.int q) ∧ h2 = hg IA I J F))
def mX12_partsOf_63 (R : sc_12partsOfT) (I : iT) (x1 : Int32) (x2 : Int32) : Option (Int32) := if inb x1 2800 then if (I 188 x1.toNatClampNeg) = 8 then if inb x1 2800 then if (I 191 x1.toNatClampNeg) = ((-1)) then some x2 else if inb x1 2800 then (R I (I 191 x1.toNatClampNeg)).bind fun q1 => some (x2 + q1) else none else none else some x2 else none
def mX12_partsOf_40 (R : sc_12partsOfT) (I : iT) (x1 : Int32) (x2 : Int32) : Option (Int32) := if inb x1 2800 then if (I 190 x1.toNatClampNeg) = ((-1)) then mX12_partsOf_63 R I x1 x2 else if inb x1 2800 then (R I (I 190 x1.toNatClampNeg)).bind fun q2 => mX12_partsOf_63 R I x1 (x2 + q2) else none else none
def mX12_partsOf_16 (R : sc_12partsOfT) (I : iT) (x1 : Int32) (s0 : Int32) : Option (Int32) := if inb x1 2800 then if (I 189 x1.toNatClampNeg) = ((-1)) then mX12_partsOf_40 R I x1 s0 else if inb x1 2800 then (R I (I 189 x1.toNatClampNeg)).bind fun q3 => mX12_partsOf_40 R I x1 (s0 + q3) else none else none
def bX12_partsOf (R : sc_12partsOfT) (I : iT) (x1 : Int32) : Option (Int32) := if inb x1 2800 then if (I 188 x1.toNatClampNeg) = 8 then mX12_partsOf_16 R I x1 0 else mX12_partsOf_16 R I x1 1 else none
def sc_12partsOf : Nat → sc_12partsOfT
  | 0 => (fun _ _ => none)
  | n + 1 => (bX12_partsOf (sc_12partsOf n))
def mX12_partsOf (n : Nat) : iT → Int32 → Option (Int32) := (sc_12partsOf n)
set_option maxRecDepth 100000 in
set_option maxHeartbeats 4000000 in
theorem tX12_partsOf_63 {l : Launch} {K : a_KT} {g : a_GT} {IA : iT} {D0 : Nat} {R : sc_12partsOfT} (hko : a_kok K) (hB : 0 ≤ D0 + 1) (hR : sc_12partsOf_ok l K g D0 R) {J : jT} {F : fT} (I : iT) (x1 : Int32) (x2 : Int32) (hF : FOK F) (q : Int32) (hm : mX12_partsOf_63 R I x1 x2 = some q) : E l K g (D0 + 1) 0 0 yX12_partsOf cX12_partsOf 3 (some .int) 63 [.ref 186, .int x1, .int x2] [] (hg IA I J F) (fun r2 h2 => r2 = some (.int q) ∧ h2 = hg IA I J F) := by
  unfold mX12_partsOf_63 at hm
  refine e_aload_n (i := 0) rfl dX12_partsOf_63 ?_
  refine q_getF 12 11 188 dX12_partsOf_64 fl_RX12_17 rfl iz_186 (fr_186_11 hF) ?_
  refine e_iload_n (i := 1) rfl dX12_partsOf_67 ?_
  obtain ⟨c_68, hm⟩ := gd_s hm
  refine l_iald dX12_partsOf_68 iz_188 (inb_in ln_188 c_68) (by decide) ?_
  refine e_bipush (v := 8) (by decide) dX12_partsOf_69 ?_
  refine e_icmp_ne 99 dX12_partsOf_71 (by decide) (fun c_71 => ?_) (fun c_71 => ?_)
  · have hm := it_n c_71 hm
    refine e_iload_n (i := 2) rfl dX12_partsOf_99 ?_
    refine e_iret dX12_partsOf_100 rfl ?_
    have hm := some_in hm
    subst hm
    exact ⟨rfl, rfl⟩
  · have hm := it_p c_71 hm
    refine e_aload_n (i := 0) rfl dX12_partsOf_74 ?_
    refine q_getF 12 14 191 dX12_partsOf_75 fl_RX12_26 rfl iz_186 (fr_186_14 hF) ?_
    refine e_iload_n (i := 1) rfl dX12_partsOf_78 ?_
    obtain ⟨c_79, hm⟩ := gd_s hm
    refine l_iald dX12_partsOf_79 iz_191 (inb_in ln_191 c_79) (by decide) ?_
    refine e_iconst (v := (-1)) (by decide) dX12_partsOf_80 ?_
    refine e_icmp_eq 99 dX12_partsOf_81 (by decide) (fun c_81 => ?_) (fun c_81 => ?_)
    · have hm := it_p c_81 hm
      refine e_iload_n (i := 2) rfl dX12_partsOf_99 ?_
      refine e_iret dX12_partsOf_100 rfl ?_
      have hm := some_in hm
      subst hm
      exact ⟨rfl, rfl⟩
    · have hm := it_n c_81 hm
      refine e_iload_n (i := 2) rfl dX12_partsOf_84 ?_
      refine e_aload_n (i := 0) rfl dX12_partsOf_85 ?_
      refine e_aload_n (i := 0) rfl dX12_partsOf_86 ?_
      refine q_getF 12 14 191 dX12_partsOf_87 fl_RX12_26 rfl iz_186 (fr_186_14 hF) ?_
      refine e_iload_n (i := 1) rfl dX12_partsOf_90 ?_
      obtain ⟨c_91, hm⟩ := gd_s hm
      refine l_iald dX12_partsOf_91 iz_191 (inb_in ln_191 c_91) (by decide) ?_
      obtain ⟨q1, eq1, hm⟩ := ob_some hm
      refine e_cV1 hko dX12_partsOf_92 ml_RX12_245 iz_186 (by decide) rfl (by omega) (Nat.le_of_ble_eq_true rfl) (hR I J F (I 191 x1.toNatClampNeg) hF q1 eq1) ?_
      rintro _ _ ⟨rfl, rfl⟩
      refine e_iadd dX12_partsOf_95 ?_
      refine e_goto 100 dX12_partsOf_96 (by decide) ?_
      refine e_iret dX12_partsOf_100 rfl ?_
      have hm := some_in hm
      subst hm
      exact ⟨rfl, rfl⟩
set_option maxRecDepth 100000 in
set_option maxHeartbeats 4000000 in
theorem tX12_partsOf_40 {l : Launch} {K : a_KT} {g : a_GT} {IA : iT} {D0 : Nat} {R : sc_12partsOfT} (hko : a_kok K) (hB : 0 ≤ D0 + 1) (hR : sc_12partsOf_ok l K g D0 R) {J : jT} {F : fT} (I : iT) (x1 : Int32) (x2 : Int32) (hF : FOK F) (q : Int32) (hm : mX12_partsOf_40 R I x1 x2 = some q) : E l K g (D0 + 1) 0 0 yX12_partsOf cX12_partsOf 3 (some .int) 40 [.ref 186, .int x1, .int x2] [] (hg IA I J F) (fun r2 h2 => r2 = some (.int q) ∧ h2 = hg IA I J F) := by
  unfold mX12_partsOf_40 at hm
  refine e_aload_n (i := 0) rfl dX12_partsOf_40 ?_
  refine q_getF 12 13 190 dX12_partsOf_41 fl_RX12_23 rfl iz_186 (fr_186_13 hF) ?_
  refine e_iload_n (i := 1) rfl dX12_partsOf_44 ?_
  obtain ⟨c_45, hm⟩ := gd_s hm
  refine l_iald dX12_partsOf_45 iz_190 (inb_in ln_190 c_45) (by decide) ?_
  refine e_iconst (v := (-1)) (by decide) dX12_partsOf_46 ?_
  refine e_icmp_eq 63 dX12_partsOf_47 (by decide) (fun c_47 => ?_) (fun c_47 => ?_)
  · have hm := it_p c_47 hm
    refine e_weak [.ref 186, .int x1, .int x2] ⟨rfl, ⟨rfl, ⟨rfl, trivial⟩⟩⟩ ?_
    exact tX12_partsOf_63 hko hB hR I x1 x2 hF _ hm
  · have hm := it_n c_47 hm
    refine e_iload_n (i := 2) rfl dX12_partsOf_50 ?_
    refine e_aload_n (i := 0) rfl dX12_partsOf_51 ?_
    refine e_aload_n (i := 0) rfl dX12_partsOf_52 ?_
    refine q_getF 12 13 190 dX12_partsOf_53 fl_RX12_23 rfl iz_186 (fr_186_13 hF) ?_
    refine e_iload_n (i := 1) rfl dX12_partsOf_56 ?_
    obtain ⟨c_57, hm⟩ := gd_s hm
    refine l_iald dX12_partsOf_57 iz_190 (inb_in ln_190 c_57) (by decide) ?_
    obtain ⟨q2, eq2, hm⟩ := ob_some hm
    refine e_cV1 hko dX12_partsOf_58 ml_RX12_245 iz_186 (by decide) rfl (by omega) (Nat.le_of_ble_eq_true rfl) (hR I J F (I 190 x1.toNatClampNeg) hF q2 eq2) ?_
    rintro _ _ ⟨rfl, rfl⟩
    refine e_iadd dX12_partsOf_61 ?_
    refine q_istore_n (i := 2) (by decide) rfl dX12_partsOf_62 ?_
    refine e_weak [.ref 186, .int x1, .int (x2 + q2)] ⟨rfl, ⟨rfl, ⟨rfl, trivial⟩⟩⟩ ?_
    exact tX12_partsOf_63 hko hB hR I x1 (x2 + q2) hF _ hm
set_option maxRecDepth 100000 in
set_option maxHeartbeats 4000000 in
theorem tX12_partsOf_16 {l : Launch} {K : a_KT} {g : a_GT} {IA : iT} {D0 : Nat} {R : sc_12partsOfT} (hko : a_kok K) (hB : 0 ≤ D0 + 1) (hR : sc_12partsOf_ok l K g D0 R) {J : jT} {F : fT} (I : iT) (x1 : Int32) (s0 : Int32) (hF : FOK F) (q : Int32) (hm : mX12_partsOf_16 R I x1 s0 = some q) : E l K g (D0 + 1) 0 0 yX12_partsOf cX12_partsOf 3 (some .int) 16 [.ref 186, .int x1, .null] [.int s0] (hg IA I J F) (fun r2 h2 => r2 = some (.int q) ∧ h2 = hg IA I J F) := by
  unfold mX12_partsOf_16 at hm
  refine q_istore_n (i := 2) (by decide) rfl dX12_partsOf_16 ?_
  refine e_aload_n (i := 0) rfl dX12_partsOf_17 ?_
  refine q_getF 12 12 189 dX12_partsOf_18 fl_RX12_20 rfl iz_186 (fr_186_12 hF) ?_
  refine e_iload_n (i := 1) rfl dX12_partsOf_21 ?_
  obtain ⟨c_22, hm⟩ := gd_s hm
  refine l_iald dX12_partsOf_22 iz_189 (inb_in ln_189 c_22) (by decide) ?_
  refine e_iconst (v := (-1)) (by decide) dX12_partsOf_23 ?_
  refine e_icmp_eq 40 dX12_partsOf_24 (by decide) (fun c_24 => ?_) (fun c_24 => ?_)
  · have hm := it_p c_24 hm
    refine e_weak [.ref 186, .int x1, .int s0] ⟨rfl, ⟨rfl, ⟨rfl, trivial⟩⟩⟩ ?_
    exact tX12_partsOf_40 hko hB hR I x1 s0 hF _ hm
  · have hm := it_n c_24 hm
    refine e_iload_n (i := 2) rfl dX12_partsOf_27 ?_
    refine e_aload_n (i := 0) rfl dX12_partsOf_28 ?_
    refine e_aload_n (i := 0) rfl dX12_partsOf_29 ?_
    refine q_getF 12 12 189 dX12_partsOf_30 fl_RX12_20 rfl iz_186 (fr_186_12 hF) ?_
    refine e_iload_n (i := 1) rfl dX12_partsOf_33 ?_
    obtain ⟨c_34, hm⟩ := gd_s hm
    refine l_iald dX12_partsOf_34 iz_189 (inb_in ln_189 c_34) (by decide) ?_
    obtain ⟨q3, eq3, hm⟩ := ob_some hm
    refine e_cV1 hko dX12_partsOf_35 ml_RX12_245 iz_186 (by decide) rfl (by omega) (Nat.le_of_ble_eq_true rfl) (hR I J F (I 189 x1.toNatClampNeg) hF q3 eq3) ?_
    rintro _ _ ⟨rfl, rfl⟩
    refine e_iadd dX12_partsOf_38 ?_
    refine q_istore_n (i := 2) (by decide) rfl dX12_partsOf_39 ?_
    refine e_weak [.ref 186, .int x1, .int (s0 + q3)] ⟨rfl, ⟨rfl, ⟨rfl, trivial⟩⟩⟩ ?_
    exact tX12_partsOf_40 hko hB hR I x1 (s0 + q3) hF _ hm
set_option maxRecDepth 100000 in
set_option maxHeartbeats 4000000 in
theorem tbX12_partsOf {l : Launch} {K : a_KT} {g : a_GT} {IA : iT} {D0 : Nat} {R : sc_12partsOfT} (hko : a_kok K) (hB : 0 ≤ D0 + 1) (hR : sc_12partsOf_ok l K g D0 R) (I : iT) (J : jT) (F : fT) (hF : FOK F) (x1 : Int32) (q : Int32) (hm : bX12_partsOf R I x1 = some q) : C l K g (D0 + 1) 0 0 yX12_partsOf cX12_partsOf 3 (some .int) [.ref 186, .int x1] (hg IA I J F) (fun r2 h2 => r2 = some (.int q) ∧ h2 = hg IA I J F) := by
  unfold bX12_partsOf at hm
  refine c_of [.ref 186, .int x1, .null] (by decide) (Nat.le_of_ble_eq_true rfl) rfl ?_
  refine e_aload_n (i := 0) rfl dX12_partsOf_0 ?_
  refine q_getF 12 11 188 dX12_partsOf_1 fl_RX12_17 rfl iz_186 (fr_186_11 hF) ?_
  refine e_iload_n (i := 1) rfl dX12_partsOf_4 ?_
  obtain ⟨c_5, hm⟩ := gd_s hm
  refine l_iald dX12_partsOf_5 iz_188 (inb_in ln_188 c_5) (by decide) ?_
  refine e_bipush (v := 8) (by decide) dX12_partsOf_6 ?_
  refine e_icmp_ne 15 dX12_partsOf_8 (by decide) (fun c_8 => ?_) (fun c_8 => ?_)
  · have hm := it_n c_8 hm
    refine e_iconst (v := 1) (by decide) dX12_partsOf_15 ?_
    refine e_weak [.ref 186, .int x1, .null] ⟨rfl, ⟨rfl, ⟨trivial, trivial⟩⟩⟩ ?_
    exact tX12_partsOf_16 hko hB hR I x1 1 hF _ hm
  · have hm := it_p c_8 hm
    refine e_iconst (v := 0) (by decide) dX12_partsOf_11 ?_
    refine e_goto 16 dX12_partsOf_12 (by decide) ?_
    refine e_weak [.ref 186, .int x1, .null] ⟨rfl, ⟨rfl, ⟨trivial, trivial⟩⟩⟩ ?_
    exact tX12_partsOf_16 hko hB hR I x1 0 hF _ hm
set_option maxRecDepth 100000 in
set_option maxHeartbeats 4000000 in
theorem sc_12partsOf_all {l : Launch} {K : a_KT} {g : a_GT} (hko : a_kok K) : ∀ n : Nat, sc_12partsOf_ok l K g (0 + n) (sc_12partsOf n) := by
  intro n
  induction n with
  | zero => exact (by unfold sc_12partsOf_ok; intros; rename_i h; cases (show (none : Option _) = some _ from h))
  | succ n ih =>
    exact fun I J F x1 hF q hm => tbX12_partsOf hko (by omega) ih I J F hF x1 q hm
theorem tX12_partsOf {l : Launch} {K : a_KT} {g : a_GT} {IA : iT} (hko : a_kok K) (I : iT) (J : jT) (F : fT) (hF : FOK F) (x1 : Int32) (q : Int32) (hm : mX12_partsOf SF I x1 = some q) : C l K g 450 0 0 yX12_partsOf cX12_partsOf 3 (some .int) [.ref 186, .int x1] (hg IA I J F) (fun r2 h2 => r2 = some (.int q) ∧ h2 = hg IA I J F) := (sc_12partsOf_all hko SF) I J F x1 hF q hm
theorem dX12_choice_0 : decode cX12_choice 0 = .ok (.aload_n 0, 1) := by decide +kernel
theorem dX12_choice_1 : decode cX12_choice 1 = .ok (.bipush 123, 2) := by decide +kernel
theorem dX12_choice_3 : decode cX12_choice 3 = .ok (.invokevirtual 278, 3) := by decide +kernel
theorem dX12_choice_6 : decode cX12_choice 6 = .ok (.ifCond .ne 5, 3) := by decide +kernel
theorem dX12_choice_9 : decode cX12_choice 9 = .ok (.iconst 0, 1) := by decide +kernel
theorem dX12_choice_10 : decode cX12_choice 10 = .ok (.ireturn, 1) := by decide +kernel
theorem dX12_choice_11 : decode cX12_choice 11 = .ok (.aload_n 0, 1) := by decide +kernel
theorem dX12_choice_12 : decode cX12_choice 12 = .ok (.iload_n 1, 1) := by decide +kernel
theorem dX12_choice_13 : decode cX12_choice 13 = .ok (.iconst (-1), 1) := by decide +kernel
theorem dX12_choice_14 : decode cX12_choice 14 = .ok (.iconst (-1), 1) := by decide +kernel
theorem dX12_choice_15 : decode cX12_choice 15 = .ok (.lconst 0, 1) := by decide +kernel
theorem dX12_choice_16 : decode cX12_choice 16 = .ok (.invokevirtual 264, 3) := by decide +kernel
theorem dX12_choice_19 : decode cX12_choice 19 = .ok (.istore_n 2, 1) := by decide +kernel
theorem dX12_choice_20 : decode cX12_choice 20 = .ok (.iconst 0, 1) := by decide +kernel
theorem dX12_choice_21 : decode cX12_choice 21 = .ok (.istore_n 3, 1) := by decide +kernel
theorem dX12_choice_22 : decode cX12_choice 22 = .ok (.iload_n 3, 1) := by decide +kernel
theorem dX12_choice_23 : decode cX12_choice 23 = .ok (.ifCond .le 7, 3) := by decide +kernel
theorem dX12_choice_26 : decode cX12_choice 26 = .ok (.aload_n 0, 1) := by decide +kernel
theorem dX12_choice_27 : decode cX12_choice 27 = .ok (.invokevirtual 236, 3) := by decide +kernel
theorem dX12_choice_30 : decode cX12_choice 30 = .ok (.aload_n 0, 1) := by decide +kernel
theorem dX12_choice_31 : decode cX12_choice 31 = .ok (.getfield 210, 3) := by decide +kernel
theorem dX12_choice_34 : decode cX12_choice 34 = .ok (.iconst 2, 1) := by decide +kernel
theorem dX12_choice_35 : decode cX12_choice 35 = .ok (.if_icmp .eq 13, 3) := by decide +kernel
theorem dX12_choice_38 : decode cX12_choice 38 = .ok (.aload_n 0, 1) := by decide +kernel
theorem dX12_choice_39 : decode cX12_choice 39 = .ok (.iconst 1, 1) := by decide +kernel
theorem dX12_choice_40 : decode cX12_choice 40 = .ok (.aload_n 0, 1) := by decide +kernel
theorem dX12_choice_41 : decode cX12_choice 41 = .ok (.getfield 207, 3) := by decide +kernel
theorem dX12_choice_44 : decode cX12_choice 44 = .ok (.invokevirtual 232, 3) := by decide +kernel
theorem dX12_choice_47 : decode cX12_choice 47 = .ok (.ireturn, 1) := by decide +kernel
theorem dX12_choice_48 : decode cX12_choice 48 = .ok (.aload_n 0, 1) := by decide +kernel
theorem dX12_choice_49 : decode cX12_choice 49 = .ok (.iload_n 2, 1) := by decide +kernel
theorem dX12_choice_50 : decode cX12_choice 50 = .ok (.aload_n 0, 1) := by decide +kernel
theorem dX12_choice_51 : decode cX12_choice 51 = .ok (.getfield 162, 3) := by decide +kernel
theorem dX12_choice_54 : decode cX12_choice 54 = .ok (.invokevirtual 281, 3) := by decide +kernel
theorem dX12_choice_57 : decode cX12_choice 57 = .ok (.iconst (-1), 1) := by decide +kernel
theorem dX12_choice_58 : decode cX12_choice 58 = .ok (.if_icmp .eq 13, 3) := by decide +kernel
theorem dX12_choice_61 : decode cX12_choice 61 = .ok (.aload_n 0, 1) := by decide +kernel
theorem dX12_choice_62 : decode cX12_choice 62 = .ok (.iconst 2, 1) := by decide +kernel
theorem dX12_choice_63 : decode cX12_choice 63 = .ok (.aload_n 0, 1) := by decide +kernel
theorem dX12_choice_64 : decode cX12_choice 64 = .ok (.getfield 207, 3) := by decide +kernel
theorem dX12_choice_67 : decode cX12_choice 67 = .ok (.invokevirtual 232, 3) := by decide +kernel
theorem dX12_choice_70 : decode cX12_choice 70 = .ok (.ireturn, 1) := by decide +kernel
theorem dX12_choice_71 : decode cX12_choice 71 = .ok (.iload_n 3, 1) := by decide +kernel
theorem dX12_choice_72 : decode cX12_choice 72 = .ok (.bipush 6, 2) := by decide +kernel
theorem dX12_choice_74 : decode cX12_choice 74 = .ok (.if_icmp .ne 13, 3) := by decide +kernel
theorem dX12_choice_77 : decode cX12_choice 77 = .ok (.aload_n 0, 1) := by decide +kernel
theorem dX12_choice_78 : decode cX12_choice 78 = .ok (.iconst 5, 1) := by decide +kernel
theorem dX12_choice_79 : decode cX12_choice 79 = .ok (.aload_n 0, 1) := by decide +kernel
theorem dX12_choice_80 : decode cX12_choice 80 = .ok (.getfield 207, 3) := by decide +kernel
theorem dX12_choice_83 : decode cX12_choice 83 = .ok (.invokevirtual 232, 3) := by decide +kernel
theorem dX12_choice_86 : decode cX12_choice 86 = .ok (.ireturn, 1) := by decide +kernel
theorem dX12_choice_87 : decode cX12_choice 87 = .ok (.aload_n 0, 1) := by decide +kernel
theorem dX12_choice_88 : decode cX12_choice 88 = .ok (.getfield 162, 3) := by decide +kernel
theorem dX12_choice_91 : decode cX12_choice 91 = .ok (.lstore 4, 2) := by decide +kernel
theorem dX12_choice_93 : decode cX12_choice 93 = .ok (.aload_n 0, 1) := by decide +kernel
theorem dX12_choice_94 : decode cX12_choice 94 = .ok (.invokevirtual 236, 3) := by decide +kernel
theorem dX12_choice_97 : decode cX12_choice 97 = .ok (.aload_n 0, 1) := by decide +kernel
theorem dX12_choice_98 : decode cX12_choice 98 = .ok (.bipush 58, 2) := by decide +kernel
theorem dX12_choice_100 : decode cX12_choice 100 = .ok (.invokevirtual 278, 3) := by decide +kernel
theorem dX12_choice_103 : decode cX12_choice 103 = .ok (.ifCond .eq 10, 3) := by decide +kernel
theorem dX12_choice_106 : decode cX12_choice 106 = .ok (.aload_n 0, 1) := by decide +kernel
theorem dX12_choice_107 : decode cX12_choice 107 = .ok (.invokevirtual 257, 3) := by decide +kernel
theorem dX12_choice_110 : decode cX12_choice 110 = .ok (.ifCond .ne 5, 3) := by decide +kernel
theorem dX12_choice_113 : decode cX12_choice 113 = .ok (.iconst 0, 1) := by decide +kernel
theorem dX12_choice_114 : decode cX12_choice 114 = .ok (.ireturn, 1) := by decide +kernel
theorem dX12_choice_115 : decode cX12_choice 115 = .ok (.aload_n 0, 1) := by decide +kernel
theorem dX12_choice_116 : decode cX12_choice 116 = .ok (.bipush 8, 2) := by decide +kernel
theorem dX12_choice_118 : decode cX12_choice 118 = .ok (.aload_n 0, 1) := by decide +kernel
theorem dX12_choice_119 : decode cX12_choice 119 = .ok (.getfield 268, 3) := by decide +kernel
theorem dX12_choice_122 : decode cX12_choice 122 = .ok (.iconst (-1), 1) := by decide +kernel
theorem dX12_choice_123 : decode cX12_choice 123 = .ok (.lload 4, 2) := by decide +kernel
theorem dX12_choice_125 : decode cX12_choice 125 = .ok (.invokevirtual 264, 3) := by decide +kernel
theorem dX12_choice_128 : decode cX12_choice 128 = .ok (.istore 6, 2) := by decide +kernel
theorem dX12_choice_130 : decode cX12_choice 130 = .ok (.iconst (-1), 1) := by decide +kernel
theorem dX12_choice_131 : decode cX12_choice 131 = .ok (.istore 7, 2) := by decide +kernel
theorem dX12_choice_133 : decode cX12_choice 133 = .ok (.aload_n 0, 1) := by decide +kernel
theorem dX12_choice_134 : decode cX12_choice 134 = .ok (.getfield 20, 3) := by decide +kernel
theorem dX12_choice_137 : decode cX12_choice 137 = .ok (.iload_n 2, 1) := by decide +kernel
theorem dX12_choice_138 : decode cX12_choice 138 = .ok (.iaload, 1) := by decide +kernel
theorem dX12_choice_139 : decode cX12_choice 139 = .ok (.istore 8, 2) := by decide +kernel
theorem dX12_choice_141 : decode cX12_choice 141 = .ok (.iload 8, 2) := by decide +kernel
theorem dX12_choice_143 : decode cX12_choice 143 = .ok (.iconst (-1), 1) := by decide +kernel
theorem dX12_choice_144 : decode cX12_choice 144 = .ok (.if_icmp .eq 38, 3) := by decide +kernel
theorem dX12_choice_147 : decode cX12_choice 147 = .ok (.aload_n 0, 1) := by decide +kernel
theorem dX12_choice_148 : decode cX12_choice 148 = .ok (.getfield 29, 3) := by decide +kernel
theorem dX12_choice_151 : decode cX12_choice 151 = .ok (.iload 8, 2) := by decide +kernel
theorem dX12_choice_153 : decode cX12_choice 153 = .ok (.laload, 1) := by decide +kernel
theorem dX12_choice_154 : decode cX12_choice 154 = .ok (.invokestatic 285, 3) := by decide +kernel
theorem dX12_choice_157 : decode cX12_choice 157 = .ok (.lload 4, 2) := by decide +kernel
theorem dX12_choice_159 : decode cX12_choice 159 = .ok (.invokestatic 285, 3) := by decide +kernel
theorem dX12_choice_162 : decode cX12_choice 162 = .ok (.lcmp, 1) := by decide +kernel
theorem dX12_choice_163 : decode cX12_choice 163 = .ok (.ifCond .ge 19, 3) := by decide +kernel
theorem dX12_choice_166 : decode cX12_choice 166 = .ok (.iload 8, 2) := by decide +kernel
theorem dX12_choice_168 : decode cX12_choice 168 = .ok (.istore 7, 2) := by decide +kernel
theorem dX12_choice_170 : decode cX12_choice 170 = .ok (.aload_n 0, 1) := by decide +kernel
theorem dX12_choice_171 : decode cX12_choice 171 = .ok (.getfield 26, 3) := by decide +kernel
theorem dX12_choice_174 : decode cX12_choice 174 = .ok (.iload 8, 2) := by decide +kernel
theorem dX12_choice_176 : decode cX12_choice 176 = .ok (.iaload, 1) := by decide +kernel
theorem dX12_choice_177 : decode cX12_choice 177 = .ok (.istore 8, 2) := by decide +kernel
theorem dX12_choice_179 : decode cX12_choice 179 = .ok (.goto (-38), 3) := by decide +kernel
theorem dX12_choice_182 : decode cX12_choice 182 = .ok (.aload_n 0, 1) := by decide +kernel
theorem dX12_choice_183 : decode cX12_choice 183 = .ok (.getfield 26, 3) := by decide +kernel
theorem dX12_choice_186 : decode cX12_choice 186 = .ok (.iload 6, 2) := by decide +kernel
theorem dX12_choice_188 : decode cX12_choice 188 = .ok (.iload 7, 2) := by decide +kernel
theorem dX12_choice_190 : decode cX12_choice 190 = .ok (.iconst (-1), 1) := by decide +kernel
theorem dX12_choice_191 : decode cX12_choice 191 = .ok (.if_icmp .ne 12, 3) := by decide +kernel
theorem dX12_choice_194 : decode cX12_choice 194 = .ok (.aload_n 0, 1) := by decide +kernel
theorem dX12_choice_195 : decode cX12_choice 195 = .ok (.getfield 20, 3) := by decide +kernel
theorem dX12_choice_198 : decode cX12_choice 198 = .ok (.iload_n 2, 1) := by decide +kernel
theorem dX12_choice_199 : decode cX12_choice 199 = .ok (.iaload, 1) := by decide +kernel
theorem dX12_choice_200 : decode cX12_choice 200 = .ok (.goto 10, 3) := by decide +kernel
theorem dX12_choice_203 : decode cX12_choice 203 = .ok (.aload_n 0, 1) := by decide +kernel
theorem dX12_choice_204 : decode cX12_choice 204 = .ok (.getfield 26, 3) := by decide +kernel
theorem dX12_choice_207 : decode cX12_choice 207 = .ok (.iload 7, 2) := by decide +kernel
theorem dX12_choice_209 : decode cX12_choice 209 = .ok (.iaload, 1) := by decide +kernel
theorem dX12_choice_210 : decode cX12_choice 210 = .ok (.iastore, 1) := by decide +kernel
theorem dX12_choice_211 : decode cX12_choice 211 = .ok (.iload 7, 2) := by decide +kernel
theorem dX12_choice_213 : decode cX12_choice 213 = .ok (.iconst (-1), 1) := by decide +kernel
theorem dX12_choice_214 : decode cX12_choice 214 = .ok (.if_icmp .ne 14, 3) := by decide +kernel
theorem dX12_choice_217 : decode cX12_choice 217 = .ok (.aload_n 0, 1) := by decide +kernel
theorem dX12_choice_218 : decode cX12_choice 218 = .ok (.getfield 20, 3) := by decide +kernel
theorem dX12_choice_221 : decode cX12_choice 221 = .ok (.iload_n 2, 1) := by decide +kernel
theorem dX12_choice_222 : decode cX12_choice 222 = .ok (.iload 6, 2) := by decide +kernel
theorem dX12_choice_224 : decode cX12_choice 224 = .ok (.iastore, 1) := by decide +kernel
theorem dX12_choice_225 : decode cX12_choice 225 = .ok (.goto 12, 3) := by decide +kernel
theorem dX12_choice_228 : decode cX12_choice 228 = .ok (.aload_n 0, 1) := by decide +kernel
theorem dX12_choice_229 : decode cX12_choice 229 = .ok (.getfield 26, 3) := by decide +kernel
theorem dX12_choice_232 : decode cX12_choice 232 = .ok (.iload 7, 2) := by decide +kernel
theorem dX12_choice_234 : decode cX12_choice 234 = .ok (.iload 6, 2) := by decide +kernel
theorem dX12_choice_236 : decode cX12_choice 236 = .ok (.iastore, 1) := by decide +kernel
theorem dX12_choice_237 : decode cX12_choice 237 = .ok (.iinc 3 1, 3) := by decide +kernel
theorem dX12_choice_240 : decode cX12_choice 240 = .ok (.aload_n 0, 1) := by decide +kernel
theorem dX12_choice_241 : decode cX12_choice 241 = .ok (.bipush 44, 2) := by decide +kernel
theorem dX12_choice_243 : decode cX12_choice 243 = .ok (.invokevirtual 229, 3) := by decide +kernel
theorem dX12_choice_246 : decode cX12_choice 246 = .ok (.ifCond .ne (-224), 3) := by decide +kernel
theorem dX12_choice_249 : decode cX12_choice 249 = .ok (.aload_n 0, 1) := by decide +kernel
theorem dX12_choice_250 : decode cX12_choice 250 = .ok (.iload_n 2, 1) := by decide +kernel
theorem dX12_choice_251 : decode cX12_choice 251 = .ok (.putfield 268, 3) := by decide +kernel
theorem dX12_choice_254 : decode cX12_choice 254 = .ok (.aload_n 0, 1) := by decide +kernel
theorem dX12_choice_255 : decode cX12_choice 255 = .ok (.bipush 125, 2) := by decide +kernel
theorem dX12_choice_257 : decode cX12_choice 257 = .ok (.invokevirtual 278, 3) := by decide +kernel
theorem dX12_choice_260 : decode cX12_choice 260 = .ok (.ireturn, 1) := by decide +kernel
theorem dX12_readType_0 : decode cX12_readType 0 = .ok (.aload_n 0, 1) := by decide +kernel
theorem dX12_readType_1 : decode cX12_readType 1 = .ok (.getfield 210, 3) := by decide +kernel
theorem dX12_readType_4 : decode cX12_readType 4 = .ok (.bipush 102, 2) := by decide +kernel
theorem dX12_readType_6 : decode cX12_readType 6 = .ok (.if_icmp .ne 31, 3) := by decide +kernel
theorem dX12_readType_9 : decode cX12_readType 9 = .ok (.aload_n 0, 1) := by decide +kernel
theorem dX12_readType_10 : decode cX12_readType 10 = .ok (.iconst 1, 1) := by decide +kernel
theorem dX12_readType_11 : decode cX12_readType 11 = .ok (.invokevirtual 261, 3) := by decide +kernel
theorem dX12_readType_14 : decode cX12_readType 14 = .ok (.ifCond .ne 5, 3) := by decide +kernel
theorem dX12_readType_17 : decode cX12_readType 17 = .ok (.iconst 0, 1) := by decide +kernel
theorem dX12_readType_18 : decode cX12_readType 18 = .ok (.ireturn, 1) := by decide +kernel
theorem dX12_readType_19 : decode cX12_readType 19 = .ok (.aload_n 0, 1) := by decide +kernel
theorem dX12_readType_20 : decode cX12_readType 20 = .ok (.aload_n 0, 1) := by decide +kernel
theorem dX12_readType_21 : decode cX12_readType 21 = .ok (.iconst 1, 1) := by decide +kernel
theorem dX12_readType_22 : decode cX12_readType 22 = .ok (.iconst (-1), 1) := by decide +kernel
theorem dX12_readType_23 : decode cX12_readType 23 = .ok (.iconst (-1), 1) := by decide +kernel
theorem dX12_readType_24 : decode cX12_readType 24 = .ok (.lconst 0, 1) := by decide +kernel
theorem dX12_readType_25 : decode cX12_readType 25 = .ok (.invokevirtual 264, 3) := by decide +kernel
theorem dX12_readType_28 : decode cX12_readType 28 = .ok (.putfield 268, 3) := by decide +kernel
theorem dX12_readType_31 : decode cX12_readType 31 = .ok (.aload_n 0, 1) := by decide +kernel
theorem dX12_readType_32 : decode cX12_readType 32 = .ok (.invokevirtual 236, 3) := by decide +kernel
theorem dX12_readType_35 : decode cX12_readType 35 = .ok (.iconst 1, 1) := by decide +kernel
theorem dX12_readType_36 : decode cX12_readType 36 = .ok (.ireturn, 1) := by decide +kernel
theorem dX12_readType_37 : decode cX12_readType 37 = .ok (.aload_n 0, 1) := by decide +kernel
theorem dX12_readType_38 : decode cX12_readType 38 = .ok (.getfield 210, 3) := by decide +kernel
theorem dX12_readType_41 : decode cX12_readType 41 = .ok (.iconst 2, 1) := by decide +kernel
theorem dX12_readType_42 : decode cX12_readType 42 = .ok (.if_icmp .ne 52, 3) := by decide +kernel
theorem dX12_readType_45 : decode cX12_readType 45 = .ok (.aload_n 0, 1) := by decide +kernel
theorem dX12_readType_46 : decode cX12_readType 46 = .ok (.aload_n 0, 1) := by decide +kernel
theorem dX12_readType_47 : decode cX12_readType 47 = .ok (.getfield 162, 3) := by decide +kernel
theorem dX12_readType_50 : decode cX12_readType 50 = .ok (.invokevirtual 271, 3) := by decide +kernel
theorem dX12_readType_53 : decode cX12_readType 53 = .ok (.istore_n 1, 1) := by decide +kernel
theorem dX12_readType_54 : decode cX12_readType 54 = .ok (.iload_n 1, 1) := by decide +kernel
theorem dX12_readType_55 : decode cX12_readType 55 = .ok (.iconst (-1), 1) := by decide +kernel
theorem dX12_readType_56 : decode cX12_readType 56 = .ok (.if_icmp .ne 13, 3) := by decide +kernel
theorem dX12_readType_59 : decode cX12_readType 59 = .ok (.aload_n 0, 1) := by decide +kernel
theorem dX12_readType_60 : decode cX12_readType 60 = .ok (.iconst 2, 1) := by decide +kernel
theorem dX12_readType_61 : decode cX12_readType 61 = .ok (.aload_n 0, 1) := by decide +kernel
theorem dX12_readType_62 : decode cX12_readType 62 = .ok (.getfield 207, 3) := by decide +kernel
theorem dX12_readType_65 : decode cX12_readType 65 = .ok (.invokevirtual 232, 3) := by decide +kernel
theorem dX12_readType_68 : decode cX12_readType 68 = .ok (.ireturn, 1) := by decide +kernel
theorem dX12_readType_69 : decode cX12_readType 69 = .ok (.aload_n 0, 1) := by decide +kernel
theorem dX12_readType_70 : decode cX12_readType 70 = .ok (.aload_n 0, 1) := by decide +kernel
theorem dX12_readType_71 : decode cX12_readType 71 = .ok (.iload_n 1, 1) := by decide +kernel
theorem dX12_readType_72 : decode cX12_readType 72 = .ok (.invokevirtual 245, 3) := by decide +kernel
theorem dX12_readType_75 : decode cX12_readType 75 = .ok (.invokevirtual 261, 3) := by decide +kernel
theorem dX12_readType_78 : decode cX12_readType 78 = .ok (.ifCond .ne 5, 3) := by decide +kernel
theorem dX12_readType_81 : decode cX12_readType 81 = .ok (.iconst 0, 1) := by decide +kernel
theorem dX12_readType_82 : decode cX12_readType 82 = .ok (.ireturn, 1) := by decide +kernel
theorem dX12_readType_83 : decode cX12_readType 83 = .ok (.aload_n 0, 1) := by decide +kernel
theorem dX12_readType_84 : decode cX12_readType 84 = .ok (.iload_n 1, 1) := by decide +kernel
theorem dX12_readType_85 : decode cX12_readType 85 = .ok (.putfield 268, 3) := by decide +kernel
theorem dX12_readType_88 : decode cX12_readType 88 = .ok (.aload_n 0, 1) := by decide +kernel
theorem dX12_readType_89 : decode cX12_readType 89 = .ok (.invokevirtual 236, 3) := by decide +kernel
theorem dX12_readType_92 : decode cX12_readType 92 = .ok (.iconst 1, 1) := by decide +kernel
theorem dX12_readType_93 : decode cX12_readType 93 = .ok (.ireturn, 1) := by decide +kernel
theorem dX12_readType_94 : decode cX12_readType 94 = .ok (.aload_n 0, 1) := by decide +kernel
theorem dX12_readType_95 : decode cX12_readType 95 = .ok (.bipush 33, 2) := by decide +kernel
theorem dX12_readType_97 : decode cX12_readType 97 = .ok (.invokevirtual 229, 3) := by decide +kernel
theorem dX12_readType_100 : decode cX12_readType 100 = .ok (.ifCond .eq 7, 3) := by decide +kernel
theorem dX12_readType_103 : decode cX12_readType 103 = .ok (.iconst 2, 1) := by decide +kernel
theorem dX12_readType_104 : decode cX12_readType 104 = .ok (.goto 71, 3) := by decide +kernel
theorem dX12_readType_107 : decode cX12_readType 107 = .ok (.aload_n 0, 1) := by decide +kernel
theorem dX12_readType_108 : decode cX12_readType 108 = .ok (.bipush 63, 2) := by decide +kernel
theorem dX12_readType_110 : decode cX12_readType 110 = .ok (.invokevirtual 229, 3) := by decide +kernel
theorem dX12_readType_113 : decode cX12_readType 113 = .ok (.ifCond .eq 7, 3) := by decide +kernel
theorem dX12_readType_116 : decode cX12_readType 116 = .ok (.iconst 3, 1) := by decide +kernel
theorem dX12_readType_117 : decode cX12_readType 117 = .ok (.goto 58, 3) := by decide +kernel
theorem dX12_readType_120 : decode cX12_readType 120 = .ok (.aload_n 0, 1) := by decide +kernel
theorem dX12_readType_121 : decode cX12_readType 121 = .ok (.bipush 62, 2) := by decide +kernel
theorem dX12_readType_123 : decode cX12_readType 123 = .ok (.invokevirtual 229, 3) := by decide +kernel
theorem dX12_readType_126 : decode cX12_readType 126 = .ok (.ifCond .eq 7, 3) := by decide +kernel
theorem dX12_readType_129 : decode cX12_readType 129 = .ok (.iconst 4, 1) := by decide +kernel
theorem dX12_readType_130 : decode cX12_readType 130 = .ok (.goto 45, 3) := by decide +kernel
theorem dX12_readType_133 : decode cX12_readType 133 = .ok (.aload_n 0, 1) := by decide +kernel
theorem dX12_readType_134 : decode cX12_readType 134 = .ok (.bipush 60, 2) := by decide +kernel
theorem dX12_readType_136 : decode cX12_readType 136 = .ok (.invokevirtual 229, 3) := by decide +kernel
theorem dX12_readType_139 : decode cX12_readType 139 = .ok (.ifCond .eq 7, 3) := by decide +kernel
theorem dX12_readType_142 : decode cX12_readType 142 = .ok (.iconst 5, 1) := by decide +kernel
theorem dX12_readType_143 : decode cX12_readType 143 = .ok (.goto 32, 3) := by decide +kernel
theorem dX12_readType_146 : decode cX12_readType 146 = .ok (.aload_n 0, 1) := by decide +kernel
theorem dX12_readType_147 : decode cX12_readType 147 = .ok (.bipush 43, 2) := by decide +kernel
theorem dX12_readType_149 : decode cX12_readType 149 = .ok (.invokevirtual 229, 3) := by decide +kernel
theorem dX12_readType_152 : decode cX12_readType 152 = .ok (.ifCond .eq 8, 3) := by decide +kernel
theorem dX12_readType_155 : decode cX12_readType 155 = .ok (.bipush 6, 2) := by decide +kernel
theorem dX12_readType_157 : decode cX12_readType 157 = .ok (.goto 18, 3) := by decide +kernel
theorem dX12_readType_160 : decode cX12_readType 160 = .ok (.aload_n 0, 1) := by decide +kernel
theorem dX12_readType_161 : decode cX12_readType 161 = .ok (.bipush 38, 2) := by decide +kernel
theorem dX12_readType_163 : decode cX12_readType 163 = .ok (.invokevirtual 229, 3) := by decide +kernel
theorem dX12_readType_166 : decode cX12_readType 166 = .ok (.ifCond .eq 8, 3) := by decide +kernel
theorem dX12_readType_169 : decode cX12_readType 169 = .ok (.bipush 7, 2) := by decide +kernel
theorem dX12_readType_171 : decode cX12_readType 171 = .ok (.goto 4, 3) := by decide +kernel
theorem dX12_readType_174 : decode cX12_readType 174 = .ok (.iconst (-1), 1) := by decide +kernel
theorem dX12_readType_175 : decode cX12_readType 175 = .ok (.istore_n 1, 1) := by decide +kernel
theorem dX12_readType_176 : decode cX12_readType 176 = .ok (.iload_n 1, 1) := by decide +kernel
theorem dX12_readType_177 : decode cX12_readType 177 = .ok (.iconst (-1), 1) := by decide +kernel
theorem dX12_readType_178 : decode cX12_readType 178 = .ok (.if_icmp .ne 13, 3) := by decide +kernel
theorem dX12_readType_181 : decode cX12_readType 181 = .ok (.aload_n 0, 1) := by decide +kernel
theorem dX12_readType_182 : decode cX12_readType 182 = .ok (.iconst 1, 1) := by decide +kernel
theorem dX12_readType_183 : decode cX12_readType 183 = .ok (.aload_n 0, 1) := by decide +kernel
theorem dX12_readType_184 : decode cX12_readType 184 = .ok (.getfield 207, 3) := by decide +kernel
theorem dX12_readType_187 : decode cX12_readType 187 = .ok (.invokevirtual 232, 3) := by decide +kernel
theorem dX12_readType_190 : decode cX12_readType 190 = .ok (.ireturn, 1) := by decide +kernel
theorem dX12_readType_191 : decode cX12_readType 191 = .ok (.aload_n 0, 1) := by decide +kernel
theorem dX12_readType_192 : decode cX12_readType 192 = .ok (.getfield 254, 3) := by decide +kernel
theorem dX12_readType_195 : decode cX12_readType 195 = .ok (.bipush 12, 2) := by decide +kernel
theorem dX12_readType_197 : decode cX12_readType 197 = .ok (.if_icmp .ne 13, 3) := by decide +kernel
theorem dX12_readType_200 : decode cX12_readType 200 = .ok (.aload_n 0, 1) := by decide +kernel
theorem dX12_readType_201 : decode cX12_readType 201 = .ok (.iconst 5, 1) := by decide +kernel
theorem dX12_readType_202 : decode cX12_readType 202 = .ok (.aload_n 0, 1) := by decide +kernel
theorem dX12_readType_203 : decode cX12_readType 203 = .ok (.getfield 207, 3) := by decide +kernel
theorem dX12_readType_206 : decode cX12_readType 206 = .ok (.invokevirtual 232, 3) := by decide +kernel
theorem dX12_readType_209 : decode cX12_readType 209 = .ok (.ireturn, 1) := by decide +kernel
theorem dX12_readType_210 : decode cX12_readType 210 = .ok (.aload_n 0, 1) := by decide +kernel
theorem dX12_readType_211 : decode cX12_readType 211 = .ok (.iconst 1, 1) := by decide +kernel
theorem dX12_readType_212 : decode cX12_readType 212 = .ok (.invokevirtual 261, 3) := by decide +kernel
theorem dX12_readType_215 : decode cX12_readType 215 = .ok (.ifCond .ne 5, 3) := by decide +kernel
theorem dX12_readType_218 : decode cX12_readType 218 = .ok (.iconst 0, 1) := by decide +kernel
theorem dX12_readType_219 : decode cX12_readType 219 = .ok (.ireturn, 1) := by decide +kernel
theorem dX12_readType_220 : decode cX12_readType 220 = .ok (.aload_n 0, 1) := by decide +kernel
theorem dX12_readType_221 : decode cX12_readType 221 = .ok (.dup, 1) := by decide +kernel
theorem dX12_readType_222 : decode cX12_readType 222 = .ok (.getfield 254, 3) := by decide +kernel
theorem dX12_readType_225 : decode cX12_readType 225 = .ok (.iconst 1, 1) := by decide +kernel
theorem dX12_readType_226 : decode cX12_readType 226 = .ok (.iadd, 1) := by decide +kernel
theorem dX12_readType_227 : decode cX12_readType 227 = .ok (.putfield 254, 3) := by decide +kernel
theorem dX12_readType_230 : decode cX12_readType 230 = .ok (.aload_n 0, 1) := by decide +kernel
theorem dX12_readType_231 : decode cX12_readType 231 = .ok (.invokevirtual 236, 3) := by decide +kernel
theorem dX12_readType_234 : decode cX12_readType 234 = .ok (.iload_n 1, 1) := by decide +kernel
theorem dX12_readType_235 : decode cX12_readType 235 = .ok (.bipush 6, 2) := by decide +kernel
theorem dX12_readType_237 : decode cX12_readType 237 = .ok (.if_icmp .eq 9, 3) := by decide +kernel
theorem dX12_readType_240 : decode cX12_readType 240 = .ok (.iload_n 1, 1) := by decide +kernel
theorem dX12_readType_241 : decode cX12_readType 241 = .ok (.bipush 7, 2) := by decide +kernel
theorem dX12_readType_243 : decode cX12_readType 243 = .ok (.if_icmp .ne 13, 3) := by decide +kernel
theorem dX12_readType_246 : decode cX12_readType 246 = .ok (.aload_n 0, 1) := by decide +kernel
theorem dX12_readType_247 : decode cX12_readType 247 = .ok (.iload_n 1, 1) := by decide +kernel
theorem dX12_readType_248 : decode cX12_readType 248 = .ok (.invokevirtual 275, 3) := by decide +kernel
theorem dX12_readType_251 : decode cX12_readType 251 = .ok (.ifCond .ne 77, 3) := by decide +kernel
theorem dX12_readType_254 : decode cX12_readType 254 = .ok (.iconst 0, 1) := by decide +kernel
theorem dX12_readType_255 : decode cX12_readType 255 = .ok (.ireturn, 1) := by decide +kernel
theorem dX12_readType_256 : decode cX12_readType 256 = .ok (.aload_n 0, 1) := by decide +kernel
theorem dX12_readType_257 : decode cX12_readType 257 = .ok (.invokevirtual 257, 3) := by decide +kernel
theorem dX12_readType_260 : decode cX12_readType 260 = .ok (.ifCond .ne 5, 3) := by decide +kernel
theorem dX12_readType_263 : decode cX12_readType 263 = .ok (.iconst 0, 1) := by decide +kernel
theorem dX12_readType_264 : decode cX12_readType 264 = .ok (.ireturn, 1) := by decide +kernel
theorem dX12_readType_265 : decode cX12_readType 265 = .ok (.aload_n 0, 1) := by decide +kernel
theorem dX12_readType_266 : decode cX12_readType 266 = .ok (.getfield 268, 3) := by decide +kernel
theorem dX12_readType_269 : decode cX12_readType 269 = .ok (.istore_n 2, 1) := by decide +kernel
theorem dX12_readType_270 : decode cX12_readType 270 = .ok (.iload_n 1, 1) := by decide +kernel
theorem dX12_readType_271 : decode cX12_readType 271 = .ok (.iconst 4, 1) := by decide +kernel
theorem dX12_readType_272 : decode cX12_readType 272 = .ok (.if_icmp .eq 8, 3) := by decide +kernel
theorem dX12_readType_275 : decode cX12_readType 275 = .ok (.iload_n 1, 1) := by decide +kernel
theorem dX12_readType_276 : decode cX12_readType 276 = .ok (.iconst 5, 1) := by decide +kernel
theorem dX12_readType_277 : decode cX12_readType 277 = .ok (.if_icmp .ne 39, 3) := by decide +kernel
theorem dX12_readType_280 : decode cX12_readType 280 = .ok (.aload_n 0, 1) := by decide +kernel
theorem dX12_readType_281 : decode cX12_readType 281 = .ok (.bipush 46, 2) := by decide +kernel
theorem dX12_readType_283 : decode cX12_readType 283 = .ok (.invokevirtual 278, 3) := by decide +kernel
theorem dX12_readType_286 : decode cX12_readType 286 = .ok (.ifCond .eq 10, 3) := by decide +kernel
theorem dX12_readType_289 : decode cX12_readType 289 = .ok (.aload_n 0, 1) := by decide +kernel
theorem dX12_readType_290 : decode cX12_readType 290 = .ok (.invokevirtual 257, 3) := by decide +kernel
theorem dX12_readType_293 : decode cX12_readType 293 = .ok (.ifCond .ne 5, 3) := by decide +kernel
theorem dX12_readType_296 : decode cX12_readType 296 = .ok (.iconst 0, 1) := by decide +kernel
theorem dX12_readType_297 : decode cX12_readType 297 = .ok (.ireturn, 1) := by decide +kernel
theorem dX12_readType_298 : decode cX12_readType 298 = .ok (.aload_n 0, 1) := by decide +kernel
theorem dX12_readType_299 : decode cX12_readType 299 = .ok (.aload_n 0, 1) := by decide +kernel
theorem dX12_readType_300 : decode cX12_readType 300 = .ok (.iload_n 1, 1) := by decide +kernel
theorem dX12_readType_301 : decode cX12_readType 301 = .ok (.iload_n 2, 1) := by decide +kernel
theorem dX12_readType_302 : decode cX12_readType 302 = .ok (.aload_n 0, 1) := by decide +kernel
theorem dX12_readType_303 : decode cX12_readType 303 = .ok (.getfield 268, 3) := by decide +kernel
theorem dX12_readType_306 : decode cX12_readType 306 = .ok (.lconst 0, 1) := by decide +kernel
theorem dX12_readType_307 : decode cX12_readType 307 = .ok (.invokevirtual 264, 3) := by decide +kernel
theorem dX12_readType_310 : decode cX12_readType 310 = .ok (.putfield 268, 3) := by decide +kernel
theorem dX12_readType_313 : decode cX12_readType 313 = .ok (.goto 15, 3) := by decide +kernel
theorem dX12_readType_316 : decode cX12_readType 316 = .ok (.aload_n 0, 1) := by decide +kernel
theorem dX12_readType_317 : decode cX12_readType 317 = .ok (.aload_n 0, 1) := by decide +kernel
theorem dX12_readType_318 : decode cX12_readType 318 = .ok (.iload_n 1, 1) := by decide +kernel
theorem dX12_readType_319 : decode cX12_readType 319 = .ok (.iload_n 2, 1) := by decide +kernel
theorem dX12_readType_320 : decode cX12_readType 320 = .ok (.iconst (-1), 1) := by decide +kernel
theorem dX12_readType_321 : decode cX12_readType 321 = .ok (.lconst 0, 1) := by decide +kernel
theorem dX12_readType_322 : decode cX12_readType 322 = .ok (.invokevirtual 264, 3) := by decide +kernel
theorem dX12_readType_325 : decode cX12_readType 325 = .ok (.putfield 268, 3) := by decide +kernel
theorem dX12_readType_328 : decode cX12_readType 328 = .ok (.aload_n 0, 1) := by decide +kernel
theorem dX12_readType_329 : decode cX12_readType 329 = .ok (.dup, 1) := by decide +kernel
theorem dX12_readType_330 : decode cX12_readType 330 = .ok (.getfield 254, 3) := by decide +kernel
theorem dX12_readType_333 : decode cX12_readType 333 = .ok (.iconst 1, 1) := by decide +kernel
theorem dX12_readType_334 : decode cX12_readType 334 = .ok (.isub, 1) := by decide +kernel
theorem dX12_readType_335 : decode cX12_readType 335 = .ok (.putfield 254, 3) := by decide +kernel
theorem dX12_readType_338 : decode cX12_readType 338 = .ok (.iconst 1, 1) := by decide +kernel
theorem dX12_readType_339 : decode cX12_readType 339 = .ok (.ireturn, 1) := by decide +kernel
abbrev sc_12choiceT : Type := (iT → jT → Int32 → Option (Int32 × iT × jT)) × (iT → jT → Option (Int32 × iT × jT))
def sc_12choice_ok (l : Launch) (K : a_KT) (g : a_GT) (D0 : Nat) (R : sc_12choiceT) : Prop := (∀ {IA : iT} (I : iT) (J : jT) (F : fT) (x1 : Int32), FOK F → ∀ q : Int32 × iT × jT, R.1 I J x1 = some q → C l K g D0 0 0 yX12_choice cX12_choice 9 (some .boolean) [.ref 186, .int x1] (hg IA I J F) (fun r2 h2 => r2 = some (.int q.1) ∧ h2 = hg IA q.2.1 q.2.2 F)) ∧ (∀ {IA : iT} (I : iT) (J : jT) (F : fT), FOK F → ∀ q : Int32 × iT × jT, R.2 I J = some q → C l K g D0 0 0 yX12_readType cX12_readType 3 (some .boolean) [.ref 186] (hg IA I J F) (fun r2 h2 => r2 = some (.int q.1) ∧ h2 = hg IA q.2.1 q.2.2 F))
def mX12_choice_237 (R : sc_12choiceT) (k22 : iT → jT → Int32 → Int32 → Int32 → Option (Int32 × iT × jT)) (I : iT) (J : jT) (x1 : Int32) (x2 : Int32) (x3 : Int32) (w4 : Int64) (x6 : Int32) (x7 : Int32) (x8 : Int32) : Option (Int32 × iT × jT) := (mX12_isSign I 44).bind fun q1 => if q1 = 0 then (mX12_need (a_u2 I 186 36 x2) J 125).bind fun q2 => if q2.1 = 0 ∨ q2.1 = 1 then some (q2.1, q2.2.1, q2.2.2) else none else k22 I J x1 x2 (x3 + 1)
def mX12_choice_210 (R : sc_12choiceT) (k22 : iT → jT → Int32 → Int32 → Int32 → Option (Int32 × iT × jT)) (I : iT) (J : jT) (x1 : Int32) (x2 : Int32) (x3 : Int32) (w4 : Int64) (x6 : Int32) (x7 : Int32) (x8 : Int32) (s0 : Int32) (s1 : Int32) : Option (Int32 × iT × jT) := if inb s1 2800 then if x7 = ((-1)) then if inb x2 2800 then mX12_choice_237 R (k22) (a_u2 (a_u2 I 191 s1.toNatClampNeg s0) 189 x2.toNatClampNeg x6) J x1 x2 x3 w4 x6 x7 x8 else none else if inb x7 2800 then mX12_choice_237 R (k22) (a_u2 (a_u2 I 191 s1.toNatClampNeg s0) 191 x7.toNatClampNeg x6) J x1 x2 x3 w4 x6 x7 x8 else none else none
def mX12_choice_182 (R : sc_12choiceT) (k22 : iT → jT → Int32 → Int32 → Int32 → Option (Int32 × iT × jT)) (I : iT) (J : jT) (x1 : Int32) (x2 : Int32) (x3 : Int32) (w4 : Int64) (x6 : Int32) (x7 : Int32) (x8 : Int32) : Option (Int32 × iT × jT) := if x7 = ((-1)) then if inb x2 2800 then mX12_choice_210 R (k22) I J x1 x2 x3 w4 x6 x7 x8 (I 189 x2.toNatClampNeg) x6 else none else if inb x7 2800 then mX12_choice_210 R (k22) I J x1 x2 x3 w4 x6 x7 x8 (I 191 x7.toNatClampNeg) x6 else none
def mX12_choice_141 (R : sc_12choiceT) (k22 : iT → jT → Int32 → Int32 → Int32 → Option (Int32 × iT × jT)) : Nat → iT → jT → Int32 → Int32 → Int32 → Int64 → Int32 → Int32 → Int32 → Option (Int32 × iT × jT)
  | 0, _, _, _, _, _, _, _, _, _ => none
  | n + 1, I, J, x1, x2, x3, w4, x6, x7, x8 => if x8 = ((-1)) then mX12_choice_182 R (k22) I J x1 x2 x3 w4 x6 x7 x8 else if inb x8 2800 then (mX12_aligned (J 192 x8.toNatClampNeg)).bind fun q3 => (mX12_aligned w4).bind fun q4 => if 0 ≤ (lg_cmp q3 q4) then mX12_choice_182 R (k22) I J x1 x2 x3 w4 x6 x7 x8 else if inb x8 2800 then mX12_choice_141 R k22 n I J x1 x2 x3 w4 x6 x8 (I 191 x8.toNatClampNeg) else none else none
def mX12_choice_30 (R : sc_12choiceT) (k22 : iT → jT → Int32 → Int32 → Int32 → Option (Int32 × iT × jT)) (I : iT) (J : jT) (x1 : Int32) (x2 : Int32) (x3 : Int32) : Option (Int32 × iT × jT) := if (I 186 3) = 2 then (mX12_branch I J x2 (J 186 6)).bind fun q5 => if q5 = ((-1)) then if x3 = 6 then (mX12_bad I 5 (I 186 4)).bind fun q10 => if q10.1 = 0 ∨ q10.1 = 1 then some (q10.1, q10.2, J) else none else (mX12_look0 I J).bind fun q6 => (mX12_need q6.1 q6.2 58).bind fun q7 => if q7.1 = 0 then some (0, q7.2.1, q7.2.2) else (R.2 q7.2.1 q7.2.2).bind fun q8 => if q8.1 = 0 then some (0, q8.2.1, q8.2.2) else (mX12_node q8.2.1 q8.2.2 8 (q8.2.1 186 36) ((-1)) (J 186 6)).bind fun q9 => if inb x2 2800 then mX12_choice_141 R (k22) LF q9.2.1 q9.2.2 x1 x2 x3 (J 186 6) q9.1 ((-1)) (q9.2.1 189 x2.toNatClampNeg) else none else (mX12_bad I 2 (I 186 4)).bind fun q11 => if q11.1 = 0 ∨ q11.1 = 1 then some (q11.1, q11.2, J) else none else (mX12_bad I 1 (I 186 4)).bind fun q12 => if q12.1 = 0 ∨ q12.1 = 1 then some (q12.1, q12.2, J) else none
def mX12_choice_22 (R : sc_12choiceT) : Nat → iT → jT → Int32 → Int32 → Int32 → Option (Int32 × iT × jT)
  | 0, _, _, _, _, _ => none
  | n + 1, I, J, x1, x2, x3 => if x3 ≤ 0 then mX12_choice_30 R (mX12_choice_22 R n) I J x1 x2 x3 else (mX12_look0 I J).bind fun q13 => mX12_choice_30 R (mX12_choice_22 R n) q13.1 q13.2 x1 x2 x3
def bX12_choice (R : sc_12choiceT) (I : iT) (J : jT) (x1 : Int32) : Option (Int32 × iT × jT) := (mX12_need I J 123).bind fun q14 => if q14.1 = 0 then some (0, q14.2.1, q14.2.2) else (mX12_node q14.2.1 q14.2.2 x1 ((-1)) ((-1)) 0).bind fun q15 => mX12_choice_22 R LF q15.2.1 q15.2.2 x1 q15.1 0
def mX12_readType_328 (R : sc_12choiceT) (I : iT) (J : jT) (x1 : Int32) : Option (Int32 × iT × jT) := some (1, a_u2 I 186 35 ((I 186 35) - 1), J)
def mX12_readType_246 (R : sc_12choiceT) (I : iT) (J : jT) (x1 : Int32) : Option (Int32 × iT × jT) := (R.1 I J x1).bind fun q1 => if q1.1 = 0 then some (0, q1.2.1, q1.2.2) else mX12_readType_328 R q1.2.1 q1.2.2 x1
def mX12_readType_280 (R : sc_12choiceT) (I : iT) (J : jT) (x1 : Int32) (x2 : Int32) : Option (Int32 × iT × jT) := (mX12_need I J 46).bind fun q2 => if q2.1 = 0 then some (0, q2.2.1, q2.2.2) else (R.2 q2.2.1 q2.2.2).bind fun q3 => if q3.1 = 0 then some (0, q3.2.1, q3.2.2) else (mX12_node q3.2.1 q3.2.2 x1 x2 (q3.2.1 186 36) 0).bind fun q4 => mX12_readType_328 R (a_u2 q4.2.1 186 36 q4.1) q4.2.2 x1
def mX12_readType_175 (R : sc_12choiceT) (I : iT) (J : jT) (s0 : Int32) : Option (Int32 × iT × jT) := if s0 = ((-1)) then (mX12_bad I 1 (I 186 4)).bind fun q10 => if q10.1 = 0 ∨ q10.1 = 1 then some (q10.1, q10.2, J) else none else if (I 186 35) = 12 then (mX12_bad I 5 (I 186 4)).bind fun q9 => if q9.1 = 0 ∨ q9.1 = 1 then some (q9.1, q9.2, J) else none else (mX12_more I 1).bind fun q5 => if q5.1 = 0 then some (0, q5.2, J) else (mX12_look0 (a_u2 q5.2 186 35 ((q5.2 186 35) + 1)) J).bind fun q6 => if s0 = 6 then mX12_readType_246 R q6.1 q6.2 s0 else if s0 = 7 then mX12_readType_246 R q6.1 q6.2 s0 else (R.2 q6.1 q6.2).bind fun q7 => if q7.1 = 0 then some (0, q7.2.1, q7.2.2) else if s0 = 4 then mX12_readType_280 R q7.2.1 q7.2.2 s0 (q7.2.1 186 36) else if s0 = 5 then mX12_readType_280 R q7.2.1 q7.2.2 s0 (q7.2.1 186 36) else (mX12_node q7.2.1 q7.2.2 s0 (q7.2.1 186 36) ((-1)) 0).bind fun q8 => mX12_readType_328 R (a_u2 q8.2.1 186 36 q8.1) q8.2.2 s0
def bX12_readType (R : sc_12choiceT) (I : iT) (J : jT) : Option (Int32 × iT × jT) := if (I 186 3) = 102 then (mX12_more I 1).bind fun q22 => if q22.1 = 0 then some (0, q22.2, J) else (mX12_node q22.2 J 1 ((-1)) ((-1)) 0).bind fun q23 => (mX12_look0 (a_u2 q23.2.1 186 36 q23.1) q23.2.2).bind fun q24 => some (1, q24.1, q24.2) else if (I 186 3) = 2 then (mX12_findType I J (J 186 6)).bind fun q17 => if q17 = ((-1)) then (mX12_bad I 2 (I 186 4)).bind fun q21 => if q21.1 = 0 ∨ q21.1 = 1 then some (q21.1, q21.2, J) else none else (mX12_partsOf SF I q17).bind fun q18 => (mX12_more I q18).bind fun q19 => if q19.1 = 0 then some (0, q19.2, J) else (mX12_look0 (a_u2 q19.2 186 36 q17) J).bind fun q20 => some (1, q20.1, q20.2) else (mX12_isSign I 33).bind fun q11 => if q11 = 0 then (mX12_isSign I 63).bind fun q12 => if q12 = 0 then (mX12_isSign I 62).bind fun q13 => if q13 = 0 then (mX12_isSign I 60).bind fun q14 => if q14 = 0 then (mX12_isSign I 43).bind fun q15 => if q15 = 0 then (mX12_isSign I 38).bind fun q16 => if q16 = 0 then mX12_readType_175 R I J ((-1)) else mX12_readType_175 R I J 7 else mX12_readType_175 R I J 6 else mX12_readType_175 R I J 5 else mX12_readType_175 R I J 4 else mX12_readType_175 R I J 3 else mX12_readType_175 R I J 2
def sc_12choice : Nat → sc_12choiceT
  | 0 => (fun _ _ _ => none, fun _ _ => none)
  | n + 1 => (bX12_choice (sc_12choice n), bX12_readType (sc_12choice n))
def mX12_choice (n : Nat) : iT → jT → Int32 → Option (Int32 × iT × jT) := (sc_12choice n).1
def mX12_readType (n : Nat) : iT → jT → Option (Int32 × iT × jT) := (sc_12choice n).2
set_option maxRecDepth 100000 in
set_option maxHeartbeats 4000000 in
theorem tX12_choice_237 {l : Launch} {K : a_KT} {g : a_GT} {IA : iT} {D0 : Nat} {R : sc_12choiceT} (hko : a_kok K) (hB : 451 ≤ D0 + 1) (hR : sc_12choice_ok l K g D0 R) {F : fT} {k22 : iT → jT → Int32 → Int32 → Int32 → Option (Int32 × iT × jT)} (hk22 : ∀ (I : iT) (J : jT) (x1 : Int32) (x2 : Int32) (x3 : Int32) (_ : FOK F) (q : Int32 × iT × jT), k22 I J x1 x2 x3 = some q → E l K g (D0 + 1) 0 0 yX12_choice cX12_choice 9 (some .boolean) 22 [.ref 186, .int x1, .int x2, .int x3, .null, .null, .null, .null, .null] [] (hg IA I J F) (fun r2 h2 => r2 = some (.int q.1) ∧ h2 = hg IA q.2.1 q.2.2 F)) (I : iT) (J : jT) (x1 : Int32) (x2 : Int32) (x3 : Int32) (w4 : Int64) (x6 : Int32) (x7 : Int32) (x8 : Int32) (hF : FOK F) (q : Int32 × iT × jT) (hm : mX12_choice_237 R k22 I J x1 x2 x3 w4 x6 x7 x8 = some q) : E l K g (D0 + 1) 0 0 yX12_choice cX12_choice 9 (some .boolean) 237 [.ref 186, .int x1, .int x2, .int x3, .long w4, .null, .int x6, .int x7, .int x8] [] (hg IA I J F) (fun r2 h2 => r2 = some (.int q.1) ∧ h2 = hg IA q.2.1 q.2.2 F) := by
  unfold mX12_choice_237 at hm
  refine q_iinc (i := 3) (x3 + 1) rfl ic_1 rfl dX12_choice_237 ?_
  refine e_aload_n (i := 0) rfl dX12_choice_240 ?_
  refine e_bipush (v := 44) (by decide) dX12_choice_241 ?_
  obtain ⟨q1, eq1, hm⟩ := ob_some hm
  refine e_cV1 hko dX12_choice_243 ml_RX12_229 iz_186 (by decide) rfl (by omega) (Nat.le_of_ble_eq_true rfl) (tX12_isSign hko I J F hF 44 _ eq1) ?_
  rintro _ _ ⟨rfl, rfl⟩
  refine e_if_ne 22 dX12_choice_246 (by decide) (fun c_246 => ?_) (fun c_246 => ?_)
  · have hm := it_n c_246 hm
    refine e_weak [.ref 186, .int x1, .int x2, .int (x3 + 1), .null, .null, .null, .null, .null] ⟨rfl, ⟨rfl, ⟨rfl, ⟨rfl, ⟨trivial, ⟨trivial, ⟨trivial, ⟨trivial, ⟨trivial, trivial⟩⟩⟩⟩⟩⟩⟩⟩⟩ ?_
    exact hk22 I J x1 x2 (x3 + 1) hF _ hm
  · have hm := it_p c_246 hm
    refine e_aload_n (i := 0) rfl dX12_choice_249 ?_
    refine e_iload_n (i := 2) rfl dX12_choice_250 ?_
    refine l_putI 12 36 dX12_choice_251 fl_RX12_268 rfl rfl iz_186 (by decide) ?_
    refine e_aload_n (i := 0) rfl dX12_choice_254 ?_
    refine e_bipush (v := 125) (by decide) dX12_choice_255 ?_
    obtain ⟨q2, eq2, hm⟩ := ob_some hm
    refine e_cV1 hko dX12_choice_257 ml_RX12_278 iz_186 (by decide) rfl (by omega) (Nat.le_of_ble_eq_true rfl) (tX12_need hko (a_u2 I 186 36 x2) J F hF 125 _ eq2) ?_
    rintro _ _ ⟨rfl, rfl⟩
    obtain ⟨c_260, hm⟩ := gd_s hm
    refine e_zret dX12_choice_260 rfl (zz_nar c_260) ?_
    have hm := some_in hm
    subst hm
    exact ⟨rfl, rfl⟩
set_option maxRecDepth 100000 in
set_option maxHeartbeats 4000000 in
theorem tX12_choice_210 {l : Launch} {K : a_KT} {g : a_GT} {IA : iT} {D0 : Nat} {R : sc_12choiceT} (hko : a_kok K) (hB : 451 ≤ D0 + 1) (hR : sc_12choice_ok l K g D0 R) {F : fT} {k22 : iT → jT → Int32 → Int32 → Int32 → Option (Int32 × iT × jT)} (hk22 : ∀ (I : iT) (J : jT) (x1 : Int32) (x2 : Int32) (x3 : Int32) (_ : FOK F) (q : Int32 × iT × jT), k22 I J x1 x2 x3 = some q → E l K g (D0 + 1) 0 0 yX12_choice cX12_choice 9 (some .boolean) 22 [.ref 186, .int x1, .int x2, .int x3, .null, .null, .null, .null, .null] [] (hg IA I J F) (fun r2 h2 => r2 = some (.int q.1) ∧ h2 = hg IA q.2.1 q.2.2 F)) (I : iT) (J : jT) (x1 : Int32) (x2 : Int32) (x3 : Int32) (w4 : Int64) (x6 : Int32) (x7 : Int32) (x8 : Int32) (s0 : Int32) (s1 : Int32) (hF : FOK F) (q : Int32 × iT × jT) (hm : mX12_choice_210 R k22 I J x1 x2 x3 w4 x6 x7 x8 s0 s1 = some q) : E l K g (D0 + 1) 0 0 yX12_choice cX12_choice 9 (some .boolean) 210 [.ref 186, .int x1, .int x2, .int x3, .long w4, .null, .int x6, .int x7, .int x8] [.int s0, .int s1, .ref 191] (hg IA I J F) (fun r2 h2 => r2 = some (.int q.1) ∧ h2 = hg IA q.2.1 q.2.2 F) := by
  unfold mX12_choice_210 at hm
  obtain ⟨c_210, hm⟩ := gd_s hm
  refine l_iast dX12_choice_210 iz_191 (inb_in ln_191 c_210) (by decide) ?_
  refine e_iload (i := 7) rfl dX12_choice_211 ?_
  refine e_iconst (v := (-1)) (by decide) dX12_choice_213 ?_
  refine e_icmp_ne 228 dX12_choice_214 (by decide) (fun c_214 => ?_) (fun c_214 => ?_)
  · have hm := it_n c_214 hm
    refine e_aload_n (i := 0) rfl dX12_choice_228 ?_
    refine q_getF 12 14 191 dX12_choice_229 fl_RX12_26 rfl iz_186 (fr_186_14 hF) ?_
    refine e_iload (i := 7) rfl dX12_choice_232 ?_
    refine e_iload (i := 6) rfl dX12_choice_234 ?_
    obtain ⟨c_236, hm⟩ := gd_s hm
    refine l_iast dX12_choice_236 iz_191 (inb_in ln_191 c_236) (by decide) ?_
    refine e_weak [.ref 186, .int x1, .int x2, .int x3, .long w4, .null, .int x6, .int x7, .int x8] ⟨rfl, ⟨rfl, ⟨rfl, ⟨rfl, ⟨rfl, ⟨trivial, ⟨rfl, ⟨rfl, ⟨rfl, trivial⟩⟩⟩⟩⟩⟩⟩⟩⟩ ?_
    exact tX12_choice_237 hko hB hR (hk22) (a_u2 (a_u2 I 191 s1.toNatClampNeg s0) 191 x7.toNatClampNeg x6) J x1 x2 x3 w4 x6 x7 x8 hF _ hm
  · have hm := it_p c_214 hm
    refine e_aload_n (i := 0) rfl dX12_choice_217 ?_
    refine q_getF 12 12 189 dX12_choice_218 fl_RX12_20 rfl iz_186 (fr_186_12 hF) ?_
    refine e_iload_n (i := 2) rfl dX12_choice_221 ?_
    refine e_iload (i := 6) rfl dX12_choice_222 ?_
    obtain ⟨c_224, hm⟩ := gd_s hm
    refine l_iast dX12_choice_224 iz_189 (inb_in ln_189 c_224) (by decide) ?_
    refine e_goto 237 dX12_choice_225 (by decide) ?_
    refine e_weak [.ref 186, .int x1, .int x2, .int x3, .long w4, .null, .int x6, .int x7, .int x8] ⟨rfl, ⟨rfl, ⟨rfl, ⟨rfl, ⟨rfl, ⟨trivial, ⟨rfl, ⟨rfl, ⟨rfl, trivial⟩⟩⟩⟩⟩⟩⟩⟩⟩ ?_
    exact tX12_choice_237 hko hB hR (hk22) (a_u2 (a_u2 I 191 s1.toNatClampNeg s0) 189 x2.toNatClampNeg x6) J x1 x2 x3 w4 x6 x7 x8 hF _ hm
set_option maxRecDepth 100000 in
set_option maxHeartbeats 4000000 in
theorem tX12_choice_182 {l : Launch} {K : a_KT} {g : a_GT} {IA : iT} {D0 : Nat} {R : sc_12choiceT} (hko : a_kok K) (hB : 451 ≤ D0 + 1) (hR : sc_12choice_ok l K g D0 R) {F : fT} {k22 : iT → jT → Int32 → Int32 → Int32 → Option (Int32 × iT × jT)} (hk22 : ∀ (I : iT) (J : jT) (x1 : Int32) (x2 : Int32) (x3 : Int32) (_ : FOK F) (q : Int32 × iT × jT), k22 I J x1 x2 x3 = some q → E l K g (D0 + 1) 0 0 yX12_choice cX12_choice 9 (some .boolean) 22 [.ref 186, .int x1, .int x2, .int x3, .null, .null, .null, .null, .null] [] (hg IA I J F) (fun r2 h2 => r2 = some (.int q.1) ∧ h2 = hg IA q.2.1 q.2.2 F)) (I : iT) (J : jT) (x1 : Int32) (x2 : Int32) (x3 : Int32) (w4 : Int64) (x6 : Int32) (x7 : Int32) (x8 : Int32) (hF : FOK F) (q : Int32 × iT × jT) (hm : mX12_choice_182 R k22 I J x1 x2 x3 w4 x6 x7 x8 = some q) : E l K g (D0 + 1) 0 0 yX12_choice cX12_choice 9 (some .boolean) 182 [.ref 186, .int x1, .int x2, .int x3, .long w4, .null, .int x6, .int x7, .int x8] [] (hg IA I J F) (fun r2 h2 => r2 = some (.int q.1) ∧ h2 = hg IA q.2.1 q.2.2 F) := by
  unfold mX12_choice_182 at hm
  refine e_aload_n (i := 0) rfl dX12_choice_182 ?_
  refine q_getF 12 14 191 dX12_choice_183 fl_RX12_26 rfl iz_186 (fr_186_14 hF) ?_
  refine e_iload (i := 6) rfl dX12_choice_186 ?_
  refine e_iload (i := 7) rfl dX12_choice_188 ?_
  refine e_iconst (v := (-1)) (by decide) dX12_choice_190 ?_
  refine e_icmp_ne 203 dX12_choice_191 (by decide) (fun c_191 => ?_) (fun c_191 => ?_)
  · have hm := it_n c_191 hm
    refine e_aload_n (i := 0) rfl dX12_choice_203 ?_
    refine q_getF 12 14 191 dX12_choice_204 fl_RX12_26 rfl iz_186 (fr_186_14 hF) ?_
    refine e_iload (i := 7) rfl dX12_choice_207 ?_
    obtain ⟨c_209, hm⟩ := gd_s hm
    refine l_iald dX12_choice_209 iz_191 (inb_in ln_191 c_209) (by decide) ?_
    refine e_weak [.ref 186, .int x1, .int x2, .int x3, .long w4, .null, .int x6, .int x7, .int x8] ⟨rfl, ⟨rfl, ⟨rfl, ⟨rfl, ⟨rfl, ⟨trivial, ⟨rfl, ⟨rfl, ⟨rfl, trivial⟩⟩⟩⟩⟩⟩⟩⟩⟩ ?_
    exact tX12_choice_210 hko hB hR (hk22) I J x1 x2 x3 w4 x6 x7 x8 (I 191 x7.toNatClampNeg) x6 hF _ hm
  · have hm := it_p c_191 hm
    refine e_aload_n (i := 0) rfl dX12_choice_194 ?_
    refine q_getF 12 12 189 dX12_choice_195 fl_RX12_20 rfl iz_186 (fr_186_12 hF) ?_
    refine e_iload_n (i := 2) rfl dX12_choice_198 ?_
    obtain ⟨c_199, hm⟩ := gd_s hm
    refine l_iald dX12_choice_199 iz_189 (inb_in ln_189 c_199) (by decide) ?_
    refine e_goto 210 dX12_choice_200 (by decide) ?_
    refine e_weak [.ref 186, .int x1, .int x2, .int x3, .long w4, .null, .int x6, .int x7, .int x8] ⟨rfl, ⟨rfl, ⟨rfl, ⟨rfl, ⟨rfl, ⟨trivial, ⟨rfl, ⟨rfl, ⟨rfl, trivial⟩⟩⟩⟩⟩⟩⟩⟩⟩ ?_
    exact tX12_choice_210 hko hB hR (hk22) I J x1 x2 x3 w4 x6 x7 x8 (I 189 x2.toNatClampNeg) x6 hF _ hm
set_option maxRecDepth 100000 in
set_option maxHeartbeats 4000000 in
theorem tX12_choice_141 {l : Launch} {K : a_KT} {g : a_GT} {IA : iT} {D0 : Nat} {R : sc_12choiceT} (hko : a_kok K) (hB : 451 ≤ D0 + 1) (hR : sc_12choice_ok l K g D0 R) {F : fT} {k22 : iT → jT → Int32 → Int32 → Int32 → Option (Int32 × iT × jT)} (hk22 : ∀ (I : iT) (J : jT) (x1 : Int32) (x2 : Int32) (x3 : Int32) (_ : FOK F) (q : Int32 × iT × jT), k22 I J x1 x2 x3 = some q → E l K g (D0 + 1) 0 0 yX12_choice cX12_choice 9 (some .boolean) 22 [.ref 186, .int x1, .int x2, .int x3, .null, .null, .null, .null, .null] [] (hg IA I J F) (fun r2 h2 => r2 = some (.int q.1) ∧ h2 = hg IA q.2.1 q.2.2 F)) : ∀ (n : Nat) (I : iT) (J : jT) (x1 : Int32) (x2 : Int32) (x3 : Int32) (w4 : Int64) (x6 : Int32) (x7 : Int32) (x8 : Int32) (hF : FOK F) (q : Int32 × iT × jT), mX12_choice_141 R k22 n I J x1 x2 x3 w4 x6 x7 x8 = some q → E l K g (D0 + 1) 0 0 yX12_choice cX12_choice 9 (some .boolean) 141 [.ref 186, .int x1, .int x2, .int x3, .long w4, .null, .int x6, .int x7, .int x8] [] (hg IA I J F) (fun r2 h2 => r2 = some (.int q.1) ∧ h2 = hg IA q.2.1 q.2.2 F) := by
  intro n
  induction n with
  | zero => intro I J x1 x2 x3 w4 x6 x7 x8 hF q hm; cases hm
  | succ n ih =>
    intro I J x1 x2 x3 w4 x6 x7 x8 hF q hm
    rw [mX12_choice_141] at hm
    refine e_iload (i := 8) rfl dX12_choice_141 ?_
    refine e_iconst (v := (-1)) (by decide) dX12_choice_143 ?_
    refine e_icmp_eq 182 dX12_choice_144 (by decide) (fun c_144 => ?_) (fun c_144 => ?_)
    · have hm := it_p c_144 hm
      refine e_weak [.ref 186, .int x1, .int x2, .int x3, .long w4, .null, .int x6, .int x7, .int x8] ⟨rfl, ⟨rfl, ⟨rfl, ⟨rfl, ⟨rfl, ⟨trivial, ⟨rfl, ⟨rfl, ⟨rfl, trivial⟩⟩⟩⟩⟩⟩⟩⟩⟩ ?_
      exact tX12_choice_182 hko hB hR (hk22) I J x1 x2 x3 w4 x6 x7 x8 hF _ hm
    · have hm := it_n c_144 hm
      refine e_aload_n (i := 0) rfl dX12_choice_147 ?_
      refine q_getF 12 15 192 dX12_choice_148 fl_RX12_29 rfl iz_186 (fr_186_15 hF) ?_
      refine e_iload (i := 8) rfl dX12_choice_151 ?_
      obtain ⟨c_153, hm⟩ := gd_s hm
      refine q_lald dX12_choice_153 iz_192 (inb_in ln_192 c_153) ?_
      obtain ⟨q3, eq3, hm⟩ := ob_some hm
      refine e_cS1 hko dX12_choice_154 ml_RX12_285 (by omega) (Nat.le_of_ble_eq_true rfl) (tX12_aligned hko I J F hF (J 192 x8.toNatClampNeg) _ eq3) ?_
      rintro _ _ ⟨rfl, rfl⟩
      refine e_lload (i := 4) rfl dX12_choice_157 ?_
      obtain ⟨q4, eq4, hm⟩ := ob_some hm
      refine e_cS1 hko dX12_choice_159 ml_RX12_285 (by omega) (Nat.le_of_ble_eq_true rfl) (tX12_aligned hko I J F hF w4 _ eq4) ?_
      rintro _ _ ⟨rfl, rfl⟩
      refine e_lcmp dX12_choice_162 ?_
      refine e_if_ge 182 dX12_choice_163 (by decide) (fun c_163 => ?_) (fun c_163 => ?_)
      · have hm := it_p c_163 hm
        refine e_weak [.ref 186, .int x1, .int x2, .int x3, .long w4, .null, .int x6, .int x7, .int x8] ⟨rfl, ⟨rfl, ⟨rfl, ⟨rfl, ⟨rfl, ⟨trivial, ⟨rfl, ⟨rfl, ⟨rfl, trivial⟩⟩⟩⟩⟩⟩⟩⟩⟩ ?_
        exact tX12_choice_182 hko hB hR (hk22) I J x1 x2 x3 w4 x6 x7 x8 hF _ hm
      · have hm := it_n c_163 hm
        refine e_iload (i := 8) rfl dX12_choice_166 ?_
        refine q_istore (i := 7) (by decide) rfl dX12_choice_168 ?_
        refine e_aload_n (i := 0) rfl dX12_choice_170 ?_
        refine q_getF 12 14 191 dX12_choice_171 fl_RX12_26 rfl iz_186 (fr_186_14 hF) ?_
        refine e_iload (i := 8) rfl dX12_choice_174 ?_
        obtain ⟨c_176, hm⟩ := gd_s hm
        refine l_iald dX12_choice_176 iz_191 (inb_in ln_191 c_176) (by decide) ?_
        refine q_istore (i := 8) (by decide) rfl dX12_choice_177 ?_
        refine e_goto 141 dX12_choice_179 (by decide) ?_
        refine e_weak [.ref 186, .int x1, .int x2, .int x3, .long w4, .null, .int x6, .int x8, .int (I 191 x8.toNatClampNeg)] ⟨rfl, ⟨rfl, ⟨rfl, ⟨rfl, ⟨rfl, ⟨trivial, ⟨rfl, ⟨rfl, ⟨rfl, trivial⟩⟩⟩⟩⟩⟩⟩⟩⟩ ?_
        exact ih I J x1 x2 x3 w4 x6 x8 (I 191 x8.toNatClampNeg) hF _ hm
set_option maxRecDepth 100000 in
set_option maxHeartbeats 4000000 in
theorem tX12_choice_30 {l : Launch} {K : a_KT} {g : a_GT} {IA : iT} {D0 : Nat} {R : sc_12choiceT} (hko : a_kok K) (hB : 451 ≤ D0 + 1) (hR : sc_12choice_ok l K g D0 R) {F : fT} {k22 : iT → jT → Int32 → Int32 → Int32 → Option (Int32 × iT × jT)} (hk22 : ∀ (I : iT) (J : jT) (x1 : Int32) (x2 : Int32) (x3 : Int32) (_ : FOK F) (q : Int32 × iT × jT), k22 I J x1 x2 x3 = some q → E l K g (D0 + 1) 0 0 yX12_choice cX12_choice 9 (some .boolean) 22 [.ref 186, .int x1, .int x2, .int x3, .null, .null, .null, .null, .null] [] (hg IA I J F) (fun r2 h2 => r2 = some (.int q.1) ∧ h2 = hg IA q.2.1 q.2.2 F)) (I : iT) (J : jT) (x1 : Int32) (x2 : Int32) (x3 : Int32) (hF : FOK F) (q : Int32 × iT × jT) (hm : mX12_choice_30 R k22 I J x1 x2 x3 = some q) : E l K g (D0 + 1) 0 0 yX12_choice cX12_choice 9 (some .boolean) 30 [.ref 186, .int x1, .int x2, .int x3, .null, .null, .null, .null, .null] [] (hg IA I J F) (fun r2 h2 => r2 = some (.int q.1) ∧ h2 = hg IA q.2.1 q.2.2 F) := by
  unfold mX12_choice_30 at hm
  refine e_aload_n (i := 0) rfl dX12_choice_30 ?_
  refine l_getI 12 3 dX12_choice_31 fl_RX12_210 rfl iz_186 (by decide) ?_
  refine e_iconst (v := 2) (by decide) dX12_choice_34 ?_
  refine e_icmp_eq 48 dX12_choice_35 (by decide) (fun c_35 => ?_) (fun c_35 => ?_)
  · have hm := it_p c_35 hm
    refine e_aload_n (i := 0) rfl dX12_choice_48 ?_
    refine e_iload_n (i := 2) rfl dX12_choice_49 ?_
    refine e_aload_n (i := 0) rfl dX12_choice_50 ?_
    refine q_getJ 12 6 dX12_choice_51 fl_RX12_162 rfl iz_186 ?_
    obtain ⟨q5, eq5, hm⟩ := ob_some hm
    refine e_cV2 hko dX12_choice_54 ml_RX12_281 iz_186 (by decide) rfl (by omega) (Nat.le_of_ble_eq_true rfl) (tX12_branch hko I J F hF x2 (J 186 6) _ eq5) ?_
    rintro _ _ ⟨rfl, rfl⟩
    refine e_iconst (v := (-1)) (by decide) dX12_choice_57 ?_
    refine e_icmp_eq 71 dX12_choice_58 (by decide) (fun c_58 => ?_) (fun c_58 => ?_)
    · have hm := it_p c_58 hm
      refine e_iload_n (i := 3) rfl dX12_choice_71 ?_
      refine e_bipush (v := 6) (by decide) dX12_choice_72 ?_
      refine e_icmp_ne 87 dX12_choice_74 (by decide) (fun c_74 => ?_) (fun c_74 => ?_)
      · have hm := it_n c_74 hm
        refine e_aload_n (i := 0) rfl dX12_choice_87 ?_
        refine q_getJ 12 6 dX12_choice_88 fl_RX12_162 rfl iz_186 ?_
        refine e_lstore (i := 4) (by decide) dX12_choice_91 ?_
        refine e_aload_n (i := 0) rfl dX12_choice_93 ?_
        obtain ⟨q6, eq6, hm⟩ := ob_some hm
        refine e_cV0 hko dX12_choice_94 ml_RX12_236 iz_186 (by decide) rfl (by omega) (Nat.le_of_ble_eq_true rfl) (tX12_look0 hko I J F hF _ eq6) ?_
        rintro _ _ ⟨rfl, rfl⟩
        refine e_aload_n (i := 0) rfl dX12_choice_97 ?_
        refine e_bipush (v := 58) (by decide) dX12_choice_98 ?_
        obtain ⟨q7, eq7, hm⟩ := ob_some hm
        refine e_cV1 hko dX12_choice_100 ml_RX12_278 iz_186 (by decide) rfl (by omega) (Nat.le_of_ble_eq_true rfl) (tX12_need hko q6.1 q6.2 F hF 58 _ eq7) ?_
        rintro _ _ ⟨rfl, rfl⟩
        refine e_if_eq 113 dX12_choice_103 (by decide) (fun c_103 => ?_) (fun c_103 => ?_)
        · have hm := it_p c_103 hm
          refine e_iconst (v := 0) (by decide) dX12_choice_113 ?_
          refine e_zret dX12_choice_114 rfl rfl ?_
          have hm := some_in hm
          subst hm
          exact ⟨rfl, rfl⟩
        · have hm := it_n c_103 hm
          refine e_aload_n (i := 0) rfl dX12_choice_106 ?_
          obtain ⟨q8, eq8, hm⟩ := ob_some hm
          refine e_cV0 hko dX12_choice_107 ml_RX12_257 iz_186 (by decide) rfl (by omega) (Nat.le_of_ble_eq_true rfl) (hR.2 q7.2.1 q7.2.2 F hF q8 eq8) ?_
          rintro _ _ ⟨rfl, rfl⟩
          refine e_if_ne 115 dX12_choice_110 (by decide) (fun c_110 => ?_) (fun c_110 => ?_)
          · have hm := it_n c_110 hm
            refine e_aload_n (i := 0) rfl dX12_choice_115 ?_
            refine e_bipush (v := 8) (by decide) dX12_choice_116 ?_
            refine e_aload_n (i := 0) rfl dX12_choice_118 ?_
            refine l_getI 12 36 dX12_choice_119 fl_RX12_268 rfl iz_186 (by decide) ?_
            refine e_iconst (v := (-1)) (by decide) dX12_choice_122 ?_
            refine e_lload (i := 4) rfl dX12_choice_123 ?_
            obtain ⟨q9, eq9, hm⟩ := ob_some hm
            refine e_cV4 hko dX12_choice_125 ml_RX12_264 iz_186 (by decide) rfl (by omega) (Nat.le_of_ble_eq_true rfl) (tX12_node hko q8.2.1 q8.2.2 F hF 8 (q8.2.1 186 36) ((-1)) (J 186 6) _ eq9) ?_
            rintro _ _ ⟨rfl, rfl⟩
            refine q_istore (i := 6) (by decide) rfl dX12_choice_128 ?_
            refine e_iconst (v := (-1)) (by decide) dX12_choice_130 ?_
            refine q_istore (i := 7) (by decide) rfl dX12_choice_131 ?_
            refine e_aload_n (i := 0) rfl dX12_choice_133 ?_
            refine q_getF 12 12 189 dX12_choice_134 fl_RX12_20 rfl iz_186 (fr_186_12 hF) ?_
            refine e_iload_n (i := 2) rfl dX12_choice_137 ?_
            obtain ⟨c_138, hm⟩ := gd_s hm
            refine l_iald dX12_choice_138 iz_189 (inb_in ln_189 c_138) (by decide) ?_
            refine q_istore (i := 8) (by decide) rfl dX12_choice_139 ?_
            refine e_weak [.ref 186, .int x1, .int x2, .int x3, .long (J 186 6), .null, .int q9.1, .int ((-1)), .int (q9.2.1 189 x2.toNatClampNeg)] ⟨rfl, ⟨rfl, ⟨rfl, ⟨rfl, ⟨rfl, ⟨trivial, ⟨rfl, ⟨rfl, ⟨rfl, trivial⟩⟩⟩⟩⟩⟩⟩⟩⟩ ?_
            exact tX12_choice_141 hko hB hR (hk22) LF q9.2.1 q9.2.2 x1 x2 x3 (J 186 6) q9.1 ((-1)) (q9.2.1 189 x2.toNatClampNeg) hF _ hm
          · have hm := it_p c_110 hm
            refine e_iconst (v := 0) (by decide) dX12_choice_113 ?_
            refine e_zret dX12_choice_114 rfl rfl ?_
            have hm := some_in hm
            subst hm
            exact ⟨rfl, rfl⟩
      · have hm := it_p c_74 hm
        refine e_aload_n (i := 0) rfl dX12_choice_77 ?_
        refine e_iconst (v := 5) (by decide) dX12_choice_78 ?_
        refine e_aload_n (i := 0) rfl dX12_choice_79 ?_
        refine l_getI 12 4 dX12_choice_80 fl_RX12_207 rfl iz_186 (by decide) ?_
        obtain ⟨q10, eq10, hm⟩ := ob_some hm
        refine e_cV2 hko dX12_choice_83 ml_RX12_232 iz_186 (by decide) rfl (by omega) (Nat.le_of_ble_eq_true rfl) (tX12_bad hko I J F hF 5 (I 186 4) _ eq10) ?_
        rintro _ _ ⟨rfl, rfl⟩
        obtain ⟨c_86, hm⟩ := gd_s hm
        refine e_zret dX12_choice_86 rfl (zz_nar c_86) ?_
        have hm := some_in hm
        subst hm
        exact ⟨rfl, rfl⟩
    · have hm := it_n c_58 hm
      refine e_aload_n (i := 0) rfl dX12_choice_61 ?_
      refine e_iconst (v := 2) (by decide) dX12_choice_62 ?_
      refine e_aload_n (i := 0) rfl dX12_choice_63 ?_
      refine l_getI 12 4 dX12_choice_64 fl_RX12_207 rfl iz_186 (by decide) ?_
      obtain ⟨q11, eq11, hm⟩ := ob_some hm
      refine e_cV2 hko dX12_choice_67 ml_RX12_232 iz_186 (by decide) rfl (by omega) (Nat.le_of_ble_eq_true rfl) (tX12_bad hko I J F hF 2 (I 186 4) _ eq11) ?_
      rintro _ _ ⟨rfl, rfl⟩
      obtain ⟨c_70, hm⟩ := gd_s hm
      refine e_zret dX12_choice_70 rfl (zz_nar c_70) ?_
      have hm := some_in hm
      subst hm
      exact ⟨rfl, rfl⟩
  · have hm := it_n c_35 hm
    refine e_aload_n (i := 0) rfl dX12_choice_38 ?_
    refine e_iconst (v := 1) (by decide) dX12_choice_39 ?_
    refine e_aload_n (i := 0) rfl dX12_choice_40 ?_
    refine l_getI 12 4 dX12_choice_41 fl_RX12_207 rfl iz_186 (by decide) ?_
    obtain ⟨q12, eq12, hm⟩ := ob_some hm
    refine e_cV2 hko dX12_choice_44 ml_RX12_232 iz_186 (by decide) rfl (by omega) (Nat.le_of_ble_eq_true rfl) (tX12_bad hko I J F hF 1 (I 186 4) _ eq12) ?_
    rintro _ _ ⟨rfl, rfl⟩
    obtain ⟨c_47, hm⟩ := gd_s hm
    refine e_zret dX12_choice_47 rfl (zz_nar c_47) ?_
    have hm := some_in hm
    subst hm
    exact ⟨rfl, rfl⟩
set_option maxRecDepth 100000 in
set_option maxHeartbeats 4000000 in
theorem tX12_choice_22 {l : Launch} {K : a_KT} {g : a_GT} {IA : iT} {D0 : Nat} {R : sc_12choiceT} (hko : a_kok K) (hB : 451 ≤ D0 + 1) (hR : sc_12choice_ok l K g D0 R) {F : fT} : ∀ (n : Nat) (I : iT) (J : jT) (x1 : Int32) (x2 : Int32) (x3 : Int32) (hF : FOK F) (q : Int32 × iT × jT), mX12_choice_22 R n I J x1 x2 x3 = some q → E l K g (D0 + 1) 0 0 yX12_choice cX12_choice 9 (some .boolean) 22 [.ref 186, .int x1, .int x2, .int x3, .null, .null, .null, .null, .null] [] (hg IA I J F) (fun r2 h2 => r2 = some (.int q.1) ∧ h2 = hg IA q.2.1 q.2.2 F) := by
  intro n
  induction n with
  | zero => intro I J x1 x2 x3 hF q hm; cases hm
  | succ n ih =>
    intro I J x1 x2 x3 hF q hm
    rw [mX12_choice_22] at hm
    refine e_iload_n (i := 3) rfl dX12_choice_22 ?_
    refine e_if_le 30 dX12_choice_23 (by decide) (fun c_23 => ?_) (fun c_23 => ?_)
    · have hm := it_p c_23 hm
      refine e_weak [.ref 186, .int x1, .int x2, .int x3, .null, .null, .null, .null, .null] ⟨rfl, ⟨rfl, ⟨rfl, ⟨rfl, ⟨trivial, ⟨trivial, ⟨trivial, ⟨trivial, ⟨trivial, trivial⟩⟩⟩⟩⟩⟩⟩⟩⟩ ?_
      exact tX12_choice_30 hko hB hR (ih) I J x1 x2 x3 hF _ hm
    · have hm := it_n c_23 hm
      refine e_aload_n (i := 0) rfl dX12_choice_26 ?_
      obtain ⟨q13, eq13, hm⟩ := ob_some hm
      refine e_cV0 hko dX12_choice_27 ml_RX12_236 iz_186 (by decide) rfl (by omega) (Nat.le_of_ble_eq_true rfl) (tX12_look0 hko I J F hF _ eq13) ?_
      rintro _ _ ⟨rfl, rfl⟩
      refine e_weak [.ref 186, .int x1, .int x2, .int x3, .null, .null, .null, .null, .null] ⟨rfl, ⟨rfl, ⟨rfl, ⟨rfl, ⟨trivial, ⟨trivial, ⟨trivial, ⟨trivial, ⟨trivial, trivial⟩⟩⟩⟩⟩⟩⟩⟩⟩ ?_
      exact tX12_choice_30 hko hB hR (ih) q13.1 q13.2 x1 x2 x3 hF _ hm
set_option maxRecDepth 100000 in
set_option maxHeartbeats 4000000 in
theorem tbX12_choice {l : Launch} {K : a_KT} {g : a_GT} {IA : iT} {D0 : Nat} {R : sc_12choiceT} (hko : a_kok K) (hB : 451 ≤ D0 + 1) (hR : sc_12choice_ok l K g D0 R) (I : iT) (J : jT) (F : fT) (hF : FOK F) (x1 : Int32) (q : Int32 × iT × jT) (hm : bX12_choice R I J x1 = some q) : C l K g (D0 + 1) 0 0 yX12_choice cX12_choice 9 (some .boolean) [.ref 186, .int x1] (hg IA I J F) (fun r2 h2 => r2 = some (.int q.1) ∧ h2 = hg IA q.2.1 q.2.2 F) := by
  unfold bX12_choice at hm
  refine c_of [.ref 186, .int x1, .null, .null, .null, .null, .null, .null, .null] (by decide) (Nat.le_of_ble_eq_true rfl) rfl ?_
  refine e_aload_n (i := 0) rfl dX12_choice_0 ?_
  refine e_bipush (v := 123) (by decide) dX12_choice_1 ?_
  obtain ⟨q14, eq14, hm⟩ := ob_some hm
  refine e_cV1 hko dX12_choice_3 ml_RX12_278 iz_186 (by decide) rfl (by omega) (Nat.le_of_ble_eq_true rfl) (tX12_need hko I J F hF 123 _ eq14) ?_
  rintro _ _ ⟨rfl, rfl⟩
  refine e_if_ne 11 dX12_choice_6 (by decide) (fun c_6 => ?_) (fun c_6 => ?_)
  · have hm := it_n c_6 hm
    refine e_aload_n (i := 0) rfl dX12_choice_11 ?_
    refine e_iload_n (i := 1) rfl dX12_choice_12 ?_
    refine e_iconst (v := (-1)) (by decide) dX12_choice_13 ?_
    refine e_iconst (v := (-1)) (by decide) dX12_choice_14 ?_
    refine e_lconst (v := 0) (by decide) dX12_choice_15 ?_
    obtain ⟨q15, eq15, hm⟩ := ob_some hm
    refine e_cV4 hko dX12_choice_16 ml_RX12_264 iz_186 (by decide) rfl (by omega) (Nat.le_of_ble_eq_true rfl) (tX12_node hko q14.2.1 q14.2.2 F hF x1 ((-1)) ((-1)) 0 _ eq15) ?_
    rintro _ _ ⟨rfl, rfl⟩
    refine q_istore_n (i := 2) (by decide) rfl dX12_choice_19 ?_
    refine e_iconst (v := 0) (by decide) dX12_choice_20 ?_
    refine q_istore_n (i := 3) (by decide) rfl dX12_choice_21 ?_
    refine e_weak [.ref 186, .int x1, .int q15.1, .int 0, .null, .null, .null, .null, .null] ⟨rfl, ⟨rfl, ⟨rfl, ⟨rfl, ⟨trivial, ⟨trivial, ⟨trivial, ⟨trivial, ⟨trivial, trivial⟩⟩⟩⟩⟩⟩⟩⟩⟩ ?_
    exact tX12_choice_22 hko hB hR LF q15.2.1 q15.2.2 x1 q15.1 0 hF _ hm
  · have hm := it_p c_6 hm
    refine e_iconst (v := 0) (by decide) dX12_choice_9 ?_
    refine e_zret dX12_choice_10 rfl rfl ?_
    have hm := some_in hm
    subst hm
    exact ⟨rfl, rfl⟩
set_option maxRecDepth 100000 in
set_option maxHeartbeats 4000000 in
theorem tX12_readType_328 {l : Launch} {K : a_KT} {g : a_GT} {IA : iT} {D0 : Nat} {R : sc_12choiceT} (hko : a_kok K) (hB : 451 ≤ D0 + 1) (hR : sc_12choice_ok l K g D0 R) {F : fT} (I : iT) (J : jT) (x1 : Int32) (hF : FOK F) (q : Int32 × iT × jT) (hm : mX12_readType_328 R I J x1 = some q) : E l K g (D0 + 1) 0 0 yX12_readType cX12_readType 3 (some .boolean) 328 [.ref 186, .int x1, .null] [] (hg IA I J F) (fun r2 h2 => r2 = some (.int q.1) ∧ h2 = hg IA q.2.1 q.2.2 F) := by
  unfold mX12_readType_328 at hm
  refine e_aload_n (i := 0) rfl dX12_readType_328 ?_
  refine e_dup rfl dX12_readType_329 ?_
  refine l_getI 12 35 dX12_readType_330 fl_RX12_254 rfl iz_186 (by decide) ?_
  refine e_iconst (v := 1) (by decide) dX12_readType_333 ?_
  refine e_isub dX12_readType_334 ?_
  refine l_putI 12 35 dX12_readType_335 fl_RX12_254 rfl rfl iz_186 (by decide) ?_
  refine e_iconst (v := 1) (by decide) dX12_readType_338 ?_
  refine e_zret dX12_readType_339 rfl rfl ?_
  have hm := some_in hm
  subst hm
  exact ⟨rfl, rfl⟩
set_option maxRecDepth 100000 in
set_option maxHeartbeats 4000000 in
theorem tX12_readType_246 {l : Launch} {K : a_KT} {g : a_GT} {IA : iT} {D0 : Nat} {R : sc_12choiceT} (hko : a_kok K) (hB : 451 ≤ D0 + 1) (hR : sc_12choice_ok l K g D0 R) {F : fT} (I : iT) (J : jT) (x1 : Int32) (hF : FOK F) (q : Int32 × iT × jT) (hm : mX12_readType_246 R I J x1 = some q) : E l K g (D0 + 1) 0 0 yX12_readType cX12_readType 3 (some .boolean) 246 [.ref 186, .int x1, .null] [] (hg IA I J F) (fun r2 h2 => r2 = some (.int q.1) ∧ h2 = hg IA q.2.1 q.2.2 F) := by
  unfold mX12_readType_246 at hm
  refine e_aload_n (i := 0) rfl dX12_readType_246 ?_
  refine e_iload_n (i := 1) rfl dX12_readType_247 ?_
  obtain ⟨q1, eq1, hm⟩ := ob_some hm
  refine e_cV1 hko dX12_readType_248 ml_RX12_275 iz_186 (by decide) rfl (by omega) (Nat.le_of_ble_eq_true rfl) (hR.1 I J F x1 hF q1 eq1) ?_
  rintro _ _ ⟨rfl, rfl⟩
  refine e_if_ne 328 dX12_readType_251 (by decide) (fun c_251 => ?_) (fun c_251 => ?_)
  · have hm := it_n c_251 hm
    refine e_weak [.ref 186, .int x1, .null] ⟨rfl, ⟨rfl, ⟨trivial, trivial⟩⟩⟩ ?_
    exact tX12_readType_328 hko hB hR q1.2.1 q1.2.2 x1 hF _ hm
  · have hm := it_p c_251 hm
    refine e_iconst (v := 0) (by decide) dX12_readType_254 ?_
    refine e_zret dX12_readType_255 rfl rfl ?_
    have hm := some_in hm
    subst hm
    exact ⟨rfl, rfl⟩
set_option maxRecDepth 100000 in
set_option maxHeartbeats 4000000 in
theorem tX12_readType_280 {l : Launch} {K : a_KT} {g : a_GT} {IA : iT} {D0 : Nat} {R : sc_12choiceT} (hko : a_kok K) (hB : 451 ≤ D0 + 1) (hR : sc_12choice_ok l K g D0 R) {F : fT} (I : iT) (J : jT) (x1 : Int32) (x2 : Int32) (hF : FOK F) (q : Int32 × iT × jT) (hm : mX12_readType_280 R I J x1 x2 = some q) : E l K g (D0 + 1) 0 0 yX12_readType cX12_readType 3 (some .boolean) 280 [.ref 186, .int x1, .int x2] [] (hg IA I J F) (fun r2 h2 => r2 = some (.int q.1) ∧ h2 = hg IA q.2.1 q.2.2 F) := by
  unfold mX12_readType_280 at hm
  refine e_aload_n (i := 0) rfl dX12_readType_280 ?_
  refine e_bipush (v := 46) (by decide) dX12_readType_281 ?_
  obtain ⟨q2, eq2, hm⟩ := ob_some hm
  refine e_cV1 hko dX12_readType_283 ml_RX12_278 iz_186 (by decide) rfl (by omega) (Nat.le_of_ble_eq_true rfl) (tX12_need hko I J F hF 46 _ eq2) ?_
  rintro _ _ ⟨rfl, rfl⟩
  refine e_if_eq 296 dX12_readType_286 (by decide) (fun c_286 => ?_) (fun c_286 => ?_)
  · have hm := it_p c_286 hm
    refine e_iconst (v := 0) (by decide) dX12_readType_296 ?_
    refine e_zret dX12_readType_297 rfl rfl ?_
    have hm := some_in hm
    subst hm
    exact ⟨rfl, rfl⟩
  · have hm := it_n c_286 hm
    refine e_aload_n (i := 0) rfl dX12_readType_289 ?_
    obtain ⟨q3, eq3, hm⟩ := ob_some hm
    refine e_cV0 hko dX12_readType_290 ml_RX12_257 iz_186 (by decide) rfl (by omega) (Nat.le_of_ble_eq_true rfl) (hR.2 q2.2.1 q2.2.2 F hF q3 eq3) ?_
    rintro _ _ ⟨rfl, rfl⟩
    refine e_if_ne 298 dX12_readType_293 (by decide) (fun c_293 => ?_) (fun c_293 => ?_)
    · have hm := it_n c_293 hm
      refine e_aload_n (i := 0) rfl dX12_readType_298 ?_
      refine e_aload_n (i := 0) rfl dX12_readType_299 ?_
      refine e_iload_n (i := 1) rfl dX12_readType_300 ?_
      refine e_iload_n (i := 2) rfl dX12_readType_301 ?_
      refine e_aload_n (i := 0) rfl dX12_readType_302 ?_
      refine l_getI 12 36 dX12_readType_303 fl_RX12_268 rfl iz_186 (by decide) ?_
      refine e_lconst (v := 0) (by decide) dX12_readType_306 ?_
      obtain ⟨q4, eq4, hm⟩ := ob_some hm
      refine e_cV4 hko dX12_readType_307 ml_RX12_264 iz_186 (by decide) rfl (by omega) (Nat.le_of_ble_eq_true rfl) (tX12_node hko q3.2.1 q3.2.2 F hF x1 x2 (q3.2.1 186 36) 0 _ eq4) ?_
      rintro _ _ ⟨rfl, rfl⟩
      refine l_putI 12 36 dX12_readType_310 fl_RX12_268 rfl rfl iz_186 (by decide) ?_
      refine e_goto 328 dX12_readType_313 (by decide) ?_
      refine e_weak [.ref 186, .int x1, .null] ⟨rfl, ⟨rfl, ⟨trivial, trivial⟩⟩⟩ ?_
      exact tX12_readType_328 hko hB hR (a_u2 q4.2.1 186 36 q4.1) q4.2.2 x1 hF _ hm
    · have hm := it_p c_293 hm
      refine e_iconst (v := 0) (by decide) dX12_readType_296 ?_
      refine e_zret dX12_readType_297 rfl rfl ?_
      have hm := some_in hm
      subst hm
      exact ⟨rfl, rfl⟩
set_option maxRecDepth 100000 in
set_option maxHeartbeats 4000000 in
theorem tX12_readType_175 {l : Launch} {K : a_KT} {g : a_GT} {IA : iT} {D0 : Nat} {R : sc_12choiceT} (hko : a_kok K) (hB : 451 ≤ D0 + 1) (hR : sc_12choice_ok l K g D0 R) {F : fT} (I : iT) (J : jT) (s0 : Int32) (hF : FOK F) (q : Int32 × iT × jT) (hm : mX12_readType_175 R I J s0 = some q) : E l K g (D0 + 1) 0 0 yX12_readType cX12_readType 3 (some .boolean) 175 [.ref 186, .null, .null] [.int s0] (hg IA I J F) (fun r2 h2 => r2 = some (.int q.1) ∧ h2 = hg IA q.2.1 q.2.2 F) := by
  unfold mX12_readType_175 at hm
  refine q_istore_n (i := 1) (by decide) rfl dX12_readType_175 ?_
  refine e_iload_n (i := 1) rfl dX12_readType_176 ?_
  refine e_iconst (v := (-1)) (by decide) dX12_readType_177 ?_
  refine e_icmp_ne 191 dX12_readType_178 (by decide) (fun c_178 => ?_) (fun c_178 => ?_)
  · have hm := it_n c_178 hm
    refine e_aload_n (i := 0) rfl dX12_readType_191 ?_
    refine l_getI 12 35 dX12_readType_192 fl_RX12_254 rfl iz_186 (by decide) ?_
    refine e_bipush (v := 12) (by decide) dX12_readType_195 ?_
    refine e_icmp_ne 210 dX12_readType_197 (by decide) (fun c_197 => ?_) (fun c_197 => ?_)
    · have hm := it_n c_197 hm
      refine e_aload_n (i := 0) rfl dX12_readType_210 ?_
      refine e_iconst (v := 1) (by decide) dX12_readType_211 ?_
      obtain ⟨q5, eq5, hm⟩ := ob_some hm
      refine e_cV1 hko dX12_readType_212 ml_RX12_261 iz_186 (by decide) rfl (by omega) (Nat.le_of_ble_eq_true rfl) (tX12_more hko I J F hF 1 _ eq5) ?_
      rintro _ _ ⟨rfl, rfl⟩
      refine e_if_ne 220 dX12_readType_215 (by decide) (fun c_215 => ?_) (fun c_215 => ?_)
      · have hm := it_n c_215 hm
        refine e_aload_n (i := 0) rfl dX12_readType_220 ?_
        refine e_dup rfl dX12_readType_221 ?_
        refine l_getI 12 35 dX12_readType_222 fl_RX12_254 rfl iz_186 (by decide) ?_
        refine e_iconst (v := 1) (by decide) dX12_readType_225 ?_
        refine e_iadd dX12_readType_226 ?_
        refine l_putI 12 35 dX12_readType_227 fl_RX12_254 rfl rfl iz_186 (by decide) ?_
        refine e_aload_n (i := 0) rfl dX12_readType_230 ?_
        obtain ⟨q6, eq6, hm⟩ := ob_some hm
        refine e_cV0 hko dX12_readType_231 ml_RX12_236 iz_186 (by decide) rfl (by omega) (Nat.le_of_ble_eq_true rfl) (tX12_look0 hko (a_u2 q5.2 186 35 ((q5.2 186 35) + 1)) J F hF _ eq6) ?_
        rintro _ _ ⟨rfl, rfl⟩
        refine e_iload_n (i := 1) rfl dX12_readType_234 ?_
        refine e_bipush (v := 6) (by decide) dX12_readType_235 ?_
        refine e_icmp_eq 246 dX12_readType_237 (by decide) (fun c_237 => ?_) (fun c_237 => ?_)
        · have hm := it_p c_237 hm
          refine e_weak [.ref 186, .int s0, .null] ⟨rfl, ⟨rfl, ⟨trivial, trivial⟩⟩⟩ ?_
          exact tX12_readType_246 hko hB hR q6.1 q6.2 s0 hF _ hm
        · have hm := it_n c_237 hm
          refine e_iload_n (i := 1) rfl dX12_readType_240 ?_
          refine e_bipush (v := 7) (by decide) dX12_readType_241 ?_
          refine e_icmp_ne 256 dX12_readType_243 (by decide) (fun c_243 => ?_) (fun c_243 => ?_)
          · have hm := it_n c_243 hm
            refine e_aload_n (i := 0) rfl dX12_readType_256 ?_
            obtain ⟨q7, eq7, hm⟩ := ob_some hm
            refine e_cV0 hko dX12_readType_257 ml_RX12_257 iz_186 (by decide) rfl (by omega) (Nat.le_of_ble_eq_true rfl) (hR.2 q6.1 q6.2 F hF q7 eq7) ?_
            rintro _ _ ⟨rfl, rfl⟩
            refine e_if_ne 265 dX12_readType_260 (by decide) (fun c_260 => ?_) (fun c_260 => ?_)
            · have hm := it_n c_260 hm
              refine e_aload_n (i := 0) rfl dX12_readType_265 ?_
              refine l_getI 12 36 dX12_readType_266 fl_RX12_268 rfl iz_186 (by decide) ?_
              refine q_istore_n (i := 2) (by decide) rfl dX12_readType_269 ?_
              refine e_iload_n (i := 1) rfl dX12_readType_270 ?_
              refine e_iconst (v := 4) (by decide) dX12_readType_271 ?_
              refine e_icmp_eq 280 dX12_readType_272 (by decide) (fun c_272 => ?_) (fun c_272 => ?_)
              · have hm := it_p c_272 hm
                refine e_weak [.ref 186, .int s0, .int (q7.2.1 186 36)] ⟨rfl, ⟨rfl, ⟨rfl, trivial⟩⟩⟩ ?_
                exact tX12_readType_280 hko hB hR q7.2.1 q7.2.2 s0 (q7.2.1 186 36) hF _ hm
              · have hm := it_n c_272 hm
                refine e_iload_n (i := 1) rfl dX12_readType_275 ?_
                refine e_iconst (v := 5) (by decide) dX12_readType_276 ?_
                refine e_icmp_ne 316 dX12_readType_277 (by decide) (fun c_277 => ?_) (fun c_277 => ?_)
                · have hm := it_n c_277 hm
                  refine e_aload_n (i := 0) rfl dX12_readType_316 ?_
                  refine e_aload_n (i := 0) rfl dX12_readType_317 ?_
                  refine e_iload_n (i := 1) rfl dX12_readType_318 ?_
                  refine e_iload_n (i := 2) rfl dX12_readType_319 ?_
                  refine e_iconst (v := (-1)) (by decide) dX12_readType_320 ?_
                  refine e_lconst (v := 0) (by decide) dX12_readType_321 ?_
                  obtain ⟨q8, eq8, hm⟩ := ob_some hm
                  refine e_cV4 hko dX12_readType_322 ml_RX12_264 iz_186 (by decide) rfl (by omega) (Nat.le_of_ble_eq_true rfl) (tX12_node hko q7.2.1 q7.2.2 F hF s0 (q7.2.1 186 36) ((-1)) 0 _ eq8) ?_
                  rintro _ _ ⟨rfl, rfl⟩
                  refine l_putI 12 36 dX12_readType_325 fl_RX12_268 rfl rfl iz_186 (by decide) ?_
                  refine e_weak [.ref 186, .int s0, .null] ⟨rfl, ⟨rfl, ⟨trivial, trivial⟩⟩⟩ ?_
                  exact tX12_readType_328 hko hB hR (a_u2 q8.2.1 186 36 q8.1) q8.2.2 s0 hF _ hm
                · have hm := it_p c_277 hm
                  refine e_weak [.ref 186, .int s0, .int (q7.2.1 186 36)] ⟨rfl, ⟨rfl, ⟨rfl, trivial⟩⟩⟩ ?_
                  exact tX12_readType_280 hko hB hR q7.2.1 q7.2.2 s0 (q7.2.1 186 36) hF _ hm
            · have hm := it_p c_260 hm
              refine e_iconst (v := 0) (by decide) dX12_readType_263 ?_
              refine e_zret dX12_readType_264 rfl rfl ?_
              have hm := some_in hm
              subst hm
              exact ⟨rfl, rfl⟩
          · have hm := it_p c_243 hm
            refine e_weak [.ref 186, .int s0, .null] ⟨rfl, ⟨rfl, ⟨trivial, trivial⟩⟩⟩ ?_
            exact tX12_readType_246 hko hB hR q6.1 q6.2 s0 hF _ hm
      · have hm := it_p c_215 hm
        refine e_iconst (v := 0) (by decide) dX12_readType_218 ?_
        refine e_zret dX12_readType_219 rfl rfl ?_
        have hm := some_in hm
        subst hm
        exact ⟨rfl, rfl⟩
    · have hm := it_p c_197 hm
      refine e_aload_n (i := 0) rfl dX12_readType_200 ?_
      refine e_iconst (v := 5) (by decide) dX12_readType_201 ?_
      refine e_aload_n (i := 0) rfl dX12_readType_202 ?_
      refine l_getI 12 4 dX12_readType_203 fl_RX12_207 rfl iz_186 (by decide) ?_
      obtain ⟨q9, eq9, hm⟩ := ob_some hm
      refine e_cV2 hko dX12_readType_206 ml_RX12_232 iz_186 (by decide) rfl (by omega) (Nat.le_of_ble_eq_true rfl) (tX12_bad hko I J F hF 5 (I 186 4) _ eq9) ?_
      rintro _ _ ⟨rfl, rfl⟩
      obtain ⟨c_209, hm⟩ := gd_s hm
      refine e_zret dX12_readType_209 rfl (zz_nar c_209) ?_
      have hm := some_in hm
      subst hm
      exact ⟨rfl, rfl⟩
  · have hm := it_p c_178 hm
    refine e_aload_n (i := 0) rfl dX12_readType_181 ?_
    refine e_iconst (v := 1) (by decide) dX12_readType_182 ?_
    refine e_aload_n (i := 0) rfl dX12_readType_183 ?_
    refine l_getI 12 4 dX12_readType_184 fl_RX12_207 rfl iz_186 (by decide) ?_
    obtain ⟨q10, eq10, hm⟩ := ob_some hm
    refine e_cV2 hko dX12_readType_187 ml_RX12_232 iz_186 (by decide) rfl (by omega) (Nat.le_of_ble_eq_true rfl) (tX12_bad hko I J F hF 1 (I 186 4) _ eq10) ?_
    rintro _ _ ⟨rfl, rfl⟩
    obtain ⟨c_190, hm⟩ := gd_s hm
    refine e_zret dX12_readType_190 rfl (zz_nar c_190) ?_
    have hm := some_in hm
    subst hm
    exact ⟨rfl, rfl⟩
set_option maxRecDepth 100000 in
set_option maxHeartbeats 4000000 in
theorem tbX12_readType {l : Launch} {K : a_KT} {g : a_GT} {IA : iT} {D0 : Nat} {R : sc_12choiceT} (hko : a_kok K) (hB : 451 ≤ D0 + 1) (hR : sc_12choice_ok l K g D0 R) (I : iT) (J : jT) (F : fT) (hF : FOK F) (q : Int32 × iT × jT) (hm : bX12_readType R I J = some q) : C l K g (D0 + 1) 0 0 yX12_readType cX12_readType 3 (some .boolean) [.ref 186] (hg IA I J F) (fun r2 h2 => r2 = some (.int q.1) ∧ h2 = hg IA q.2.1 q.2.2 F) := by
  unfold bX12_readType at hm
  refine c_of [.ref 186, .null, .null] (by decide) (Nat.le_of_ble_eq_true rfl) rfl ?_
  refine e_aload_n (i := 0) rfl dX12_readType_0 ?_
  refine l_getI 12 3 dX12_readType_1 fl_RX12_210 rfl iz_186 (by decide) ?_
  refine e_bipush (v := 102) (by decide) dX12_readType_4 ?_
  refine e_icmp_ne 37 dX12_readType_6 (by decide) (fun c_6 => ?_) (fun c_6 => ?_)
  · have hm := it_n c_6 hm
    refine e_aload_n (i := 0) rfl dX12_readType_37 ?_
    refine l_getI 12 3 dX12_readType_38 fl_RX12_210 rfl iz_186 (by decide) ?_
    refine e_iconst (v := 2) (by decide) dX12_readType_41 ?_
    refine e_icmp_ne 94 dX12_readType_42 (by decide) (fun c_42 => ?_) (fun c_42 => ?_)
    · have hm := it_n c_42 hm
      refine e_aload_n (i := 0) rfl dX12_readType_94 ?_
      refine e_bipush (v := 33) (by decide) dX12_readType_95 ?_
      obtain ⟨q11, eq11, hm⟩ := ob_some hm
      refine e_cV1 hko dX12_readType_97 ml_RX12_229 iz_186 (by decide) rfl (by omega) (Nat.le_of_ble_eq_true rfl) (tX12_isSign hko I J F hF 33 _ eq11) ?_
      rintro _ _ ⟨rfl, rfl⟩
      refine e_if_eq 107 dX12_readType_100 (by decide) (fun c_100 => ?_) (fun c_100 => ?_)
      · have hm := it_p c_100 hm
        refine e_aload_n (i := 0) rfl dX12_readType_107 ?_
        refine e_bipush (v := 63) (by decide) dX12_readType_108 ?_
        obtain ⟨q12, eq12, hm⟩ := ob_some hm
        refine e_cV1 hko dX12_readType_110 ml_RX12_229 iz_186 (by decide) rfl (by omega) (Nat.le_of_ble_eq_true rfl) (tX12_isSign hko I J F hF 63 _ eq12) ?_
        rintro _ _ ⟨rfl, rfl⟩
        refine e_if_eq 120 dX12_readType_113 (by decide) (fun c_113 => ?_) (fun c_113 => ?_)
        · have hm := it_p c_113 hm
          refine e_aload_n (i := 0) rfl dX12_readType_120 ?_
          refine e_bipush (v := 62) (by decide) dX12_readType_121 ?_
          obtain ⟨q13, eq13, hm⟩ := ob_some hm
          refine e_cV1 hko dX12_readType_123 ml_RX12_229 iz_186 (by decide) rfl (by omega) (Nat.le_of_ble_eq_true rfl) (tX12_isSign hko I J F hF 62 _ eq13) ?_
          rintro _ _ ⟨rfl, rfl⟩
          refine e_if_eq 133 dX12_readType_126 (by decide) (fun c_126 => ?_) (fun c_126 => ?_)
          · have hm := it_p c_126 hm
            refine e_aload_n (i := 0) rfl dX12_readType_133 ?_
            refine e_bipush (v := 60) (by decide) dX12_readType_134 ?_
            obtain ⟨q14, eq14, hm⟩ := ob_some hm
            refine e_cV1 hko dX12_readType_136 ml_RX12_229 iz_186 (by decide) rfl (by omega) (Nat.le_of_ble_eq_true rfl) (tX12_isSign hko I J F hF 60 _ eq14) ?_
            rintro _ _ ⟨rfl, rfl⟩
            refine e_if_eq 146 dX12_readType_139 (by decide) (fun c_139 => ?_) (fun c_139 => ?_)
            · have hm := it_p c_139 hm
              refine e_aload_n (i := 0) rfl dX12_readType_146 ?_
              refine e_bipush (v := 43) (by decide) dX12_readType_147 ?_
              obtain ⟨q15, eq15, hm⟩ := ob_some hm
              refine e_cV1 hko dX12_readType_149 ml_RX12_229 iz_186 (by decide) rfl (by omega) (Nat.le_of_ble_eq_true rfl) (tX12_isSign hko I J F hF 43 _ eq15) ?_
              rintro _ _ ⟨rfl, rfl⟩
              refine e_if_eq 160 dX12_readType_152 (by decide) (fun c_152 => ?_) (fun c_152 => ?_)
              · have hm := it_p c_152 hm
                refine e_aload_n (i := 0) rfl dX12_readType_160 ?_
                refine e_bipush (v := 38) (by decide) dX12_readType_161 ?_
                obtain ⟨q16, eq16, hm⟩ := ob_some hm
                refine e_cV1 hko dX12_readType_163 ml_RX12_229 iz_186 (by decide) rfl (by omega) (Nat.le_of_ble_eq_true rfl) (tX12_isSign hko I J F hF 38 _ eq16) ?_
                rintro _ _ ⟨rfl, rfl⟩
                refine e_if_eq 174 dX12_readType_166 (by decide) (fun c_166 => ?_) (fun c_166 => ?_)
                · have hm := it_p c_166 hm
                  refine e_iconst (v := (-1)) (by decide) dX12_readType_174 ?_
                  refine e_weak [.ref 186, .null, .null] ⟨rfl, ⟨trivial, ⟨trivial, trivial⟩⟩⟩ ?_
                  exact tX12_readType_175 hko hB hR I J ((-1)) hF _ hm
                · have hm := it_n c_166 hm
                  refine e_bipush (v := 7) (by decide) dX12_readType_169 ?_
                  refine e_goto 175 dX12_readType_171 (by decide) ?_
                  refine e_weak [.ref 186, .null, .null] ⟨rfl, ⟨trivial, ⟨trivial, trivial⟩⟩⟩ ?_
                  exact tX12_readType_175 hko hB hR I J 7 hF _ hm
              · have hm := it_n c_152 hm
                refine e_bipush (v := 6) (by decide) dX12_readType_155 ?_
                refine e_goto 175 dX12_readType_157 (by decide) ?_
                refine e_weak [.ref 186, .null, .null] ⟨rfl, ⟨trivial, ⟨trivial, trivial⟩⟩⟩ ?_
                exact tX12_readType_175 hko hB hR I J 6 hF _ hm
            · have hm := it_n c_139 hm
              refine e_iconst (v := 5) (by decide) dX12_readType_142 ?_
              refine e_goto 175 dX12_readType_143 (by decide) ?_
              refine e_weak [.ref 186, .null, .null] ⟨rfl, ⟨trivial, ⟨trivial, trivial⟩⟩⟩ ?_
              exact tX12_readType_175 hko hB hR I J 5 hF _ hm
          · have hm := it_n c_126 hm
            refine e_iconst (v := 4) (by decide) dX12_readType_129 ?_
            refine e_goto 175 dX12_readType_130 (by decide) ?_
            refine e_weak [.ref 186, .null, .null] ⟨rfl, ⟨trivial, ⟨trivial, trivial⟩⟩⟩ ?_
            exact tX12_readType_175 hko hB hR I J 4 hF _ hm
        · have hm := it_n c_113 hm
          refine e_iconst (v := 3) (by decide) dX12_readType_116 ?_
          refine e_goto 175 dX12_readType_117 (by decide) ?_
          refine e_weak [.ref 186, .null, .null] ⟨rfl, ⟨trivial, ⟨trivial, trivial⟩⟩⟩ ?_
          exact tX12_readType_175 hko hB hR I J 3 hF _ hm
      · have hm := it_n c_100 hm
        refine e_iconst (v := 2) (by decide) dX12_readType_103 ?_
        refine e_goto 175 dX12_readType_104 (by decide) ?_
        refine e_weak [.ref 186, .null, .null] ⟨rfl, ⟨trivial, ⟨trivial, trivial⟩⟩⟩ ?_
        exact tX12_readType_175 hko hB hR I J 2 hF _ hm
    · have hm := it_p c_42 hm
      refine e_aload_n (i := 0) rfl dX12_readType_45 ?_
      refine e_aload_n (i := 0) rfl dX12_readType_46 ?_
      refine q_getJ 12 6 dX12_readType_47 fl_RX12_162 rfl iz_186 ?_
      obtain ⟨q17, eq17, hm⟩ := ob_some hm
      refine e_cV1 hko dX12_readType_50 ml_RX12_271 iz_186 (by decide) rfl (by omega) (Nat.le_of_ble_eq_true rfl) (tX12_findType hko I J F hF (J 186 6) _ eq17) ?_
      rintro _ _ ⟨rfl, rfl⟩
      refine q_istore_n (i := 1) (by decide) rfl dX12_readType_53 ?_
      refine e_iload_n (i := 1) rfl dX12_readType_54 ?_
      refine e_iconst (v := (-1)) (by decide) dX12_readType_55 ?_
      refine e_icmp_ne 69 dX12_readType_56 (by decide) (fun c_56 => ?_) (fun c_56 => ?_)
      · have hm := it_n c_56 hm
        refine e_aload_n (i := 0) rfl dX12_readType_69 ?_
        refine e_aload_n (i := 0) rfl dX12_readType_70 ?_
        refine e_iload_n (i := 1) rfl dX12_readType_71 ?_
        obtain ⟨q18, eq18, hm⟩ := ob_some hm
        refine e_cV1 hko dX12_readType_72 ml_RX12_245 iz_186 (by decide) rfl (by omega) (Nat.le_of_ble_eq_true rfl) (tX12_partsOf hko I J F hF q17 _ eq18) ?_
        rintro _ _ ⟨rfl, rfl⟩
        obtain ⟨q19, eq19, hm⟩ := ob_some hm
        refine e_cV1 hko dX12_readType_75 ml_RX12_261 iz_186 (by decide) rfl (by omega) (Nat.le_of_ble_eq_true rfl) (tX12_more hko I J F hF q18 _ eq19) ?_
        rintro _ _ ⟨rfl, rfl⟩
        refine e_if_ne 83 dX12_readType_78 (by decide) (fun c_78 => ?_) (fun c_78 => ?_)
        · have hm := it_n c_78 hm
          refine e_aload_n (i := 0) rfl dX12_readType_83 ?_
          refine e_iload_n (i := 1) rfl dX12_readType_84 ?_
          refine l_putI 12 36 dX12_readType_85 fl_RX12_268 rfl rfl iz_186 (by decide) ?_
          refine e_aload_n (i := 0) rfl dX12_readType_88 ?_
          obtain ⟨q20, eq20, hm⟩ := ob_some hm
          refine e_cV0 hko dX12_readType_89 ml_RX12_236 iz_186 (by decide) rfl (by omega) (Nat.le_of_ble_eq_true rfl) (tX12_look0 hko (a_u2 q19.2 186 36 q17) J F hF _ eq20) ?_
          rintro _ _ ⟨rfl, rfl⟩
          refine e_iconst (v := 1) (by decide) dX12_readType_92 ?_
          refine e_zret dX12_readType_93 rfl rfl ?_
          have hm := some_in hm
          subst hm
          exact ⟨rfl, rfl⟩
        · have hm := it_p c_78 hm
          refine e_iconst (v := 0) (by decide) dX12_readType_81 ?_
          refine e_zret dX12_readType_82 rfl rfl ?_
          have hm := some_in hm
          subst hm
          exact ⟨rfl, rfl⟩
      · have hm := it_p c_56 hm
        refine e_aload_n (i := 0) rfl dX12_readType_59 ?_
        refine e_iconst (v := 2) (by decide) dX12_readType_60 ?_
        refine e_aload_n (i := 0) rfl dX12_readType_61 ?_
        refine l_getI 12 4 dX12_readType_62 fl_RX12_207 rfl iz_186 (by decide) ?_
        obtain ⟨q21, eq21, hm⟩ := ob_some hm
        refine e_cV2 hko dX12_readType_65 ml_RX12_232 iz_186 (by decide) rfl (by omega) (Nat.le_of_ble_eq_true rfl) (tX12_bad hko I J F hF 2 (I 186 4) _ eq21) ?_
        rintro _ _ ⟨rfl, rfl⟩
        obtain ⟨c_68, hm⟩ := gd_s hm
        refine e_zret dX12_readType_68 rfl (zz_nar c_68) ?_
        have hm := some_in hm
        subst hm
        exact ⟨rfl, rfl⟩
  · have hm := it_p c_6 hm
    refine e_aload_n (i := 0) rfl dX12_readType_9 ?_
    refine e_iconst (v := 1) (by decide) dX12_readType_10 ?_
    obtain ⟨q22, eq22, hm⟩ := ob_some hm
    refine e_cV1 hko dX12_readType_11 ml_RX12_261 iz_186 (by decide) rfl (by omega) (Nat.le_of_ble_eq_true rfl) (tX12_more hko I J F hF 1 _ eq22) ?_
    rintro _ _ ⟨rfl, rfl⟩
    refine e_if_ne 19 dX12_readType_14 (by decide) (fun c_14 => ?_) (fun c_14 => ?_)
    · have hm := it_n c_14 hm
      refine e_aload_n (i := 0) rfl dX12_readType_19 ?_
      refine e_aload_n (i := 0) rfl dX12_readType_20 ?_
      refine e_iconst (v := 1) (by decide) dX12_readType_21 ?_
      refine e_iconst (v := (-1)) (by decide) dX12_readType_22 ?_
      refine e_iconst (v := (-1)) (by decide) dX12_readType_23 ?_
      refine e_lconst (v := 0) (by decide) dX12_readType_24 ?_
      obtain ⟨q23, eq23, hm⟩ := ob_some hm
      refine e_cV4 hko dX12_readType_25 ml_RX12_264 iz_186 (by decide) rfl (by omega) (Nat.le_of_ble_eq_true rfl) (tX12_node hko q22.2 J F hF 1 ((-1)) ((-1)) 0 _ eq23) ?_
      rintro _ _ ⟨rfl, rfl⟩
      refine l_putI 12 36 dX12_readType_28 fl_RX12_268 rfl rfl iz_186 (by decide) ?_
      refine e_aload_n (i := 0) rfl dX12_readType_31 ?_
      obtain ⟨q24, eq24, hm⟩ := ob_some hm
      refine e_cV0 hko dX12_readType_32 ml_RX12_236 iz_186 (by decide) rfl (by omega) (Nat.le_of_ble_eq_true rfl) (tX12_look0 hko (a_u2 q23.2.1 186 36 q23.1) q23.2.2 F hF _ eq24) ?_
      rintro _ _ ⟨rfl, rfl⟩
      refine e_iconst (v := 1) (by decide) dX12_readType_35 ?_
      refine e_zret dX12_readType_36 rfl rfl ?_
      have hm := some_in hm
      subst hm
      exact ⟨rfl, rfl⟩
    · have hm := it_p c_14 hm
      refine e_iconst (v := 0) (by decide) dX12_readType_17 ?_
      refine e_zret dX12_readType_18 rfl rfl ?_
      have hm := some_in hm
      subst hm
      exact ⟨rfl, rfl⟩
set_option maxRecDepth 100000 in
set_option maxHeartbeats 4000000 in
theorem sc_12choice_all {l : Launch} {K : a_KT} {g : a_GT} (hko : a_kok K) : ∀ n : Nat, sc_12choice_ok l K g (451 + n) (sc_12choice n) := by
  intro n
  induction n with
  | zero => exact ⟨(by intros; rename_i h; cases (show (none : Option _) = some _ from h)), (by intros; rename_i h; cases (show (none : Option _) = some _ from h))⟩
  | succ n ih =>
    exact ⟨fun I J F x1 hF q hm => tbX12_choice hko (by omega) ih I J F hF x1 q hm, fun I J F hF q hm => tbX12_readType hko (by omega) ih I J F hF q hm⟩
theorem tX12_choice {l : Launch} {K : a_KT} {g : a_GT} {IA : iT} (hko : a_kok K) (I : iT) (J : jT) (F : fT) (hF : FOK F) (x1 : Int32) (q : Int32 × iT × jT) (hm : mX12_choice SF I J x1 = some q) : C l K g 901 0 0 yX12_choice cX12_choice 9 (some .boolean) [.ref 186, .int x1] (hg IA I J F) (fun r2 h2 => r2 = some (.int q.1) ∧ h2 = hg IA q.2.1 q.2.2 F) := (sc_12choice_all hko SF).1 I J F x1 hF q hm
theorem tX12_readType {l : Launch} {K : a_KT} {g : a_GT} {IA : iT} (hko : a_kok K) (I : iT) (J : jT) (F : fT) (hF : FOK F) (q : Int32 × iT × jT) (hm : mX12_readType SF I J = some q) : C l K g 901 0 0 yX12_readType cX12_readType 3 (some .boolean) [.ref 186] (hg IA I J F) (fun r2 h2 => r2 = some (.int q.1) ∧ h2 = hg IA q.2.1 q.2.2 F) := (sc_12choice_all hko SF).2 I J F hF q hm
theorem dX12_isDef_0 : decode cX12_isDef 0 = .ok (.aload_n 0, 1) := by decide +kernel
theorem dX12_isDef_1 : decode cX12_isDef 1 = .ok (.getfield 414, 3) := by decide +kernel
theorem dX12_isDef_4 : decode cX12_isDef 4 = .ok (.ifCond .eq 26, 3) := by decide +kernel
theorem dX12_isDef_7 : decode cX12_isDef 7 = .ok (.iload_n 1, 1) := by decide +kernel
theorem dX12_isDef_8 : decode cX12_isDef 8 = .ok (.iconst 0, 1) := by decide +kernel
theorem dX12_isDef_9 : decode cX12_isDef 9 = .ok (.aload_n 0, 1) := by decide +kernel
theorem dX12_isDef_10 : decode cX12_isDef 10 = .ok (.getfield 69, 3) := by decide +kernel
theorem dX12_isDef_13 : decode cX12_isDef 13 = .ok (.aload_n 0, 1) := by decide +kernel
theorem dX12_isDef_14 : decode cX12_isDef 14 = .ok (.getfield 405, 3) := by decide +kernel
theorem dX12_isDef_17 : decode cX12_isDef 17 = .ok (.iaload, 1) := by decide +kernel
theorem dX12_isDef_18 : decode cX12_isDef 18 = .ok (.iconst 1, 1) := by decide +kernel
theorem dX12_isDef_19 : decode cX12_isDef 19 = .ok (.isub, 1) := by decide +kernel
theorem dX12_isDef_20 : decode cX12_isDef 20 = .ok (.invokestatic 154, 3) := by decide +kernel
theorem dX12_isDef_23 : decode cX12_isDef 23 = .ok (.ifCond .eq 7, 3) := by decide +kernel
theorem dX12_isDef_26 : decode cX12_isDef 26 = .ok (.iconst 1, 1) := by decide +kernel
theorem dX12_isDef_27 : decode cX12_isDef 27 = .ok (.goto 4, 3) := by decide +kernel
theorem dX12_isDef_30 : decode cX12_isDef 30 = .ok (.iconst 0, 1) := by decide +kernel
theorem dX12_isDef_31 : decode cX12_isDef 31 = .ok (.ireturn, 1) := by decide +kernel
def mX12_isDef (I : iT) (x1 : Int32) : Option (Int32) := if (I 186 33) = 0 then some 0 else if inb (I 186 31) 2 then (mX12_isIn x1 0 ((I 205 (I 186 31).toNatClampNeg) - 1)).bind fun q1 => if q1 = 0 then some 0 else some 1 else none
set_option maxRecDepth 100000 in
set_option maxHeartbeats 4000000 in
theorem tX12_isDef {l : Launch} {K : a_KT} {g : a_GT} {IA : iT} (hko : a_kok K) (I : iT) (J : jT) (F : fT) (hF : FOK F) (x1 : Int32) (q : Int32) (hm : mX12_isDef I x1 = some q) : C l K g 1 0 0 yX12_isDef cX12_isDef 2 (some .boolean) [.ref 186, .int x1] (hg IA I J F) (fun r2 h2 => r2 = some (.int q) ∧ h2 = hg IA I J F) := by
  unfold mX12_isDef at hm
  refine c_of [.ref 186, .int x1] (by decide) (Nat.le_of_ble_eq_true rfl) rfl ?_
  refine e_aload_n (i := 0) rfl dX12_isDef_0 ?_
  refine l_getI 12 33 dX12_isDef_1 fl_RX12_414 rfl iz_186 (by decide) ?_
  refine e_if_eq 30 dX12_isDef_4 (by decide) (fun c_4 => ?_) (fun c_4 => ?_)
  · have hm := it_p c_4 hm
    refine e_iconst (v := 0) (by decide) dX12_isDef_30 ?_
    refine e_zret dX12_isDef_31 rfl rfl ?_
    have hm := some_in hm
    subst hm
    exact ⟨rfl, rfl⟩
  · have hm := it_n c_4 hm
    refine e_iload_n (i := 1) rfl dX12_isDef_7 ?_
    refine e_iconst (v := 0) (by decide) dX12_isDef_8 ?_
    refine e_aload_n (i := 0) rfl dX12_isDef_9 ?_
    refine q_getF 12 30 205 dX12_isDef_10 fl_RX12_69 rfl iz_186 (fr_186_30 hF) ?_
    refine e_aload_n (i := 0) rfl dX12_isDef_13 ?_
    refine l_getI 12 31 dX12_isDef_14 fl_RX12_405 rfl iz_186 (by decide) ?_
    obtain ⟨c_17, hm⟩ := gd_s hm
    refine l_iald dX12_isDef_17 iz_205 (inb_in ln_205 c_17) (by decide) ?_
    refine e_iconst (v := 1) (by decide) dX12_isDef_18 ?_
    refine e_isub dX12_isDef_19 ?_
    obtain ⟨q1, eq1, hm⟩ := ob_some hm
    refine e_cS3 hko dX12_isDef_20 ml_RX12_154 (by omega) (Nat.le_of_ble_eq_true rfl) (tX12_isIn hko I J F hF x1 0 ((I 205 (I 186 31).toNatClampNeg) - 1) _ eq1) ?_
    rintro _ _ ⟨rfl, rfl⟩
    refine e_if_eq 30 dX12_isDef_23 (by decide) (fun c_23 => ?_) (fun c_23 => ?_)
    · have hm := it_p c_23 hm
      refine e_iconst (v := 0) (by decide) dX12_isDef_30 ?_
      refine e_zret dX12_isDef_31 rfl rfl ?_
      have hm := some_in hm
      subst hm
      exact ⟨rfl, rfl⟩
    · have hm := it_n c_23 hm
      refine e_iconst (v := 1) (by decide) dX12_isDef_26 ?_
      refine e_goto 31 dX12_isDef_27 (by decide) ?_
      refine e_zret dX12_isDef_31 rfl rfl ?_
      have hm := some_in hm
      subst hm
      exact ⟨rfl, rfl⟩
theorem dX12_least_0 : decode cX12_least 0 = .ok (.iconst 0, 1) := by decide +kernel
theorem dX12_least_1 : decode cX12_least 1 = .ok (.istore_n 2, 1) := by decide +kernel
theorem dX12_least_2 : decode cX12_least 2 = .ok (.iload_n 1, 1) := by decide +kernel
theorem dX12_least_3 : decode cX12_least 3 = .ok (.istore_n 3, 1) := by decide +kernel
theorem dX12_least_4 : decode cX12_least 4 = .ok (.aload_n 0, 1) := by decide +kernel
theorem dX12_least_5 : decode cX12_least 5 = .ok (.getfield 17, 3) := by decide +kernel
theorem dX12_least_8 : decode cX12_least 8 = .ok (.iload_n 3, 1) := by decide +kernel
theorem dX12_least_9 : decode cX12_least 9 = .ok (.iaload, 1) := by decide +kernel
theorem dX12_least_10 : decode cX12_least 10 = .ok (.istore 4, 2) := by decide +kernel
theorem dX12_least_12 : decode cX12_least 12 = .ok (.iload 4, 2) := by decide +kernel
theorem dX12_least_14 : decode cX12_least 14 = .ok (.bipush 52, 2) := by decide +kernel
theorem dX12_least_16 : decode cX12_least 16 = .ok (.if_icmp .ne 45, 3) := by decide +kernel
theorem dX12_least_19 : decode cX12_least 19 = .ok (.aload_n 0, 1) := by decide +kernel
theorem dX12_least_20 : decode cX12_least 20 = .ok (.aload_n 0, 1) := by decide +kernel
theorem dX12_least_21 : decode cX12_least 21 = .ok (.getfield 23, 3) := by decide +kernel
theorem dX12_least_24 : decode cX12_least 24 = .ok (.iload_n 3, 1) := by decide +kernel
theorem dX12_least_25 : decode cX12_least 25 = .ok (.iaload, 1) := by decide +kernel
theorem dX12_least_26 : decode cX12_least 26 = .ok (.invokevirtual 527, 3) := by decide +kernel
theorem dX12_least_29 : decode cX12_least 29 = .ok (.istore 5, 2) := by decide +kernel
theorem dX12_least_31 : decode cX12_least 31 = .ok (.aload_n 0, 1) := by decide +kernel
theorem dX12_least_32 : decode cX12_least 32 = .ok (.aload_n 0, 1) := by decide +kernel
theorem dX12_least_33 : decode cX12_least 33 = .ok (.getfield 29, 3) := by decide +kernel
theorem dX12_least_36 : decode cX12_least 36 = .ok (.iload_n 3, 1) := by decide +kernel
theorem dX12_least_37 : decode cX12_least 37 = .ok (.laload, 1) := by decide +kernel
theorem dX12_least_38 : decode cX12_least 38 = .ok (.l2i, 1) := by decide +kernel
theorem dX12_least_39 : decode cX12_least 39 = .ok (.invokevirtual 527, 3) := by decide +kernel
theorem dX12_least_42 : decode cX12_least 42 = .ok (.istore 6, 2) := by decide +kernel
theorem dX12_least_44 : decode cX12_least 44 = .ok (.iload_n 2, 1) := by decide +kernel
theorem dX12_least_45 : decode cX12_least 45 = .ok (.iload 5, 2) := by decide +kernel
theorem dX12_least_47 : decode cX12_least 47 = .ok (.iload 6, 2) := by decide +kernel
theorem dX12_least_49 : decode cX12_least 49 = .ok (.if_icmp .ge 8, 3) := by decide +kernel
theorem dX12_least_52 : decode cX12_least 52 = .ok (.iload 5, 2) := by decide +kernel
theorem dX12_least_54 : decode cX12_least 54 = .ok (.goto 5, 3) := by decide +kernel
theorem dX12_least_57 : decode cX12_least 57 = .ok (.iload 6, 2) := by decide +kernel
theorem dX12_least_59 : decode cX12_least 59 = .ok (.iadd, 1) := by decide +kernel
theorem dX12_least_60 : decode cX12_least 60 = .ok (.ireturn, 1) := by decide +kernel
theorem dX12_least_61 : decode cX12_least 61 = .ok (.iinc 2 1, 3) := by decide +kernel
theorem dX12_least_64 : decode cX12_least 64 = .ok (.iload 4, 2) := by decide +kernel
theorem dX12_least_66 : decode cX12_least 66 = .ok (.bipush 40, 2) := by decide +kernel
theorem dX12_least_68 : decode cX12_least 68 = .ok (.if_icmp .eq 17, 3) := by decide +kernel
theorem dX12_least_71 : decode cX12_least 71 = .ok (.iload 4, 2) := by decide +kernel
theorem dX12_least_73 : decode cX12_least 73 = .ok (.bipush 49, 2) := by decide +kernel
theorem dX12_least_75 : decode cX12_least 75 = .ok (.if_icmp .eq 10, 3) := by decide +kernel
theorem dX12_least_78 : decode cX12_least 78 = .ok (.iload 4, 2) := by decide +kernel
theorem dX12_least_80 : decode cX12_least 80 = .ok (.bipush 50, 2) := by decide +kernel
theorem dX12_least_82 : decode cX12_least 82 = .ok (.if_icmp .ne 5, 3) := by decide +kernel
theorem dX12_least_85 : decode cX12_least 85 = .ok (.iload_n 2, 1) := by decide +kernel
theorem dX12_least_86 : decode cX12_least 86 = .ok (.ireturn, 1) := by decide +kernel
theorem dX12_least_87 : decode cX12_least 87 = .ok (.iload 4, 2) := by decide +kernel
theorem dX12_least_89 : decode cX12_least 89 = .ok (.bipush 47, 2) := by decide +kernel
theorem dX12_least_91 : decode cX12_least 91 = .ok (.if_icmp .ne 72, 3) := by decide +kernel
theorem dX12_least_94 : decode cX12_least 94 = .ok (.iconst (-1), 1) := by decide +kernel
theorem dX12_least_95 : decode cX12_least 95 = .ok (.istore 5, 2) := by decide +kernel
theorem dX12_least_97 : decode cX12_least 97 = .ok (.aload_n 0, 1) := by decide +kernel
theorem dX12_least_98 : decode cX12_least 98 = .ok (.getfield 23, 3) := by decide +kernel
theorem dX12_least_101 : decode cX12_least 101 = .ok (.iload_n 3, 1) := by decide +kernel
theorem dX12_least_102 : decode cX12_least 102 = .ok (.iaload, 1) := by decide +kernel
theorem dX12_least_103 : decode cX12_least 103 = .ok (.istore 6, 2) := by decide +kernel
theorem dX12_least_105 : decode cX12_least 105 = .ok (.iload 6, 2) := by decide +kernel
theorem dX12_least_107 : decode cX12_least 107 = .ok (.iconst (-1), 1) := by decide +kernel
theorem dX12_least_108 : decode cX12_least 108 = .ok (.if_icmp .eq 50, 3) := by decide +kernel
theorem dX12_least_111 : decode cX12_least 111 = .ok (.aload_n 0, 1) := by decide +kernel
theorem dX12_least_112 : decode cX12_least 112 = .ok (.aload_n 0, 1) := by decide +kernel
theorem dX12_least_113 : decode cX12_least 113 = .ok (.getfield 20, 3) := by decide +kernel
theorem dX12_least_116 : decode cX12_least 116 = .ok (.iload 6, 2) := by decide +kernel
theorem dX12_least_118 : decode cX12_least 118 = .ok (.iaload, 1) := by decide +kernel
theorem dX12_least_119 : decode cX12_least 119 = .ok (.invokevirtual 527, 3) := by decide +kernel
theorem dX12_least_122 : decode cX12_least 122 = .ok (.istore 7, 2) := by decide +kernel
theorem dX12_least_124 : decode cX12_least 124 = .ok (.iload 5, 2) := by decide +kernel
theorem dX12_least_126 : decode cX12_least 126 = .ok (.iconst (-1), 1) := by decide +kernel
theorem dX12_least_127 : decode cX12_least 127 = .ok (.if_icmp .eq 10, 3) := by decide +kernel
theorem dX12_least_130 : decode cX12_least 130 = .ok (.iload 7, 2) := by decide +kernel
theorem dX12_least_132 : decode cX12_least 132 = .ok (.iload 5, 2) := by decide +kernel
theorem dX12_least_134 : decode cX12_least 134 = .ok (.if_icmp .ge 8, 3) := by decide +kernel
theorem dX12_least_137 : decode cX12_least 137 = .ok (.iload 7, 2) := by decide +kernel
theorem dX12_least_139 : decode cX12_least 139 = .ok (.goto 5, 3) := by decide +kernel
theorem dX12_least_142 : decode cX12_least 142 = .ok (.iload 5, 2) := by decide +kernel
theorem dX12_least_144 : decode cX12_least 144 = .ok (.istore 5, 2) := by decide +kernel
theorem dX12_least_146 : decode cX12_least 146 = .ok (.aload_n 0, 1) := by decide +kernel
theorem dX12_least_147 : decode cX12_least 147 = .ok (.getfield 26, 3) := by decide +kernel
theorem dX12_least_150 : decode cX12_least 150 = .ok (.iload 6, 2) := by decide +kernel
theorem dX12_least_152 : decode cX12_least 152 = .ok (.iaload, 1) := by decide +kernel
theorem dX12_least_153 : decode cX12_least 153 = .ok (.istore 6, 2) := by decide +kernel
theorem dX12_least_155 : decode cX12_least 155 = .ok (.goto (-50), 3) := by decide +kernel
theorem dX12_least_158 : decode cX12_least 158 = .ok (.iload_n 2, 1) := by decide +kernel
theorem dX12_least_159 : decode cX12_least 159 = .ok (.iload 5, 2) := by decide +kernel
theorem dX12_least_161 : decode cX12_least 161 = .ok (.iadd, 1) := by decide +kernel
theorem dX12_least_162 : decode cX12_least 162 = .ok (.ireturn, 1) := by decide +kernel
theorem dX12_least_163 : decode cX12_least 163 = .ok (.aload_n 0, 1) := by decide +kernel
theorem dX12_least_164 : decode cX12_least 164 = .ok (.getfield 26, 3) := by decide +kernel
theorem dX12_least_167 : decode cX12_least 167 = .ok (.iload_n 3, 1) := by decide +kernel
theorem dX12_least_168 : decode cX12_least 168 = .ok (.iaload, 1) := by decide +kernel
theorem dX12_least_169 : decode cX12_least 169 = .ok (.istore_n 3, 1) := by decide +kernel
theorem dX12_least_170 : decode cX12_least 170 = .ok (.goto (-166), 3) := by decide +kernel
abbrev sc_12leastT : Type := (iT → jT → Int32 → Option (Int32))
def sc_12least_ok (l : Launch) (K : a_KT) (g : a_GT) (D0 : Nat) (R : sc_12leastT) : Prop := (∀ {IA : iT} (I : iT) (J : jT) (F : fT) (x1 : Int32), FOK F → ∀ q : Int32, R I J x1 = some q → C l K g D0 0 0 yX12_least cX12_least 8 (some .int) [.ref 186, .int x1] (hg IA I J F) (fun r2 h2 => r2 = some (.int q) ∧ h2 = hg IA I J F))
def mX12_least_59 (R : sc_12leastT) (I : iT) (J : jT) (x1 : Int32) (x2 : Int32) (x3 : Int32) (x4 : Int32) (x5 : Int32) (x6 : Int32) (s0 : Int32) (s1 : Int32) : Option (Int32) := some (s1 + s0)
def mX12_least_144 (R : sc_12leastT) (k105 : iT → jT → Int32 → Int32 → Int32 → Int32 → Int32 → Int32 → Option (Int32)) (I : iT) (J : jT) (x1 : Int32) (x2 : Int32) (x3 : Int32) (x4 : Int32) (x5 : Int32) (x6 : Int32) (x7 : Int32) (s0 : Int32) : Option (Int32) := if inb x6 2800 then k105 I J x1 x2 x3 x4 s0 (I 191 x6.toNatClampNeg) else none
def mX12_least_137 (R : sc_12leastT) (k105 : iT → jT → Int32 → Int32 → Int32 → Int32 → Int32 → Int32 → Option (Int32)) (I : iT) (J : jT) (x1 : Int32) (x2 : Int32) (x3 : Int32) (x4 : Int32) (x5 : Int32) (x6 : Int32) (x7 : Int32) : Option (Int32) := mX12_least_144 R (k105) I J x1 x2 x3 x4 x5 x6 x7 x7
def mX12_least_105 (R : sc_12leastT) : Nat → iT → jT → Int32 → Int32 → Int32 → Int32 → Int32 → Int32 → Option (Int32)
  | 0, _, _, _, _, _, _, _, _ => none
  | n + 1, I, J, x1, x2, x3, x4, x5, x6 => if x6 = ((-1)) then some (x2 + x5) else if inb x6 2800 then (R I J (I 189 x6.toNatClampNeg)).bind fun q1 => if x5 = ((-1)) then mX12_least_137 R (mX12_least_105 R n) I J x1 x2 x3 x4 x5 x6 q1 else if x5 ≤ q1 then mX12_least_144 R (mX12_least_105 R n) I J x1 x2 x3 x4 x5 x6 q1 x5 else mX12_least_137 R (mX12_least_105 R n) I J x1 x2 x3 x4 x5 x6 q1 else none
def mX12_least_4 (R : sc_12leastT) : Nat → iT → jT → Int32 → Int32 → Int32 → Option (Int32)
  | 0, _, _, _, _, _ => none
  | n + 1, I, J, x1, x2, x3 => if inb x3 2800 then if (I 188 x3.toNatClampNeg) = 52 then if inb x3 2800 then (R I J (I 190 x3.toNatClampNeg)).bind fun q2 => if inb x3 2800 then (R I J ((J 192 x3.toNatClampNeg).toInt32)).bind fun q3 => if q3 ≤ q2 then mX12_least_59 R I J x1 x2 x3 (I 188 x3.toNatClampNeg) q2 q3 q3 x2 else mX12_least_59 R I J x1 x2 x3 (I 188 x3.toNatClampNeg) q2 q3 q2 x2 else none else none else if (I 188 x3.toNatClampNeg) = 40 then some (x2 + 1) else if (I 188 x3.toNatClampNeg) = 49 then some (x2 + 1) else if (I 188 x3.toNatClampNeg) = 50 then some (x2 + 1) else if (I 188 x3.toNatClampNeg) = 47 then if inb x3 2800 then mX12_least_105 R LF I J x1 (x2 + 1) x3 (I 188 x3.toNatClampNeg) ((-1)) (I 190 x3.toNatClampNeg) else none else if inb x3 2800 then mX12_least_4 R n I J x1 (x2 + 1) (I 191 x3.toNatClampNeg) else none else none
def bX12_least (R : sc_12leastT) (I : iT) (J : jT) (x1 : Int32) : Option (Int32) := mX12_least_4 R LF I J x1 0 x1
def sc_12least : Nat → sc_12leastT
  | 0 => (fun _ _ _ => none)
  | n + 1 => (bX12_least (sc_12least n))
def mX12_least (n : Nat) : iT → jT → Int32 → Option (Int32) := (sc_12least n)
set_option maxRecDepth 100000 in
set_option maxHeartbeats 4000000 in
theorem tX12_least_59 {l : Launch} {K : a_KT} {g : a_GT} {IA : iT} {D0 : Nat} {R : sc_12leastT} (hko : a_kok K) (hB : 0 ≤ D0 + 1) (hR : sc_12least_ok l K g D0 R) {F : fT} (I : iT) (J : jT) (x1 : Int32) (x2 : Int32) (x3 : Int32) (x4 : Int32) (x5 : Int32) (x6 : Int32) (s0 : Int32) (s1 : Int32) (hF : FOK F) (q : Int32) (hm : mX12_least_59 R I J x1 x2 x3 x4 x5 x6 s0 s1 = some q) : E l K g (D0 + 1) 0 0 yX12_least cX12_least 8 (some .int) 59 [.ref 186, .int x1, .int x2, .int x3, .int x4, .int x5, .int x6, .null] [.int s0, .int s1] (hg IA I J F) (fun r2 h2 => r2 = some (.int q) ∧ h2 = hg IA I J F) := by
  unfold mX12_least_59 at hm
  refine e_iadd dX12_least_59 ?_
  refine e_iret dX12_least_60 rfl ?_
  have hm := some_in hm
  subst hm
  exact ⟨rfl, rfl⟩
set_option maxRecDepth 100000 in
set_option maxHeartbeats 4000000 in
theorem tX12_least_144 {l : Launch} {K : a_KT} {g : a_GT} {IA : iT} {D0 : Nat} {R : sc_12leastT} (hko : a_kok K) (hB : 0 ≤ D0 + 1) (hR : sc_12least_ok l K g D0 R) {F : fT} {k105 : iT → jT → Int32 → Int32 → Int32 → Int32 → Int32 → Int32 → Option (Int32)} (hk105 : ∀ (I : iT) (J : jT) (x1 : Int32) (x2 : Int32) (x3 : Int32) (x4 : Int32) (x5 : Int32) (x6 : Int32) (_ : FOK F) (q : Int32), k105 I J x1 x2 x3 x4 x5 x6 = some q → E l K g (D0 + 1) 0 0 yX12_least cX12_least 8 (some .int) 105 [.ref 186, .int x1, .int x2, .int x3, .int x4, .int x5, .int x6, .null] [] (hg IA I J F) (fun r2 h2 => r2 = some (.int q) ∧ h2 = hg IA I J F)) (I : iT) (J : jT) (x1 : Int32) (x2 : Int32) (x3 : Int32) (x4 : Int32) (x5 : Int32) (x6 : Int32) (x7 : Int32) (s0 : Int32) (hF : FOK F) (q : Int32) (hm : mX12_least_144 R k105 I J x1 x2 x3 x4 x5 x6 x7 s0 = some q) : E l K g (D0 + 1) 0 0 yX12_least cX12_least 8 (some .int) 144 [.ref 186, .int x1, .int x2, .int x3, .int x4, .int x5, .int x6, .int x7] [.int s0] (hg IA I J F) (fun r2 h2 => r2 = some (.int q) ∧ h2 = hg IA I J F) := by
  unfold mX12_least_144 at hm
  refine q_istore (i := 5) (by decide) rfl dX12_least_144 ?_
  refine e_aload_n (i := 0) rfl dX12_least_146 ?_
  refine q_getF 12 14 191 dX12_least_147 fl_RX12_26 rfl iz_186 (fr_186_14 hF) ?_
  refine e_iload (i := 6) rfl dX12_least_150 ?_
  obtain ⟨c_152, hm⟩ := gd_s hm
  refine l_iald dX12_least_152 iz_191 (inb_in ln_191 c_152) (by decide) ?_
  refine q_istore (i := 6) (by decide) rfl dX12_least_153 ?_
  refine e_goto 105 dX12_least_155 (by decide) ?_
  refine e_weak [.ref 186, .int x1, .int x2, .int x3, .int x4, .int s0, .int (I 191 x6.toNatClampNeg), .null] ⟨rfl, ⟨rfl, ⟨rfl, ⟨rfl, ⟨rfl, ⟨rfl, ⟨rfl, ⟨trivial, trivial⟩⟩⟩⟩⟩⟩⟩⟩ ?_
  exact hk105 I J x1 x2 x3 x4 s0 (I 191 x6.toNatClampNeg) hF _ hm
set_option maxRecDepth 100000 in
set_option maxHeartbeats 4000000 in
theorem tX12_least_137 {l : Launch} {K : a_KT} {g : a_GT} {IA : iT} {D0 : Nat} {R : sc_12leastT} (hko : a_kok K) (hB : 0 ≤ D0 + 1) (hR : sc_12least_ok l K g D0 R) {F : fT} {k105 : iT → jT → Int32 → Int32 → Int32 → Int32 → Int32 → Int32 → Option (Int32)} (hk105 : ∀ (I : iT) (J : jT) (x1 : Int32) (x2 : Int32) (x3 : Int32) (x4 : Int32) (x5 : Int32) (x6 : Int32) (_ : FOK F) (q : Int32), k105 I J x1 x2 x3 x4 x5 x6 = some q → E l K g (D0 + 1) 0 0 yX12_least cX12_least 8 (some .int) 105 [.ref 186, .int x1, .int x2, .int x3, .int x4, .int x5, .int x6, .null] [] (hg IA I J F) (fun r2 h2 => r2 = some (.int q) ∧ h2 = hg IA I J F)) (I : iT) (J : jT) (x1 : Int32) (x2 : Int32) (x3 : Int32) (x4 : Int32) (x5 : Int32) (x6 : Int32) (x7 : Int32) (hF : FOK F) (q : Int32) (hm : mX12_least_137 R k105 I J x1 x2 x3 x4 x5 x6 x7 = some q) : E l K g (D0 + 1) 0 0 yX12_least cX12_least 8 (some .int) 137 [.ref 186, .int x1, .int x2, .int x3, .int x4, .int x5, .int x6, .int x7] [] (hg IA I J F) (fun r2 h2 => r2 = some (.int q) ∧ h2 = hg IA I J F) := by
  unfold mX12_least_137 at hm
  refine e_iload (i := 7) rfl dX12_least_137 ?_
  refine e_goto 144 dX12_least_139 (by decide) ?_
  refine e_weak [.ref 186, .int x1, .int x2, .int x3, .int x4, .int x5, .int x6, .int x7] ⟨rfl, ⟨rfl, ⟨rfl, ⟨rfl, ⟨rfl, ⟨rfl, ⟨rfl, ⟨rfl, trivial⟩⟩⟩⟩⟩⟩⟩⟩ ?_
  exact tX12_least_144 hko hB hR (hk105) I J x1 x2 x3 x4 x5 x6 x7 x7 hF _ hm
set_option maxRecDepth 100000 in
set_option maxHeartbeats 4000000 in
theorem tX12_least_105 {l : Launch} {K : a_KT} {g : a_GT} {IA : iT} {D0 : Nat} {R : sc_12leastT} (hko : a_kok K) (hB : 0 ≤ D0 + 1) (hR : sc_12least_ok l K g D0 R) {F : fT} : ∀ (n : Nat) (I : iT) (J : jT) (x1 : Int32) (x2 : Int32) (x3 : Int32) (x4 : Int32) (x5 : Int32) (x6 : Int32) (hF : FOK F) (q : Int32), mX12_least_105 R n I J x1 x2 x3 x4 x5 x6 = some q → E l K g (D0 + 1) 0 0 yX12_least cX12_least 8 (some .int) 105 [.ref 186, .int x1, .int x2, .int x3, .int x4, .int x5, .int x6, .null] [] (hg IA I J F) (fun r2 h2 => r2 = some (.int q) ∧ h2 = hg IA I J F) := by
  intro n
  induction n with
  | zero => intro I J x1 x2 x3 x4 x5 x6 hF q hm; cases hm
  | succ n ih =>
    intro I J x1 x2 x3 x4 x5 x6 hF q hm
    rw [mX12_least_105] at hm
    refine e_iload (i := 6) rfl dX12_least_105 ?_
    refine e_iconst (v := (-1)) (by decide) dX12_least_107 ?_
    refine e_icmp_eq 158 dX12_least_108 (by decide) (fun c_108 => ?_) (fun c_108 => ?_)
    · have hm := it_p c_108 hm
      refine e_iload_n (i := 2) rfl dX12_least_158 ?_
      refine e_iload (i := 5) rfl dX12_least_159 ?_
      refine e_iadd dX12_least_161 ?_
      refine e_iret dX12_least_162 rfl ?_
      have hm := some_in hm
      subst hm
      exact ⟨rfl, rfl⟩
    · have hm := it_n c_108 hm
      refine e_aload_n (i := 0) rfl dX12_least_111 ?_
      refine e_aload_n (i := 0) rfl dX12_least_112 ?_
      refine q_getF 12 12 189 dX12_least_113 fl_RX12_20 rfl iz_186 (fr_186_12 hF) ?_
      refine e_iload (i := 6) rfl dX12_least_116 ?_
      obtain ⟨c_118, hm⟩ := gd_s hm
      refine l_iald dX12_least_118 iz_189 (inb_in ln_189 c_118) (by decide) ?_
      obtain ⟨q1, eq1, hm⟩ := ob_some hm
      refine e_cV1 hko dX12_least_119 ml_RX12_527 iz_186 (by decide) rfl (by omega) (Nat.le_of_ble_eq_true rfl) (hR I J F (I 189 x6.toNatClampNeg) hF q1 eq1) ?_
      rintro _ _ ⟨rfl, rfl⟩
      refine q_istore (i := 7) (by decide) rfl dX12_least_122 ?_
      refine e_iload (i := 5) rfl dX12_least_124 ?_
      refine e_iconst (v := (-1)) (by decide) dX12_least_126 ?_
      refine e_icmp_eq 137 dX12_least_127 (by decide) (fun c_127 => ?_) (fun c_127 => ?_)
      · have hm := it_p c_127 hm
        refine e_weak [.ref 186, .int x1, .int x2, .int x3, .int x4, .int x5, .int x6, .int q1] ⟨rfl, ⟨rfl, ⟨rfl, ⟨rfl, ⟨rfl, ⟨rfl, ⟨rfl, ⟨rfl, trivial⟩⟩⟩⟩⟩⟩⟩⟩ ?_
        exact tX12_least_137 hko hB hR (ih) I J x1 x2 x3 x4 x5 x6 q1 hF _ hm
      · have hm := it_n c_127 hm
        refine e_iload (i := 7) rfl dX12_least_130 ?_
        refine e_iload (i := 5) rfl dX12_least_132 ?_
        refine e_icmp_ge 142 dX12_least_134 (by decide) (fun c_134 => ?_) (fun c_134 => ?_)
        · have hm := it_p c_134 hm
          refine e_iload (i := 5) rfl dX12_least_142 ?_
          refine e_weak [.ref 186, .int x1, .int x2, .int x3, .int x4, .int x5, .int x6, .int q1] ⟨rfl, ⟨rfl, ⟨rfl, ⟨rfl, ⟨rfl, ⟨rfl, ⟨rfl, ⟨rfl, trivial⟩⟩⟩⟩⟩⟩⟩⟩ ?_
          exact tX12_least_144 hko hB hR (ih) I J x1 x2 x3 x4 x5 x6 q1 x5 hF _ hm
        · have hm := it_n c_134 hm
          refine e_weak [.ref 186, .int x1, .int x2, .int x3, .int x4, .int x5, .int x6, .int q1] ⟨rfl, ⟨rfl, ⟨rfl, ⟨rfl, ⟨rfl, ⟨rfl, ⟨rfl, ⟨rfl, trivial⟩⟩⟩⟩⟩⟩⟩⟩ ?_
          exact tX12_least_137 hko hB hR (ih) I J x1 x2 x3 x4 x5 x6 q1 hF _ hm
set_option maxRecDepth 100000 in
set_option maxHeartbeats 4000000 in
theorem tX12_least_4 {l : Launch} {K : a_KT} {g : a_GT} {IA : iT} {D0 : Nat} {R : sc_12leastT} (hko : a_kok K) (hB : 0 ≤ D0 + 1) (hR : sc_12least_ok l K g D0 R) {F : fT} : ∀ (n : Nat) (I : iT) (J : jT) (x1 : Int32) (x2 : Int32) (x3 : Int32) (hF : FOK F) (q : Int32), mX12_least_4 R n I J x1 x2 x3 = some q → E l K g (D0 + 1) 0 0 yX12_least cX12_least 8 (some .int) 4 [.ref 186, .int x1, .int x2, .int x3, .null, .null, .null, .null] [] (hg IA I J F) (fun r2 h2 => r2 = some (.int q) ∧ h2 = hg IA I J F) := by
  intro n
  induction n with
  | zero => intro I J x1 x2 x3 hF q hm; cases hm
  | succ n ih =>
    intro I J x1 x2 x3 hF q hm
    rw [mX12_least_4] at hm
    refine e_aload_n (i := 0) rfl dX12_least_4 ?_
    refine q_getF 12 11 188 dX12_least_5 fl_RX12_17 rfl iz_186 (fr_186_11 hF) ?_
    refine e_iload_n (i := 3) rfl dX12_least_8 ?_
    obtain ⟨c_9, hm⟩ := gd_s hm
    refine l_iald dX12_least_9 iz_188 (inb_in ln_188 c_9) (by decide) ?_
    refine q_istore (i := 4) (by decide) rfl dX12_least_10 ?_
    refine e_iload (i := 4) rfl dX12_least_12 ?_
    refine e_bipush (v := 52) (by decide) dX12_least_14 ?_
    refine e_icmp_ne 61 dX12_least_16 (by decide) (fun c_16 => ?_) (fun c_16 => ?_)
    · have hm := it_n c_16 hm
      refine q_iinc (i := 2) (x2 + 1) rfl ic_1 rfl dX12_least_61 ?_
      refine e_iload (i := 4) rfl dX12_least_64 ?_
      refine e_bipush (v := 40) (by decide) dX12_least_66 ?_
      refine e_icmp_eq 85 dX12_least_68 (by decide) (fun c_68 => ?_) (fun c_68 => ?_)
      · have hm := it_p c_68 hm
        refine e_iload_n (i := 2) rfl dX12_least_85 ?_
        refine e_iret dX12_least_86 rfl ?_
        have hm := some_in hm
        subst hm
        exact ⟨rfl, rfl⟩
      · have hm := it_n c_68 hm
        refine e_iload (i := 4) rfl dX12_least_71 ?_
        refine e_bipush (v := 49) (by decide) dX12_least_73 ?_
        refine e_icmp_eq 85 dX12_least_75 (by decide) (fun c_75 => ?_) (fun c_75 => ?_)
        · have hm := it_p c_75 hm
          refine e_iload_n (i := 2) rfl dX12_least_85 ?_
          refine e_iret dX12_least_86 rfl ?_
          have hm := some_in hm
          subst hm
          exact ⟨rfl, rfl⟩
        · have hm := it_n c_75 hm
          refine e_iload (i := 4) rfl dX12_least_78 ?_
          refine e_bipush (v := 50) (by decide) dX12_least_80 ?_
          refine e_icmp_ne 87 dX12_least_82 (by decide) (fun c_82 => ?_) (fun c_82 => ?_)
          · have hm := it_n c_82 hm
            refine e_iload (i := 4) rfl dX12_least_87 ?_
            refine e_bipush (v := 47) (by decide) dX12_least_89 ?_
            refine e_icmp_ne 163 dX12_least_91 (by decide) (fun c_91 => ?_) (fun c_91 => ?_)
            · have hm := it_n c_91 hm
              refine e_aload_n (i := 0) rfl dX12_least_163 ?_
              refine q_getF 12 14 191 dX12_least_164 fl_RX12_26 rfl iz_186 (fr_186_14 hF) ?_
              refine e_iload_n (i := 3) rfl dX12_least_167 ?_
              obtain ⟨c_168, hm⟩ := gd_s hm
              refine l_iald dX12_least_168 iz_191 (inb_in ln_191 c_168) (by decide) ?_
              refine q_istore_n (i := 3) (by decide) rfl dX12_least_169 ?_
              refine e_goto 4 dX12_least_170 (by decide) ?_
              refine e_weak [.ref 186, .int x1, .int (x2 + 1), .int (I 191 x3.toNatClampNeg), .null, .null, .null, .null] ⟨rfl, ⟨rfl, ⟨rfl, ⟨rfl, ⟨trivial, ⟨trivial, ⟨trivial, ⟨trivial, trivial⟩⟩⟩⟩⟩⟩⟩⟩ ?_
              exact ih I J x1 (x2 + 1) (I 191 x3.toNatClampNeg) hF _ hm
            · have hm := it_p c_91 hm
              refine e_iconst (v := (-1)) (by decide) dX12_least_94 ?_
              refine q_istore (i := 5) (by decide) rfl dX12_least_95 ?_
              refine e_aload_n (i := 0) rfl dX12_least_97 ?_
              refine q_getF 12 13 190 dX12_least_98 fl_RX12_23 rfl iz_186 (fr_186_13 hF) ?_
              refine e_iload_n (i := 3) rfl dX12_least_101 ?_
              obtain ⟨c_102, hm⟩ := gd_s hm
              refine l_iald dX12_least_102 iz_190 (inb_in ln_190 c_102) (by decide) ?_
              refine q_istore (i := 6) (by decide) rfl dX12_least_103 ?_
              refine e_weak [.ref 186, .int x1, .int (x2 + 1), .int x3, .int (I 188 x3.toNatClampNeg), .int ((-1)), .int (I 190 x3.toNatClampNeg), .null] ⟨rfl, ⟨rfl, ⟨rfl, ⟨rfl, ⟨rfl, ⟨rfl, ⟨rfl, ⟨trivial, trivial⟩⟩⟩⟩⟩⟩⟩⟩ ?_
              exact tX12_least_105 hko hB hR LF I J x1 (x2 + 1) x3 (I 188 x3.toNatClampNeg) ((-1)) (I 190 x3.toNatClampNeg) hF _ hm
          · have hm := it_p c_82 hm
            refine e_iload_n (i := 2) rfl dX12_least_85 ?_
            refine e_iret dX12_least_86 rfl ?_
            have hm := some_in hm
            subst hm
            exact ⟨rfl, rfl⟩
    · have hm := it_p c_16 hm
      refine e_aload_n (i := 0) rfl dX12_least_19 ?_
      refine e_aload_n (i := 0) rfl dX12_least_20 ?_
      refine q_getF 12 13 190 dX12_least_21 fl_RX12_23 rfl iz_186 (fr_186_13 hF) ?_
      refine e_iload_n (i := 3) rfl dX12_least_24 ?_
      obtain ⟨c_25, hm⟩ := gd_s hm
      refine l_iald dX12_least_25 iz_190 (inb_in ln_190 c_25) (by decide) ?_
      obtain ⟨q2, eq2, hm⟩ := ob_some hm
      refine e_cV1 hko dX12_least_26 ml_RX12_527 iz_186 (by decide) rfl (by omega) (Nat.le_of_ble_eq_true rfl) (hR I J F (I 190 x3.toNatClampNeg) hF q2 eq2) ?_
      rintro _ _ ⟨rfl, rfl⟩
      refine q_istore (i := 5) (by decide) rfl dX12_least_29 ?_
      refine e_aload_n (i := 0) rfl dX12_least_31 ?_
      refine e_aload_n (i := 0) rfl dX12_least_32 ?_
      refine q_getF 12 15 192 dX12_least_33 fl_RX12_29 rfl iz_186 (fr_186_15 hF) ?_
      refine e_iload_n (i := 3) rfl dX12_least_36 ?_
      obtain ⟨c_37, hm⟩ := gd_s hm
      refine q_lald dX12_least_37 iz_192 (inb_in ln_192 c_37) ?_
      refine e_l2i dX12_least_38 ?_
      obtain ⟨q3, eq3, hm⟩ := ob_some hm
      refine e_cV1 hko dX12_least_39 ml_RX12_527 iz_186 (by decide) rfl (by omega) (Nat.le_of_ble_eq_true rfl) (hR I J F ((J 192 x3.toNatClampNeg).toInt32) hF q3 eq3) ?_
      rintro _ _ ⟨rfl, rfl⟩
      refine q_istore (i := 6) (by decide) rfl dX12_least_42 ?_
      refine e_iload_n (i := 2) rfl dX12_least_44 ?_
      refine e_iload (i := 5) rfl dX12_least_45 ?_
      refine e_iload (i := 6) rfl dX12_least_47 ?_
      refine e_icmp_ge 57 dX12_least_49 (by decide) (fun c_49 => ?_) (fun c_49 => ?_)
      · have hm := it_p c_49 hm
        refine e_iload (i := 6) rfl dX12_least_57 ?_
        refine e_weak [.ref 186, .int x1, .int x2, .int x3, .int (I 188 x3.toNatClampNeg), .int q2, .int q3, .null] ⟨rfl, ⟨rfl, ⟨rfl, ⟨rfl, ⟨rfl, ⟨rfl, ⟨rfl, ⟨trivial, trivial⟩⟩⟩⟩⟩⟩⟩⟩ ?_
        exact tX12_least_59 hko hB hR I J x1 x2 x3 (I 188 x3.toNatClampNeg) q2 q3 q3 x2 hF _ hm
      · have hm := it_n c_49 hm
        refine e_iload (i := 5) rfl dX12_least_52 ?_
        refine e_goto 59 dX12_least_54 (by decide) ?_
        refine e_weak [.ref 186, .int x1, .int x2, .int x3, .int (I 188 x3.toNatClampNeg), .int q2, .int q3, .null] ⟨rfl, ⟨rfl, ⟨rfl, ⟨rfl, ⟨rfl, ⟨rfl, ⟨rfl, ⟨trivial, trivial⟩⟩⟩⟩⟩⟩⟩⟩ ?_
        exact tX12_least_59 hko hB hR I J x1 x2 x3 (I 188 x3.toNatClampNeg) q2 q3 q2 x2 hF _ hm
set_option maxRecDepth 100000 in
set_option maxHeartbeats 4000000 in
theorem tbX12_least {l : Launch} {K : a_KT} {g : a_GT} {IA : iT} {D0 : Nat} {R : sc_12leastT} (hko : a_kok K) (hB : 0 ≤ D0 + 1) (hR : sc_12least_ok l K g D0 R) (I : iT) (J : jT) (F : fT) (hF : FOK F) (x1 : Int32) (q : Int32) (hm : bX12_least R I J x1 = some q) : C l K g (D0 + 1) 0 0 yX12_least cX12_least 8 (some .int) [.ref 186, .int x1] (hg IA I J F) (fun r2 h2 => r2 = some (.int q) ∧ h2 = hg IA I J F) := by
  unfold bX12_least at hm
  refine c_of [.ref 186, .int x1, .null, .null, .null, .null, .null, .null] (by decide) (Nat.le_of_ble_eq_true rfl) rfl ?_
  refine e_iconst (v := 0) (by decide) dX12_least_0 ?_
  refine q_istore_n (i := 2) (by decide) rfl dX12_least_1 ?_
  refine e_iload_n (i := 1) rfl dX12_least_2 ?_
  refine q_istore_n (i := 3) (by decide) rfl dX12_least_3 ?_
  refine e_weak [.ref 186, .int x1, .int 0, .int x1, .null, .null, .null, .null] ⟨rfl, ⟨rfl, ⟨rfl, ⟨rfl, ⟨trivial, ⟨trivial, ⟨trivial, ⟨trivial, trivial⟩⟩⟩⟩⟩⟩⟩⟩ ?_
  exact tX12_least_4 hko hB hR LF I J x1 0 x1 hF _ hm
set_option maxRecDepth 100000 in
set_option maxHeartbeats 4000000 in
theorem sc_12least_all {l : Launch} {K : a_KT} {g : a_GT} (hko : a_kok K) : ∀ n : Nat, sc_12least_ok l K g (0 + n) (sc_12least n) := by
  intro n
  induction n with
  | zero => exact (by unfold sc_12least_ok; intros; rename_i h; cases (show (none : Option _) = some _ from h))
  | succ n ih =>
    exact fun I J F x1 hF q hm => tbX12_least hko (by omega) ih I J F hF x1 q hm
theorem tX12_least {l : Launch} {K : a_KT} {g : a_GT} {IA : iT} (hko : a_kok K) (I : iT) (J : jT) (F : fT) (hF : FOK F) (x1 : Int32) (q : Int32) (hm : mX12_least SF I J x1 = some q) : C l K g 450 0 0 yX12_least cX12_least 8 (some .int) [.ref 186, .int x1] (hg IA I J F) (fun r2 h2 => r2 = some (.int q) ∧ h2 = hg IA I J F) := (sc_12least_all hko SF) I J F x1 hF q hm
theorem dX12_def_0 : decode cX12_def 0 = .ok (.aload_n 0, 1) := by decide +kernel
theorem dX12_def_1 : decode cX12_def 1 = .ok (.iload_n 1, 1) := by decide +kernel
theorem dX12_def_2 : decode cX12_def 2 = .ok (.invokevirtual 530, 3) := by decide +kernel
theorem dX12_def_5 : decode cX12_def 5 = .ok (.ifCond .eq 12, 3) := by decide +kernel
theorem dX12_def_8 : decode cX12_def 8 = .ok (.iload_n 2, 1) := by decide +kernel
theorem dX12_def_9 : decode cX12_def 9 = .ok (.iconst 0, 1) := by decide +kernel
theorem dX12_def_10 : decode cX12_def 10 = .ok (.iconst 3, 1) := by decide +kernel
theorem dX12_def_11 : decode cX12_def 11 = .ok (.invokestatic 154, 3) := by decide +kernel
theorem dX12_def_14 : decode cX12_def 14 = .ok (.ifCond .ne 5, 3) := by decide +kernel
theorem dX12_def_17 : decode cX12_def 17 = .ok (.iconst (-1), 1) := by decide +kernel
theorem dX12_def_18 : decode cX12_def 18 = .ok (.ireturn, 1) := by decide +kernel
theorem dX12_def_19 : decode cX12_def 19 = .ok (.aload_n 0, 1) := by decide +kernel
theorem dX12_def_20 : decode cX12_def 20 = .ok (.iload_n 1, 1) := by decide +kernel
theorem dX12_def_21 : decode cX12_def 21 = .ok (.invokevirtual 424, 3) := by decide +kernel
theorem dX12_def_24 : decode cX12_def 24 = .ok (.istore_n 3, 1) := by decide +kernel
theorem dX12_def_25 : decode cX12_def 25 = .ok (.iconst 0, 1) := by decide +kernel
theorem dX12_def_26 : decode cX12_def 26 = .ok (.istore 4, 2) := by decide +kernel
theorem dX12_def_28 : decode cX12_def 28 = .ok (.iconst 0, 1) := by decide +kernel
theorem dX12_def_29 : decode cX12_def 29 = .ok (.istore 5, 2) := by decide +kernel
theorem dX12_def_31 : decode cX12_def 31 = .ok (.iload 5, 2) := by decide +kernel
theorem dX12_def_33 : decode cX12_def 33 = .ok (.aload_n 0, 1) := by decide +kernel
theorem dX12_def_34 : decode cX12_def 34 = .ok (.getfield 48, 3) := by decide +kernel
theorem dX12_def_37 : decode cX12_def 37 = .ok (.iload_n 3, 1) := by decide +kernel
theorem dX12_def_38 : decode cX12_def 38 = .ok (.iaload, 1) := by decide +kernel
theorem dX12_def_39 : decode cX12_def 39 = .ok (.if_icmp .ge 34, 3) := by decide +kernel
theorem dX12_def_42 : decode cX12_def 42 = .ok (.iload 4, 2) := by decide +kernel
theorem dX12_def_44 : decode cX12_def 44 = .ok (.aload_n 0, 1) := by decide +kernel
theorem dX12_def_45 : decode cX12_def 45 = .ok (.getfield 51, 3) := by decide +kernel
theorem dX12_def_48 : decode cX12_def 48 = .ok (.iconst 4, 1) := by decide +kernel
theorem dX12_def_49 : decode cX12_def 49 = .ok (.iload_n 3, 1) := by decide +kernel
theorem dX12_def_50 : decode cX12_def 50 = .ok (.imul, 1) := by decide +kernel
theorem dX12_def_51 : decode cX12_def 51 = .ok (.iload 5, 2) := by decide +kernel
theorem dX12_def_53 : decode cX12_def 53 = .ok (.iadd, 1) := by decide +kernel
theorem dX12_def_54 : decode cX12_def 54 = .ok (.iaload, 1) := by decide +kernel
theorem dX12_def_55 : decode cX12_def 55 = .ok (.iconst (-1), 1) := by decide +kernel
theorem dX12_def_56 : decode cX12_def 56 = .ok (.if_icmp .eq 7, 3) := by decide +kernel
theorem dX12_def_59 : decode cX12_def 59 = .ok (.iconst 1, 1) := by decide +kernel
theorem dX12_def_60 : decode cX12_def 60 = .ok (.goto 4, 3) := by decide +kernel
theorem dX12_def_63 : decode cX12_def 63 = .ok (.iconst 0, 1) := by decide +kernel
theorem dX12_def_64 : decode cX12_def 64 = .ok (.iadd, 1) := by decide +kernel
theorem dX12_def_65 : decode cX12_def 65 = .ok (.istore 4, 2) := by decide +kernel
theorem dX12_def_67 : decode cX12_def 67 = .ok (.iinc 5 1, 3) := by decide +kernel
theorem dX12_def_70 : decode cX12_def 70 = .ok (.goto (-39), 3) := by decide +kernel
theorem dX12_def_73 : decode cX12_def 73 = .ok (.iload_n 2, 1) := by decide +kernel
theorem dX12_def_74 : decode cX12_def 74 = .ok (.ifCond .ne 12, 3) := by decide +kernel
theorem dX12_def_77 : decode cX12_def 77 = .ok (.aload_n 0, 1) := by decide +kernel
theorem dX12_def_78 : decode cX12_def 78 = .ok (.getfield 48, 3) := by decide +kernel
theorem dX12_def_81 : decode cX12_def 81 = .ok (.iload_n 3, 1) := by decide +kernel
theorem dX12_def_82 : decode cX12_def 82 = .ok (.iaload, 1) := by decide +kernel
theorem dX12_def_83 : decode cX12_def 83 = .ok (.goto 37, 3) := by decide +kernel
theorem dX12_def_86 : decode cX12_def 86 = .ok (.iload_n 2, 1) := by decide +kernel
theorem dX12_def_87 : decode cX12_def 87 = .ok (.iconst 1, 1) := by decide +kernel
theorem dX12_def_88 : decode cX12_def 88 = .ok (.if_icmp .ne 8, 3) := by decide +kernel
theorem dX12_def_91 : decode cX12_def 91 = .ok (.iload 4, 2) := by decide +kernel
theorem dX12_def_93 : decode cX12_def 93 = .ok (.goto 27, 3) := by decide +kernel
theorem dX12_def_96 : decode cX12_def 96 = .ok (.iload_n 2, 1) := by decide +kernel
theorem dX12_def_97 : decode cX12_def 97 = .ok (.iconst 2, 1) := by decide +kernel
theorem dX12_def_98 : decode cX12_def 98 = .ok (.if_icmp .ne 12, 3) := by decide +kernel
theorem dX12_def_101 : decode cX12_def 101 = .ok (.aload_n 0, 1) := by decide +kernel
theorem dX12_def_102 : decode cX12_def 102 = .ok (.getfield 60, 3) := by decide +kernel
theorem dX12_def_105 : decode cX12_def 105 = .ok (.iload_n 3, 1) := by decide +kernel
theorem dX12_def_106 : decode cX12_def 106 = .ok (.iaload, 1) := by decide +kernel
theorem dX12_def_107 : decode cX12_def 107 = .ok (.goto 13, 3) := by decide +kernel
theorem dX12_def_110 : decode cX12_def 110 = .ok (.aload_n 0, 1) := by decide +kernel
theorem dX12_def_111 : decode cX12_def 111 = .ok (.aload_n 0, 1) := by decide +kernel
theorem dX12_def_112 : decode cX12_def 112 = .ok (.getfield 57, 3) := by decide +kernel
theorem dX12_def_115 : decode cX12_def 115 = .ok (.iload_n 3, 1) := by decide +kernel
theorem dX12_def_116 : decode cX12_def 116 = .ok (.iaload, 1) := by decide +kernel
theorem dX12_def_117 : decode cX12_def 117 = .ok (.invokevirtual 527, 3) := by decide +kernel
theorem dX12_def_120 : decode cX12_def 120 = .ok (.ireturn, 1) := by decide +kernel
def mX12_def_64 (k31 : iT → jT → Int32 → Int32 → Int32 → Int32 → Int32 → Option (Int32)) (I : iT) (J : jT) (x1 : Int32) (x2 : Int32) (x3 : Int32) (x4 : Int32) (x5 : Int32) (s0 : Int32) (s1 : Int32) : Option (Int32) := k31 I J x1 x2 x3 (s1 + s0) (x5 + 1)
def mX12_def_31 : Nat → iT → jT → Int32 → Int32 → Int32 → Int32 → Int32 → Option (Int32)
  | 0, _, _, _, _, _, _, _ => none
  | n + 1, I, J, x1, x2, x3, x4, x5 => if inb x3 24 then if (I 198 x3.toNatClampNeg) ≤ x5 then if x2 = 0 then if inb x3 24 then some (I 198 x3.toNatClampNeg) else none else if x2 = 1 then some x4 else if x2 = 2 then if inb x3 24 then some (I 202 x3.toNatClampNeg) else none else if inb x3 24 then (mX12_least SF I J (I 201 x3.toNatClampNeg)).bind fun q1 => some q1 else none else if inb ((4 * x3) + x5) 96 then if (I 199 ((4 * x3) + x5).toNatClampNeg) = ((-1)) then mX12_def_64 (mX12_def_31 n) I J x1 x2 x3 x4 x5 0 x4 else mX12_def_64 (mX12_def_31 n) I J x1 x2 x3 x4 x5 1 x4 else none else none
def mX12_def (I : iT) (J : jT) (x1 : Int32) (x2 : Int32) : Option (Int32) := (mX12_isDef I x1).bind fun q2 => if q2 = 0 then some ((-1)) else (mX12_isIn x2 0 3).bind fun q3 => if q3 = 0 then some ((-1)) else (mX12_def0 I x1).bind fun q4 => mX12_def_31 LF I J x1 x2 q4 0 0
set_option maxRecDepth 100000 in
set_option maxHeartbeats 4000000 in
theorem tX12_def_64 {l : Launch} {K : a_KT} {g : a_GT} {IA : iT} (hko : a_kok K) {F : fT} {k31 : iT → jT → Int32 → Int32 → Int32 → Int32 → Int32 → Option (Int32)} (hk31 : ∀ (I : iT) (J : jT) (x1 : Int32) (x2 : Int32) (x3 : Int32) (x4 : Int32) (x5 : Int32) (_ : FOK F) (q : Int32), k31 I J x1 x2 x3 x4 x5 = some q → E l K g 451 0 0 yX12_def cX12_def 6 (some .int) 31 [.ref 186, .int x1, .int x2, .int x3, .int x4, .int x5] [] (hg IA I J F) (fun r2 h2 => r2 = some (.int q) ∧ h2 = hg IA I J F)) (I : iT) (J : jT) (x1 : Int32) (x2 : Int32) (x3 : Int32) (x4 : Int32) (x5 : Int32) (s0 : Int32) (s1 : Int32) (hF : FOK F) (q : Int32) (hm : mX12_def_64 k31 I J x1 x2 x3 x4 x5 s0 s1 = some q) : E l K g 451 0 0 yX12_def cX12_def 6 (some .int) 64 [.ref 186, .int x1, .int x2, .int x3, .int x4, .int x5] [.int s0, .int s1] (hg IA I J F) (fun r2 h2 => r2 = some (.int q) ∧ h2 = hg IA I J F) := by
  unfold mX12_def_64 at hm
  refine e_iadd dX12_def_64 ?_
  refine q_istore (i := 4) (by decide) rfl dX12_def_65 ?_
  refine q_iinc (i := 5) (x5 + 1) rfl ic_1 rfl dX12_def_67 ?_
  refine e_goto 31 dX12_def_70 (by decide) ?_
  refine e_weak [.ref 186, .int x1, .int x2, .int x3, .int (s1 + s0), .int (x5 + 1)] ⟨rfl, ⟨rfl, ⟨rfl, ⟨rfl, ⟨rfl, ⟨rfl, trivial⟩⟩⟩⟩⟩⟩ ?_
  exact hk31 I J x1 x2 x3 (s1 + s0) (x5 + 1) hF _ hm
set_option maxRecDepth 100000 in
set_option maxHeartbeats 4000000 in
theorem tX12_def_31 {l : Launch} {K : a_KT} {g : a_GT} {IA : iT} (hko : a_kok K) {F : fT} : ∀ (n : Nat) (I : iT) (J : jT) (x1 : Int32) (x2 : Int32) (x3 : Int32) (x4 : Int32) (x5 : Int32) (hF : FOK F) (q : Int32), mX12_def_31 n I J x1 x2 x3 x4 x5 = some q → E l K g 451 0 0 yX12_def cX12_def 6 (some .int) 31 [.ref 186, .int x1, .int x2, .int x3, .int x4, .int x5] [] (hg IA I J F) (fun r2 h2 => r2 = some (.int q) ∧ h2 = hg IA I J F) := by
  intro n
  induction n with
  | zero => intro I J x1 x2 x3 x4 x5 hF q hm; cases hm
  | succ n ih =>
    intro I J x1 x2 x3 x4 x5 hF q hm
    rw [mX12_def_31] at hm
    refine e_iload (i := 5) rfl dX12_def_31 ?_
    refine e_aload_n (i := 0) rfl dX12_def_33 ?_
    refine q_getF 12 23 198 dX12_def_34 fl_RX12_48 rfl iz_186 (fr_186_23 hF) ?_
    refine e_iload_n (i := 3) rfl dX12_def_37 ?_
    obtain ⟨c_38, hm⟩ := gd_s hm
    refine l_iald dX12_def_38 iz_198 (inb_in ln_198 c_38) (by decide) ?_
    refine e_icmp_ge 73 dX12_def_39 (by decide) (fun c_39 => ?_) (fun c_39 => ?_)
    · have hm := it_p c_39 hm
      refine e_iload_n (i := 2) rfl dX12_def_73 ?_
      refine e_if_ne 86 dX12_def_74 (by decide) (fun c_74 => ?_) (fun c_74 => ?_)
      · have hm := it_n c_74 hm
        refine e_iload_n (i := 2) rfl dX12_def_86 ?_
        refine e_iconst (v := 1) (by decide) dX12_def_87 ?_
        refine e_icmp_ne 96 dX12_def_88 (by decide) (fun c_88 => ?_) (fun c_88 => ?_)
        · have hm := it_n c_88 hm
          refine e_iload_n (i := 2) rfl dX12_def_96 ?_
          refine e_iconst (v := 2) (by decide) dX12_def_97 ?_
          refine e_icmp_ne 110 dX12_def_98 (by decide) (fun c_98 => ?_) (fun c_98 => ?_)
          · have hm := it_n c_98 hm
            refine e_aload_n (i := 0) rfl dX12_def_110 ?_
            refine e_aload_n (i := 0) rfl dX12_def_111 ?_
            refine q_getF 12 26 201 dX12_def_112 fl_RX12_57 rfl iz_186 (fr_186_26 hF) ?_
            refine e_iload_n (i := 3) rfl dX12_def_115 ?_
            obtain ⟨c_116, hm⟩ := gd_s hm
            refine l_iald dX12_def_116 iz_201 (inb_in ln_201 c_116) (by decide) ?_
            obtain ⟨q1, eq1, hm⟩ := ob_some hm
            refine e_cV1 hko dX12_def_117 ml_RX12_527 iz_186 (by decide) rfl (by omega) (Nat.le_of_ble_eq_true rfl) (tX12_least hko I J F hF (I 201 x3.toNatClampNeg) _ eq1) ?_
            rintro _ _ ⟨rfl, rfl⟩
            refine e_iret dX12_def_120 rfl ?_
            have hm := some_in hm
            subst hm
            exact ⟨rfl, rfl⟩
          · have hm := it_p c_98 hm
            refine e_aload_n (i := 0) rfl dX12_def_101 ?_
            refine q_getF 12 27 202 dX12_def_102 fl_RX12_60 rfl iz_186 (fr_186_27 hF) ?_
            refine e_iload_n (i := 3) rfl dX12_def_105 ?_
            obtain ⟨c_106, hm⟩ := gd_s hm
            refine l_iald dX12_def_106 iz_202 (inb_in ln_202 c_106) (by decide) ?_
            refine e_goto 120 dX12_def_107 (by decide) ?_
            refine e_iret dX12_def_120 rfl ?_
            have hm := some_in hm
            subst hm
            exact ⟨rfl, rfl⟩
        · have hm := it_p c_88 hm
          refine e_iload (i := 4) rfl dX12_def_91 ?_
          refine e_goto 120 dX12_def_93 (by decide) ?_
          refine e_iret dX12_def_120 rfl ?_
          have hm := some_in hm
          subst hm
          exact ⟨rfl, rfl⟩
      · have hm := it_p c_74 hm
        refine e_aload_n (i := 0) rfl dX12_def_77 ?_
        refine q_getF 12 23 198 dX12_def_78 fl_RX12_48 rfl iz_186 (fr_186_23 hF) ?_
        refine e_iload_n (i := 3) rfl dX12_def_81 ?_
        obtain ⟨c_82, hm⟩ := gd_s hm
        refine l_iald dX12_def_82 iz_198 (inb_in ln_198 c_82) (by decide) ?_
        refine e_goto 120 dX12_def_83 (by decide) ?_
        refine e_iret dX12_def_120 rfl ?_
        have hm := some_in hm
        subst hm
        exact ⟨rfl, rfl⟩
    · have hm := it_n c_39 hm
      refine e_iload (i := 4) rfl dX12_def_42 ?_
      refine e_aload_n (i := 0) rfl dX12_def_44 ?_
      refine q_getF 12 24 199 dX12_def_45 fl_RX12_51 rfl iz_186 (fr_186_24 hF) ?_
      refine e_iconst (v := 4) (by decide) dX12_def_48 ?_
      refine e_iload_n (i := 3) rfl dX12_def_49 ?_
      refine e_imul dX12_def_50 ?_
      refine e_iload (i := 5) rfl dX12_def_51 ?_
      refine e_iadd dX12_def_53 ?_
      obtain ⟨c_54, hm⟩ := gd_s hm
      refine l_iald dX12_def_54 iz_199 (inb_in ln_199 c_54) (by decide) ?_
      refine e_iconst (v := (-1)) (by decide) dX12_def_55 ?_
      refine e_icmp_eq 63 dX12_def_56 (by decide) (fun c_56 => ?_) (fun c_56 => ?_)
      · have hm := it_p c_56 hm
        refine e_iconst (v := 0) (by decide) dX12_def_63 ?_
        refine e_weak [.ref 186, .int x1, .int x2, .int x3, .int x4, .int x5] ⟨rfl, ⟨rfl, ⟨rfl, ⟨rfl, ⟨rfl, ⟨rfl, trivial⟩⟩⟩⟩⟩⟩ ?_
        exact tX12_def_64 hko (ih) I J x1 x2 x3 x4 x5 0 x4 hF _ hm
      · have hm := it_n c_56 hm
        refine e_iconst (v := 1) (by decide) dX12_def_59 ?_
        refine e_goto 64 dX12_def_60 (by decide) ?_
        refine e_weak [.ref 186, .int x1, .int x2, .int x3, .int x4, .int x5] ⟨rfl, ⟨rfl, ⟨rfl, ⟨rfl, ⟨rfl, ⟨rfl, trivial⟩⟩⟩⟩⟩⟩ ?_
        exact tX12_def_64 hko (ih) I J x1 x2 x3 x4 x5 1 x4 hF _ hm
set_option maxRecDepth 100000 in
set_option maxHeartbeats 4000000 in
theorem tX12_def {l : Launch} {K : a_KT} {g : a_GT} {IA : iT} (hko : a_kok K) (I : iT) (J : jT) (F : fT) (hF : FOK F) (x1 : Int32) (x2 : Int32) (q : Int32) (hm : mX12_def I J x1 x2 = some q) : C l K g 451 0 0 yX12_def cX12_def 6 (some .int) [.ref 186, .int x1, .int x2] (hg IA I J F) (fun r2 h2 => r2 = some (.int q) ∧ h2 = hg IA I J F) := by
  unfold mX12_def at hm
  refine c_of [.ref 186, .int x1, .int x2, .null, .null, .null] (by decide) (Nat.le_of_ble_eq_true rfl) rfl ?_
  refine e_aload_n (i := 0) rfl dX12_def_0 ?_
  refine e_iload_n (i := 1) rfl dX12_def_1 ?_
  obtain ⟨q2, eq2, hm⟩ := ob_some hm
  refine e_cV1 hko dX12_def_2 ml_RX12_530 iz_186 (by decide) rfl (by omega) (Nat.le_of_ble_eq_true rfl) (tX12_isDef hko I J F hF x1 _ eq2) ?_
  rintro _ _ ⟨rfl, rfl⟩
  refine e_if_eq 17 dX12_def_5 (by decide) (fun c_5 => ?_) (fun c_5 => ?_)
  · have hm := it_p c_5 hm
    refine e_iconst (v := (-1)) (by decide) dX12_def_17 ?_
    refine e_iret dX12_def_18 rfl ?_
    have hm := some_in hm
    subst hm
    exact ⟨rfl, rfl⟩
  · have hm := it_n c_5 hm
    refine e_iload_n (i := 2) rfl dX12_def_8 ?_
    refine e_iconst (v := 0) (by decide) dX12_def_9 ?_
    refine e_iconst (v := 3) (by decide) dX12_def_10 ?_
    obtain ⟨q3, eq3, hm⟩ := ob_some hm
    refine e_cS3 hko dX12_def_11 ml_RX12_154 (by omega) (Nat.le_of_ble_eq_true rfl) (tX12_isIn hko I J F hF x2 0 3 _ eq3) ?_
    rintro _ _ ⟨rfl, rfl⟩
    refine e_if_ne 19 dX12_def_14 (by decide) (fun c_14 => ?_) (fun c_14 => ?_)
    · have hm := it_n c_14 hm
      refine e_aload_n (i := 0) rfl dX12_def_19 ?_
      refine e_iload_n (i := 1) rfl dX12_def_20 ?_
      obtain ⟨q4, eq4, hm⟩ := ob_some hm
      refine e_cV1 hko dX12_def_21 ml_RX12_424 iz_186 (by decide) rfl (by omega) (Nat.le_of_ble_eq_true rfl) (tX12_def0 hko I J F hF x1 _ eq4) ?_
      rintro _ _ ⟨rfl, rfl⟩
      refine q_istore_n (i := 3) (by decide) rfl dX12_def_24 ?_
      refine e_iconst (v := 0) (by decide) dX12_def_25 ?_
      refine q_istore (i := 4) (by decide) rfl dX12_def_26 ?_
      refine e_iconst (v := 0) (by decide) dX12_def_28 ?_
      refine q_istore (i := 5) (by decide) rfl dX12_def_29 ?_
      refine e_weak [.ref 186, .int x1, .int x2, .int q4, .int 0, .int 0] ⟨rfl, ⟨rfl, ⟨rfl, ⟨rfl, ⟨rfl, ⟨rfl, trivial⟩⟩⟩⟩⟩⟩ ?_
      exact tX12_def_31 hko LF I J x1 x2 q4 0 0 hF _ hm
    · have hm := it_p c_14 hm
      refine e_iconst (v := (-1)) (by decide) dX12_def_17 ?_
      refine e_iret dX12_def_18 rfl ?_
      have hm := some_in hm
      subst hm
      exact ⟨rfl, rfl⟩
theorem dX12_wholeType_0 : decode cX12_wholeType 0 = .ok (.aload_n 0, 1) := by decide +kernel
theorem dX12_wholeType_1 : decode cX12_wholeType 1 = .ok (.iconst 0, 1) := by decide +kernel
theorem dX12_wholeType_2 : decode cX12_wholeType 2 = .ok (.putfield 248, 3) := by decide +kernel
theorem dX12_wholeType_5 : decode cX12_wholeType 5 = .ok (.aload_n 0, 1) := by decide +kernel
theorem dX12_wholeType_6 : decode cX12_wholeType 6 = .ok (.iconst 0, 1) := by decide +kernel
theorem dX12_wholeType_7 : decode cX12_wholeType 7 = .ok (.putfield 254, 3) := by decide +kernel
theorem dX12_wholeType_10 : decode cX12_wholeType 10 = .ok (.aload_n 0, 1) := by decide +kernel
theorem dX12_wholeType_11 : decode cX12_wholeType 11 = .ok (.invokevirtual 257, 3) := by decide +kernel
theorem dX12_wholeType_14 : decode cX12_wholeType 14 = .ok (.ireturn, 1) := by decide +kernel
def mX12_wholeType (I : iT) (J : jT) : Option (Int32 × iT × jT) := (mX12_readType SF (a_u2 (a_u2 I 186 34 0) 186 35 0) J).bind fun q1 => if q1.1 = 0 ∨ q1.1 = 1 then some (q1.1, q1.2.1, q1.2.2) else none
set_option maxRecDepth 100000 in
set_option maxHeartbeats 4000000 in
theorem tX12_wholeType {l : Launch} {K : a_KT} {g : a_GT} {IA : iT} (hko : a_kok K) (I : iT) (J : jT) (F : fT) (hF : FOK F) (q : Int32 × iT × jT) (hm : mX12_wholeType I J = some q) : C l K g 902 0 0 yX12_wholeType cX12_wholeType 1 (some .boolean) [.ref 186] (hg IA I J F) (fun r2 h2 => r2 = some (.int q.1) ∧ h2 = hg IA q.2.1 q.2.2 F) := by
  unfold mX12_wholeType at hm
  refine c_of [.ref 186] (by decide) (Nat.le_of_ble_eq_true rfl) rfl ?_
  refine e_aload_n (i := 0) rfl dX12_wholeType_0 ?_
  refine e_iconst (v := 0) (by decide) dX12_wholeType_1 ?_
  refine l_putI 12 34 dX12_wholeType_2 fl_RX12_248 rfl rfl iz_186 (by decide) ?_
  refine e_aload_n (i := 0) rfl dX12_wholeType_5 ?_
  refine e_iconst (v := 0) (by decide) dX12_wholeType_6 ?_
  refine l_putI 12 35 dX12_wholeType_7 fl_RX12_254 rfl rfl iz_186 (by decide) ?_
  refine e_aload_n (i := 0) rfl dX12_wholeType_10 ?_
  obtain ⟨q1, eq1, hm⟩ := ob_some hm
  refine e_cV0 hko dX12_wholeType_11 ml_RX12_257 iz_186 (by decide) rfl (by omega) (Nat.le_of_ble_eq_true rfl) (tX12_readType hko (a_u2 (a_u2 I 186 34 0) 186 35 0) J F hF _ eq1) ?_
  rintro _ _ ⟨rfl, rfl⟩
  obtain ⟨c_14, hm⟩ := gd_s hm
  refine e_zret dX12_wholeType_14 rfl (zz_nar c_14) ?_
  have hm := some_in hm
  subst hm
  exact ⟨rfl, rfl⟩
theorem dX12_defText_0 : decode cX12_defText 0 = .ok (.aload_n 0, 1) := by decide +kernel
theorem dX12_defText_1 : decode cX12_defText 1 = .ok (.bipush 101, 2) := by decide +kernel
theorem dX12_defText_3 : decode cX12_defText 3 = .ok (.invokevirtual 387, 3) := by decide +kernel
theorem dX12_defText_6 : decode cX12_defText 6 = .ok (.ifCond .ne 5, 3) := by decide +kernel
theorem dX12_defText_9 : decode cX12_defText 9 = .ok (.iconst 0, 1) := by decide +kernel
theorem dX12_defText_10 : decode cX12_defText 10 = .ok (.ireturn, 1) := by decide +kernel
theorem dX12_defText_11 : decode cX12_defText 11 = .ok (.aload_n 0, 1) := by decide +kernel
theorem dX12_defText_12 : decode cX12_defText 12 = .ok (.getfield 210, 3) := by decide +kernel
theorem dX12_defText_15 : decode cX12_defText 15 = .ok (.iconst 2, 1) := by decide +kernel
theorem dX12_defText_16 : decode cX12_defText 16 = .ok (.if_icmp .eq 13, 3) := by decide +kernel
theorem dX12_defText_19 : decode cX12_defText 19 = .ok (.aload_n 0, 1) := by decide +kernel
theorem dX12_defText_20 : decode cX12_defText 20 = .ok (.iconst 1, 1) := by decide +kernel
theorem dX12_defText_21 : decode cX12_defText 21 = .ok (.aload_n 0, 1) := by decide +kernel
theorem dX12_defText_22 : decode cX12_defText 22 = .ok (.getfield 207, 3) := by decide +kernel
theorem dX12_defText_25 : decode cX12_defText 25 = .ok (.invokevirtual 232, 3) := by decide +kernel
theorem dX12_defText_28 : decode cX12_defText 28 = .ok (.ireturn, 1) := by decide +kernel
theorem dX12_defText_29 : decode cX12_defText 29 = .ok (.aload_n 0, 1) := by decide +kernel
theorem dX12_defText_30 : decode cX12_defText 30 = .ok (.aload_n 0, 1) := by decide +kernel
theorem dX12_defText_31 : decode cX12_defText 31 = .ok (.getfield 162, 3) := by decide +kernel
theorem dX12_defText_34 : decode cX12_defText 34 = .ok (.invokevirtual 365, 3) := by decide +kernel
theorem dX12_defText_37 : decode cX12_defText 37 = .ok (.iconst (-1), 1) := by decide +kernel
theorem dX12_defText_38 : decode cX12_defText 38 = .ok (.if_icmp .eq 13, 3) := by decide +kernel
theorem dX12_defText_41 : decode cX12_defText 41 = .ok (.aload_n 0, 1) := by decide +kernel
theorem dX12_defText_42 : decode cX12_defText 42 = .ok (.iconst 2, 1) := by decide +kernel
theorem dX12_defText_43 : decode cX12_defText 43 = .ok (.aload_n 0, 1) := by decide +kernel
theorem dX12_defText_44 : decode cX12_defText 44 = .ok (.getfield 207, 3) := by decide +kernel
theorem dX12_defText_47 : decode cX12_defText 47 = .ok (.invokevirtual 232, 3) := by decide +kernel
theorem dX12_defText_50 : decode cX12_defText 50 = .ok (.ireturn, 1) := by decide +kernel
theorem dX12_defText_51 : decode cX12_defText 51 = .ok (.aload_n 0, 1) := by decide +kernel
theorem dX12_defText_52 : decode cX12_defText 52 = .ok (.getfield 69, 3) := by decide +kernel
theorem dX12_defText_55 : decode cX12_defText 55 = .ok (.aload_n 0, 1) := by decide +kernel
theorem dX12_defText_56 : decode cX12_defText 56 = .ok (.getfield 251, 3) := by decide +kernel
theorem dX12_defText_59 : decode cX12_defText 59 = .ok (.iaload, 1) := by decide +kernel
theorem dX12_defText_60 : decode cX12_defText 60 = .ok (.bipush 12, 2) := by decide +kernel
theorem dX12_defText_62 : decode cX12_defText 62 = .ok (.if_icmp .ne 13, 3) := by decide +kernel
theorem dX12_defText_65 : decode cX12_defText 65 = .ok (.aload_n 0, 1) := by decide +kernel
theorem dX12_defText_66 : decode cX12_defText 66 = .ok (.iconst 5, 1) := by decide +kernel
theorem dX12_defText_67 : decode cX12_defText 67 = .ok (.aload_n 0, 1) := by decide +kernel
theorem dX12_defText_68 : decode cX12_defText 68 = .ok (.getfield 207, 3) := by decide +kernel
theorem dX12_defText_71 : decode cX12_defText 71 = .ok (.invokevirtual 232, 3) := by decide +kernel
theorem dX12_defText_74 : decode cX12_defText 74 = .ok (.ireturn, 1) := by decide +kernel
theorem dX12_defText_75 : decode cX12_defText 75 = .ok (.bipush 12, 2) := by decide +kernel
theorem dX12_defText_77 : decode cX12_defText 77 = .ok (.aload_n 0, 1) := by decide +kernel
theorem dX12_defText_78 : decode cX12_defText 78 = .ok (.getfield 251, 3) := by decide +kernel
theorem dX12_defText_81 : decode cX12_defText 81 = .ok (.imul, 1) := by decide +kernel
theorem dX12_defText_82 : decode cX12_defText 82 = .ok (.aload_n 0, 1) := by decide +kernel
theorem dX12_defText_83 : decode cX12_defText 83 = .ok (.getfield 69, 3) := by decide +kernel
theorem dX12_defText_86 : decode cX12_defText 86 = .ok (.aload_n 0, 1) := by decide +kernel
theorem dX12_defText_87 : decode cX12_defText 87 = .ok (.getfield 251, 3) := by decide +kernel
theorem dX12_defText_90 : decode cX12_defText 90 = .ok (.iaload, 1) := by decide +kernel
theorem dX12_defText_91 : decode cX12_defText 91 = .ok (.iadd, 1) := by decide +kernel
theorem dX12_defText_92 : decode cX12_defText 92 = .ok (.istore_n 1, 1) := by decide +kernel
theorem dX12_defText_93 : decode cX12_defText 93 = .ok (.aload_n 0, 1) := by decide +kernel
theorem dX12_defText_94 : decode cX12_defText 94 = .ok (.getfield 36, 3) := by decide +kernel
theorem dX12_defText_97 : decode cX12_defText 97 = .ok (.iload_n 1, 1) := by decide +kernel
theorem dX12_defText_98 : decode cX12_defText 98 = .ok (.aload_n 0, 1) := by decide +kernel
theorem dX12_defText_99 : decode cX12_defText 99 = .ok (.getfield 162, 3) := by decide +kernel
theorem dX12_defText_102 : decode cX12_defText 102 = .ok (.lastore, 1) := by decide +kernel
theorem dX12_defText_103 : decode cX12_defText 103 = .ok (.aload_n 0, 1) := by decide +kernel
theorem dX12_defText_104 : decode cX12_defText 104 = .ok (.invokevirtual 236, 3) := by decide +kernel
theorem dX12_defText_107 : decode cX12_defText 107 = .ok (.aload_n 0, 1) := by decide +kernel
theorem dX12_defText_108 : decode cX12_defText 108 = .ok (.bipush 40, 2) := by decide +kernel
theorem dX12_defText_110 : decode cX12_defText 110 = .ok (.invokevirtual 278, 3) := by decide +kernel
theorem dX12_defText_113 : decode cX12_defText 113 = .ok (.ifCond .ne 5, 3) := by decide +kernel
theorem dX12_defText_116 : decode cX12_defText 116 = .ok (.iconst 0, 1) := by decide +kernel
theorem dX12_defText_117 : decode cX12_defText 117 = .ok (.ireturn, 1) := by decide +kernel
theorem dX12_defText_118 : decode cX12_defText 118 = .ok (.aload_n 0, 1) := by decide +kernel
theorem dX12_defText_119 : decode cX12_defText 119 = .ok (.iconst 0, 1) := by decide +kernel
theorem dX12_defText_120 : decode cX12_defText 120 = .ok (.putfield 292, 3) := by decide +kernel
theorem dX12_defText_123 : decode cX12_defText 123 = .ok (.aload_n 0, 1) := by decide +kernel
theorem dX12_defText_124 : decode cX12_defText 124 = .ok (.iconst 0, 1) := by decide +kernel
theorem dX12_defText_125 : decode cX12_defText 125 = .ok (.putfield 325, 3) := by decide +kernel
theorem dX12_defText_128 : decode cX12_defText 128 = .ok (.aload_n 0, 1) := by decide +kernel
theorem dX12_defText_129 : decode cX12_defText 129 = .ok (.iconst 0, 1) := by decide +kernel
theorem dX12_defText_130 : decode cX12_defText 130 = .ok (.putfield 295, 3) := by decide +kernel
theorem dX12_defText_133 : decode cX12_defText 133 = .ok (.iconst 0, 1) := by decide +kernel
theorem dX12_defText_134 : decode cX12_defText 134 = .ok (.istore_n 2, 1) := by decide +kernel
theorem dX12_defText_135 : decode cX12_defText 135 = .ok (.aload_n 0, 1) := by decide +kernel
theorem dX12_defText_136 : decode cX12_defText 136 = .ok (.bipush 41, 2) := by decide +kernel
theorem dX12_defText_138 : decode cX12_defText 138 = .ok (.invokevirtual 229, 3) := by decide +kernel
theorem dX12_defText_141 : decode cX12_defText 141 = .ok (.ifCond .ne 167, 3) := by decide +kernel
theorem dX12_defText_144 : decode cX12_defText 144 = .ok (.iload_n 2, 1) := by decide +kernel
theorem dX12_defText_145 : decode cX12_defText 145 = .ok (.ifCond .le 14, 3) := by decide +kernel
theorem dX12_defText_148 : decode cX12_defText 148 = .ok (.aload_n 0, 1) := by decide +kernel
theorem dX12_defText_149 : decode cX12_defText 149 = .ok (.bipush 44, 2) := by decide +kernel
theorem dX12_defText_151 : decode cX12_defText 151 = .ok (.invokevirtual 278, 3) := by decide +kernel
theorem dX12_defText_154 : decode cX12_defText 154 = .ok (.ifCond .ne 5, 3) := by decide +kernel
theorem dX12_defText_157 : decode cX12_defText 157 = .ok (.iconst 0, 1) := by decide +kernel
theorem dX12_defText_158 : decode cX12_defText 158 = .ok (.ireturn, 1) := by decide +kernel
theorem dX12_defText_159 : decode cX12_defText 159 = .ok (.aload_n 0, 1) := by decide +kernel
theorem dX12_defText_160 : decode cX12_defText 160 = .ok (.invokevirtual 346, 3) := by decide +kernel
theorem dX12_defText_163 : decode cX12_defText 163 = .ok (.ifCond .ne 5, 3) := by decide +kernel
theorem dX12_defText_166 : decode cX12_defText 166 = .ok (.iconst 0, 1) := by decide +kernel
theorem dX12_defText_167 : decode cX12_defText 167 = .ok (.ireturn, 1) := by decide +kernel
theorem dX12_defText_168 : decode cX12_defText 168 = .ok (.iload_n 2, 1) := by decide +kernel
theorem dX12_defText_169 : decode cX12_defText 169 = .ok (.iconst 4, 1) := by decide +kernel
theorem dX12_defText_170 : decode cX12_defText 170 = .ok (.if_icmp .ne 13, 3) := by decide +kernel
theorem dX12_defText_173 : decode cX12_defText 173 = .ok (.aload_n 0, 1) := by decide +kernel
theorem dX12_defText_174 : decode cX12_defText 174 = .ok (.iconst 5, 1) := by decide +kernel
theorem dX12_defText_175 : decode cX12_defText 175 = .ok (.aload_n 0, 1) := by decide +kernel
theorem dX12_defText_176 : decode cX12_defText 176 = .ok (.getfield 207, 3) := by decide +kernel
theorem dX12_defText_179 : decode cX12_defText 179 = .ok (.invokevirtual 232, 3) := by decide +kernel
theorem dX12_defText_182 : decode cX12_defText 182 = .ok (.ireturn, 1) := by decide +kernel
theorem dX12_defText_183 : decode cX12_defText 183 = .ok (.iload_n 2, 1) := by decide +kernel
theorem dX12_defText_184 : decode cX12_defText 184 = .ok (.ifCond .ne 13, 3) := by decide +kernel
theorem dX12_defText_187 : decode cX12_defText 187 = .ok (.aload_n 0, 1) := by decide +kernel
theorem dX12_defText_188 : decode cX12_defText 188 = .ok (.getfield 63, 3) := by decide +kernel
theorem dX12_defText_191 : decode cX12_defText 191 = .ok (.iload_n 1, 1) := by decide +kernel
theorem dX12_defText_192 : decode cX12_defText 192 = .ok (.aload_n 0, 1) := by decide +kernel
theorem dX12_defText_193 : decode cX12_defText 193 = .ok (.getfield 207, 3) := by decide +kernel
theorem dX12_defText_196 : decode cX12_defText 196 = .ok (.iastore, 1) := by decide +kernel
theorem dX12_defText_197 : decode cX12_defText 197 = .ok (.aload_n 0, 1) := by decide +kernel
theorem dX12_defText_198 : decode cX12_defText 198 = .ok (.getfield 162, 3) := by decide +kernel
theorem dX12_defText_201 : decode cX12_defText 201 = .ok (.lstore_n 3, 1) := by decide +kernel
theorem dX12_defText_202 : decode cX12_defText 202 = .ok (.aload_n 0, 1) := by decide +kernel
theorem dX12_defText_203 : decode cX12_defText 203 = .ok (.invokevirtual 236, 3) := by decide +kernel
theorem dX12_defText_206 : decode cX12_defText 206 = .ok (.aload_n 0, 1) := by decide +kernel
theorem dX12_defText_207 : decode cX12_defText 207 = .ok (.getfield 51, 3) := by decide +kernel
theorem dX12_defText_210 : decode cX12_defText 210 = .ok (.iconst 4, 1) := by decide +kernel
theorem dX12_defText_211 : decode cX12_defText 211 = .ok (.iload_n 1, 1) := by decide +kernel
theorem dX12_defText_212 : decode cX12_defText 212 = .ok (.imul, 1) := by decide +kernel
theorem dX12_defText_213 : decode cX12_defText 213 = .ok (.iload_n 2, 1) := by decide +kernel
theorem dX12_defText_214 : decode cX12_defText 214 = .ok (.iadd, 1) := by decide +kernel
theorem dX12_defText_215 : decode cX12_defText 215 = .ok (.iconst (-1), 1) := by decide +kernel
theorem dX12_defText_216 : decode cX12_defText 216 = .ok (.iastore, 1) := by decide +kernel
theorem dX12_defText_217 : decode cX12_defText 217 = .ok (.aload_n 0, 1) := by decide +kernel
theorem dX12_defText_218 : decode cX12_defText 218 = .ok (.bipush 58, 2) := by decide +kernel
theorem dX12_defText_220 : decode cX12_defText 220 = .ok (.invokevirtual 229, 3) := by decide +kernel
theorem dX12_defText_223 : decode cX12_defText 223 = .ok (.ifCond .eq 30, 3) := by decide +kernel
theorem dX12_defText_226 : decode cX12_defText 226 = .ok (.aload_n 0, 1) := by decide +kernel
theorem dX12_defText_227 : decode cX12_defText 227 = .ok (.invokevirtual 236, 3) := by decide +kernel
theorem dX12_defText_230 : decode cX12_defText 230 = .ok (.aload_n 0, 1) := by decide +kernel
theorem dX12_defText_231 : decode cX12_defText 231 = .ok (.invokevirtual 393, 3) := by decide +kernel
theorem dX12_defText_234 : decode cX12_defText 234 = .ok (.ifCond .ne 5, 3) := by decide +kernel
theorem dX12_defText_237 : decode cX12_defText 237 = .ok (.iconst 0, 1) := by decide +kernel
theorem dX12_defText_238 : decode cX12_defText 238 = .ok (.ireturn, 1) := by decide +kernel
theorem dX12_defText_239 : decode cX12_defText 239 = .ok (.aload_n 0, 1) := by decide +kernel
theorem dX12_defText_240 : decode cX12_defText 240 = .ok (.getfield 51, 3) := by decide +kernel
theorem dX12_defText_243 : decode cX12_defText 243 = .ok (.iconst 4, 1) := by decide +kernel
theorem dX12_defText_244 : decode cX12_defText 244 = .ok (.iload_n 1, 1) := by decide +kernel
theorem dX12_defText_245 : decode cX12_defText 245 = .ok (.imul, 1) := by decide +kernel
theorem dX12_defText_246 : decode cX12_defText 246 = .ok (.iload_n 2, 1) := by decide +kernel
theorem dX12_defText_247 : decode cX12_defText 247 = .ok (.iadd, 1) := by decide +kernel
theorem dX12_defText_248 : decode cX12_defText 248 = .ok (.aload_n 0, 1) := by decide +kernel
theorem dX12_defText_249 : decode cX12_defText 249 = .ok (.getfield 268, 3) := by decide +kernel
theorem dX12_defText_252 : decode cX12_defText 252 = .ok (.iastore, 1) := by decide +kernel
theorem dX12_defText_253 : decode cX12_defText 253 = .ok (.aload_n 0, 1) := by decide +kernel
theorem dX12_defText_254 : decode cX12_defText 254 = .ok (.getfield 39, 3) := by decide +kernel
theorem dX12_defText_257 : decode cX12_defText 257 = .ok (.iconst 4, 1) := by decide +kernel
theorem dX12_defText_258 : decode cX12_defText 258 = .ok (.iload_n 1, 1) := by decide +kernel
theorem dX12_defText_259 : decode cX12_defText 259 = .ok (.imul, 1) := by decide +kernel
theorem dX12_defText_260 : decode cX12_defText 260 = .ok (.iload_n 2, 1) := by decide +kernel
theorem dX12_defText_261 : decode cX12_defText 261 = .ok (.iadd, 1) := by decide +kernel
theorem dX12_defText_262 : decode cX12_defText 262 = .ok (.lload_n 3, 1) := by decide +kernel
theorem dX12_defText_263 : decode cX12_defText 263 = .ok (.lastore, 1) := by decide +kernel
theorem dX12_defText_264 : decode cX12_defText 264 = .ok (.aload_n 0, 1) := by decide +kernel
theorem dX12_defText_265 : decode cX12_defText 265 = .ok (.aload_n 0, 1) := by decide +kernel
theorem dX12_defText_266 : decode cX12_defText 266 = .ok (.lload_n 3, 1) := by decide +kernel
theorem dX12_defText_267 : decode cX12_defText 267 = .ok (.aload_n 0, 1) := by decide +kernel
theorem dX12_defText_268 : decode cX12_defText 268 = .ok (.getfield 51, 3) := by decide +kernel
theorem dX12_defText_271 : decode cX12_defText 271 = .ok (.iconst 4, 1) := by decide +kernel
theorem dX12_defText_272 : decode cX12_defText 272 = .ok (.iload_n 1, 1) := by decide +kernel
theorem dX12_defText_273 : decode cX12_defText 273 = .ok (.imul, 1) := by decide +kernel
theorem dX12_defText_274 : decode cX12_defText 274 = .ok (.iload_n 2, 1) := by decide +kernel
theorem dX12_defText_275 : decode cX12_defText 275 = .ok (.iadd, 1) := by decide +kernel
theorem dX12_defText_276 : decode cX12_defText 276 = .ok (.iaload, 1) := by decide +kernel
theorem dX12_defText_277 : decode cX12_defText 277 = .ok (.iconst (-1), 1) := by decide +kernel
theorem dX12_defText_278 : decode cX12_defText 278 = .ok (.if_icmp .ne 7, 3) := by decide +kernel
theorem dX12_defText_281 : decode cX12_defText 281 = .ok (.iconst 0, 1) := by decide +kernel
theorem dX12_defText_282 : decode cX12_defText 282 = .ok (.goto 4, 3) := by decide +kernel
theorem dX12_defText_285 : decode cX12_defText 285 = .ok (.iconst 2, 1) := by decide +kernel
theorem dX12_defText_286 : decode cX12_defText 286 = .ok (.aload_n 0, 1) := by decide +kernel
theorem dX12_defText_287 : decode cX12_defText 287 = .ok (.getfield 51, 3) := by decide +kernel
theorem dX12_defText_290 : decode cX12_defText 290 = .ok (.iconst 4, 1) := by decide +kernel
theorem dX12_defText_291 : decode cX12_defText 291 = .ok (.iload_n 1, 1) := by decide +kernel
theorem dX12_defText_292 : decode cX12_defText 292 = .ok (.imul, 1) := by decide +kernel
theorem dX12_defText_293 : decode cX12_defText 293 = .ok (.iload_n 2, 1) := by decide +kernel
theorem dX12_defText_294 : decode cX12_defText 294 = .ok (.iadd, 1) := by decide +kernel
theorem dX12_defText_295 : decode cX12_defText 295 = .ok (.iaload, 1) := by decide +kernel
theorem dX12_defText_296 : decode cX12_defText 296 = .ok (.invokevirtual 349, 3) := by decide +kernel
theorem dX12_defText_299 : decode cX12_defText 299 = .ok (.putfield 396, 3) := by decide +kernel
theorem dX12_defText_302 : decode cX12_defText 302 = .ok (.iinc 2 1, 3) := by decide +kernel
theorem dX12_defText_305 : decode cX12_defText 305 = .ok (.goto (-170), 3) := by decide +kernel
theorem dX12_defText_308 : decode cX12_defText 308 = .ok (.aload_n 0, 1) := by decide +kernel
theorem dX12_defText_309 : decode cX12_defText 309 = .ok (.invokevirtual 236, 3) := by decide +kernel
theorem dX12_defText_312 : decode cX12_defText 312 = .ok (.aload_n 0, 1) := by decide +kernel
theorem dX12_defText_313 : decode cX12_defText 313 = .ok (.getfield 48, 3) := by decide +kernel
theorem dX12_defText_316 : decode cX12_defText 316 = .ok (.iload_n 1, 1) := by decide +kernel
theorem dX12_defText_317 : decode cX12_defText 317 = .ok (.iload_n 2, 1) := by decide +kernel
theorem dX12_defText_318 : decode cX12_defText 318 = .ok (.iastore, 1) := by decide +kernel
theorem dX12_defText_319 : decode cX12_defText 319 = .ok (.aload_n 0, 1) := by decide +kernel
theorem dX12_defText_320 : decode cX12_defText 320 = .ok (.invokevirtual 346, 3) := by decide +kernel
theorem dX12_defText_323 : decode cX12_defText 323 = .ok (.ifCond .ne 5, 3) := by decide +kernel
theorem dX12_defText_326 : decode cX12_defText 326 = .ok (.iconst 0, 1) := by decide +kernel
theorem dX12_defText_327 : decode cX12_defText 327 = .ok (.ireturn, 1) := by decide +kernel
theorem dX12_defText_328 : decode cX12_defText 328 = .ok (.aload_n 0, 1) := by decide +kernel
theorem dX12_defText_329 : decode cX12_defText 329 = .ok (.getfield 42, 3) := by decide +kernel
theorem dX12_defText_332 : decode cX12_defText 332 = .ok (.iload_n 1, 1) := by decide +kernel
theorem dX12_defText_333 : decode cX12_defText 333 = .ok (.aload_n 0, 1) := by decide +kernel
theorem dX12_defText_334 : decode cX12_defText 334 = .ok (.getfield 162, 3) := by decide +kernel
theorem dX12_defText_337 : decode cX12_defText 337 = .ok (.lastore, 1) := by decide +kernel
theorem dX12_defText_338 : decode cX12_defText 338 = .ok (.aload_n 0, 1) := by decide +kernel
theorem dX12_defText_339 : decode cX12_defText 339 = .ok (.invokevirtual 236, 3) := by decide +kernel
theorem dX12_defText_342 : decode cX12_defText 342 = .ok (.aload_n 0, 1) := by decide +kernel
theorem dX12_defText_343 : decode cX12_defText 343 = .ok (.bipush 58, 2) := by decide +kernel
theorem dX12_defText_345 : decode cX12_defText 345 = .ok (.invokevirtual 278, 3) := by decide +kernel
theorem dX12_defText_348 : decode cX12_defText 348 = .ok (.ifCond .eq 10, 3) := by decide +kernel
theorem dX12_defText_351 : decode cX12_defText 351 = .ok (.aload_n 0, 1) := by decide +kernel
theorem dX12_defText_352 : decode cX12_defText 352 = .ok (.invokevirtual 393, 3) := by decide +kernel
theorem dX12_defText_355 : decode cX12_defText 355 = .ok (.ifCond .ne 5, 3) := by decide +kernel
theorem dX12_defText_358 : decode cX12_defText 358 = .ok (.iconst 0, 1) := by decide +kernel
theorem dX12_defText_359 : decode cX12_defText 359 = .ok (.ireturn, 1) := by decide +kernel
theorem dX12_defText_360 : decode cX12_defText 360 = .ok (.aload_n 0, 1) := by decide +kernel
theorem dX12_defText_361 : decode cX12_defText 361 = .ok (.getfield 54, 3) := by decide +kernel
theorem dX12_defText_364 : decode cX12_defText 364 = .ok (.iload_n 1, 1) := by decide +kernel
theorem dX12_defText_365 : decode cX12_defText 365 = .ok (.aload_n 0, 1) := by decide +kernel
theorem dX12_defText_366 : decode cX12_defText 366 = .ok (.getfield 268, 3) := by decide +kernel
theorem dX12_defText_369 : decode cX12_defText 369 = .ok (.iastore, 1) := by decide +kernel
theorem dX12_defText_370 : decode cX12_defText 370 = .ok (.aload_n 0, 1) := by decide +kernel
theorem dX12_defText_371 : decode cX12_defText 371 = .ok (.aload_n 0, 1) := by decide +kernel
theorem dX12_defText_372 : decode cX12_defText 372 = .ok (.aload_n 0, 1) := by decide +kernel
theorem dX12_defText_373 : decode cX12_defText 373 = .ok (.getfield 42, 3) := by decide +kernel
theorem dX12_defText_376 : decode cX12_defText 376 = .ok (.iload_n 1, 1) := by decide +kernel
theorem dX12_defText_377 : decode cX12_defText 377 = .ok (.laload, 1) := by decide +kernel
theorem dX12_defText_378 : decode cX12_defText 378 = .ok (.iconst 1, 1) := by decide +kernel
theorem dX12_defText_379 : decode cX12_defText 379 = .ok (.aload_n 0, 1) := by decide +kernel
theorem dX12_defText_380 : decode cX12_defText 380 = .ok (.getfield 268, 3) := by decide +kernel
theorem dX12_defText_383 : decode cX12_defText 383 = .ok (.invokevirtual 349, 3) := by decide +kernel
theorem dX12_defText_386 : decode cX12_defText 386 = .ok (.putfield 396, 3) := by decide +kernel
theorem dX12_defText_389 : decode cX12_defText 389 = .ok (.aload_n 0, 1) := by decide +kernel
theorem dX12_defText_390 : decode cX12_defText 390 = .ok (.bipush 61, 2) := by decide +kernel
theorem dX12_defText_392 : decode cX12_defText 392 = .ok (.invokevirtual 278, 3) := by decide +kernel
theorem dX12_defText_395 : decode cX12_defText 395 = .ok (.ifCond .eq 10, 3) := by decide +kernel
theorem dX12_defText_398 : decode cX12_defText 398 = .ok (.aload_n 0, 1) := by decide +kernel
theorem dX12_defText_399 : decode cX12_defText 399 = .ok (.invokevirtual 384, 3) := by decide +kernel
theorem dX12_defText_402 : decode cX12_defText 402 = .ok (.ifCond .ne 5, 3) := by decide +kernel
theorem dX12_defText_405 : decode cX12_defText 405 = .ok (.iconst 0, 1) := by decide +kernel
theorem dX12_defText_406 : decode cX12_defText 406 = .ok (.ireturn, 1) := by decide +kernel
theorem dX12_defText_407 : decode cX12_defText 407 = .ok (.aload_n 0, 1) := by decide +kernel
theorem dX12_defText_408 : decode cX12_defText 408 = .ok (.getfield 57, 3) := by decide +kernel
theorem dX12_defText_411 : decode cX12_defText 411 = .ok (.iload_n 1, 1) := by decide +kernel
theorem dX12_defText_412 : decode cX12_defText 412 = .ok (.aload_n 0, 1) := by decide +kernel
theorem dX12_defText_413 : decode cX12_defText 413 = .ok (.getfield 331, 3) := by decide +kernel
theorem dX12_defText_416 : decode cX12_defText 416 = .ok (.iastore, 1) := by decide +kernel
theorem dX12_defText_417 : decode cX12_defText 417 = .ok (.aload_n 0, 1) := by decide +kernel
theorem dX12_defText_418 : decode cX12_defText 418 = .ok (.getfield 60, 3) := by decide +kernel
theorem dX12_defText_421 : decode cX12_defText 421 = .ok (.iload_n 1, 1) := by decide +kernel
theorem dX12_defText_422 : decode cX12_defText 422 = .ok (.aload_n 0, 1) := by decide +kernel
theorem dX12_defText_423 : decode cX12_defText 423 = .ok (.getfield 325, 3) := by decide +kernel
theorem dX12_defText_426 : decode cX12_defText 426 = .ok (.iastore, 1) := by decide +kernel
theorem dX12_defText_427 : decode cX12_defText 427 = .ok (.aload_n 0, 1) := by decide +kernel
theorem dX12_defText_428 : decode cX12_defText 428 = .ok (.getfield 69, 3) := by decide +kernel
theorem dX12_defText_431 : decode cX12_defText 431 = .ok (.aload_n 0, 1) := by decide +kernel
theorem dX12_defText_432 : decode cX12_defText 432 = .ok (.getfield 251, 3) := by decide +kernel
theorem dX12_defText_435 : decode cX12_defText 435 = .ok (.dup2, 1) := by decide +kernel
theorem dX12_defText_436 : decode cX12_defText 436 = .ok (.iaload, 1) := by decide +kernel
theorem dX12_defText_437 : decode cX12_defText 437 = .ok (.iconst 1, 1) := by decide +kernel
theorem dX12_defText_438 : decode cX12_defText 438 = .ok (.iadd, 1) := by decide +kernel
theorem dX12_defText_439 : decode cX12_defText 439 = .ok (.iastore, 1) := by decide +kernel
theorem dX12_defText_440 : decode cX12_defText 440 = .ok (.iconst 1, 1) := by decide +kernel
theorem dX12_defText_441 : decode cX12_defText 441 = .ok (.ireturn, 1) := by decide +kernel
def mX12_defText_286 (k135 : iT → jT → Int32 → Int32 → Option (Int32 × iT × jT)) (I : iT) (J : jT) (x1 : Int32) (x2 : Int32) (w3 : Int64) (s0 : Int32) (s1 : Int64) : Option (Int32 × iT × jT) := if inb ((4 * x1) + x2) 96 then (mX12_newSlot I J s1 s0 (I 199 ((4 * x1) + x2).toNatClampNeg)).bind fun q1 => k135 (a_u2 q1.2.1 186 51 q1.1) q1.2.2 x1 (x2 + 1) else none
def mX12_defText_253 (k135 : iT → jT → Int32 → Int32 → Option (Int32 × iT × jT)) (I : iT) (J : jT) (x1 : Int32) (x2 : Int32) (w3 : Int64) : Option (Int32 × iT × jT) := if inb ((4 * x1) + x2) 96 then if inb ((4 * x1) + x2) 96 then if (I 199 ((4 * x1) + x2).toNatClampNeg) = ((-1)) then mX12_defText_286 (k135) I (a_u2 J 195 ((4 * x1) + x2).toNatClampNeg w3) x1 x2 w3 0 w3 else mX12_defText_286 (k135) I (a_u2 J 195 ((4 * x1) + x2).toNatClampNeg w3) x1 x2 w3 2 w3 else none else none
def mX12_defText_197 (k135 : iT → jT → Int32 → Int32 → Option (Int32 × iT × jT)) (I : iT) (J : jT) (x1 : Int32) (x2 : Int32) : Option (Int32 × iT × jT) := (mX12_look0 I J).bind fun q2 => if inb ((4 * x1) + x2) 96 then (mX12_isSign (a_u2 q2.1 199 ((4 * x1) + x2).toNatClampNeg ((-1))) 58).bind fun q3 => if q3 = 0 then mX12_defText_253 (k135) (a_u2 q2.1 199 ((4 * x1) + x2).toNatClampNeg ((-1))) q2.2 x1 x2 (J 186 6) else (mX12_look0 (a_u2 q2.1 199 ((4 * x1) + x2).toNatClampNeg ((-1))) q2.2).bind fun q4 => (mX12_wholeType q4.1 q4.2).bind fun q5 => if q5.1 = 0 then some (0, q5.2.1, q5.2.2) else if inb ((4 * x1) + x2) 96 then mX12_defText_253 (k135) (a_u2 q5.2.1 199 ((4 * x1) + x2).toNatClampNeg (q5.2.1 186 36)) q5.2.2 x1 x2 (J 186 6) else none else none
def mX12_defText_159 (k135 : iT → jT → Int32 → Int32 → Option (Int32 × iT × jT)) (I : iT) (J : jT) (x1 : Int32) (x2 : Int32) : Option (Int32 × iT × jT) := (mX12_isFree I J).bind fun q6 => if q6.1 = 0 then some (0, q6.2, J) else if x2 = 4 then (mX12_bad q6.2 5 (q6.2 186 4)).bind fun q7 => if q7.1 = 0 ∨ q7.1 = 1 then some (q7.1, q7.2, J) else none else if x2 = 0 then if inb x1 24 then mX12_defText_197 (k135) (a_u2 q6.2 203 x1.toNatClampNeg (q6.2 186 4)) J x1 x2 else none else mX12_defText_197 (k135) q6.2 J x1 x2
def mX12_defText_135 : Nat → iT → jT → Int32 → Int32 → Option (Int32 × iT × jT)
  | 0, _, _, _, _ => none
  | n + 1, I, J, x1, x2 => (mX12_isSign I 41).bind fun q8 => if q8 = 0 then if x2 ≤ 0 then mX12_defText_159 (mX12_defText_135 n) I J x1 x2 else (mX12_need I J 44).bind fun q17 => if q17.1 = 0 then some (0, q17.2.1, q17.2.2) else mX12_defText_159 (mX12_defText_135 n) q17.2.1 q17.2.2 x1 x2 else (mX12_look0 I J).bind fun q9 => if inb x1 24 then (mX12_isFree (a_u2 q9.1 198 x1.toNatClampNeg x2) q9.2).bind fun q10 => if q10.1 = 0 then some (0, q10.2, q9.2) else if inb x1 24 then (mX12_look0 q10.2 (a_u2 q9.2 196 x1.toNatClampNeg (q9.2 186 6))).bind fun q11 => (mX12_need q11.1 q11.2 58).bind fun q12 => if q12.1 = 0 then some (0, q12.2.1, q12.2.2) else (mX12_wholeType q12.2.1 q12.2.2).bind fun q13 => if q13.1 = 0 then some (0, q13.2.1, q13.2.2) else if inb x1 24 then if inb x1 24 then (mX12_newSlot (a_u2 q13.2.1 200 x1.toNatClampNeg (q13.2.1 186 36)) q13.2.2 (q13.2.2 196 x1.toNatClampNeg) 1 ((a_u2 q13.2.1 200 x1.toNatClampNeg (q13.2.1 186 36)) 186 36)).bind fun q14 => (mX12_need (a_u2 q14.2.1 186 51 q14.1) q14.2.2 61).bind fun q15 => if q15.1 = 0 then some (0, q15.2.1, q15.2.2) else (mX12_readProcess SF q15.2.1 q15.2.2).bind fun q16 => if q16.1 = 0 then some (0, q16.2.1, q16.2.2) else if inb x1 24 then if inb x1 24 then if inb ((a_u2 (a_u2 q16.2.1 201 x1.toNatClampNeg (q16.2.1 186 49)) 202 x1.toNatClampNeg ((a_u2 q16.2.1 201 x1.toNatClampNeg (q16.2.1 186 49)) 186 44)) 186 32) 2 then if inb ((a_u2 (a_u2 q16.2.1 201 x1.toNatClampNeg (q16.2.1 186 49)) 202 x1.toNatClampNeg ((a_u2 q16.2.1 201 x1.toNatClampNeg (q16.2.1 186 49)) 186 44)) 186 32) 2 then some (1, a_u2 (a_u2 (a_u2 q16.2.1 201 x1.toNatClampNeg (q16.2.1 186 49)) 202 x1.toNatClampNeg ((a_u2 q16.2.1 201 x1.toNatClampNeg (q16.2.1 186 49)) 186 44)) 205 ((a_u2 (a_u2 q16.2.1 201 x1.toNatClampNeg (q16.2.1 186 49)) 202 x1.toNatClampNeg ((a_u2 q16.2.1 201 x1.toNatClampNeg (q16.2.1 186 49)) 186 44)) 186 32).toNatClampNeg (((a_u2 (a_u2 q16.2.1 201 x1.toNatClampNeg (q16.2.1 186 49)) 202 x1.toNatClampNeg ((a_u2 q16.2.1 201 x1.toNatClampNeg (q16.2.1 186 49)) 186 44)) 205 ((a_u2 (a_u2 q16.2.1 201 x1.toNatClampNeg (q16.2.1 186 49)) 202 x1.toNatClampNeg ((a_u2 q16.2.1 201 x1.toNatClampNeg (q16.2.1 186 49)) 186 44)) 186 32).toNatClampNeg) + 1), q16.2.2) else none else none else none else none else none else none else none else none
def mX12_defText (I : iT) (J : jT) : Option (Int32 × iT × jT) := (mX12_needWord I J 101).bind fun q18 => if q18.1 = 0 then some (0, q18.2.1, q18.2.2) else if (q18.2.1 186 3) = 2 then (mX12_findDef q18.2.1 q18.2.2 (q18.2.2 186 6)).bind fun q19 => if q19 = ((-1)) then if inb (q18.2.1 186 32) 2 then if (q18.2.1 205 (q18.2.1 186 32).toNatClampNeg) = 12 then (mX12_bad q18.2.1 5 (q18.2.1 186 4)).bind fun q22 => if q22.1 = 0 ∨ q22.1 = 1 then some (q22.1, q22.2, q18.2.2) else none else if inb (q18.2.1 186 32) 2 then if inb ((12 * (q18.2.1 186 32)) + (q18.2.1 205 (q18.2.1 186 32).toNatClampNeg)) 24 then (mX12_look0 q18.2.1 (a_u2 q18.2.2 194 ((12 * (q18.2.1 186 32)) + (q18.2.1 205 (q18.2.1 186 32).toNatClampNeg)).toNatClampNeg (q18.2.2 186 6))).bind fun q20 => (mX12_need q20.1 q20.2 40).bind fun q21 => if q21.1 = 0 then some (0, q21.2.1, q21.2.2) else mX12_defText_135 LF (a_u2 (a_u2 (a_u2 q21.2.1 186 43 0) 186 44 0) 186 45 0) q21.2.2 ((12 * (q18.2.1 186 32)) + (q18.2.1 205 (q18.2.1 186 32).toNatClampNeg)) 0 else none else none else none else (mX12_bad q18.2.1 2 (q18.2.1 186 4)).bind fun q23 => if q23.1 = 0 ∨ q23.1 = 1 then some (q23.1, q23.2, q18.2.2) else none else (mX12_bad q18.2.1 1 (q18.2.1 186 4)).bind fun q24 => if q24.1 = 0 ∨ q24.1 = 1 then some (q24.1, q24.2, q18.2.2) else none
set_option maxRecDepth 100000 in
set_option maxHeartbeats 4000000 in
theorem tX12_defText_286 {l : Launch} {K : a_KT} {g : a_GT} {IA : iT} (hko : a_kok K) {F : fT} {k135 : iT → jT → Int32 → Int32 → Option (Int32 × iT × jT)} (hk135 : ∀ (I : iT) (J : jT) (x1 : Int32) (x2 : Int32) (_ : FOK F) (q : Int32 × iT × jT), k135 I J x1 x2 = some q → E l K g 909 0 0 yX12_defText cX12_defText 5 (some .boolean) 135 [.ref 186, .int x1, .int x2, .null, .null] [] (hg IA I J F) (fun r2 h2 => r2 = some (.int q.1) ∧ h2 = hg IA q.2.1 q.2.2 F)) (I : iT) (J : jT) (x1 : Int32) (x2 : Int32) (w3 : Int64) (s0 : Int32) (s1 : Int64) (hF : FOK F) (q : Int32 × iT × jT) (hm : mX12_defText_286 k135 I J x1 x2 w3 s0 s1 = some q) : E l K g 909 0 0 yX12_defText cX12_defText 5 (some .boolean) 286 [.ref 186, .int x1, .int x2, .long w3, .null] [.int s0, .long s1, .ref 186, .ref 186] (hg IA I J F) (fun r2 h2 => r2 = some (.int q.1) ∧ h2 = hg IA q.2.1 q.2.2 F) := by
  unfold mX12_defText_286 at hm
  refine e_aload_n (i := 0) rfl dX12_defText_286 ?_
  refine q_getF 12 24 199 dX12_defText_287 fl_RX12_51 rfl iz_186 (fr_186_24 hF) ?_
  refine e_iconst (v := 4) (by decide) dX12_defText_290 ?_
  refine e_iload_n (i := 1) rfl dX12_defText_291 ?_
  refine e_imul dX12_defText_292 ?_
  refine e_iload_n (i := 2) rfl dX12_defText_293 ?_
  refine e_iadd dX12_defText_294 ?_
  obtain ⟨c_295, hm⟩ := gd_s hm
  refine l_iald dX12_defText_295 iz_199 (inb_in ln_199 c_295) (by decide) ?_
  obtain ⟨q1, eq1, hm⟩ := ob_some hm
  refine e_cV3 hko dX12_defText_296 ml_RX12_349 iz_186 (by decide) rfl (by omega) (Nat.le_of_ble_eq_true rfl) (tX12_newSlot hko I J F hF s1 s0 (I 199 ((4 * x1) + x2).toNatClampNeg) _ eq1) ?_
  rintro _ _ ⟨rfl, rfl⟩
  refine l_putI 12 51 dX12_defText_299 fl_RX12_396 rfl rfl iz_186 (by decide) ?_
  refine q_iinc (i := 2) (x2 + 1) rfl ic_1 rfl dX12_defText_302 ?_
  refine e_goto 135 dX12_defText_305 (by decide) ?_
  refine e_weak [.ref 186, .int x1, .int (x2 + 1), .null, .null] ⟨rfl, ⟨rfl, ⟨rfl, ⟨trivial, ⟨trivial, trivial⟩⟩⟩⟩⟩ ?_
  exact hk135 (a_u2 q1.2.1 186 51 q1.1) q1.2.2 x1 (x2 + 1) hF _ hm
set_option maxRecDepth 100000 in
set_option maxHeartbeats 4000000 in
theorem tX12_defText_253 {l : Launch} {K : a_KT} {g : a_GT} {IA : iT} (hko : a_kok K) {F : fT} {k135 : iT → jT → Int32 → Int32 → Option (Int32 × iT × jT)} (hk135 : ∀ (I : iT) (J : jT) (x1 : Int32) (x2 : Int32) (_ : FOK F) (q : Int32 × iT × jT), k135 I J x1 x2 = some q → E l K g 909 0 0 yX12_defText cX12_defText 5 (some .boolean) 135 [.ref 186, .int x1, .int x2, .null, .null] [] (hg IA I J F) (fun r2 h2 => r2 = some (.int q.1) ∧ h2 = hg IA q.2.1 q.2.2 F)) (I : iT) (J : jT) (x1 : Int32) (x2 : Int32) (w3 : Int64) (hF : FOK F) (q : Int32 × iT × jT) (hm : mX12_defText_253 k135 I J x1 x2 w3 = some q) : E l K g 909 0 0 yX12_defText cX12_defText 5 (some .boolean) 253 [.ref 186, .int x1, .int x2, .long w3, .null] [] (hg IA I J F) (fun r2 h2 => r2 = some (.int q.1) ∧ h2 = hg IA q.2.1 q.2.2 F) := by
  unfold mX12_defText_253 at hm
  refine e_aload_n (i := 0) rfl dX12_defText_253 ?_
  refine q_getF 12 20 195 dX12_defText_254 fl_RX12_39 rfl iz_186 (fr_186_20 hF) ?_
  refine e_iconst (v := 4) (by decide) dX12_defText_257 ?_
  refine e_iload_n (i := 1) rfl dX12_defText_258 ?_
  refine e_imul dX12_defText_259 ?_
  refine e_iload_n (i := 2) rfl dX12_defText_260 ?_
  refine e_iadd dX12_defText_261 ?_
  refine e_lload_n (i := 3) rfl dX12_defText_262 ?_
  obtain ⟨c_263, hm⟩ := gd_s hm
  refine q_last dX12_defText_263 iz_195 (inb_in ln_195 c_263) ?_
  refine e_aload_n (i := 0) rfl dX12_defText_264 ?_
  refine e_aload_n (i := 0) rfl dX12_defText_265 ?_
  refine e_lload_n (i := 3) rfl dX12_defText_266 ?_
  refine e_aload_n (i := 0) rfl dX12_defText_267 ?_
  refine q_getF 12 24 199 dX12_defText_268 fl_RX12_51 rfl iz_186 (fr_186_24 hF) ?_
  refine e_iconst (v := 4) (by decide) dX12_defText_271 ?_
  refine e_iload_n (i := 1) rfl dX12_defText_272 ?_
  refine e_imul dX12_defText_273 ?_
  refine e_iload_n (i := 2) rfl dX12_defText_274 ?_
  refine e_iadd dX12_defText_275 ?_
  obtain ⟨c_276, hm⟩ := gd_s hm
  refine l_iald dX12_defText_276 iz_199 (inb_in ln_199 c_276) (by decide) ?_
  refine e_iconst (v := (-1)) (by decide) dX12_defText_277 ?_
  refine e_icmp_ne 285 dX12_defText_278 (by decide) (fun c_278 => ?_) (fun c_278 => ?_)
  · have hm := it_n c_278 hm
    refine e_iconst (v := 2) (by decide) dX12_defText_285 ?_
    refine e_weak [.ref 186, .int x1, .int x2, .long w3, .null] ⟨rfl, ⟨rfl, ⟨rfl, ⟨rfl, ⟨trivial, trivial⟩⟩⟩⟩⟩ ?_
    exact tX12_defText_286 hko (hk135) I (a_u2 J 195 ((4 * x1) + x2).toNatClampNeg w3) x1 x2 w3 2 w3 hF _ hm
  · have hm := it_p c_278 hm
    refine e_iconst (v := 0) (by decide) dX12_defText_281 ?_
    refine e_goto 286 dX12_defText_282 (by decide) ?_
    refine e_weak [.ref 186, .int x1, .int x2, .long w3, .null] ⟨rfl, ⟨rfl, ⟨rfl, ⟨rfl, ⟨trivial, trivial⟩⟩⟩⟩⟩ ?_
    exact tX12_defText_286 hko (hk135) I (a_u2 J 195 ((4 * x1) + x2).toNatClampNeg w3) x1 x2 w3 0 w3 hF _ hm
set_option maxRecDepth 100000 in
set_option maxHeartbeats 4000000 in
theorem tX12_defText_197 {l : Launch} {K : a_KT} {g : a_GT} {IA : iT} (hko : a_kok K) {F : fT} {k135 : iT → jT → Int32 → Int32 → Option (Int32 × iT × jT)} (hk135 : ∀ (I : iT) (J : jT) (x1 : Int32) (x2 : Int32) (_ : FOK F) (q : Int32 × iT × jT), k135 I J x1 x2 = some q → E l K g 909 0 0 yX12_defText cX12_defText 5 (some .boolean) 135 [.ref 186, .int x1, .int x2, .null, .null] [] (hg IA I J F) (fun r2 h2 => r2 = some (.int q.1) ∧ h2 = hg IA q.2.1 q.2.2 F)) (I : iT) (J : jT) (x1 : Int32) (x2 : Int32) (hF : FOK F) (q : Int32 × iT × jT) (hm : mX12_defText_197 k135 I J x1 x2 = some q) : E l K g 909 0 0 yX12_defText cX12_defText 5 (some .boolean) 197 [.ref 186, .int x1, .int x2, .null, .null] [] (hg IA I J F) (fun r2 h2 => r2 = some (.int q.1) ∧ h2 = hg IA q.2.1 q.2.2 F) := by
  unfold mX12_defText_197 at hm
  refine e_aload_n (i := 0) rfl dX12_defText_197 ?_
  refine q_getJ 12 6 dX12_defText_198 fl_RX12_162 rfl iz_186 ?_
  refine e_lstore_n (i := 3) (by decide) dX12_defText_201 ?_
  refine e_aload_n (i := 0) rfl dX12_defText_202 ?_
  obtain ⟨q2, eq2, hm⟩ := ob_some hm
  refine e_cV0 hko dX12_defText_203 ml_RX12_236 iz_186 (by decide) rfl (by omega) (Nat.le_of_ble_eq_true rfl) (tX12_look0 hko I J F hF _ eq2) ?_
  rintro _ _ ⟨rfl, rfl⟩
  refine e_aload_n (i := 0) rfl dX12_defText_206 ?_
  refine q_getF 12 24 199 dX12_defText_207 fl_RX12_51 rfl iz_186 (fr_186_24 hF) ?_
  refine e_iconst (v := 4) (by decide) dX12_defText_210 ?_
  refine e_iload_n (i := 1) rfl dX12_defText_211 ?_
  refine e_imul dX12_defText_212 ?_
  refine e_iload_n (i := 2) rfl dX12_defText_213 ?_
  refine e_iadd dX12_defText_214 ?_
  refine e_iconst (v := (-1)) (by decide) dX12_defText_215 ?_
  obtain ⟨c_216, hm⟩ := gd_s hm
  refine l_iast dX12_defText_216 iz_199 (inb_in ln_199 c_216) (by decide) ?_
  refine e_aload_n (i := 0) rfl dX12_defText_217 ?_
  refine e_bipush (v := 58) (by decide) dX12_defText_218 ?_
  obtain ⟨q3, eq3, hm⟩ := ob_some hm
  refine e_cV1 hko dX12_defText_220 ml_RX12_229 iz_186 (by decide) rfl (by omega) (Nat.le_of_ble_eq_true rfl) (tX12_isSign hko (a_u2 q2.1 199 ((4 * x1) + x2).toNatClampNeg ((-1))) q2.2 F hF 58 _ eq3) ?_
  rintro _ _ ⟨rfl, rfl⟩
  refine e_if_eq 253 dX12_defText_223 (by decide) (fun c_223 => ?_) (fun c_223 => ?_)
  · have hm := it_p c_223 hm
    refine e_weak [.ref 186, .int x1, .int x2, .long (J 186 6), .null] ⟨rfl, ⟨rfl, ⟨rfl, ⟨rfl, ⟨trivial, trivial⟩⟩⟩⟩⟩ ?_
    exact tX12_defText_253 hko (hk135) (a_u2 q2.1 199 ((4 * x1) + x2).toNatClampNeg ((-1))) q2.2 x1 x2 (J 186 6) hF _ hm
  · have hm := it_n c_223 hm
    refine e_aload_n (i := 0) rfl dX12_defText_226 ?_
    obtain ⟨q4, eq4, hm⟩ := ob_some hm
    refine e_cV0 hko dX12_defText_227 ml_RX12_236 iz_186 (by decide) rfl (by omega) (Nat.le_of_ble_eq_true rfl) (tX12_look0 hko (a_u2 q2.1 199 ((4 * x1) + x2).toNatClampNeg ((-1))) q2.2 F hF _ eq4) ?_
    rintro _ _ ⟨rfl, rfl⟩
    refine e_aload_n (i := 0) rfl dX12_defText_230 ?_
    obtain ⟨q5, eq5, hm⟩ := ob_some hm
    refine e_cV0 hko dX12_defText_231 ml_RX12_393 iz_186 (by decide) rfl (by omega) (Nat.le_of_ble_eq_true rfl) (tX12_wholeType hko q4.1 q4.2 F hF _ eq5) ?_
    rintro _ _ ⟨rfl, rfl⟩
    refine e_if_ne 239 dX12_defText_234 (by decide) (fun c_234 => ?_) (fun c_234 => ?_)
    · have hm := it_n c_234 hm
      refine e_aload_n (i := 0) rfl dX12_defText_239 ?_
      refine q_getF 12 24 199 dX12_defText_240 fl_RX12_51 rfl iz_186 (fr_186_24 hF) ?_
      refine e_iconst (v := 4) (by decide) dX12_defText_243 ?_
      refine e_iload_n (i := 1) rfl dX12_defText_244 ?_
      refine e_imul dX12_defText_245 ?_
      refine e_iload_n (i := 2) rfl dX12_defText_246 ?_
      refine e_iadd dX12_defText_247 ?_
      refine e_aload_n (i := 0) rfl dX12_defText_248 ?_
      refine l_getI 12 36 dX12_defText_249 fl_RX12_268 rfl iz_186 (by decide) ?_
      obtain ⟨c_252, hm⟩ := gd_s hm
      refine l_iast dX12_defText_252 iz_199 (inb_in ln_199 c_252) (by decide) ?_
      refine e_weak [.ref 186, .int x1, .int x2, .long (J 186 6), .null] ⟨rfl, ⟨rfl, ⟨rfl, ⟨rfl, ⟨trivial, trivial⟩⟩⟩⟩⟩ ?_
      exact tX12_defText_253 hko (hk135) (a_u2 q5.2.1 199 ((4 * x1) + x2).toNatClampNeg (q5.2.1 186 36)) q5.2.2 x1 x2 (J 186 6) hF _ hm
    · have hm := it_p c_234 hm
      refine e_iconst (v := 0) (by decide) dX12_defText_237 ?_
      refine e_zret dX12_defText_238 rfl rfl ?_
      have hm := some_in hm
      subst hm
      exact ⟨rfl, rfl⟩
set_option maxRecDepth 100000 in
set_option maxHeartbeats 4000000 in
theorem tX12_defText_159 {l : Launch} {K : a_KT} {g : a_GT} {IA : iT} (hko : a_kok K) {F : fT} {k135 : iT → jT → Int32 → Int32 → Option (Int32 × iT × jT)} (hk135 : ∀ (I : iT) (J : jT) (x1 : Int32) (x2 : Int32) (_ : FOK F) (q : Int32 × iT × jT), k135 I J x1 x2 = some q → E l K g 909 0 0 yX12_defText cX12_defText 5 (some .boolean) 135 [.ref 186, .int x1, .int x2, .null, .null] [] (hg IA I J F) (fun r2 h2 => r2 = some (.int q.1) ∧ h2 = hg IA q.2.1 q.2.2 F)) (I : iT) (J : jT) (x1 : Int32) (x2 : Int32) (hF : FOK F) (q : Int32 × iT × jT) (hm : mX12_defText_159 k135 I J x1 x2 = some q) : E l K g 909 0 0 yX12_defText cX12_defText 5 (some .boolean) 159 [.ref 186, .int x1, .int x2, .null, .null] [] (hg IA I J F) (fun r2 h2 => r2 = some (.int q.1) ∧ h2 = hg IA q.2.1 q.2.2 F) := by
  unfold mX12_defText_159 at hm
  refine e_aload_n (i := 0) rfl dX12_defText_159 ?_
  obtain ⟨q6, eq6, hm⟩ := ob_some hm
  refine e_cV0 hko dX12_defText_160 ml_RX12_346 iz_186 (by decide) rfl (by omega) (Nat.le_of_ble_eq_true rfl) (tX12_isFree hko I J F hF _ eq6) ?_
  rintro _ _ ⟨rfl, rfl⟩
  refine e_if_ne 168 dX12_defText_163 (by decide) (fun c_163 => ?_) (fun c_163 => ?_)
  · have hm := it_n c_163 hm
    refine e_iload_n (i := 2) rfl dX12_defText_168 ?_
    refine e_iconst (v := 4) (by decide) dX12_defText_169 ?_
    refine e_icmp_ne 183 dX12_defText_170 (by decide) (fun c_170 => ?_) (fun c_170 => ?_)
    · have hm := it_n c_170 hm
      refine e_iload_n (i := 2) rfl dX12_defText_183 ?_
      refine e_if_ne 197 dX12_defText_184 (by decide) (fun c_184 => ?_) (fun c_184 => ?_)
      · have hm := it_n c_184 hm
        refine e_weak [.ref 186, .int x1, .int x2, .null, .null] ⟨rfl, ⟨rfl, ⟨rfl, ⟨trivial, ⟨trivial, trivial⟩⟩⟩⟩⟩ ?_
        exact tX12_defText_197 hko (hk135) q6.2 J x1 x2 hF _ hm
      · have hm := it_p c_184 hm
        refine e_aload_n (i := 0) rfl dX12_defText_187 ?_
        refine q_getF 12 28 203 dX12_defText_188 fl_RX12_63 rfl iz_186 (fr_186_28 hF) ?_
        refine e_iload_n (i := 1) rfl dX12_defText_191 ?_
        refine e_aload_n (i := 0) rfl dX12_defText_192 ?_
        refine l_getI 12 4 dX12_defText_193 fl_RX12_207 rfl iz_186 (by decide) ?_
        obtain ⟨c_196, hm⟩ := gd_s hm
        refine l_iast dX12_defText_196 iz_203 (inb_in ln_203 c_196) (by decide) ?_
        refine e_weak [.ref 186, .int x1, .int x2, .null, .null] ⟨rfl, ⟨rfl, ⟨rfl, ⟨trivial, ⟨trivial, trivial⟩⟩⟩⟩⟩ ?_
        exact tX12_defText_197 hko (hk135) (a_u2 q6.2 203 x1.toNatClampNeg (q6.2 186 4)) J x1 x2 hF _ hm
    · have hm := it_p c_170 hm
      refine e_aload_n (i := 0) rfl dX12_defText_173 ?_
      refine e_iconst (v := 5) (by decide) dX12_defText_174 ?_
      refine e_aload_n (i := 0) rfl dX12_defText_175 ?_
      refine l_getI 12 4 dX12_defText_176 fl_RX12_207 rfl iz_186 (by decide) ?_
      obtain ⟨q7, eq7, hm⟩ := ob_some hm
      refine e_cV2 hko dX12_defText_179 ml_RX12_232 iz_186 (by decide) rfl (by omega) (Nat.le_of_ble_eq_true rfl) (tX12_bad hko q6.2 J F hF 5 (q6.2 186 4) _ eq7) ?_
      rintro _ _ ⟨rfl, rfl⟩
      obtain ⟨c_182, hm⟩ := gd_s hm
      refine e_zret dX12_defText_182 rfl (zz_nar c_182) ?_
      have hm := some_in hm
      subst hm
      exact ⟨rfl, rfl⟩
  · have hm := it_p c_163 hm
    refine e_iconst (v := 0) (by decide) dX12_defText_166 ?_
    refine e_zret dX12_defText_167 rfl rfl ?_
    have hm := some_in hm
    subst hm
    exact ⟨rfl, rfl⟩
set_option maxRecDepth 100000 in
set_option maxHeartbeats 4000000 in
theorem tX12_defText_135 {l : Launch} {K : a_KT} {g : a_GT} {IA : iT} (hko : a_kok K) {F : fT} : ∀ (n : Nat) (I : iT) (J : jT) (x1 : Int32) (x2 : Int32) (hF : FOK F) (q : Int32 × iT × jT), mX12_defText_135 n I J x1 x2 = some q → E l K g 909 0 0 yX12_defText cX12_defText 5 (some .boolean) 135 [.ref 186, .int x1, .int x2, .null, .null] [] (hg IA I J F) (fun r2 h2 => r2 = some (.int q.1) ∧ h2 = hg IA q.2.1 q.2.2 F) := by
  intro n
  induction n with
  | zero => intro I J x1 x2 hF q hm; cases hm
  | succ n ih =>
    intro I J x1 x2 hF q hm
    rw [mX12_defText_135] at hm
    refine e_aload_n (i := 0) rfl dX12_defText_135 ?_
    refine e_bipush (v := 41) (by decide) dX12_defText_136 ?_
    obtain ⟨q8, eq8, hm⟩ := ob_some hm
    refine e_cV1 hko dX12_defText_138 ml_RX12_229 iz_186 (by decide) rfl (by omega) (Nat.le_of_ble_eq_true rfl) (tX12_isSign hko I J F hF 41 _ eq8) ?_
    rintro _ _ ⟨rfl, rfl⟩
    refine e_if_ne 308 dX12_defText_141 (by decide) (fun c_141 => ?_) (fun c_141 => ?_)
    · have hm := it_n c_141 hm
      refine e_aload_n (i := 0) rfl dX12_defText_308 ?_
      obtain ⟨q9, eq9, hm⟩ := ob_some hm
      refine e_cV0 hko dX12_defText_309 ml_RX12_236 iz_186 (by decide) rfl (by omega) (Nat.le_of_ble_eq_true rfl) (tX12_look0 hko I J F hF _ eq9) ?_
      rintro _ _ ⟨rfl, rfl⟩
      refine e_aload_n (i := 0) rfl dX12_defText_312 ?_
      refine q_getF 12 23 198 dX12_defText_313 fl_RX12_48 rfl iz_186 (fr_186_23 hF) ?_
      refine e_iload_n (i := 1) rfl dX12_defText_316 ?_
      refine e_iload_n (i := 2) rfl dX12_defText_317 ?_
      obtain ⟨c_318, hm⟩ := gd_s hm
      refine l_iast dX12_defText_318 iz_198 (inb_in ln_198 c_318) (by decide) ?_
      refine e_aload_n (i := 0) rfl dX12_defText_319 ?_
      obtain ⟨q10, eq10, hm⟩ := ob_some hm
      refine e_cV0 hko dX12_defText_320 ml_RX12_346 iz_186 (by decide) rfl (by omega) (Nat.le_of_ble_eq_true rfl) (tX12_isFree hko (a_u2 q9.1 198 x1.toNatClampNeg x2) q9.2 F hF _ eq10) ?_
      rintro _ _ ⟨rfl, rfl⟩
      refine e_if_ne 328 dX12_defText_323 (by decide) (fun c_323 => ?_) (fun c_323 => ?_)
      · have hm := it_n c_323 hm
        refine e_aload_n (i := 0) rfl dX12_defText_328 ?_
        refine q_getF 12 21 196 dX12_defText_329 fl_RX12_42 rfl iz_186 (fr_186_21 hF) ?_
        refine e_iload_n (i := 1) rfl dX12_defText_332 ?_
        refine e_aload_n (i := 0) rfl dX12_defText_333 ?_
        refine q_getJ 12 6 dX12_defText_334 fl_RX12_162 rfl iz_186 ?_
        obtain ⟨c_337, hm⟩ := gd_s hm
        refine q_last dX12_defText_337 iz_196 (inb_in ln_196 c_337) ?_
        refine e_aload_n (i := 0) rfl dX12_defText_338 ?_
        obtain ⟨q11, eq11, hm⟩ := ob_some hm
        refine e_cV0 hko dX12_defText_339 ml_RX12_236 iz_186 (by decide) rfl (by omega) (Nat.le_of_ble_eq_true rfl) (tX12_look0 hko q10.2 (a_u2 q9.2 196 x1.toNatClampNeg (q9.2 186 6)) F hF _ eq11) ?_
        rintro _ _ ⟨rfl, rfl⟩
        refine e_aload_n (i := 0) rfl dX12_defText_342 ?_
        refine e_bipush (v := 58) (by decide) dX12_defText_343 ?_
        obtain ⟨q12, eq12, hm⟩ := ob_some hm
        refine e_cV1 hko dX12_defText_345 ml_RX12_278 iz_186 (by decide) rfl (by omega) (Nat.le_of_ble_eq_true rfl) (tX12_need hko q11.1 q11.2 F hF 58 _ eq12) ?_
        rintro _ _ ⟨rfl, rfl⟩
        refine e_if_eq 358 dX12_defText_348 (by decide) (fun c_348 => ?_) (fun c_348 => ?_)
        · have hm := it_p c_348 hm
          refine e_iconst (v := 0) (by decide) dX12_defText_358 ?_
          refine e_zret dX12_defText_359 rfl rfl ?_
          have hm := some_in hm
          subst hm
          exact ⟨rfl, rfl⟩
        · have hm := it_n c_348 hm
          refine e_aload_n (i := 0) rfl dX12_defText_351 ?_
          obtain ⟨q13, eq13, hm⟩ := ob_some hm
          refine e_cV0 hko dX12_defText_352 ml_RX12_393 iz_186 (by decide) rfl (by omega) (Nat.le_of_ble_eq_true rfl) (tX12_wholeType hko q12.2.1 q12.2.2 F hF _ eq13) ?_
          rintro _ _ ⟨rfl, rfl⟩
          refine e_if_ne 360 dX12_defText_355 (by decide) (fun c_355 => ?_) (fun c_355 => ?_)
          · have hm := it_n c_355 hm
            refine e_aload_n (i := 0) rfl dX12_defText_360 ?_
            refine q_getF 12 25 200 dX12_defText_361 fl_RX12_54 rfl iz_186 (fr_186_25 hF) ?_
            refine e_iload_n (i := 1) rfl dX12_defText_364 ?_
            refine e_aload_n (i := 0) rfl dX12_defText_365 ?_
            refine l_getI 12 36 dX12_defText_366 fl_RX12_268 rfl iz_186 (by decide) ?_
            obtain ⟨c_369, hm⟩ := gd_s hm
            refine l_iast dX12_defText_369 iz_200 (inb_in ln_200 c_369) (by decide) ?_
            refine e_aload_n (i := 0) rfl dX12_defText_370 ?_
            refine e_aload_n (i := 0) rfl dX12_defText_371 ?_
            refine e_aload_n (i := 0) rfl dX12_defText_372 ?_
            refine q_getF 12 21 196 dX12_defText_373 fl_RX12_42 rfl iz_186 (fr_186_21 hF) ?_
            refine e_iload_n (i := 1) rfl dX12_defText_376 ?_
            obtain ⟨c_377, hm⟩ := gd_s hm
            refine q_lald dX12_defText_377 iz_196 (inb_in ln_196 c_377) ?_
            refine e_iconst (v := 1) (by decide) dX12_defText_378 ?_
            refine e_aload_n (i := 0) rfl dX12_defText_379 ?_
            refine l_getI 12 36 dX12_defText_380 fl_RX12_268 rfl iz_186 (by decide) ?_
            obtain ⟨q14, eq14, hm⟩ := ob_some hm
            refine e_cV3 hko dX12_defText_383 ml_RX12_349 iz_186 (by decide) rfl (by omega) (Nat.le_of_ble_eq_true rfl) (tX12_newSlot hko (a_u2 q13.2.1 200 x1.toNatClampNeg (q13.2.1 186 36)) q13.2.2 F hF (q13.2.2 196 x1.toNatClampNeg) 1 ((a_u2 q13.2.1 200 x1.toNatClampNeg (q13.2.1 186 36)) 186 36) _ eq14) ?_
            rintro _ _ ⟨rfl, rfl⟩
            refine l_putI 12 51 dX12_defText_386 fl_RX12_396 rfl rfl iz_186 (by decide) ?_
            refine e_aload_n (i := 0) rfl dX12_defText_389 ?_
            refine e_bipush (v := 61) (by decide) dX12_defText_390 ?_
            obtain ⟨q15, eq15, hm⟩ := ob_some hm
            refine e_cV1 hko dX12_defText_392 ml_RX12_278 iz_186 (by decide) rfl (by omega) (Nat.le_of_ble_eq_true rfl) (tX12_need hko (a_u2 q14.2.1 186 51 q14.1) q14.2.2 F hF 61 _ eq15) ?_
            rintro _ _ ⟨rfl, rfl⟩
            refine e_if_eq 405 dX12_defText_395 (by decide) (fun c_395 => ?_) (fun c_395 => ?_)
            · have hm := it_p c_395 hm
              refine e_iconst (v := 0) (by decide) dX12_defText_405 ?_
              refine e_zret dX12_defText_406 rfl rfl ?_
              have hm := some_in hm
              subst hm
              exact ⟨rfl, rfl⟩
            · have hm := it_n c_395 hm
              refine e_aload_n (i := 0) rfl dX12_defText_398 ?_
              obtain ⟨q16, eq16, hm⟩ := ob_some hm
              refine e_cV0 hko dX12_defText_399 ml_RX12_384 iz_186 (by decide) rfl (by omega) (Nat.le_of_ble_eq_true rfl) (tX12_readProcess hko q15.2.1 q15.2.2 F hF _ eq16) ?_
              rintro _ _ ⟨rfl, rfl⟩
              refine e_if_ne 407 dX12_defText_402 (by decide) (fun c_402 => ?_) (fun c_402 => ?_)
              · have hm := it_n c_402 hm
                refine e_aload_n (i := 0) rfl dX12_defText_407 ?_
                refine q_getF 12 26 201 dX12_defText_408 fl_RX12_57 rfl iz_186 (fr_186_26 hF) ?_
                refine e_iload_n (i := 1) rfl dX12_defText_411 ?_
                refine e_aload_n (i := 0) rfl dX12_defText_412 ?_
                refine l_getI 12 49 dX12_defText_413 fl_RX12_331 rfl iz_186 (by decide) ?_
                obtain ⟨c_416, hm⟩ := gd_s hm
                refine l_iast dX12_defText_416 iz_201 (inb_in ln_201 c_416) (by decide) ?_
                refine e_aload_n (i := 0) rfl dX12_defText_417 ?_
                refine q_getF 12 27 202 dX12_defText_418 fl_RX12_60 rfl iz_186 (fr_186_27 hF) ?_
                refine e_iload_n (i := 1) rfl dX12_defText_421 ?_
                refine e_aload_n (i := 0) rfl dX12_defText_422 ?_
                refine l_getI 12 44 dX12_defText_423 fl_RX12_325 rfl iz_186 (by decide) ?_
                obtain ⟨c_426, hm⟩ := gd_s hm
                refine l_iast dX12_defText_426 iz_202 (inb_in ln_202 c_426) (by decide) ?_
                refine e_aload_n (i := 0) rfl dX12_defText_427 ?_
                refine q_getF 12 30 205 dX12_defText_428 fl_RX12_69 rfl iz_186 (fr_186_30 hF) ?_
                refine e_aload_n (i := 0) rfl dX12_defText_431 ?_
                refine l_getI 12 32 dX12_defText_432 fl_RX12_251 rfl iz_186 (by decide) ?_
                refine e_dup2 rfl rfl dX12_defText_435 ?_
                obtain ⟨c_436, hm⟩ := gd_s hm
                refine l_iald dX12_defText_436 iz_205 (inb_in ln_205 c_436) (by decide) ?_
                refine e_iconst (v := 1) (by decide) dX12_defText_437 ?_
                refine e_iadd dX12_defText_438 ?_
                obtain ⟨c_439, hm⟩ := gd_s hm
                refine l_iast dX12_defText_439 iz_205 (inb_in ln_205 c_439) (by decide) ?_
                refine e_iconst (v := 1) (by decide) dX12_defText_440 ?_
                refine e_zret dX12_defText_441 rfl rfl ?_
                have hm := some_in hm
                subst hm
                exact ⟨rfl, rfl⟩
              · have hm := it_p c_402 hm
                refine e_iconst (v := 0) (by decide) dX12_defText_405 ?_
                refine e_zret dX12_defText_406 rfl rfl ?_
                have hm := some_in hm
                subst hm
                exact ⟨rfl, rfl⟩
          · have hm := it_p c_355 hm
            refine e_iconst (v := 0) (by decide) dX12_defText_358 ?_
            refine e_zret dX12_defText_359 rfl rfl ?_
            have hm := some_in hm
            subst hm
            exact ⟨rfl, rfl⟩
      · have hm := it_p c_323 hm
        refine e_iconst (v := 0) (by decide) dX12_defText_326 ?_
        refine e_zret dX12_defText_327 rfl rfl ?_
        have hm := some_in hm
        subst hm
        exact ⟨rfl, rfl⟩
    · have hm := it_p c_141 hm
      refine e_iload_n (i := 2) rfl dX12_defText_144 ?_
      refine e_if_le 159 dX12_defText_145 (by decide) (fun c_145 => ?_) (fun c_145 => ?_)
      · have hm := it_p c_145 hm
        refine e_weak [.ref 186, .int x1, .int x2, .null, .null] ⟨rfl, ⟨rfl, ⟨rfl, ⟨trivial, ⟨trivial, trivial⟩⟩⟩⟩⟩ ?_
        exact tX12_defText_159 hko (ih) I J x1 x2 hF _ hm
      · have hm := it_n c_145 hm
        refine e_aload_n (i := 0) rfl dX12_defText_148 ?_
        refine e_bipush (v := 44) (by decide) dX12_defText_149 ?_
        obtain ⟨q17, eq17, hm⟩ := ob_some hm
        refine e_cV1 hko dX12_defText_151 ml_RX12_278 iz_186 (by decide) rfl (by omega) (Nat.le_of_ble_eq_true rfl) (tX12_need hko I J F hF 44 _ eq17) ?_
        rintro _ _ ⟨rfl, rfl⟩
        refine e_if_ne 159 dX12_defText_154 (by decide) (fun c_154 => ?_) (fun c_154 => ?_)
        · have hm := it_n c_154 hm
          refine e_weak [.ref 186, .int x1, .int x2, .null, .null] ⟨rfl, ⟨rfl, ⟨rfl, ⟨trivial, ⟨trivial, trivial⟩⟩⟩⟩⟩ ?_
          exact tX12_defText_159 hko (ih) q17.2.1 q17.2.2 x1 x2 hF _ hm
        · have hm := it_p c_154 hm
          refine e_iconst (v := 0) (by decide) dX12_defText_157 ?_
          refine e_zret dX12_defText_158 rfl rfl ?_
          have hm := some_in hm
          subst hm
          exact ⟨rfl, rfl⟩
set_option maxRecDepth 100000 in
set_option maxHeartbeats 4000000 in
theorem tX12_defText {l : Launch} {K : a_KT} {g : a_GT} {IA : iT} (hko : a_kok K) (I : iT) (J : jT) (F : fT) (hF : FOK F) (q : Int32 × iT × jT) (hm : mX12_defText I J = some q) : C l K g 909 0 0 yX12_defText cX12_defText 5 (some .boolean) [.ref 186] (hg IA I J F) (fun r2 h2 => r2 = some (.int q.1) ∧ h2 = hg IA q.2.1 q.2.2 F) := by
  unfold mX12_defText at hm
  refine c_of [.ref 186, .null, .null, .null, .null] (by decide) (Nat.le_of_ble_eq_true rfl) rfl ?_
  refine e_aload_n (i := 0) rfl dX12_defText_0 ?_
  refine e_bipush (v := 101) (by decide) dX12_defText_1 ?_
  obtain ⟨q18, eq18, hm⟩ := ob_some hm
  refine e_cV1 hko dX12_defText_3 ml_RX12_387 iz_186 (by decide) rfl (by omega) (Nat.le_of_ble_eq_true rfl) (tX12_needWord hko I J F hF 101 _ eq18) ?_
  rintro _ _ ⟨rfl, rfl⟩
  refine e_if_ne 11 dX12_defText_6 (by decide) (fun c_6 => ?_) (fun c_6 => ?_)
  · have hm := it_n c_6 hm
    refine e_aload_n (i := 0) rfl dX12_defText_11 ?_
    refine l_getI 12 3 dX12_defText_12 fl_RX12_210 rfl iz_186 (by decide) ?_
    refine e_iconst (v := 2) (by decide) dX12_defText_15 ?_
    refine e_icmp_eq 29 dX12_defText_16 (by decide) (fun c_16 => ?_) (fun c_16 => ?_)
    · have hm := it_p c_16 hm
      refine e_aload_n (i := 0) rfl dX12_defText_29 ?_
      refine e_aload_n (i := 0) rfl dX12_defText_30 ?_
      refine q_getJ 12 6 dX12_defText_31 fl_RX12_162 rfl iz_186 ?_
      obtain ⟨q19, eq19, hm⟩ := ob_some hm
      refine e_cV1 hko dX12_defText_34 ml_RX12_365 iz_186 (by decide) rfl (by omega) (Nat.le_of_ble_eq_true rfl) (tX12_findDef hko q18.2.1 q18.2.2 F hF (q18.2.2 186 6) _ eq19) ?_
      rintro _ _ ⟨rfl, rfl⟩
      refine e_iconst (v := (-1)) (by decide) dX12_defText_37 ?_
      refine e_icmp_eq 51 dX12_defText_38 (by decide) (fun c_38 => ?_) (fun c_38 => ?_)
      · have hm := it_p c_38 hm
        refine e_aload_n (i := 0) rfl dX12_defText_51 ?_
        refine q_getF 12 30 205 dX12_defText_52 fl_RX12_69 rfl iz_186 (fr_186_30 hF) ?_
        refine e_aload_n (i := 0) rfl dX12_defText_55 ?_
        refine l_getI 12 32 dX12_defText_56 fl_RX12_251 rfl iz_186 (by decide) ?_
        obtain ⟨c_59, hm⟩ := gd_s hm
        refine l_iald dX12_defText_59 iz_205 (inb_in ln_205 c_59) (by decide) ?_
        refine e_bipush (v := 12) (by decide) dX12_defText_60 ?_
        refine e_icmp_ne 75 dX12_defText_62 (by decide) (fun c_62 => ?_) (fun c_62 => ?_)
        · have hm := it_n c_62 hm
          refine e_bipush (v := 12) (by decide) dX12_defText_75 ?_
          refine e_aload_n (i := 0) rfl dX12_defText_77 ?_
          refine l_getI 12 32 dX12_defText_78 fl_RX12_251 rfl iz_186 (by decide) ?_
          refine e_imul dX12_defText_81 ?_
          refine e_aload_n (i := 0) rfl dX12_defText_82 ?_
          refine q_getF 12 30 205 dX12_defText_83 fl_RX12_69 rfl iz_186 (fr_186_30 hF) ?_
          refine e_aload_n (i := 0) rfl dX12_defText_86 ?_
          refine l_getI 12 32 dX12_defText_87 fl_RX12_251 rfl iz_186 (by decide) ?_
          obtain ⟨c_90, hm⟩ := gd_s hm
          refine l_iald dX12_defText_90 iz_205 (inb_in ln_205 c_90) (by decide) ?_
          refine e_iadd dX12_defText_91 ?_
          refine q_istore_n (i := 1) (by decide) rfl dX12_defText_92 ?_
          refine e_aload_n (i := 0) rfl dX12_defText_93 ?_
          refine q_getF 12 19 194 dX12_defText_94 fl_RX12_36 rfl iz_186 (fr_186_19 hF) ?_
          refine e_iload_n (i := 1) rfl dX12_defText_97 ?_
          refine e_aload_n (i := 0) rfl dX12_defText_98 ?_
          refine q_getJ 12 6 dX12_defText_99 fl_RX12_162 rfl iz_186 ?_
          obtain ⟨c_102, hm⟩ := gd_s hm
          refine q_last dX12_defText_102 iz_194 (inb_in ln_194 c_102) ?_
          refine e_aload_n (i := 0) rfl dX12_defText_103 ?_
          obtain ⟨q20, eq20, hm⟩ := ob_some hm
          refine e_cV0 hko dX12_defText_104 ml_RX12_236 iz_186 (by decide) rfl (by omega) (Nat.le_of_ble_eq_true rfl) (tX12_look0 hko q18.2.1 (a_u2 q18.2.2 194 ((12 * (q18.2.1 186 32)) + (q18.2.1 205 (q18.2.1 186 32).toNatClampNeg)).toNatClampNeg (q18.2.2 186 6)) F hF _ eq20) ?_
          rintro _ _ ⟨rfl, rfl⟩
          refine e_aload_n (i := 0) rfl dX12_defText_107 ?_
          refine e_bipush (v := 40) (by decide) dX12_defText_108 ?_
          obtain ⟨q21, eq21, hm⟩ := ob_some hm
          refine e_cV1 hko dX12_defText_110 ml_RX12_278 iz_186 (by decide) rfl (by omega) (Nat.le_of_ble_eq_true rfl) (tX12_need hko q20.1 q20.2 F hF 40 _ eq21) ?_
          rintro _ _ ⟨rfl, rfl⟩
          refine e_if_ne 118 dX12_defText_113 (by decide) (fun c_113 => ?_) (fun c_113 => ?_)
          · have hm := it_n c_113 hm
            refine e_aload_n (i := 0) rfl dX12_defText_118 ?_
            refine e_iconst (v := 0) (by decide) dX12_defText_119 ?_
            refine l_putI 12 43 dX12_defText_120 fl_RX12_292 rfl rfl iz_186 (by decide) ?_
            refine e_aload_n (i := 0) rfl dX12_defText_123 ?_
            refine e_iconst (v := 0) (by decide) dX12_defText_124 ?_
            refine l_putI 12 44 dX12_defText_125 fl_RX12_325 rfl rfl iz_186 (by decide) ?_
            refine e_aload_n (i := 0) rfl dX12_defText_128 ?_
            refine e_iconst (v := 0) (by decide) dX12_defText_129 ?_
            refine l_putI 12 45 dX12_defText_130 fl_RX12_295 rfl rfl iz_186 (by decide) ?_
            refine e_iconst (v := 0) (by decide) dX12_defText_133 ?_
            refine q_istore_n (i := 2) (by decide) rfl dX12_defText_134 ?_
            refine e_weak [.ref 186, .int ((12 * (q18.2.1 186 32)) + (q18.2.1 205 (q18.2.1 186 32).toNatClampNeg)), .int 0, .null, .null] ⟨rfl, ⟨rfl, ⟨rfl, ⟨trivial, ⟨trivial, trivial⟩⟩⟩⟩⟩ ?_
            exact tX12_defText_135 hko LF (a_u2 (a_u2 (a_u2 q21.2.1 186 43 0) 186 44 0) 186 45 0) q21.2.2 ((12 * (q18.2.1 186 32)) + (q18.2.1 205 (q18.2.1 186 32).toNatClampNeg)) 0 hF _ hm
          · have hm := it_p c_113 hm
            refine e_iconst (v := 0) (by decide) dX12_defText_116 ?_
            refine e_zret dX12_defText_117 rfl rfl ?_
            have hm := some_in hm
            subst hm
            exact ⟨rfl, rfl⟩
        · have hm := it_p c_62 hm
          refine e_aload_n (i := 0) rfl dX12_defText_65 ?_
          refine e_iconst (v := 5) (by decide) dX12_defText_66 ?_
          refine e_aload_n (i := 0) rfl dX12_defText_67 ?_
          refine l_getI 12 4 dX12_defText_68 fl_RX12_207 rfl iz_186 (by decide) ?_
          obtain ⟨q22, eq22, hm⟩ := ob_some hm
          refine e_cV2 hko dX12_defText_71 ml_RX12_232 iz_186 (by decide) rfl (by omega) (Nat.le_of_ble_eq_true rfl) (tX12_bad hko q18.2.1 q18.2.2 F hF 5 (q18.2.1 186 4) _ eq22) ?_
          rintro _ _ ⟨rfl, rfl⟩
          obtain ⟨c_74, hm⟩ := gd_s hm
          refine e_zret dX12_defText_74 rfl (zz_nar c_74) ?_
          have hm := some_in hm
          subst hm
          exact ⟨rfl, rfl⟩
      · have hm := it_n c_38 hm
        refine e_aload_n (i := 0) rfl dX12_defText_41 ?_
        refine e_iconst (v := 2) (by decide) dX12_defText_42 ?_
        refine e_aload_n (i := 0) rfl dX12_defText_43 ?_
        refine l_getI 12 4 dX12_defText_44 fl_RX12_207 rfl iz_186 (by decide) ?_
        obtain ⟨q23, eq23, hm⟩ := ob_some hm
        refine e_cV2 hko dX12_defText_47 ml_RX12_232 iz_186 (by decide) rfl (by omega) (Nat.le_of_ble_eq_true rfl) (tX12_bad hko q18.2.1 q18.2.2 F hF 2 (q18.2.1 186 4) _ eq23) ?_
        rintro _ _ ⟨rfl, rfl⟩
        obtain ⟨c_50, hm⟩ := gd_s hm
        refine e_zret dX12_defText_50 rfl (zz_nar c_50) ?_
        have hm := some_in hm
        subst hm
        exact ⟨rfl, rfl⟩
    · have hm := it_n c_16 hm
      refine e_aload_n (i := 0) rfl dX12_defText_19 ?_
      refine e_iconst (v := 1) (by decide) dX12_defText_20 ?_
      refine e_aload_n (i := 0) rfl dX12_defText_21 ?_
      refine l_getI 12 4 dX12_defText_22 fl_RX12_207 rfl iz_186 (by decide) ?_
      obtain ⟨q24, eq24, hm⟩ := ob_some hm
      refine e_cV2 hko dX12_defText_25 ml_RX12_232 iz_186 (by decide) rfl (by omega) (Nat.le_of_ble_eq_true rfl) (tX12_bad hko q18.2.1 q18.2.2 F hF 1 (q18.2.1 186 4) _ eq24) ?_
      rintro _ _ ⟨rfl, rfl⟩
      obtain ⟨c_28, hm⟩ := gd_s hm
      refine e_zret dX12_defText_28 rfl (zz_nar c_28) ?_
      have hm := some_in hm
      subst hm
      exact ⟨rfl, rfl⟩
  · have hm := it_p c_6 hm
    refine e_iconst (v := 0) (by decide) dX12_defText_9 ?_
    refine e_zret dX12_defText_10 rfl rfl ?_
    have hm := some_in hm
    subst hm
    exact ⟨rfl, rfl⟩
theorem dX12_end_0 : decode cX12_end 0 = .ok (.iload_n 1, 1) := by decide +kernel
theorem dX12_end_1 : decode cX12_end 1 = .ok (.iconst 0, 1) := by decide +kernel
theorem dX12_end_2 : decode cX12_end 2 = .ok (.aload_n 0, 1) := by decide +kernel
theorem dX12_end_3 : decode cX12_end 3 = .ok (.getfield 151, 3) := by decide +kernel
theorem dX12_end_6 : decode cX12_end 6 = .ok (.invokestatic 154, 3) := by decide +kernel
theorem dX12_end_9 : decode cX12_end 9 = .ok (.ifCond .ne 5, 3) := by decide +kernel
theorem dX12_end_12 : decode cX12_end 12 = .ok (.iconst 0, 1) := by decide +kernel
theorem dX12_end_13 : decode cX12_end 13 = .ok (.ireturn, 1) := by decide +kernel
theorem dX12_end_14 : decode cX12_end 14 = .ok (.aload_n 0, 1) := by decide +kernel
theorem dX12_end_15 : decode cX12_end 15 = .ok (.iload_n 1, 1) := by decide +kernel
theorem dX12_end_16 : decode cX12_end 16 = .ok (.putfield 151, 3) := by decide +kernel
theorem dX12_end_19 : decode cX12_end 19 = .ok (.iconst 1, 1) := by decide +kernel
theorem dX12_end_20 : decode cX12_end 20 = .ok (.ireturn, 1) := by decide +kernel
def mX12_end (I : iT) (x1 : Int32) : Option (Int32 × iT) := (mX12_isIn x1 0 (I 186 1)).bind fun q1 => if q1 = 0 then some (0, I) else some (1, a_u2 I 186 1 x1)
set_option maxRecDepth 100000 in
set_option maxHeartbeats 4000000 in
theorem tX12_end {l : Launch} {K : a_KT} {g : a_GT} {IA : iT} (hko : a_kok K) (I : iT) (J : jT) (F : fT) (hF : FOK F) (x1 : Int32) (q : Int32 × iT) (hm : mX12_end I x1 = some q) : C l K g 1 0 0 yX12_end cX12_end 2 (some .boolean) [.ref 186, .int x1] (hg IA I J F) (fun r2 h2 => r2 = some (.int q.1) ∧ h2 = hg IA q.2 J F) := by
  unfold mX12_end at hm
  refine c_of [.ref 186, .int x1] (by decide) (Nat.le_of_ble_eq_true rfl) rfl ?_
  refine e_iload_n (i := 1) rfl dX12_end_0 ?_
  refine e_iconst (v := 0) (by decide) dX12_end_1 ?_
  refine e_aload_n (i := 0) rfl dX12_end_2 ?_
  refine l_getI 12 1 dX12_end_3 fl_RX12_151 rfl iz_186 (by decide) ?_
  obtain ⟨q1, eq1, hm⟩ := ob_some hm
  refine e_cS3 hko dX12_end_6 ml_RX12_154 (by omega) (Nat.le_of_ble_eq_true rfl) (tX12_isIn hko I J F hF x1 0 (I 186 1) _ eq1) ?_
  rintro _ _ ⟨rfl, rfl⟩
  refine e_if_ne 14 dX12_end_9 (by decide) (fun c_9 => ?_) (fun c_9 => ?_)
  · have hm := it_n c_9 hm
    refine e_aload_n (i := 0) rfl dX12_end_14 ?_
    refine e_iload_n (i := 1) rfl dX12_end_15 ?_
    refine l_putI 12 1 dX12_end_16 fl_RX12_151 rfl rfl iz_186 (by decide) ?_
    refine e_iconst (v := 1) (by decide) dX12_end_19 ?_
    refine e_zret dX12_end_20 rfl rfl ?_
    have hm := some_in hm
    subst hm
    exact ⟨rfl, rfl⟩
  · have hm := it_p c_9 hm
    refine e_iconst (v := 0) (by decide) dX12_end_12 ?_
    refine e_zret dX12_end_13 rfl rfl ?_
    have hm := some_in hm
    subst hm
    exact ⟨rfl, rfl⟩
theorem dX12_fault_0 : decode cX12_fault 0 = .ok (.iload_n 1, 1) := by decide +kernel
theorem dX12_fault_1 : decode cX12_fault 1 = .ok (.ifCond .ne 10, 3) := by decide +kernel
theorem dX12_fault_4 : decode cX12_fault 4 = .ok (.aload_n 0, 1) := by decide +kernel
theorem dX12_fault_5 : decode cX12_fault 5 = .ok (.getfield 411, 3) := by decide +kernel
theorem dX12_fault_8 : decode cX12_fault 8 = .ok (.goto 16, 3) := by decide +kernel
theorem dX12_fault_11 : decode cX12_fault 11 = .ok (.iload_n 1, 1) := by decide +kernel
theorem dX12_fault_12 : decode cX12_fault 12 = .ok (.iconst 1, 1) := by decide +kernel
theorem dX12_fault_13 : decode cX12_fault 13 = .ok (.if_icmp .ne 10, 3) := by decide +kernel
theorem dX12_fault_16 : decode cX12_fault 16 = .ok (.aload_n 0, 1) := by decide +kernel
theorem dX12_fault_17 : decode cX12_fault 17 = .ok (.getfield 13, 3) := by decide +kernel
theorem dX12_fault_20 : decode cX12_fault 20 = .ok (.goto 4, 3) := by decide +kernel
theorem dX12_fault_23 : decode cX12_fault 23 = .ok (.iconst (-1), 1) := by decide +kernel
theorem dX12_fault_24 : decode cX12_fault 24 = .ok (.ireturn, 1) := by decide +kernel
def mX12_fault (I : iT) (x1 : Int32) : Option (Int32) := if x1 = 0 then some (I 186 9) else if x1 = 1 then some (I 186 10) else some ((-1))
set_option maxRecDepth 100000 in
set_option maxHeartbeats 4000000 in
theorem tX12_fault {l : Launch} {K : a_KT} {g : a_GT} {IA : iT} (hko : a_kok K) (I : iT) (J : jT) (F : fT) (hF : FOK F) (x1 : Int32) (q : Int32) (hm : mX12_fault I x1 = some q) : C l K g 0 0 0 yX12_fault cX12_fault 2 (some .int) [.ref 186, .int x1] (hg IA I J F) (fun r2 h2 => r2 = some (.int q) ∧ h2 = hg IA I J F) := by
  unfold mX12_fault at hm
  refine c_of [.ref 186, .int x1] (by decide) (Nat.le_of_ble_eq_true rfl) rfl ?_
  refine e_iload_n (i := 1) rfl dX12_fault_0 ?_
  refine e_if_ne 11 dX12_fault_1 (by decide) (fun c_1 => ?_) (fun c_1 => ?_)
  · have hm := it_n c_1 hm
    refine e_iload_n (i := 1) rfl dX12_fault_11 ?_
    refine e_iconst (v := 1) (by decide) dX12_fault_12 ?_
    refine e_icmp_ne 23 dX12_fault_13 (by decide) (fun c_13 => ?_) (fun c_13 => ?_)
    · have hm := it_n c_13 hm
      refine e_iconst (v := (-1)) (by decide) dX12_fault_23 ?_
      refine e_iret dX12_fault_24 rfl ?_
      have hm := some_in hm
      subst hm
      exact ⟨rfl, rfl⟩
    · have hm := it_p c_13 hm
      refine e_aload_n (i := 0) rfl dX12_fault_16 ?_
      refine l_getI 12 10 dX12_fault_17 fl_RX12_13 rfl iz_186 (by decide) ?_
      refine e_goto 24 dX12_fault_20 (by decide) ?_
      refine e_iret dX12_fault_24 rfl ?_
      have hm := some_in hm
      subst hm
      exact ⟨rfl, rfl⟩
  · have hm := it_p c_1 hm
    refine e_aload_n (i := 0) rfl dX12_fault_4 ?_
    refine l_getI 12 9 dX12_fault_5 fl_RX12_411 rfl iz_186 (by decide) ?_
    refine e_goto 24 dX12_fault_8 (by decide) ?_
    refine e_iret dX12_fault_24 rfl ?_
    have hm := some_in hm
    subst hm
    exact ⟨rfl, rfl⟩
theorem dX12_feed_0 : decode cX12_feed 0 = .ok (.aload_n 0, 1) := by decide +kernel
theorem dX12_feed_1 : decode cX12_feed 1 = .ok (.getfield 151, 3) := by decide +kernel
theorem dX12_feed_4 : decode cX12_feed 4 = .ok (.bipush 20, 2) := by decide +kernel
theorem dX12_feed_6 : decode cX12_feed 6 = .ok (.iadd, 1) := by decide +kernel
theorem dX12_feed_7 : decode cX12_feed 7 = .ok (.sipush 1000, 3) := by decide +kernel
theorem dX12_feed_10 : decode cX12_feed 10 = .ok (.if_icmp .le 5, 3) := by decide +kernel
theorem dX12_feed_13 : decode cX12_feed 13 = .ok (.iconst (-1), 1) := by decide +kernel
theorem dX12_feed_14 : decode cX12_feed 14 = .ok (.ireturn, 1) := by decide +kernel
theorem dX12_feed_15 : decode cX12_feed 15 = .ok (.iconst 0, 1) := by decide +kernel
theorem dX12_feed_16 : decode cX12_feed 16 = .ok (.istore 6, 2) := by decide +kernel
theorem dX12_feed_18 : decode cX12_feed 18 = .ok (.iload 6, 2) := by decide +kernel
theorem dX12_feed_20 : decode cX12_feed 20 = .ok (.bipush 20, 2) := by decide +kernel
theorem dX12_feed_22 : decode cX12_feed 22 = .ok (.if_icmp .ge 93, 3) := by decide +kernel
theorem dX12_feed_25 : decode cX12_feed 25 = .ok (.iload 6, 2) := by decide +kernel
theorem dX12_feed_27 : decode cX12_feed 27 = .ok (.iconst 4, 1) := by decide +kernel
theorem dX12_feed_28 : decode cX12_feed 28 = .ok (.if_icmp .ge 7, 3) := by decide +kernel
theorem dX12_feed_31 : decode cX12_feed 31 = .ok (.iload_n 1, 1) := by decide +kernel
theorem dX12_feed_32 : decode cX12_feed 32 = .ok (.goto 39, 3) := by decide +kernel
theorem dX12_feed_35 : decode cX12_feed 35 = .ok (.iload 6, 2) := by decide +kernel
theorem dX12_feed_37 : decode cX12_feed 37 = .ok (.bipush 8, 2) := by decide +kernel
theorem dX12_feed_39 : decode cX12_feed 39 = .ok (.if_icmp .ge 7, 3) := by decide +kernel
theorem dX12_feed_42 : decode cX12_feed 42 = .ok (.iload_n 2, 1) := by decide +kernel
theorem dX12_feed_43 : decode cX12_feed 43 = .ok (.goto 28, 3) := by decide +kernel
theorem dX12_feed_46 : decode cX12_feed 46 = .ok (.iload 6, 2) := by decide +kernel
theorem dX12_feed_48 : decode cX12_feed 48 = .ok (.bipush 12, 2) := by decide +kernel
theorem dX12_feed_50 : decode cX12_feed 50 = .ok (.if_icmp .ge 7, 3) := by decide +kernel
theorem dX12_feed_53 : decode cX12_feed 53 = .ok (.iload_n 3, 1) := by decide +kernel
theorem dX12_feed_54 : decode cX12_feed 54 = .ok (.goto 17, 3) := by decide +kernel
theorem dX12_feed_57 : decode cX12_feed 57 = .ok (.iload 6, 2) := by decide +kernel
theorem dX12_feed_59 : decode cX12_feed 59 = .ok (.bipush 16, 2) := by decide +kernel
theorem dX12_feed_61 : decode cX12_feed 61 = .ok (.if_icmp .ge 8, 3) := by decide +kernel
theorem dX12_feed_64 : decode cX12_feed 64 = .ok (.iload 4, 2) := by decide +kernel
theorem dX12_feed_66 : decode cX12_feed 66 = .ok (.goto 5, 3) := by decide +kernel
theorem dX12_feed_69 : decode cX12_feed 69 = .ok (.iload 5, 2) := by decide +kernel
theorem dX12_feed_71 : decode cX12_feed 71 = .ok (.istore 7, 2) := by decide +kernel
theorem dX12_feed_73 : decode cX12_feed 73 = .ok (.aload_n 0, 1) := by decide +kernel
theorem dX12_feed_74 : decode cX12_feed 74 = .ok (.getfield 7, 3) := by decide +kernel
theorem dX12_feed_77 : decode cX12_feed 77 = .ok (.aload_n 0, 1) := by decide +kernel
theorem dX12_feed_78 : decode cX12_feed 78 = .ok (.getfield 151, 3) := by decide +kernel
theorem dX12_feed_81 : decode cX12_feed 81 = .ok (.iload 7, 2) := by decide +kernel
theorem dX12_feed_83 : decode cX12_feed 83 = .ok (.bipush 24, 2) := by decide +kernel
theorem dX12_feed_85 : decode cX12_feed 85 = .ok (.bipush 8, 2) := by decide +kernel
theorem dX12_feed_87 : decode cX12_feed 87 = .ok (.iload 6, 2) := by decide +kernel
theorem dX12_feed_89 : decode cX12_feed 89 = .ok (.iconst 4, 1) := by decide +kernel
theorem dX12_feed_90 : decode cX12_feed 90 = .ok (.irem, 1) := by decide +kernel
theorem dX12_feed_91 : decode cX12_feed 91 = .ok (.imul, 1) := by decide +kernel
theorem dX12_feed_92 : decode cX12_feed 92 = .ok (.isub, 1) := by decide +kernel
theorem dX12_feed_93 : decode cX12_feed 93 = .ok (.ishr, 1) := by decide +kernel
theorem dX12_feed_94 : decode cX12_feed 94 = .ok (.sipush 255, 3) := by decide +kernel
theorem dX12_feed_97 : decode cX12_feed 97 = .ok (.iand, 1) := by decide +kernel
theorem dX12_feed_98 : decode cX12_feed 98 = .ok (.iastore, 1) := by decide +kernel
theorem dX12_feed_99 : decode cX12_feed 99 = .ok (.aload_n 0, 1) := by decide +kernel
theorem dX12_feed_100 : decode cX12_feed 100 = .ok (.dup, 1) := by decide +kernel
theorem dX12_feed_101 : decode cX12_feed 101 = .ok (.getfield 151, 3) := by decide +kernel
theorem dX12_feed_104 : decode cX12_feed 104 = .ok (.iconst 1, 1) := by decide +kernel
theorem dX12_feed_105 : decode cX12_feed 105 = .ok (.iadd, 1) := by decide +kernel
theorem dX12_feed_106 : decode cX12_feed 106 = .ok (.putfield 151, 3) := by decide +kernel
theorem dX12_feed_109 : decode cX12_feed 109 = .ok (.iinc 6 1, 3) := by decide +kernel
theorem dX12_feed_112 : decode cX12_feed 112 = .ok (.goto (-94), 3) := by decide +kernel
theorem dX12_feed_115 : decode cX12_feed 115 = .ok (.aload_n 0, 1) := by decide +kernel
theorem dX12_feed_116 : decode cX12_feed 116 = .ok (.getfield 151, 3) := by decide +kernel
theorem dX12_feed_119 : decode cX12_feed 119 = .ok (.ireturn, 1) := by decide +kernel
def mX12_feed_71 (k18 : iT → Int32 → Int32 → Int32 → Int32 → Int32 → Int32 → Option (Int32 × iT)) (I : iT) (x1 : Int32) (x2 : Int32) (x3 : Int32) (x4 : Int32) (x5 : Int32) (x6 : Int32) (s0 : Int32) : Option (Int32 × iT) := if ¬ (4 : Int32) = 0 then if inb (I 186 1) 1000 then k18 (a_u2 (a_u2 I 187 (I 186 1).toNatClampNeg ((s0 >>> ((24 - (8 * (x6 - x6 / 4 * 4))) &&& 31)) &&& 255)) 186 1 (((a_u2 I 187 (I 186 1).toNatClampNeg ((s0 >>> ((24 - (8 * (x6 - x6 / 4 * 4))) &&& 31)) &&& 255)) 186 1) + 1)) x1 x2 x3 x4 x5 (x6 + 1) else none else none
def mX12_feed_18 : Nat → iT → Int32 → Int32 → Int32 → Int32 → Int32 → Int32 → Option (Int32 × iT)
  | 0, _, _, _, _, _, _, _ => none
  | n + 1, I, x1, x2, x3, x4, x5, x6 => if 20 ≤ x6 then some (I 186 1, I) else if 4 ≤ x6 then if 8 ≤ x6 then if 12 ≤ x6 then if 16 ≤ x6 then mX12_feed_71 (mX12_feed_18 n) I x1 x2 x3 x4 x5 x6 x5 else mX12_feed_71 (mX12_feed_18 n) I x1 x2 x3 x4 x5 x6 x4 else mX12_feed_71 (mX12_feed_18 n) I x1 x2 x3 x4 x5 x6 x3 else mX12_feed_71 (mX12_feed_18 n) I x1 x2 x3 x4 x5 x6 x2 else mX12_feed_71 (mX12_feed_18 n) I x1 x2 x3 x4 x5 x6 x1
def mX12_feed (I : iT) (x1 : Int32) (x2 : Int32) (x3 : Int32) (x4 : Int32) (x5 : Int32) : Option (Int32 × iT) := if ((I 186 1) + 20) ≤ 1000 then mX12_feed_18 LF I x1 x2 x3 x4 x5 0 else some ((-1), I)
set_option maxRecDepth 100000 in
set_option maxHeartbeats 4000000 in
theorem tX12_feed_71 {l : Launch} {K : a_KT} {g : a_GT} {IA : iT} (hko : a_kok K) {J : jT} {F : fT} {k18 : iT → Int32 → Int32 → Int32 → Int32 → Int32 → Int32 → Option (Int32 × iT)} (hk18 : ∀ (I : iT) (x1 : Int32) (x2 : Int32) (x3 : Int32) (x4 : Int32) (x5 : Int32) (x6 : Int32) (_ : FOK F) (q : Int32 × iT), k18 I x1 x2 x3 x4 x5 x6 = some q → E l K g 0 0 0 yX12_feed cX12_feed 8 (some .int) 18 [.ref 186, .int x1, .int x2, .int x3, .int x4, .int x5, .int x6, .null] [] (hg IA I J F) (fun r2 h2 => r2 = some (.int q.1) ∧ h2 = hg IA q.2 J F)) (I : iT) (x1 : Int32) (x2 : Int32) (x3 : Int32) (x4 : Int32) (x5 : Int32) (x6 : Int32) (s0 : Int32) (hF : FOK F) (q : Int32 × iT) (hm : mX12_feed_71 k18 I x1 x2 x3 x4 x5 x6 s0 = some q) : E l K g 0 0 0 yX12_feed cX12_feed 8 (some .int) 71 [.ref 186, .int x1, .int x2, .int x3, .int x4, .int x5, .int x6, .null] [.int s0] (hg IA I J F) (fun r2 h2 => r2 = some (.int q.1) ∧ h2 = hg IA q.2 J F) := by
  unfold mX12_feed_71 at hm
  refine q_istore (i := 7) (by decide) rfl dX12_feed_71 ?_
  refine e_aload_n (i := 0) rfl dX12_feed_73 ?_
  refine q_getF 12 0 187 dX12_feed_74 fl_RX12_7 rfl iz_186 (fr_186_0 hF) ?_
  refine e_aload_n (i := 0) rfl dX12_feed_77 ?_
  refine l_getI 12 1 dX12_feed_78 fl_RX12_151 rfl iz_186 (by decide) ?_
  refine e_iload (i := 7) rfl dX12_feed_81 ?_
  refine e_bipush (v := 24) (by decide) dX12_feed_83 ?_
  refine e_bipush (v := 8) (by decide) dX12_feed_85 ?_
  refine e_iload (i := 6) rfl dX12_feed_87 ?_
  refine e_iconst (v := 4) (by decide) dX12_feed_89 ?_
  obtain ⟨c_90, hm⟩ := gd_s hm
  refine e_irem c_90 dX12_feed_90 ?_
  refine e_imul dX12_feed_91 ?_
  refine e_isub dX12_feed_92 ?_
  refine e_ishr dX12_feed_93 ?_
  refine e_sipush (v := 255) (by decide) dX12_feed_94 ?_
  refine e_iand dX12_feed_97 ?_
  obtain ⟨c_98, hm⟩ := gd_s hm
  refine l_iast dX12_feed_98 iz_187 (inb_in ln_187 c_98) (by decide) ?_
  refine e_aload_n (i := 0) rfl dX12_feed_99 ?_
  refine e_dup rfl dX12_feed_100 ?_
  refine l_getI 12 1 dX12_feed_101 fl_RX12_151 rfl iz_186 (by decide) ?_
  refine e_iconst (v := 1) (by decide) dX12_feed_104 ?_
  refine e_iadd dX12_feed_105 ?_
  refine l_putI 12 1 dX12_feed_106 fl_RX12_151 rfl rfl iz_186 (by decide) ?_
  refine q_iinc (i := 6) (x6 + 1) rfl ic_1 rfl dX12_feed_109 ?_
  refine e_goto 18 dX12_feed_112 (by decide) ?_
  refine e_weak [.ref 186, .int x1, .int x2, .int x3, .int x4, .int x5, .int (x6 + 1), .null] ⟨rfl, ⟨rfl, ⟨rfl, ⟨rfl, ⟨rfl, ⟨rfl, ⟨rfl, ⟨trivial, trivial⟩⟩⟩⟩⟩⟩⟩⟩ ?_
  exact hk18 (a_u2 (a_u2 I 187 (I 186 1).toNatClampNeg ((s0 >>> ((24 - (8 * (x6 - x6 / 4 * 4))) &&& 31)) &&& 255)) 186 1 (((a_u2 I 187 (I 186 1).toNatClampNeg ((s0 >>> ((24 - (8 * (x6 - x6 / 4 * 4))) &&& 31)) &&& 255)) 186 1) + 1)) x1 x2 x3 x4 x5 (x6 + 1) hF _ hm
set_option maxRecDepth 100000 in
set_option maxHeartbeats 4000000 in
theorem tX12_feed_18 {l : Launch} {K : a_KT} {g : a_GT} {IA : iT} (hko : a_kok K) {J : jT} {F : fT} : ∀ (n : Nat) (I : iT) (x1 : Int32) (x2 : Int32) (x3 : Int32) (x4 : Int32) (x5 : Int32) (x6 : Int32) (hF : FOK F) (q : Int32 × iT), mX12_feed_18 n I x1 x2 x3 x4 x5 x6 = some q → E l K g 0 0 0 yX12_feed cX12_feed 8 (some .int) 18 [.ref 186, .int x1, .int x2, .int x3, .int x4, .int x5, .int x6, .null] [] (hg IA I J F) (fun r2 h2 => r2 = some (.int q.1) ∧ h2 = hg IA q.2 J F) := by
  intro n
  induction n with
  | zero => intro I x1 x2 x3 x4 x5 x6 hF q hm; cases hm
  | succ n ih =>
    intro I x1 x2 x3 x4 x5 x6 hF q hm
    rw [mX12_feed_18] at hm
    refine e_iload (i := 6) rfl dX12_feed_18 ?_
    refine e_bipush (v := 20) (by decide) dX12_feed_20 ?_
    refine e_icmp_ge 115 dX12_feed_22 (by decide) (fun c_22 => ?_) (fun c_22 => ?_)
    · have hm := it_p c_22 hm
      refine e_aload_n (i := 0) rfl dX12_feed_115 ?_
      refine l_getI 12 1 dX12_feed_116 fl_RX12_151 rfl iz_186 (by decide) ?_
      refine e_iret dX12_feed_119 rfl ?_
      have hm := some_in hm
      subst hm
      exact ⟨rfl, rfl⟩
    · have hm := it_n c_22 hm
      refine e_iload (i := 6) rfl dX12_feed_25 ?_
      refine e_iconst (v := 4) (by decide) dX12_feed_27 ?_
      refine e_icmp_ge 35 dX12_feed_28 (by decide) (fun c_28 => ?_) (fun c_28 => ?_)
      · have hm := it_p c_28 hm
        refine e_iload (i := 6) rfl dX12_feed_35 ?_
        refine e_bipush (v := 8) (by decide) dX12_feed_37 ?_
        refine e_icmp_ge 46 dX12_feed_39 (by decide) (fun c_39 => ?_) (fun c_39 => ?_)
        · have hm := it_p c_39 hm
          refine e_iload (i := 6) rfl dX12_feed_46 ?_
          refine e_bipush (v := 12) (by decide) dX12_feed_48 ?_
          refine e_icmp_ge 57 dX12_feed_50 (by decide) (fun c_50 => ?_) (fun c_50 => ?_)
          · have hm := it_p c_50 hm
            refine e_iload (i := 6) rfl dX12_feed_57 ?_
            refine e_bipush (v := 16) (by decide) dX12_feed_59 ?_
            refine e_icmp_ge 69 dX12_feed_61 (by decide) (fun c_61 => ?_) (fun c_61 => ?_)
            · have hm := it_p c_61 hm
              refine e_iload (i := 5) rfl dX12_feed_69 ?_
              refine e_weak [.ref 186, .int x1, .int x2, .int x3, .int x4, .int x5, .int x6, .null] ⟨rfl, ⟨rfl, ⟨rfl, ⟨rfl, ⟨rfl, ⟨rfl, ⟨rfl, ⟨trivial, trivial⟩⟩⟩⟩⟩⟩⟩⟩ ?_
              exact tX12_feed_71 hko (ih) I x1 x2 x3 x4 x5 x6 x5 hF _ hm
            · have hm := it_n c_61 hm
              refine e_iload (i := 4) rfl dX12_feed_64 ?_
              refine e_goto 71 dX12_feed_66 (by decide) ?_
              refine e_weak [.ref 186, .int x1, .int x2, .int x3, .int x4, .int x5, .int x6, .null] ⟨rfl, ⟨rfl, ⟨rfl, ⟨rfl, ⟨rfl, ⟨rfl, ⟨rfl, ⟨trivial, trivial⟩⟩⟩⟩⟩⟩⟩⟩ ?_
              exact tX12_feed_71 hko (ih) I x1 x2 x3 x4 x5 x6 x4 hF _ hm
          · have hm := it_n c_50 hm
            refine e_iload_n (i := 3) rfl dX12_feed_53 ?_
            refine e_goto 71 dX12_feed_54 (by decide) ?_
            refine e_weak [.ref 186, .int x1, .int x2, .int x3, .int x4, .int x5, .int x6, .null] ⟨rfl, ⟨rfl, ⟨rfl, ⟨rfl, ⟨rfl, ⟨rfl, ⟨rfl, ⟨trivial, trivial⟩⟩⟩⟩⟩⟩⟩⟩ ?_
            exact tX12_feed_71 hko (ih) I x1 x2 x3 x4 x5 x6 x3 hF _ hm
        · have hm := it_n c_39 hm
          refine e_iload_n (i := 2) rfl dX12_feed_42 ?_
          refine e_goto 71 dX12_feed_43 (by decide) ?_
          refine e_weak [.ref 186, .int x1, .int x2, .int x3, .int x4, .int x5, .int x6, .null] ⟨rfl, ⟨rfl, ⟨rfl, ⟨rfl, ⟨rfl, ⟨rfl, ⟨rfl, ⟨trivial, trivial⟩⟩⟩⟩⟩⟩⟩⟩ ?_
          exact tX12_feed_71 hko (ih) I x1 x2 x3 x4 x5 x6 x2 hF _ hm
      · have hm := it_n c_28 hm
        refine e_iload_n (i := 1) rfl dX12_feed_31 ?_
        refine e_goto 71 dX12_feed_32 (by decide) ?_
        refine e_weak [.ref 186, .int x1, .int x2, .int x3, .int x4, .int x5, .int x6, .null] ⟨rfl, ⟨rfl, ⟨rfl, ⟨rfl, ⟨rfl, ⟨rfl, ⟨rfl, ⟨trivial, trivial⟩⟩⟩⟩⟩⟩⟩⟩ ?_
        exact tX12_feed_71 hko (ih) I x1 x2 x3 x4 x5 x6 x1 hF _ hm
set_option maxRecDepth 100000 in
set_option maxHeartbeats 4000000 in
theorem tX12_feed {l : Launch} {K : a_KT} {g : a_GT} {IA : iT} (hko : a_kok K) (I : iT) (J : jT) (F : fT) (hF : FOK F) (x1 : Int32) (x2 : Int32) (x3 : Int32) (x4 : Int32) (x5 : Int32) (q : Int32 × iT) (hm : mX12_feed I x1 x2 x3 x4 x5 = some q) : C l K g 0 0 0 yX12_feed cX12_feed 8 (some .int) [.ref 186, .int x1, .int x2, .int x3, .int x4, .int x5] (hg IA I J F) (fun r2 h2 => r2 = some (.int q.1) ∧ h2 = hg IA q.2 J F) := by
  unfold mX12_feed at hm
  refine c_of [.ref 186, .int x1, .int x2, .int x3, .int x4, .int x5, .null, .null] (by decide) (Nat.le_of_ble_eq_true rfl) rfl ?_
  refine e_aload_n (i := 0) rfl dX12_feed_0 ?_
  refine l_getI 12 1 dX12_feed_1 fl_RX12_151 rfl iz_186 (by decide) ?_
  refine e_bipush (v := 20) (by decide) dX12_feed_4 ?_
  refine e_iadd dX12_feed_6 ?_
  refine e_sipush (v := 1000) (by decide) dX12_feed_7 ?_
  refine e_icmp_le 15 dX12_feed_10 (by decide) (fun c_10 => ?_) (fun c_10 => ?_)
  · have hm := it_p c_10 hm
    refine e_iconst (v := 0) (by decide) dX12_feed_15 ?_
    refine q_istore (i := 6) (by decide) rfl dX12_feed_16 ?_
    refine e_weak [.ref 186, .int x1, .int x2, .int x3, .int x4, .int x5, .int 0, .null] ⟨rfl, ⟨rfl, ⟨rfl, ⟨rfl, ⟨rfl, ⟨rfl, ⟨rfl, ⟨trivial, trivial⟩⟩⟩⟩⟩⟩⟩⟩ ?_
    exact tX12_feed_18 hko LF I x1 x2 x3 x4 x5 0 hF _ hm
  · have hm := it_n c_10 hm
    refine e_iconst (v := (-1)) (by decide) dX12_feed_13 ?_
    refine e_iret dX12_feed_14 rfl ?_
    have hm := some_in hm
    subst hm
    exact ⟨rfl, rfl⟩
theorem dX12_joins_0 : decode cX12_joins 0 = .ok (.aload_n 0, 1) := by decide +kernel
theorem dX12_joins_1 : decode cX12_joins 1 = .ok (.aload_n 0, 1) := by decide +kernel
theorem dX12_joins_2 : decode cX12_joins 2 = .ok (.iload_n 1, 1) := by decide +kernel
theorem dX12_joins_3 : decode cX12_joins 3 = .ok (.aload_n 0, 1) := by decide +kernel
theorem dX12_joins_4 : decode cX12_joins 4 = .ok (.getfield 20, 3) := by decide +kernel
theorem dX12_joins_7 : decode cX12_joins 7 = .ok (.iload_n 2, 1) := by decide +kernel
theorem dX12_joins_8 : decode cX12_joins 8 = .ok (.iaload, 1) := by decide +kernel
theorem dX12_joins_9 : decode cX12_joins 9 = .ok (.invokevirtual 458, 3) := by decide +kernel
theorem dX12_joins_12 : decode cX12_joins 12 = .ok (.invokevirtual 469, 3) := by decide +kernel
theorem dX12_joins_15 : decode cX12_joins 15 = .ok (.istore_n 3, 1) := by decide +kernel
theorem dX12_joins_16 : decode cX12_joins 16 = .ok (.aload_n 0, 1) := by decide +kernel
theorem dX12_joins_17 : decode cX12_joins 17 = .ok (.aload_n 0, 1) := by decide +kernel
theorem dX12_joins_18 : decode cX12_joins 18 = .ok (.iload_n 1, 1) := by decide +kernel
theorem dX12_joins_19 : decode cX12_joins 19 = .ok (.aload_n 0, 1) := by decide +kernel
theorem dX12_joins_20 : decode cX12_joins 20 = .ok (.getfield 23, 3) := by decide +kernel
theorem dX12_joins_23 : decode cX12_joins 23 = .ok (.iload_n 2, 1) := by decide +kernel
theorem dX12_joins_24 : decode cX12_joins 24 = .ok (.iaload, 1) := by decide +kernel
theorem dX12_joins_25 : decode cX12_joins 25 = .ok (.invokevirtual 458, 3) := by decide +kernel
theorem dX12_joins_28 : decode cX12_joins 28 = .ok (.invokevirtual 469, 3) := by decide +kernel
theorem dX12_joins_31 : decode cX12_joins 31 = .ok (.istore 4, 2) := by decide +kernel
theorem dX12_joins_33 : decode cX12_joins 33 = .ok (.aload_n 0, 1) := by decide +kernel
theorem dX12_joins_34 : decode cX12_joins 34 = .ok (.iconst 2, 1) := by decide +kernel
theorem dX12_joins_35 : decode cX12_joins 35 = .ok (.iload_n 3, 1) := by decide +kernel
theorem dX12_joins_36 : decode cX12_joins 36 = .ok (.imul, 1) := by decide +kernel
theorem dX12_joins_37 : decode cX12_joins 37 = .ok (.iconst 2, 1) := by decide +kernel
theorem dX12_joins_38 : decode cX12_joins 38 = .ok (.iload_n 3, 1) := by decide +kernel
theorem dX12_joins_39 : decode cX12_joins 39 = .ok (.imul, 1) := by decide +kernel
theorem dX12_joins_40 : decode cX12_joins 40 = .ok (.iconst 2, 1) := by decide +kernel
theorem dX12_joins_41 : decode cX12_joins 41 = .ok (.iload 4, 2) := by decide +kernel
theorem dX12_joins_43 : decode cX12_joins 43 = .ok (.imul, 1) := by decide +kernel
theorem dX12_joins_44 : decode cX12_joins 44 = .ok (.invokevirtual 487, 3) := by decide +kernel
theorem dX12_joins_47 : decode cX12_joins 47 = .ok (.aload_n 0, 1) := by decide +kernel
theorem dX12_joins_48 : decode cX12_joins 48 = .ok (.iconst 2, 1) := by decide +kernel
theorem dX12_joins_49 : decode cX12_joins 49 = .ok (.iload_n 3, 1) := by decide +kernel
theorem dX12_joins_50 : decode cX12_joins 50 = .ok (.imul, 1) := by decide +kernel
theorem dX12_joins_51 : decode cX12_joins 51 = .ok (.iconst 1, 1) := by decide +kernel
theorem dX12_joins_52 : decode cX12_joins 52 = .ok (.iadd, 1) := by decide +kernel
theorem dX12_joins_53 : decode cX12_joins 53 = .ok (.iconst 2, 1) := by decide +kernel
theorem dX12_joins_54 : decode cX12_joins 54 = .ok (.iload 4, 2) := by decide +kernel
theorem dX12_joins_56 : decode cX12_joins 56 = .ok (.imul, 1) := by decide +kernel
theorem dX12_joins_57 : decode cX12_joins 57 = .ok (.iconst 1, 1) := by decide +kernel
theorem dX12_joins_58 : decode cX12_joins 58 = .ok (.iadd, 1) := by decide +kernel
theorem dX12_joins_59 : decode cX12_joins 59 = .ok (.iconst 2, 1) := by decide +kernel
theorem dX12_joins_60 : decode cX12_joins 60 = .ok (.iload_n 3, 1) := by decide +kernel
theorem dX12_joins_61 : decode cX12_joins 61 = .ok (.imul, 1) := by decide +kernel
theorem dX12_joins_62 : decode cX12_joins 62 = .ok (.iconst 1, 1) := by decide +kernel
theorem dX12_joins_63 : decode cX12_joins 63 = .ok (.iadd, 1) := by decide +kernel
theorem dX12_joins_64 : decode cX12_joins 64 = .ok (.invokevirtual 487, 3) := by decide +kernel
theorem dX12_joins_67 : decode cX12_joins 67 = .ok (.aload_n 0, 1) := by decide +kernel
theorem dX12_joins_68 : decode cX12_joins 68 = .ok (.getfield 115, 3) := by decide +kernel
theorem dX12_joins_71 : decode cX12_joins 71 = .ok (.iload 4, 2) := by decide +kernel
theorem dX12_joins_73 : decode cX12_joins 73 = .ok (.iload_n 3, 1) := by decide +kernel
theorem dX12_joins_74 : decode cX12_joins 74 = .ok (.iastore, 1) := by decide +kernel
theorem dX12_joins_75 : decode cX12_joins 75 = .ok (.aload_n 0, 1) := by decide +kernel
theorem dX12_joins_76 : decode cX12_joins 76 = .ok (.getfield 111, 3) := by decide +kernel
theorem dX12_joins_79 : decode cX12_joins 79 = .ok (.iload_n 1, 1) := by decide +kernel
theorem dX12_joins_80 : decode cX12_joins 80 = .ok (.iconst 1, 1) := by decide +kernel
theorem dX12_joins_81 : decode cX12_joins 81 = .ok (.bastore, 1) := by decide +kernel
theorem dX12_joins_82 : decode cX12_joins 82 = .ok (.return_, 1) := by decide +kernel
def mX12_joins (I : iT) (x1 : Int32) (x2 : Int32) : Option (iT) := if inb x2 2800 then (mX12_value I x1 (I 189 x2.toNatClampNeg)).bind fun q1 => (mX12_real I q1).bind fun q2 => if inb x2 2800 then (mX12_value I x1 (I 190 x2.toNatClampNeg)).bind fun q3 => (mX12_real I q3).bind fun q4 => (mX12_append I (2 * q2) (2 * q2) (2 * q4)).bind fun q5 => (mX12_append q5 ((2 * q2) + 1) ((2 * q4) + 1) ((2 * q2) + 1)).bind fun q6 => if inb q4 80 then if inb x1 80 then some (a_u2 (a_u2 q6 220 q4.toNatClampNeg q2) 219 x1.toNatClampNeg 1) else none else none else none else none
set_option maxRecDepth 100000 in
set_option maxHeartbeats 4000000 in
theorem tX12_joins {l : Launch} {K : a_KT} {g : a_GT} {IA : iT} (hko : a_kok K) (I : iT) (J : jT) (F : fT) (hF : FOK F) (x1 : Int32) (x2 : Int32) (q : iT) (hm : mX12_joins I x1 x2 = some q) : C l K g 1 0 0 yX12_joins cX12_joins 5 none [.ref 186, .int x1, .int x2] (hg IA I J F) (fun r2 h2 => r2 = none ∧ h2 = hg IA q J F) := by
  unfold mX12_joins at hm
  refine c_of [.ref 186, .int x1, .int x2, .null, .null] (by decide) (Nat.le_of_ble_eq_true rfl) rfl ?_
  refine e_aload_n (i := 0) rfl dX12_joins_0 ?_
  refine e_aload_n (i := 0) rfl dX12_joins_1 ?_
  refine e_iload_n (i := 1) rfl dX12_joins_2 ?_
  refine e_aload_n (i := 0) rfl dX12_joins_3 ?_
  refine q_getF 12 12 189 dX12_joins_4 fl_RX12_20 rfl iz_186 (fr_186_12 hF) ?_
  refine e_iload_n (i := 2) rfl dX12_joins_7 ?_
  obtain ⟨c_8, hm⟩ := gd_s hm
  refine l_iald dX12_joins_8 iz_189 (inb_in ln_189 c_8) (by decide) ?_
  obtain ⟨q1, eq1, hm⟩ := ob_some hm
  refine e_cV2 hko dX12_joins_9 ml_RX12_458 iz_186 (by decide) rfl (by omega) (Nat.le_of_ble_eq_true rfl) (tX12_value hko I J F hF x1 (I 189 x2.toNatClampNeg) _ eq1) ?_
  rintro _ _ ⟨rfl, rfl⟩
  obtain ⟨q2, eq2, hm⟩ := ob_some hm
  refine e_cV1 hko dX12_joins_12 ml_RX12_469 iz_186 (by decide) rfl (by omega) (Nat.le_of_ble_eq_true rfl) (tX12_real hko I J F hF q1 _ eq2) ?_
  rintro _ _ ⟨rfl, rfl⟩
  refine q_istore_n (i := 3) (by decide) rfl dX12_joins_15 ?_
  refine e_aload_n (i := 0) rfl dX12_joins_16 ?_
  refine e_aload_n (i := 0) rfl dX12_joins_17 ?_
  refine e_iload_n (i := 1) rfl dX12_joins_18 ?_
  refine e_aload_n (i := 0) rfl dX12_joins_19 ?_
  refine q_getF 12 13 190 dX12_joins_20 fl_RX12_23 rfl iz_186 (fr_186_13 hF) ?_
  refine e_iload_n (i := 2) rfl dX12_joins_23 ?_
  obtain ⟨c_24, hm⟩ := gd_s hm
  refine l_iald dX12_joins_24 iz_190 (inb_in ln_190 c_24) (by decide) ?_
  obtain ⟨q3, eq3, hm⟩ := ob_some hm
  refine e_cV2 hko dX12_joins_25 ml_RX12_458 iz_186 (by decide) rfl (by omega) (Nat.le_of_ble_eq_true rfl) (tX12_value hko I J F hF x1 (I 190 x2.toNatClampNeg) _ eq3) ?_
  rintro _ _ ⟨rfl, rfl⟩
  obtain ⟨q4, eq4, hm⟩ := ob_some hm
  refine e_cV1 hko dX12_joins_28 ml_RX12_469 iz_186 (by decide) rfl (by omega) (Nat.le_of_ble_eq_true rfl) (tX12_real hko I J F hF q3 _ eq4) ?_
  rintro _ _ ⟨rfl, rfl⟩
  refine q_istore (i := 4) (by decide) rfl dX12_joins_31 ?_
  refine e_aload_n (i := 0) rfl dX12_joins_33 ?_
  refine e_iconst (v := 2) (by decide) dX12_joins_34 ?_
  refine e_iload_n (i := 3) rfl dX12_joins_35 ?_
  refine e_imul dX12_joins_36 ?_
  refine e_iconst (v := 2) (by decide) dX12_joins_37 ?_
  refine e_iload_n (i := 3) rfl dX12_joins_38 ?_
  refine e_imul dX12_joins_39 ?_
  refine e_iconst (v := 2) (by decide) dX12_joins_40 ?_
  refine e_iload (i := 4) rfl dX12_joins_41 ?_
  refine e_imul dX12_joins_43 ?_
  obtain ⟨q5, eq5, hm⟩ := ob_some hm
  refine e_cV3 hko dX12_joins_44 ml_RX12_487 iz_186 (by decide) rfl (by omega) (Nat.le_of_ble_eq_true rfl) (tX12_append hko I J F hF (2 * q2) (2 * q2) (2 * q4) _ eq5) ?_
  rintro _ _ ⟨rfl, rfl⟩
  refine e_aload_n (i := 0) rfl dX12_joins_47 ?_
  refine e_iconst (v := 2) (by decide) dX12_joins_48 ?_
  refine e_iload_n (i := 3) rfl dX12_joins_49 ?_
  refine e_imul dX12_joins_50 ?_
  refine e_iconst (v := 1) (by decide) dX12_joins_51 ?_
  refine e_iadd dX12_joins_52 ?_
  refine e_iconst (v := 2) (by decide) dX12_joins_53 ?_
  refine e_iload (i := 4) rfl dX12_joins_54 ?_
  refine e_imul dX12_joins_56 ?_
  refine e_iconst (v := 1) (by decide) dX12_joins_57 ?_
  refine e_iadd dX12_joins_58 ?_
  refine e_iconst (v := 2) (by decide) dX12_joins_59 ?_
  refine e_iload_n (i := 3) rfl dX12_joins_60 ?_
  refine e_imul dX12_joins_61 ?_
  refine e_iconst (v := 1) (by decide) dX12_joins_62 ?_
  refine e_iadd dX12_joins_63 ?_
  obtain ⟨q6, eq6, hm⟩ := ob_some hm
  refine e_cV3 hko dX12_joins_64 ml_RX12_487 iz_186 (by decide) rfl (by omega) (Nat.le_of_ble_eq_true rfl) (tX12_append hko q5 J F hF ((2 * q2) + 1) ((2 * q4) + 1) ((2 * q2) + 1) _ eq6) ?_
  rintro _ _ ⟨rfl, rfl⟩
  refine e_aload_n (i := 0) rfl dX12_joins_67 ?_
  refine q_getF 12 66 220 dX12_joins_68 fl_RX12_115 rfl iz_186 (fr_186_66 hF) ?_
  refine e_iload (i := 4) rfl dX12_joins_71 ?_
  refine e_iload_n (i := 3) rfl dX12_joins_73 ?_
  obtain ⟨c_74, hm⟩ := gd_s hm
  refine l_iast dX12_joins_74 iz_220 (inb_in ln_220 c_74) (by decide) ?_
  refine e_aload_n (i := 0) rfl dX12_joins_75 ?_
  refine q_getF 12 59 219 dX12_joins_76 fl_RX12_111 rfl iz_186 (fr_186_59 hF) ?_
  refine e_iload_n (i := 1) rfl dX12_joins_79 ?_
  refine e_iconst (v := 1) (by decide) dX12_joins_80 ?_
  obtain ⟨c_81, hm⟩ := gd_s hm
  refine l_zast dX12_joins_81 iz_219 (inb_in ln_219 c_81) (by decide) (by decide) ?_
  refine e_vret dX12_joins_82 rfl ?_
  have hm := some_in hm
  subst hm
  exact ⟨rfl, rfl⟩
theorem dX12_lay_0 : decode cX12_lay 0 = .ok (.aload_n 0, 1) := by decide +kernel
theorem dX12_lay_1 : decode cX12_lay 1 = .ok (.getfield 436, 3) := by decide +kernel
theorem dX12_lay_4 : decode cX12_lay 4 = .ok (.istore 6, 2) := by decide +kernel
theorem dX12_lay_6 : decode cX12_lay 6 = .ok (.aload_n 0, 1) := by decide +kernel
theorem dX12_lay_7 : decode cX12_lay 7 = .ok (.dup, 1) := by decide +kernel
theorem dX12_lay_8 : decode cX12_lay 8 = .ok (.getfield 436, 3) := by decide +kernel
theorem dX12_lay_11 : decode cX12_lay 11 = .ok (.iconst 1, 1) := by decide +kernel
theorem dX12_lay_12 : decode cX12_lay 12 = .ok (.iadd, 1) := by decide +kernel
theorem dX12_lay_13 : decode cX12_lay 13 = .ok (.putfield 436, 3) := by decide +kernel
theorem dX12_lay_16 : decode cX12_lay 16 = .ok (.aload_n 0, 1) := by decide +kernel
theorem dX12_lay_17 : decode cX12_lay 17 = .ok (.getfield 124, 3) := by decide +kernel
theorem dX12_lay_20 : decode cX12_lay 20 = .ok (.iload 6, 2) := by decide +kernel
theorem dX12_lay_22 : decode cX12_lay 22 = .ok (.iload_n 2, 1) := by decide +kernel
theorem dX12_lay_23 : decode cX12_lay 23 = .ok (.iastore, 1) := by decide +kernel
theorem dX12_lay_24 : decode cX12_lay 24 = .ok (.aload_n 0, 1) := by decide +kernel
theorem dX12_lay_25 : decode cX12_lay 25 = .ok (.getfield 127, 3) := by decide +kernel
theorem dX12_lay_28 : decode cX12_lay 28 = .ok (.iload 6, 2) := by decide +kernel
theorem dX12_lay_30 : decode cX12_lay 30 = .ok (.iload_n 3, 1) := by decide +kernel
theorem dX12_lay_31 : decode cX12_lay 31 = .ok (.iastore, 1) := by decide +kernel
theorem dX12_lay_32 : decode cX12_lay 32 = .ok (.aload_n 0, 1) := by decide +kernel
theorem dX12_lay_33 : decode cX12_lay 33 = .ok (.getfield 133, 3) := by decide +kernel
theorem dX12_lay_36 : decode cX12_lay 36 = .ok (.iload 6, 2) := by decide +kernel
theorem dX12_lay_38 : decode cX12_lay 38 = .ok (.lload 4, 2) := by decide +kernel
theorem dX12_lay_40 : decode cX12_lay 40 = .ok (.lastore, 1) := by decide +kernel
theorem dX12_lay_41 : decode cX12_lay 41 = .ok (.aload_n 0, 1) := by decide +kernel
theorem dX12_lay_42 : decode cX12_lay 42 = .ok (.getfield 130, 3) := by decide +kernel
theorem dX12_lay_45 : decode cX12_lay 45 = .ok (.iload 6, 2) := by decide +kernel
theorem dX12_lay_47 : decode cX12_lay 47 = .ok (.iconst (-1), 1) := by decide +kernel
theorem dX12_lay_48 : decode cX12_lay 48 = .ok (.iastore, 1) := by decide +kernel
theorem dX12_lay_49 : decode cX12_lay 49 = .ok (.aload_n 0, 1) := by decide +kernel
theorem dX12_lay_50 : decode cX12_lay 50 = .ok (.getfield 118, 3) := by decide +kernel
theorem dX12_lay_53 : decode cX12_lay 53 = .ok (.iload_n 1, 1) := by decide +kernel
theorem dX12_lay_54 : decode cX12_lay 54 = .ok (.iaload, 1) := by decide +kernel
theorem dX12_lay_55 : decode cX12_lay 55 = .ok (.iconst (-1), 1) := by decide +kernel
theorem dX12_lay_56 : decode cX12_lay 56 = .ok (.if_icmp .ne 14, 3) := by decide +kernel
theorem dX12_lay_59 : decode cX12_lay 59 = .ok (.aload_n 0, 1) := by decide +kernel
theorem dX12_lay_60 : decode cX12_lay 60 = .ok (.getfield 118, 3) := by decide +kernel
theorem dX12_lay_63 : decode cX12_lay 63 = .ok (.iload_n 1, 1) := by decide +kernel
theorem dX12_lay_64 : decode cX12_lay 64 = .ok (.iload 6, 2) := by decide +kernel
theorem dX12_lay_66 : decode cX12_lay 66 = .ok (.iastore, 1) := by decide +kernel
theorem dX12_lay_67 : decode cX12_lay 67 = .ok (.goto 16, 3) := by decide +kernel
theorem dX12_lay_70 : decode cX12_lay 70 = .ok (.aload_n 0, 1) := by decide +kernel
theorem dX12_lay_71 : decode cX12_lay 71 = .ok (.getfield 130, 3) := by decide +kernel
theorem dX12_lay_74 : decode cX12_lay 74 = .ok (.aload_n 0, 1) := by decide +kernel
theorem dX12_lay_75 : decode cX12_lay 75 = .ok (.getfield 121, 3) := by decide +kernel
theorem dX12_lay_78 : decode cX12_lay 78 = .ok (.iload_n 1, 1) := by decide +kernel
theorem dX12_lay_79 : decode cX12_lay 79 = .ok (.iaload, 1) := by decide +kernel
theorem dX12_lay_80 : decode cX12_lay 80 = .ok (.iload 6, 2) := by decide +kernel
theorem dX12_lay_82 : decode cX12_lay 82 = .ok (.iastore, 1) := by decide +kernel
theorem dX12_lay_83 : decode cX12_lay 83 = .ok (.aload_n 0, 1) := by decide +kernel
theorem dX12_lay_84 : decode cX12_lay 84 = .ok (.getfield 121, 3) := by decide +kernel
theorem dX12_lay_87 : decode cX12_lay 87 = .ok (.iload_n 1, 1) := by decide +kernel
theorem dX12_lay_88 : decode cX12_lay 88 = .ok (.iload 6, 2) := by decide +kernel
theorem dX12_lay_90 : decode cX12_lay 90 = .ok (.iastore, 1) := by decide +kernel
theorem dX12_lay_91 : decode cX12_lay 91 = .ok (.return_, 1) := by decide +kernel
def mX12_lay_83 (I : iT) (J : jT) (x1 : Int32) (x2 : Int32) (x3 : Int32) (w4 : Int64) (x6 : Int32) : Option (iT × jT) := if inb x1 160 then some (a_u2 I 222 x1.toNatClampNeg x6, J) else none
def mX12_lay (I : iT) (J : jT) (x1 : Int32) (x2 : Int32) (x3 : Int32) (w4 : Int64) : Option (iT × jT) := if inb (I 186 64) 700 then if inb (I 186 64) 700 then if inb (I 186 64) 700 then if inb (I 186 64) 700 then if inb x1 160 then if ((a_u2 (a_u2 (a_u2 (a_u2 I 186 64 ((I 186 64) + 1)) 223 (I 186 64).toNatClampNeg x2) 224 (I 186 64).toNatClampNeg x3) 225 (I 186 64).toNatClampNeg ((-1))) 221 x1.toNatClampNeg) = ((-1)) then if inb x1 160 then mX12_lay_83 (a_u2 (a_u2 (a_u2 (a_u2 (a_u2 I 186 64 ((I 186 64) + 1)) 223 (I 186 64).toNatClampNeg x2) 224 (I 186 64).toNatClampNeg x3) 225 (I 186 64).toNatClampNeg ((-1))) 221 x1.toNatClampNeg (I 186 64)) (a_u2 J 226 (I 186 64).toNatClampNeg w4) x1 x2 x3 w4 (I 186 64) else none else if inb x1 160 then if inb ((a_u2 (a_u2 (a_u2 (a_u2 I 186 64 ((I 186 64) + 1)) 223 (I 186 64).toNatClampNeg x2) 224 (I 186 64).toNatClampNeg x3) 225 (I 186 64).toNatClampNeg ((-1))) 222 x1.toNatClampNeg) 700 then mX12_lay_83 (a_u2 (a_u2 (a_u2 (a_u2 (a_u2 I 186 64 ((I 186 64) + 1)) 223 (I 186 64).toNatClampNeg x2) 224 (I 186 64).toNatClampNeg x3) 225 (I 186 64).toNatClampNeg ((-1))) 225 ((a_u2 (a_u2 (a_u2 (a_u2 I 186 64 ((I 186 64) + 1)) 223 (I 186 64).toNatClampNeg x2) 224 (I 186 64).toNatClampNeg x3) 225 (I 186 64).toNatClampNeg ((-1))) 222 x1.toNatClampNeg).toNatClampNeg (I 186 64)) (a_u2 J 226 (I 186 64).toNatClampNeg w4) x1 x2 x3 w4 (I 186 64) else none else none else none else none else none else none else none
set_option maxRecDepth 100000 in
set_option maxHeartbeats 4000000 in
theorem tX12_lay_83 {l : Launch} {K : a_KT} {g : a_GT} {IA : iT} (hko : a_kok K) {F : fT} (I : iT) (J : jT) (x1 : Int32) (x2 : Int32) (x3 : Int32) (w4 : Int64) (x6 : Int32) (hF : FOK F) (q : iT × jT) (hm : mX12_lay_83 I J x1 x2 x3 w4 x6 = some q) : E l K g 0 0 0 yX12_lay cX12_lay 7 none 83 [.ref 186, .int x1, .int x2, .int x3, .long w4, .null, .int x6] [] (hg IA I J F) (fun r2 h2 => r2 = none ∧ h2 = hg IA q.1 q.2 F) := by
  unfold mX12_lay_83 at hm
  refine e_aload_n (i := 0) rfl dX12_lay_83 ?_
  refine q_getF 12 68 222 dX12_lay_84 fl_RX12_121 rfl iz_186 (fr_186_68 hF) ?_
  refine e_iload_n (i := 1) rfl dX12_lay_87 ?_
  refine e_iload (i := 6) rfl dX12_lay_88 ?_
  obtain ⟨c_90, hm⟩ := gd_s hm
  refine l_iast dX12_lay_90 iz_222 (inb_in ln_222 c_90) (by decide) ?_
  refine e_vret dX12_lay_91 rfl ?_
  have hm := some_in hm
  subst hm
  exact ⟨rfl, rfl⟩
set_option maxRecDepth 100000 in
set_option maxHeartbeats 4000000 in
theorem tX12_lay {l : Launch} {K : a_KT} {g : a_GT} {IA : iT} (hko : a_kok K) (I : iT) (J : jT) (F : fT) (hF : FOK F) (x1 : Int32) (x2 : Int32) (x3 : Int32) (w4 : Int64) (q : iT × jT) (hm : mX12_lay I J x1 x2 x3 w4 = some q) : C l K g 0 0 0 yX12_lay cX12_lay 7 none [.ref 186, .int x1, .int x2, .int x3, .long w4] (hg IA I J F) (fun r2 h2 => r2 = none ∧ h2 = hg IA q.1 q.2 F) := by
  unfold mX12_lay at hm
  refine c_of [.ref 186, .int x1, .int x2, .int x3, .long w4, .null, .null] (by decide) (Nat.le_of_ble_eq_true rfl) rfl ?_
  refine e_aload_n (i := 0) rfl dX12_lay_0 ?_
  refine l_getI 12 64 dX12_lay_1 fl_RX12_436 rfl iz_186 (by decide) ?_
  refine q_istore (i := 6) (by decide) rfl dX12_lay_4 ?_
  refine e_aload_n (i := 0) rfl dX12_lay_6 ?_
  refine e_dup rfl dX12_lay_7 ?_
  refine l_getI 12 64 dX12_lay_8 fl_RX12_436 rfl iz_186 (by decide) ?_
  refine e_iconst (v := 1) (by decide) dX12_lay_11 ?_
  refine e_iadd dX12_lay_12 ?_
  refine l_putI 12 64 dX12_lay_13 fl_RX12_436 rfl rfl iz_186 (by decide) ?_
  refine e_aload_n (i := 0) rfl dX12_lay_16 ?_
  refine q_getF 12 69 223 dX12_lay_17 fl_RX12_124 rfl iz_186 (fr_186_69 hF) ?_
  refine e_iload (i := 6) rfl dX12_lay_20 ?_
  refine e_iload_n (i := 2) rfl dX12_lay_22 ?_
  obtain ⟨c_23, hm⟩ := gd_s hm
  refine l_iast dX12_lay_23 iz_223 (inb_in ln_223 c_23) (by decide) ?_
  refine e_aload_n (i := 0) rfl dX12_lay_24 ?_
  refine q_getF 12 70 224 dX12_lay_25 fl_RX12_127 rfl iz_186 (fr_186_70 hF) ?_
  refine e_iload (i := 6) rfl dX12_lay_28 ?_
  refine e_iload_n (i := 3) rfl dX12_lay_30 ?_
  obtain ⟨c_31, hm⟩ := gd_s hm
  refine l_iast dX12_lay_31 iz_224 (inb_in ln_224 c_31) (by decide) ?_
  refine e_aload_n (i := 0) rfl dX12_lay_32 ?_
  refine q_getF 12 72 226 dX12_lay_33 fl_RX12_133 rfl iz_186 (fr_186_72 hF) ?_
  refine e_iload (i := 6) rfl dX12_lay_36 ?_
  refine e_lload (i := 4) rfl dX12_lay_38 ?_
  obtain ⟨c_40, hm⟩ := gd_s hm
  refine q_last dX12_lay_40 iz_226 (inb_in ln_226 c_40) ?_
  refine e_aload_n (i := 0) rfl dX12_lay_41 ?_
  refine q_getF 12 71 225 dX12_lay_42 fl_RX12_130 rfl iz_186 (fr_186_71 hF) ?_
  refine e_iload (i := 6) rfl dX12_lay_45 ?_
  refine e_iconst (v := (-1)) (by decide) dX12_lay_47 ?_
  obtain ⟨c_48, hm⟩ := gd_s hm
  refine l_iast dX12_lay_48 iz_225 (inb_in ln_225 c_48) (by decide) ?_
  refine e_aload_n (i := 0) rfl dX12_lay_49 ?_
  refine q_getF 12 67 221 dX12_lay_50 fl_RX12_118 rfl iz_186 (fr_186_67 hF) ?_
  refine e_iload_n (i := 1) rfl dX12_lay_53 ?_
  obtain ⟨c_54, hm⟩ := gd_s hm
  refine l_iald dX12_lay_54 iz_221 (inb_in ln_221 c_54) (by decide) ?_
  refine e_iconst (v := (-1)) (by decide) dX12_lay_55 ?_
  refine e_icmp_ne 70 dX12_lay_56 (by decide) (fun c_56 => ?_) (fun c_56 => ?_)
  · have hm := it_n c_56 hm
    refine e_aload_n (i := 0) rfl dX12_lay_70 ?_
    refine q_getF 12 71 225 dX12_lay_71 fl_RX12_130 rfl iz_186 (fr_186_71 hF) ?_
    refine e_aload_n (i := 0) rfl dX12_lay_74 ?_
    refine q_getF 12 68 222 dX12_lay_75 fl_RX12_121 rfl iz_186 (fr_186_68 hF) ?_
    refine e_iload_n (i := 1) rfl dX12_lay_78 ?_
    obtain ⟨c_79, hm⟩ := gd_s hm
    refine l_iald dX12_lay_79 iz_222 (inb_in ln_222 c_79) (by decide) ?_
    refine e_iload (i := 6) rfl dX12_lay_80 ?_
    obtain ⟨c_82, hm⟩ := gd_s hm
    refine l_iast dX12_lay_82 iz_225 (inb_in ln_225 c_82) (by decide) ?_
    refine e_weak [.ref 186, .int x1, .int x2, .int x3, .long w4, .null, .int (I 186 64)] ⟨rfl, ⟨rfl, ⟨rfl, ⟨rfl, ⟨rfl, ⟨trivial, ⟨rfl, trivial⟩⟩⟩⟩⟩⟩⟩ ?_
    exact tX12_lay_83 hko (a_u2 (a_u2 (a_u2 (a_u2 (a_u2 I 186 64 ((I 186 64) + 1)) 223 (I 186 64).toNatClampNeg x2) 224 (I 186 64).toNatClampNeg x3) 225 (I 186 64).toNatClampNeg ((-1))) 225 ((a_u2 (a_u2 (a_u2 (a_u2 I 186 64 ((I 186 64) + 1)) 223 (I 186 64).toNatClampNeg x2) 224 (I 186 64).toNatClampNeg x3) 225 (I 186 64).toNatClampNeg ((-1))) 222 x1.toNatClampNeg).toNatClampNeg (I 186 64)) (a_u2 J 226 (I 186 64).toNatClampNeg w4) x1 x2 x3 w4 (I 186 64) hF _ hm
  · have hm := it_p c_56 hm
    refine e_aload_n (i := 0) rfl dX12_lay_59 ?_
    refine q_getF 12 67 221 dX12_lay_60 fl_RX12_118 rfl iz_186 (fr_186_67 hF) ?_
    refine e_iload_n (i := 1) rfl dX12_lay_63 ?_
    refine e_iload (i := 6) rfl dX12_lay_64 ?_
    obtain ⟨c_66, hm⟩ := gd_s hm
    refine l_iast dX12_lay_66 iz_221 (inb_in ln_221 c_66) (by decide) ?_
    refine e_goto 83 dX12_lay_67 (by decide) ?_
    refine e_weak [.ref 186, .int x1, .int x2, .int x3, .long w4, .null, .int (I 186 64)] ⟨rfl, ⟨rfl, ⟨rfl, ⟨rfl, ⟨rfl, ⟨trivial, ⟨rfl, trivial⟩⟩⟩⟩⟩⟩⟩ ?_
    exact tX12_lay_83 hko (a_u2 (a_u2 (a_u2 (a_u2 (a_u2 I 186 64 ((I 186 64) + 1)) 223 (I 186 64).toNatClampNeg x2) 224 (I 186 64).toNatClampNeg x3) 225 (I 186 64).toNatClampNeg ((-1))) 221 x1.toNatClampNeg (I 186 64)) (a_u2 J 226 (I 186 64).toNatClampNeg w4) x1 x2 x3 w4 (I 186 64) hF _ hm
theorem dX12_tells_0 : decode cX12_tells 0 = .ok (.iconst 0, 1) := by decide +kernel
theorem dX12_tells_1 : decode cX12_tells 1 = .ok (.istore 5, 2) := by decide +kernel
theorem dX12_tells_3 : decode cX12_tells 3 = .ok (.iconst 0, 1) := by decide +kernel
theorem dX12_tells_4 : decode cX12_tells 4 = .ok (.istore 6, 2) := by decide +kernel
theorem dX12_tells_6 : decode cX12_tells 6 = .ok (.iload_n 3, 1) := by decide +kernel
theorem dX12_tells_7 : decode cX12_tells 7 = .ok (.istore 7, 2) := by decide +kernel
theorem dX12_tells_9 : decode cX12_tells 9 = .ok (.iload 7, 2) := by decide +kernel
theorem dX12_tells_11 : decode cX12_tells 11 = .ok (.iconst (-1), 1) := by decide +kernel
theorem dX12_tells_12 : decode cX12_tells 12 = .ok (.if_icmp .eq 90, 3) := by decide +kernel
theorem dX12_tells_15 : decode cX12_tells 15 = .ok (.aload_n 0, 1) := by decide +kernel
theorem dX12_tells_16 : decode cX12_tells 16 = .ok (.getfield 17, 3) := by decide +kernel
theorem dX12_tells_19 : decode cX12_tells 19 = .ok (.iload 7, 2) := by decide +kernel
theorem dX12_tells_21 : decode cX12_tells 21 = .ok (.iaload, 1) := by decide +kernel
theorem dX12_tells_22 : decode cX12_tells 22 = .ok (.bipush 55, 2) := by decide +kernel
theorem dX12_tells_24 : decode cX12_tells 24 = .ok (.if_icmp .ne 18, 3) := by decide +kernel
theorem dX12_tells_27 : decode cX12_tells 27 = .ok (.aload_n 0, 1) := by decide +kernel
theorem dX12_tells_28 : decode cX12_tells 28 = .ok (.iload_n 1, 1) := by decide +kernel
theorem dX12_tells_29 : decode cX12_tells 29 = .ok (.aload_n 0, 1) := by decide +kernel
theorem dX12_tells_30 : decode cX12_tells 30 = .ok (.getfield 20, 3) := by decide +kernel
theorem dX12_tells_33 : decode cX12_tells 33 = .ok (.iload 7, 2) := by decide +kernel
theorem dX12_tells_35 : decode cX12_tells 35 = .ok (.iaload, 1) := by decide +kernel
theorem dX12_tells_36 : decode cX12_tells 36 = .ok (.invokevirtual 462, 3) := by decide +kernel
theorem dX12_tells_39 : decode cX12_tells 39 = .ok (.goto 15, 3) := by decide +kernel
theorem dX12_tells_42 : decode cX12_tells 42 = .ok (.aload_n 0, 1) := by decide +kernel
theorem dX12_tells_43 : decode cX12_tells 43 = .ok (.iload_n 1, 1) := by decide +kernel
theorem dX12_tells_44 : decode cX12_tells 44 = .ok (.aload_n 0, 1) := by decide +kernel
theorem dX12_tells_45 : decode cX12_tells 45 = .ok (.getfield 20, 3) := by decide +kernel
theorem dX12_tells_48 : decode cX12_tells 48 = .ok (.iload 7, 2) := by decide +kernel
theorem dX12_tells_50 : decode cX12_tells 50 = .ok (.iaload, 1) := by decide +kernel
theorem dX12_tells_51 : decode cX12_tells 51 = .ok (.invokevirtual 458, 3) := by decide +kernel
theorem dX12_tells_54 : decode cX12_tells 54 = .ok (.istore 8, 2) := by decide +kernel
theorem dX12_tells_56 : decode cX12_tells 56 = .ok (.aload_n 0, 1) := by decide +kernel
theorem dX12_tells_57 : decode cX12_tells 57 = .ok (.getfield 145, 3) := by decide +kernel
theorem dX12_tells_60 : decode cX12_tells 60 = .ok (.iload 5, 2) := by decide +kernel
theorem dX12_tells_62 : decode cX12_tells 62 = .ok (.iload 8, 2) := by decide +kernel
theorem dX12_tells_64 : decode cX12_tells 64 = .ok (.iastore, 1) := by decide +kernel
theorem dX12_tells_65 : decode cX12_tells 65 = .ok (.iinc 5 1, 3) := by decide +kernel
theorem dX12_tells_68 : decode cX12_tells 68 = .ok (.iload 6, 2) := by decide +kernel
theorem dX12_tells_70 : decode cX12_tells 70 = .ok (.aload_n 0, 1) := by decide +kernel
theorem dX12_tells_71 : decode cX12_tells 71 = .ok (.getfield 17, 3) := by decide +kernel
theorem dX12_tells_74 : decode cX12_tells 74 = .ok (.iload 7, 2) := by decide +kernel
theorem dX12_tells_76 : decode cX12_tells 76 = .ok (.iaload, 1) := by decide +kernel
theorem dX12_tells_77 : decode cX12_tells 77 = .ok (.bipush 54, 2) := by decide +kernel
theorem dX12_tells_79 : decode cX12_tells 79 = .ok (.if_icmp .ne 7, 3) := by decide +kernel
theorem dX12_tells_82 : decode cX12_tells 82 = .ok (.iconst 1, 1) := by decide +kernel
theorem dX12_tells_83 : decode cX12_tells 83 = .ok (.goto 4, 3) := by decide +kernel
theorem dX12_tells_86 : decode cX12_tells 86 = .ok (.iconst 0, 1) := by decide +kernel
theorem dX12_tells_87 : decode cX12_tells 87 = .ok (.iadd, 1) := by decide +kernel
theorem dX12_tells_88 : decode cX12_tells 88 = .ok (.istore 6, 2) := by decide +kernel
theorem dX12_tells_90 : decode cX12_tells 90 = .ok (.aload_n 0, 1) := by decide +kernel
theorem dX12_tells_91 : decode cX12_tells 91 = .ok (.getfield 26, 3) := by decide +kernel
theorem dX12_tells_94 : decode cX12_tells 94 = .ok (.iload 7, 2) := by decide +kernel
theorem dX12_tells_96 : decode cX12_tells 96 = .ok (.iaload, 1) := by decide +kernel
theorem dX12_tells_97 : decode cX12_tells 97 = .ok (.istore 7, 2) := by decide +kernel
theorem dX12_tells_99 : decode cX12_tells 99 = .ok (.goto (-90), 3) := by decide +kernel
theorem dX12_tells_102 : decode cX12_tells 102 = .ok (.iconst 0, 1) := by decide +kernel
theorem dX12_tells_103 : decode cX12_tells 103 = .ok (.istore 7, 2) := by decide +kernel
theorem dX12_tells_105 : decode cX12_tells 105 = .ok (.iload 7, 2) := by decide +kernel
theorem dX12_tells_107 : decode cX12_tells 107 = .ok (.iload 5, 2) := by decide +kernel
theorem dX12_tells_109 : decode cX12_tells 109 = .ok (.if_icmp .ge 29, 3) := by decide +kernel
theorem dX12_tells_112 : decode cX12_tells 112 = .ok (.aload_n 0, 1) := by decide +kernel
theorem dX12_tells_113 : decode cX12_tells 113 = .ok (.getfield 108, 3) := by decide +kernel
theorem dX12_tells_116 : decode cX12_tells 116 = .ok (.sipush 128, 3) := by decide +kernel
theorem dX12_tells_119 : decode cX12_tells 119 = .ok (.iload_n 2, 1) := by decide +kernel
theorem dX12_tells_120 : decode cX12_tells 120 = .ok (.imul, 1) := by decide +kernel
theorem dX12_tells_121 : decode cX12_tells 121 = .ok (.iload 7, 2) := by decide +kernel
theorem dX12_tells_123 : decode cX12_tells 123 = .ok (.iadd, 1) := by decide +kernel
theorem dX12_tells_124 : decode cX12_tells 124 = .ok (.aload_n 0, 1) := by decide +kernel
theorem dX12_tells_125 : decode cX12_tells 125 = .ok (.getfield 145, 3) := by decide +kernel
theorem dX12_tells_128 : decode cX12_tells 128 = .ok (.iload 7, 2) := by decide +kernel
theorem dX12_tells_130 : decode cX12_tells 130 = .ok (.iaload, 1) := by decide +kernel
theorem dX12_tells_131 : decode cX12_tells 131 = .ok (.iastore, 1) := by decide +kernel
theorem dX12_tells_132 : decode cX12_tells 132 = .ok (.iinc 7 1, 3) := by decide +kernel
theorem dX12_tells_135 : decode cX12_tells 135 = .ok (.goto (-30), 3) := by decide +kernel
theorem dX12_tells_138 : decode cX12_tells 138 = .ok (.aload_n 0, 1) := by decide +kernel
theorem dX12_tells_139 : decode cX12_tells 139 = .ok (.getfield 108, 3) := by decide +kernel
theorem dX12_tells_142 : decode cX12_tells 142 = .ok (.sipush 128, 3) := by decide +kernel
theorem dX12_tells_145 : decode cX12_tells 145 = .ok (.iload_n 2, 1) := by decide +kernel
theorem dX12_tells_146 : decode cX12_tells 146 = .ok (.imul, 1) := by decide +kernel
theorem dX12_tells_147 : decode cX12_tells 147 = .ok (.iload 5, 2) := by decide +kernel
theorem dX12_tells_149 : decode cX12_tells 149 = .ok (.iadd, 1) := by decide +kernel
theorem dX12_tells_150 : decode cX12_tells 150 = .ok (.aload_n 0, 1) := by decide +kernel
theorem dX12_tells_151 : decode cX12_tells 151 = .ok (.getfield 96, 3) := by decide +kernel
theorem dX12_tells_154 : decode cX12_tells 154 = .ok (.iload_n 2, 1) := by decide +kernel
theorem dX12_tells_155 : decode cX12_tells 155 = .ok (.iaload, 1) := by decide +kernel
theorem dX12_tells_156 : decode cX12_tells 156 = .ok (.iastore, 1) := by decide +kernel
theorem dX12_tells_157 : decode cX12_tells 157 = .ok (.iload 6, 2) := by decide +kernel
theorem dX12_tells_159 : decode cX12_tells 159 = .ok (.ireturn, 1) := by decide +kernel
def mX12_tells_87 (k9 : iT → Int32 → Int32 → Int32 → Int32 → Int32 → Int32 → Int32 → Option (Int32 × iT)) (I : iT) (x1 : Int32) (x2 : Int32) (x3 : Int32) (x4 : Int32) (x5 : Int32) (x6 : Int32) (x7 : Int32) (x8 : Int32) (s0 : Int32) (s1 : Int32) : Option (Int32 × iT) := if inb x7 2800 then k9 I x1 x2 x3 x4 x5 (s1 + s0) (I 191 x7.toNatClampNeg) else none
def mX12_tells_54 (k9 : iT → Int32 → Int32 → Int32 → Int32 → Int32 → Int32 → Int32 → Option (Int32 × iT)) (I : iT) (x1 : Int32) (x2 : Int32) (x3 : Int32) (x4 : Int32) (x5 : Int32) (x6 : Int32) (x7 : Int32) (s0 : Int32) : Option (Int32 × iT) := if inb x5 4 then if inb x7 2800 then if ((a_u2 I 230 x5.toNatClampNeg s0) 188 x7.toNatClampNeg) = 54 then mX12_tells_87 (k9) (a_u2 I 230 x5.toNatClampNeg s0) x1 x2 x3 x4 (x5 + 1) x6 x7 s0 1 x6 else mX12_tells_87 (k9) (a_u2 I 230 x5.toNatClampNeg s0) x1 x2 x3 x4 (x5 + 1) x6 x7 s0 0 x6 else none else none
def mX12_tells_105 : Nat → iT → Int32 → Int32 → Int32 → Int32 → Int32 → Int32 → Int32 → Option (Int32 × iT)
  | 0, _, _, _, _, _, _, _, _ => none
  | n + 1, I, x1, x2, x3, x4, x5, x6, x7 => if x5 ≤ x7 then if inb x2 80 then if inb ((128 * x2) + x5) 10240 then some (x6, a_u2 I 218 ((128 * x2) + x5).toNatClampNeg (I 214 x2.toNatClampNeg)) else none else none else if inb x7 4 then if inb ((128 * x2) + x7) 10240 then mX12_tells_105 n (a_u2 I 218 ((128 * x2) + x7).toNatClampNeg (I 230 x7.toNatClampNeg)) x1 x2 x3 x4 x5 x6 (x7 + 1) else none else none
def mX12_tells_9 : Nat → iT → Int32 → Int32 → Int32 → Int32 → Int32 → Int32 → Int32 → Option (Int32 × iT)
  | 0, _, _, _, _, _, _, _, _ => none
  | n + 1, I, x1, x2, x3, x4, x5, x6, x7 => if x7 = ((-1)) then mX12_tells_105 LF I x1 x2 x3 x4 x5 x6 0 else if inb x7 2800 then if (I 188 x7.toNatClampNeg) = 55 then if inb x7 2800 then (mX12_worth SF I x1 (I 189 x7.toNatClampNeg)).bind fun q2 => mX12_tells_54 (mX12_tells_9 n) q2.2 x1 x2 x3 x4 x5 x6 x7 q2.1 else none else if inb x7 2800 then (mX12_value I x1 (I 189 x7.toNatClampNeg)).bind fun q1 => mX12_tells_54 (mX12_tells_9 n) I x1 x2 x3 x4 x5 x6 x7 q1 else none else none
def mX12_tells (I : iT) (x1 : Int32) (x2 : Int32) (x3 : Int32) (x4 : Int32) : Option (Int32 × iT) := mX12_tells_9 LF I x1 x2 x3 x4 0 0 x3
set_option maxRecDepth 100000 in
set_option maxHeartbeats 4000000 in
theorem tX12_tells_87 {l : Launch} {K : a_KT} {g : a_GT} {IA : iT} (hko : a_kok K) {J : jT} {F : fT} {k9 : iT → Int32 → Int32 → Int32 → Int32 → Int32 → Int32 → Int32 → Option (Int32 × iT)} (hk9 : ∀ (I : iT) (x1 : Int32) (x2 : Int32) (x3 : Int32) (x4 : Int32) (x5 : Int32) (x6 : Int32) (x7 : Int32) (_ : FOK F) (q : Int32 × iT), k9 I x1 x2 x3 x4 x5 x6 x7 = some q → E l K g 452 0 0 yX12_tells cX12_tells 9 (some .int) 9 [.ref 186, .int x1, .int x2, .int x3, .int x4, .int x5, .int x6, .int x7, .null] [] (hg IA I J F) (fun r2 h2 => r2 = some (.int q.1) ∧ h2 = hg IA q.2 J F)) (I : iT) (x1 : Int32) (x2 : Int32) (x3 : Int32) (x4 : Int32) (x5 : Int32) (x6 : Int32) (x7 : Int32) (x8 : Int32) (s0 : Int32) (s1 : Int32) (hF : FOK F) (q : Int32 × iT) (hm : mX12_tells_87 k9 I x1 x2 x3 x4 x5 x6 x7 x8 s0 s1 = some q) : E l K g 452 0 0 yX12_tells cX12_tells 9 (some .int) 87 [.ref 186, .int x1, .int x2, .int x3, .int x4, .int x5, .int x6, .int x7, .int x8] [.int s0, .int s1] (hg IA I J F) (fun r2 h2 => r2 = some (.int q.1) ∧ h2 = hg IA q.2 J F) := by
  unfold mX12_tells_87 at hm
  refine e_iadd dX12_tells_87 ?_
  refine q_istore (i := 6) (by decide) rfl dX12_tells_88 ?_
  refine e_aload_n (i := 0) rfl dX12_tells_90 ?_
  refine q_getF 12 14 191 dX12_tells_91 fl_RX12_26 rfl iz_186 (fr_186_14 hF) ?_
  refine e_iload (i := 7) rfl dX12_tells_94 ?_
  obtain ⟨c_96, hm⟩ := gd_s hm
  refine l_iald dX12_tells_96 iz_191 (inb_in ln_191 c_96) (by decide) ?_
  refine q_istore (i := 7) (by decide) rfl dX12_tells_97 ?_
  refine e_goto 9 dX12_tells_99 (by decide) ?_
  refine e_weak [.ref 186, .int x1, .int x2, .int x3, .int x4, .int x5, .int (s1 + s0), .int (I 191 x7.toNatClampNeg), .null] ⟨rfl, ⟨rfl, ⟨rfl, ⟨rfl, ⟨rfl, ⟨rfl, ⟨rfl, ⟨rfl, ⟨trivial, trivial⟩⟩⟩⟩⟩⟩⟩⟩⟩ ?_
  exact hk9 I x1 x2 x3 x4 x5 (s1 + s0) (I 191 x7.toNatClampNeg) hF _ hm
set_option maxRecDepth 100000 in
set_option maxHeartbeats 4000000 in
theorem tX12_tells_54 {l : Launch} {K : a_KT} {g : a_GT} {IA : iT} (hko : a_kok K) {J : jT} {F : fT} {k9 : iT → Int32 → Int32 → Int32 → Int32 → Int32 → Int32 → Int32 → Option (Int32 × iT)} (hk9 : ∀ (I : iT) (x1 : Int32) (x2 : Int32) (x3 : Int32) (x4 : Int32) (x5 : Int32) (x6 : Int32) (x7 : Int32) (_ : FOK F) (q : Int32 × iT), k9 I x1 x2 x3 x4 x5 x6 x7 = some q → E l K g 452 0 0 yX12_tells cX12_tells 9 (some .int) 9 [.ref 186, .int x1, .int x2, .int x3, .int x4, .int x5, .int x6, .int x7, .null] [] (hg IA I J F) (fun r2 h2 => r2 = some (.int q.1) ∧ h2 = hg IA q.2 J F)) (I : iT) (x1 : Int32) (x2 : Int32) (x3 : Int32) (x4 : Int32) (x5 : Int32) (x6 : Int32) (x7 : Int32) (s0 : Int32) (hF : FOK F) (q : Int32 × iT) (hm : mX12_tells_54 k9 I x1 x2 x3 x4 x5 x6 x7 s0 = some q) : E l K g 452 0 0 yX12_tells cX12_tells 9 (some .int) 54 [.ref 186, .int x1, .int x2, .int x3, .int x4, .int x5, .int x6, .int x7, .null] [.int s0] (hg IA I J F) (fun r2 h2 => r2 = some (.int q.1) ∧ h2 = hg IA q.2 J F) := by
  unfold mX12_tells_54 at hm
  refine q_istore (i := 8) (by decide) rfl dX12_tells_54 ?_
  refine e_aload_n (i := 0) rfl dX12_tells_56 ?_
  refine q_getF 12 77 230 dX12_tells_57 fl_RX12_145 rfl iz_186 (fr_186_77 hF) ?_
  refine e_iload (i := 5) rfl dX12_tells_60 ?_
  refine e_iload (i := 8) rfl dX12_tells_62 ?_
  obtain ⟨c_64, hm⟩ := gd_s hm
  refine l_iast dX12_tells_64 iz_230 (inb_in ln_230 c_64) (by decide) ?_
  refine q_iinc (i := 5) (x5 + 1) rfl ic_1 rfl dX12_tells_65 ?_
  refine e_iload (i := 6) rfl dX12_tells_68 ?_
  refine e_aload_n (i := 0) rfl dX12_tells_70 ?_
  refine q_getF 12 11 188 dX12_tells_71 fl_RX12_17 rfl iz_186 (fr_186_11 hF) ?_
  refine e_iload (i := 7) rfl dX12_tells_74 ?_
  obtain ⟨c_76, hm⟩ := gd_s hm
  refine l_iald dX12_tells_76 iz_188 (inb_in ln_188 c_76) (by decide) ?_
  refine e_bipush (v := 54) (by decide) dX12_tells_77 ?_
  refine e_icmp_ne 86 dX12_tells_79 (by decide) (fun c_79 => ?_) (fun c_79 => ?_)
  · have hm := it_n c_79 hm
    refine e_iconst (v := 0) (by decide) dX12_tells_86 ?_
    refine e_weak [.ref 186, .int x1, .int x2, .int x3, .int x4, .int (x5 + 1), .int x6, .int x7, .int s0] ⟨rfl, ⟨rfl, ⟨rfl, ⟨rfl, ⟨rfl, ⟨rfl, ⟨rfl, ⟨rfl, ⟨rfl, trivial⟩⟩⟩⟩⟩⟩⟩⟩⟩ ?_
    exact tX12_tells_87 hko (hk9) (a_u2 I 230 x5.toNatClampNeg s0) x1 x2 x3 x4 (x5 + 1) x6 x7 s0 0 x6 hF _ hm
  · have hm := it_p c_79 hm
    refine e_iconst (v := 1) (by decide) dX12_tells_82 ?_
    refine e_goto 87 dX12_tells_83 (by decide) ?_
    refine e_weak [.ref 186, .int x1, .int x2, .int x3, .int x4, .int (x5 + 1), .int x6, .int x7, .int s0] ⟨rfl, ⟨rfl, ⟨rfl, ⟨rfl, ⟨rfl, ⟨rfl, ⟨rfl, ⟨rfl, ⟨rfl, trivial⟩⟩⟩⟩⟩⟩⟩⟩⟩ ?_
    exact tX12_tells_87 hko (hk9) (a_u2 I 230 x5.toNatClampNeg s0) x1 x2 x3 x4 (x5 + 1) x6 x7 s0 1 x6 hF _ hm
set_option maxRecDepth 100000 in
set_option maxHeartbeats 4000000 in
theorem tX12_tells_105 {l : Launch} {K : a_KT} {g : a_GT} {IA : iT} (hko : a_kok K) {J : jT} {F : fT} : ∀ (n : Nat) (I : iT) (x1 : Int32) (x2 : Int32) (x3 : Int32) (x4 : Int32) (x5 : Int32) (x6 : Int32) (x7 : Int32) (hF : FOK F) (q : Int32 × iT), mX12_tells_105 n I x1 x2 x3 x4 x5 x6 x7 = some q → E l K g 452 0 0 yX12_tells cX12_tells 9 (some .int) 105 [.ref 186, .int x1, .int x2, .int x3, .int x4, .int x5, .int x6, .int x7, .null] [] (hg IA I J F) (fun r2 h2 => r2 = some (.int q.1) ∧ h2 = hg IA q.2 J F) := by
  intro n
  induction n with
  | zero => intro I x1 x2 x3 x4 x5 x6 x7 hF q hm; cases hm
  | succ n ih =>
    intro I x1 x2 x3 x4 x5 x6 x7 hF q hm
    rw [mX12_tells_105] at hm
    refine e_iload (i := 7) rfl dX12_tells_105 ?_
    refine e_iload (i := 5) rfl dX12_tells_107 ?_
    refine e_icmp_ge 138 dX12_tells_109 (by decide) (fun c_109 => ?_) (fun c_109 => ?_)
    · have hm := it_p c_109 hm
      refine e_aload_n (i := 0) rfl dX12_tells_138 ?_
      refine q_getF 12 58 218 dX12_tells_139 fl_RX12_108 rfl iz_186 (fr_186_58 hF) ?_
      refine e_sipush (v := 128) (by decide) dX12_tells_142 ?_
      refine e_iload_n (i := 2) rfl dX12_tells_145 ?_
      refine e_imul dX12_tells_146 ?_
      refine e_iload (i := 5) rfl dX12_tells_147 ?_
      refine e_iadd dX12_tells_149 ?_
      refine e_aload_n (i := 0) rfl dX12_tells_150 ?_
      refine q_getF 12 54 214 dX12_tells_151 fl_RX12_96 rfl iz_186 (fr_186_54 hF) ?_
      refine e_iload_n (i := 2) rfl dX12_tells_154 ?_
      obtain ⟨c_155, hm⟩ := gd_s hm
      refine l_iald dX12_tells_155 iz_214 (inb_in ln_214 c_155) (by decide) ?_
      obtain ⟨c_156, hm⟩ := gd_s hm
      refine l_iast dX12_tells_156 iz_218 (inb_in ln_218 c_156) (by decide) ?_
      refine e_iload (i := 6) rfl dX12_tells_157 ?_
      refine e_iret dX12_tells_159 rfl ?_
      have hm := some_in hm
      subst hm
      exact ⟨rfl, rfl⟩
    · have hm := it_n c_109 hm
      refine e_aload_n (i := 0) rfl dX12_tells_112 ?_
      refine q_getF 12 58 218 dX12_tells_113 fl_RX12_108 rfl iz_186 (fr_186_58 hF) ?_
      refine e_sipush (v := 128) (by decide) dX12_tells_116 ?_
      refine e_iload_n (i := 2) rfl dX12_tells_119 ?_
      refine e_imul dX12_tells_120 ?_
      refine e_iload (i := 7) rfl dX12_tells_121 ?_
      refine e_iadd dX12_tells_123 ?_
      refine e_aload_n (i := 0) rfl dX12_tells_124 ?_
      refine q_getF 12 77 230 dX12_tells_125 fl_RX12_145 rfl iz_186 (fr_186_77 hF) ?_
      refine e_iload (i := 7) rfl dX12_tells_128 ?_
      obtain ⟨c_130, hm⟩ := gd_s hm
      refine l_iald dX12_tells_130 iz_230 (inb_in ln_230 c_130) (by decide) ?_
      obtain ⟨c_131, hm⟩ := gd_s hm
      refine l_iast dX12_tells_131 iz_218 (inb_in ln_218 c_131) (by decide) ?_
      refine q_iinc (i := 7) (x7 + 1) rfl ic_1 rfl dX12_tells_132 ?_
      refine e_goto 105 dX12_tells_135 (by decide) ?_
      refine e_weak [.ref 186, .int x1, .int x2, .int x3, .int x4, .int x5, .int x6, .int (x7 + 1), .null] ⟨rfl, ⟨rfl, ⟨rfl, ⟨rfl, ⟨rfl, ⟨rfl, ⟨rfl, ⟨rfl, ⟨trivial, trivial⟩⟩⟩⟩⟩⟩⟩⟩⟩ ?_
      exact ih (a_u2 I 218 ((128 * x2) + x7).toNatClampNeg (I 230 x7.toNatClampNeg)) x1 x2 x3 x4 x5 x6 (x7 + 1) hF _ hm
set_option maxRecDepth 100000 in
set_option maxHeartbeats 4000000 in
theorem tX12_tells_9 {l : Launch} {K : a_KT} {g : a_GT} {IA : iT} (hko : a_kok K) {J : jT} {F : fT} : ∀ (n : Nat) (I : iT) (x1 : Int32) (x2 : Int32) (x3 : Int32) (x4 : Int32) (x5 : Int32) (x6 : Int32) (x7 : Int32) (hF : FOK F) (q : Int32 × iT), mX12_tells_9 n I x1 x2 x3 x4 x5 x6 x7 = some q → E l K g 452 0 0 yX12_tells cX12_tells 9 (some .int) 9 [.ref 186, .int x1, .int x2, .int x3, .int x4, .int x5, .int x6, .int x7, .null] [] (hg IA I J F) (fun r2 h2 => r2 = some (.int q.1) ∧ h2 = hg IA q.2 J F) := by
  intro n
  induction n with
  | zero => intro I x1 x2 x3 x4 x5 x6 x7 hF q hm; cases hm
  | succ n ih =>
    intro I x1 x2 x3 x4 x5 x6 x7 hF q hm
    rw [mX12_tells_9] at hm
    refine e_iload (i := 7) rfl dX12_tells_9 ?_
    refine e_iconst (v := (-1)) (by decide) dX12_tells_11 ?_
    refine e_icmp_eq 102 dX12_tells_12 (by decide) (fun c_12 => ?_) (fun c_12 => ?_)
    · have hm := it_p c_12 hm
      refine e_iconst (v := 0) (by decide) dX12_tells_102 ?_
      refine q_istore (i := 7) (by decide) rfl dX12_tells_103 ?_
      refine e_weak [.ref 186, .int x1, .int x2, .int x3, .int x4, .int x5, .int x6, .int 0, .null] ⟨rfl, ⟨rfl, ⟨rfl, ⟨rfl, ⟨rfl, ⟨rfl, ⟨rfl, ⟨rfl, ⟨trivial, trivial⟩⟩⟩⟩⟩⟩⟩⟩⟩ ?_
      exact tX12_tells_105 hko LF I x1 x2 x3 x4 x5 x6 0 hF _ hm
    · have hm := it_n c_12 hm
      refine e_aload_n (i := 0) rfl dX12_tells_15 ?_
      refine q_getF 12 11 188 dX12_tells_16 fl_RX12_17 rfl iz_186 (fr_186_11 hF) ?_
      refine e_iload (i := 7) rfl dX12_tells_19 ?_
      obtain ⟨c_21, hm⟩ := gd_s hm
      refine l_iald dX12_tells_21 iz_188 (inb_in ln_188 c_21) (by decide) ?_
      refine e_bipush (v := 55) (by decide) dX12_tells_22 ?_
      refine e_icmp_ne 42 dX12_tells_24 (by decide) (fun c_24 => ?_) (fun c_24 => ?_)
      · have hm := it_n c_24 hm
        refine e_aload_n (i := 0) rfl dX12_tells_42 ?_
        refine e_iload_n (i := 1) rfl dX12_tells_43 ?_
        refine e_aload_n (i := 0) rfl dX12_tells_44 ?_
        refine q_getF 12 12 189 dX12_tells_45 fl_RX12_20 rfl iz_186 (fr_186_12 hF) ?_
        refine e_iload (i := 7) rfl dX12_tells_48 ?_
        obtain ⟨c_50, hm⟩ := gd_s hm
        refine l_iald dX12_tells_50 iz_189 (inb_in ln_189 c_50) (by decide) ?_
        obtain ⟨q1, eq1, hm⟩ := ob_some hm
        refine e_cV2 hko dX12_tells_51 ml_RX12_458 iz_186 (by decide) rfl (by omega) (Nat.le_of_ble_eq_true rfl) (tX12_value hko I J F hF x1 (I 189 x7.toNatClampNeg) _ eq1) ?_
        rintro _ _ ⟨rfl, rfl⟩
        refine e_weak [.ref 186, .int x1, .int x2, .int x3, .int x4, .int x5, .int x6, .int x7, .null] ⟨rfl, ⟨rfl, ⟨rfl, ⟨rfl, ⟨rfl, ⟨rfl, ⟨rfl, ⟨rfl, ⟨trivial, trivial⟩⟩⟩⟩⟩⟩⟩⟩⟩ ?_
        exact tX12_tells_54 hko (ih) I x1 x2 x3 x4 x5 x6 x7 q1 hF _ hm
      · have hm := it_p c_24 hm
        refine e_aload_n (i := 0) rfl dX12_tells_27 ?_
        refine e_iload_n (i := 1) rfl dX12_tells_28 ?_
        refine e_aload_n (i := 0) rfl dX12_tells_29 ?_
        refine q_getF 12 12 189 dX12_tells_30 fl_RX12_20 rfl iz_186 (fr_186_12 hF) ?_
        refine e_iload (i := 7) rfl dX12_tells_33 ?_
        obtain ⟨c_35, hm⟩ := gd_s hm
        refine l_iald dX12_tells_35 iz_189 (inb_in ln_189 c_35) (by decide) ?_
        obtain ⟨q2, eq2, hm⟩ := ob_some hm
        refine e_cV2 hko dX12_tells_36 ml_RX12_462 iz_186 (by decide) rfl (by omega) (Nat.le_of_ble_eq_true rfl) (tX12_worth hko I J F hF x1 (I 189 x7.toNatClampNeg) _ eq2) ?_
        rintro _ _ ⟨rfl, rfl⟩
        refine e_goto 54 dX12_tells_39 (by decide) ?_
        refine e_weak [.ref 186, .int x1, .int x2, .int x3, .int x4, .int x5, .int x6, .int x7, .null] ⟨rfl, ⟨rfl, ⟨rfl, ⟨rfl, ⟨rfl, ⟨rfl, ⟨rfl, ⟨rfl, ⟨trivial, trivial⟩⟩⟩⟩⟩⟩⟩⟩⟩ ?_
        exact tX12_tells_54 hko (ih) q2.2 x1 x2 x3 x4 x5 x6 x7 q2.1 hF _ hm
set_option maxRecDepth 100000 in
set_option maxHeartbeats 4000000 in
theorem tX12_tells {l : Launch} {K : a_KT} {g : a_GT} {IA : iT} (hko : a_kok K) (I : iT) (J : jT) (F : fT) (hF : FOK F) (x1 : Int32) (x2 : Int32) (x3 : Int32) (x4 : Int32) (q : Int32 × iT) (hm : mX12_tells I x1 x2 x3 x4 = some q) : C l K g 452 0 0 yX12_tells cX12_tells 9 (some .int) [.ref 186, .int x1, .int x2, .int x3, .int x4] (hg IA I J F) (fun r2 h2 => r2 = some (.int q.1) ∧ h2 = hg IA q.2 J F) := by
  unfold mX12_tells at hm
  refine c_of [.ref 186, .int x1, .int x2, .int x3, .int x4, .null, .null, .null, .null] (by decide) (Nat.le_of_ble_eq_true rfl) rfl ?_
  refine e_iconst (v := 0) (by decide) dX12_tells_0 ?_
  refine q_istore (i := 5) (by decide) rfl dX12_tells_1 ?_
  refine e_iconst (v := 0) (by decide) dX12_tells_3 ?_
  refine q_istore (i := 6) (by decide) rfl dX12_tells_4 ?_
  refine e_iload_n (i := 3) rfl dX12_tells_6 ?_
  refine q_istore (i := 7) (by decide) rfl dX12_tells_7 ?_
  refine e_weak [.ref 186, .int x1, .int x2, .int x3, .int x4, .int 0, .int 0, .int x3, .null] ⟨rfl, ⟨rfl, ⟨rfl, ⟨rfl, ⟨rfl, ⟨rfl, ⟨rfl, ⟨rfl, ⟨trivial, trivial⟩⟩⟩⟩⟩⟩⟩⟩⟩ ?_
  exact tX12_tells_9 hko LF I x1 x2 x3 x4 0 0 x3 hF _ hm
theorem dX12_makes_0 : decode cX12_makes 0 = .ok (.aload_n 0, 1) := by decide +kernel
theorem dX12_makes_1 : decode cX12_makes 1 = .ok (.getfield 427, 3) := by decide +kernel
theorem dX12_makes_4 : decode cX12_makes 4 = .ok (.istore_n 3, 1) := by decide +kernel
theorem dX12_makes_5 : decode cX12_makes 5 = .ok (.aload_n 0, 1) := by decide +kernel
theorem dX12_makes_6 : decode cX12_makes 6 = .ok (.dup, 1) := by decide +kernel
theorem dX12_makes_7 : decode cX12_makes 7 = .ok (.getfield 427, 3) := by decide +kernel
theorem dX12_makes_10 : decode cX12_makes 10 = .ok (.iconst 1, 1) := by decide +kernel
theorem dX12_makes_11 : decode cX12_makes 11 = .ok (.iadd, 1) := by decide +kernel
theorem dX12_makes_12 : decode cX12_makes 12 = .ok (.putfield 427, 3) := by decide +kernel
theorem dX12_makes_15 : decode cX12_makes 15 = .ok (.aload_n 0, 1) := by decide +kernel
theorem dX12_makes_16 : decode cX12_makes 16 = .ok (.iload_n 3, 1) := by decide +kernel
theorem dX12_makes_17 : decode cX12_makes 17 = .ok (.invokevirtual 445, 3) := by decide +kernel
theorem dX12_makes_20 : decode cX12_makes 20 = .ok (.aload_n 0, 1) := by decide +kernel
theorem dX12_makes_21 : decode cX12_makes 21 = .ok (.getfield 96, 3) := by decide +kernel
theorem dX12_makes_24 : decode cX12_makes 24 = .ok (.iload_n 3, 1) := by decide +kernel
theorem dX12_makes_25 : decode cX12_makes 25 = .ok (.aload_n 0, 1) := by decide +kernel
theorem dX12_makes_26 : decode cX12_makes 26 = .ok (.invokevirtual 442, 3) := by decide +kernel
theorem dX12_makes_29 : decode cX12_makes 29 = .ok (.iastore, 1) := by decide +kernel
theorem dX12_makes_30 : decode cX12_makes 30 = .ok (.aload_n 0, 1) := by decide +kernel
theorem dX12_makes_31 : decode cX12_makes 31 = .ok (.iload_n 1, 1) := by decide +kernel
theorem dX12_makes_32 : decode cX12_makes 32 = .ok (.iload_n 3, 1) := by decide +kernel
theorem dX12_makes_33 : decode cX12_makes 33 = .ok (.aload_n 0, 1) := by decide +kernel
theorem dX12_makes_34 : decode cX12_makes 34 = .ok (.getfield 23, 3) := by decide +kernel
theorem dX12_makes_37 : decode cX12_makes 37 = .ok (.iload_n 2, 1) := by decide +kernel
theorem dX12_makes_38 : decode cX12_makes 38 = .ok (.iaload, 1) := by decide +kernel
theorem dX12_makes_39 : decode cX12_makes 39 = .ok (.aload_n 0, 1) := by decide +kernel
theorem dX12_makes_40 : decode cX12_makes 40 = .ok (.getfield 29, 3) := by decide +kernel
theorem dX12_makes_43 : decode cX12_makes 43 = .ok (.iload_n 2, 1) := by decide +kernel
theorem dX12_makes_44 : decode cX12_makes 44 = .ok (.laload, 1) := by decide +kernel
theorem dX12_makes_45 : decode cX12_makes 45 = .ok (.l2i, 1) := by decide +kernel
theorem dX12_makes_46 : decode cX12_makes 46 = .ok (.invokevirtual 507, 3) := by decide +kernel
theorem dX12_makes_49 : decode cX12_makes 49 = .ok (.istore 4, 2) := by decide +kernel
theorem dX12_makes_51 : decode cX12_makes 51 = .ok (.aload_n 0, 1) := by decide +kernel
theorem dX12_makes_52 : decode cX12_makes 52 = .ok (.getfield 105, 3) := by decide +kernel
theorem dX12_makes_55 : decode cX12_makes 55 = .ok (.iload_n 3, 1) := by decide +kernel
theorem dX12_makes_56 : decode cX12_makes 56 = .ok (.iload 4, 2) := by decide +kernel
theorem dX12_makes_58 : decode cX12_makes 58 = .ok (.iastore, 1) := by decide +kernel
theorem dX12_makes_59 : decode cX12_makes 59 = .ok (.aload_n 0, 1) := by decide +kernel
theorem dX12_makes_60 : decode cX12_makes 60 = .ok (.getfield 105, 3) := by decide +kernel
theorem dX12_makes_63 : decode cX12_makes 63 = .ok (.iload_n 1, 1) := by decide +kernel
theorem dX12_makes_64 : decode cX12_makes 64 = .ok (.dup2, 1) := by decide +kernel
theorem dX12_makes_65 : decode cX12_makes 65 = .ok (.iaload, 1) := by decide +kernel
theorem dX12_makes_66 : decode cX12_makes 66 = .ok (.iconst 1, 1) := by decide +kernel
theorem dX12_makes_67 : decode cX12_makes 67 = .ok (.iload 4, 2) := by decide +kernel
theorem dX12_makes_69 : decode cX12_makes 69 = .ok (.isub, 1) := by decide +kernel
theorem dX12_makes_70 : decode cX12_makes 70 = .ok (.iadd, 1) := by decide +kernel
theorem dX12_makes_71 : decode cX12_makes 71 = .ok (.iastore, 1) := by decide +kernel
theorem dX12_makes_72 : decode cX12_makes 72 = .ok (.aload_n 0, 1) := by decide +kernel
theorem dX12_makes_73 : decode cX12_makes 73 = .ok (.getfield 108, 3) := by decide +kernel
theorem dX12_makes_76 : decode cX12_makes 76 = .ok (.sipush 128, 3) := by decide +kernel
theorem dX12_makes_79 : decode cX12_makes 79 = .ok (.iload_n 1, 1) := by decide +kernel
theorem dX12_makes_80 : decode cX12_makes 80 = .ok (.imul, 1) := by decide +kernel
theorem dX12_makes_81 : decode cX12_makes 81 = .ok (.aload_n 0, 1) := by decide +kernel
theorem dX12_makes_82 : decode cX12_makes 82 = .ok (.getfield 20, 3) := by decide +kernel
theorem dX12_makes_85 : decode cX12_makes 85 = .ok (.iload_n 2, 1) := by decide +kernel
theorem dX12_makes_86 : decode cX12_makes 86 = .ok (.iaload, 1) := by decide +kernel
theorem dX12_makes_87 : decode cX12_makes 87 = .ok (.iadd, 1) := by decide +kernel
theorem dX12_makes_88 : decode cX12_makes 88 = .ok (.aload_n 0, 1) := by decide +kernel
theorem dX12_makes_89 : decode cX12_makes 89 = .ok (.getfield 96, 3) := by decide +kernel
theorem dX12_makes_92 : decode cX12_makes 92 = .ok (.iload_n 3, 1) := by decide +kernel
theorem dX12_makes_93 : decode cX12_makes 93 = .ok (.iaload, 1) := by decide +kernel
theorem dX12_makes_94 : decode cX12_makes 94 = .ok (.iastore, 1) := by decide +kernel
theorem dX12_makes_95 : decode cX12_makes 95 = .ok (.aload_n 0, 1) := by decide +kernel
theorem dX12_makes_96 : decode cX12_makes 96 = .ok (.iload_n 3, 1) := by decide +kernel
theorem dX12_makes_97 : decode cX12_makes 97 = .ok (.aload_n 0, 1) := by decide +kernel
theorem dX12_makes_98 : decode cX12_makes 98 = .ok (.getfield 29, 3) := by decide +kernel
theorem dX12_makes_101 : decode cX12_makes 101 = .ok (.iload_n 2, 1) := by decide +kernel
theorem dX12_makes_102 : decode cX12_makes 102 = .ok (.laload, 1) := by decide +kernel
theorem dX12_makes_103 : decode cX12_makes 103 = .ok (.l2i, 1) := by decide +kernel
theorem dX12_makes_104 : decode cX12_makes 104 = .ok (.invokevirtual 448, 3) := by decide +kernel
theorem dX12_makes_107 : decode cX12_makes 107 = .ok (.aload_n 0, 1) := by decide +kernel
theorem dX12_makes_108 : decode cX12_makes 108 = .ok (.iload_n 3, 1) := by decide +kernel
theorem dX12_makes_109 : decode cX12_makes 109 = .ok (.invokevirtual 452, 3) := by decide +kernel
theorem dX12_makes_112 : decode cX12_makes 112 = .ok (.return_, 1) := by decide +kernel
def mX12_makes (I : iT) (J : jT) (x1 : Int32) (x2 : Int32) : Option (iT) := (mX12_fresh0 (a_u2 I 186 60 ((I 186 60) + 1)) (I 186 60)).bind fun q1 => (mX12_newChannel q1).bind fun q2 => if inb (I 186 60) 80 then if inb x2 2800 then if inb x2 2800 then (mX12_tells (a_u2 q2.2 214 (I 186 60).toNatClampNeg q2.1) x1 (I 186 60) ((a_u2 q2.2 214 (I 186 60).toNatClampNeg q2.1) 190 x2.toNatClampNeg) ((J 192 x2.toNatClampNeg).toInt32)).bind fun q3 => if inb (I 186 60) 80 then if inb x1 80 then if inb x1 80 then if inb x2 2800 then if inb (I 186 60) 80 then if inb ((128 * x1) + ((a_u2 (a_u2 q3.2 217 (I 186 60).toNatClampNeg q3.1) 217 x1.toNatClampNeg (((a_u2 q3.2 217 (I 186 60).toNatClampNeg q3.1) 217 x1.toNatClampNeg) + (1 - q3.1))) 189 x2.toNatClampNeg)) 10240 then if inb x2 2800 then (mX12_enters (a_u2 (a_u2 (a_u2 q3.2 217 (I 186 60).toNatClampNeg q3.1) 217 x1.toNatClampNeg (((a_u2 q3.2 217 (I 186 60).toNatClampNeg q3.1) 217 x1.toNatClampNeg) + (1 - q3.1))) 218 ((128 * x1) + ((a_u2 (a_u2 q3.2 217 (I 186 60).toNatClampNeg q3.1) 217 x1.toNatClampNeg (((a_u2 q3.2 217 (I 186 60).toNatClampNeg q3.1) 217 x1.toNatClampNeg) + (1 - q3.1))) 189 x2.toNatClampNeg)).toNatClampNeg ((a_u2 (a_u2 q3.2 217 (I 186 60).toNatClampNeg q3.1) 217 x1.toNatClampNeg (((a_u2 q3.2 217 (I 186 60).toNatClampNeg q3.1) 217 x1.toNatClampNeg) + (1 - q3.1))) 214 (I 186 60).toNatClampNeg)) (I 186 60) ((J 192 x2.toNatClampNeg).toInt32)).bind fun q4 => (mX12_settles q4 J (I 186 60)).bind fun q5 => some q5 else none else none else none else none else none else none else none else none else none else none
set_option maxRecDepth 100000 in
set_option maxHeartbeats 4000000 in
theorem tX12_makes {l : Launch} {K : a_KT} {g : a_GT} {IA : iT} (hko : a_kok K) (I : iT) (J : jT) (F : fT) (hF : FOK F) (x1 : Int32) (x2 : Int32) (q : iT) (hm : mX12_makes I J x1 x2 = some q) : C l K g 453 0 0 yX12_makes cX12_makes 5 none [.ref 186, .int x1, .int x2] (hg IA I J F) (fun r2 h2 => r2 = none ∧ h2 = hg IA q J F) := by
  unfold mX12_makes at hm
  refine c_of [.ref 186, .int x1, .int x2, .null, .null] (by decide) (Nat.le_of_ble_eq_true rfl) rfl ?_
  refine e_aload_n (i := 0) rfl dX12_makes_0 ?_
  refine l_getI 12 60 dX12_makes_1 fl_RX12_427 rfl iz_186 (by decide) ?_
  refine q_istore_n (i := 3) (by decide) rfl dX12_makes_4 ?_
  refine e_aload_n (i := 0) rfl dX12_makes_5 ?_
  refine e_dup rfl dX12_makes_6 ?_
  refine l_getI 12 60 dX12_makes_7 fl_RX12_427 rfl iz_186 (by decide) ?_
  refine e_iconst (v := 1) (by decide) dX12_makes_10 ?_
  refine e_iadd dX12_makes_11 ?_
  refine l_putI 12 60 dX12_makes_12 fl_RX12_427 rfl rfl iz_186 (by decide) ?_
  refine e_aload_n (i := 0) rfl dX12_makes_15 ?_
  refine e_iload_n (i := 3) rfl dX12_makes_16 ?_
  obtain ⟨q1, eq1, hm⟩ := ob_some hm
  refine e_cV1 hko dX12_makes_17 ml_RX12_445 iz_186 (by decide) rfl (by omega) (Nat.le_of_ble_eq_true rfl) (tX12_fresh0 hko (a_u2 I 186 60 ((I 186 60) + 1)) J F hF (I 186 60) _ eq1) ?_
  rintro _ _ ⟨rfl, rfl⟩
  refine e_aload_n (i := 0) rfl dX12_makes_20 ?_
  refine q_getF 12 54 214 dX12_makes_21 fl_RX12_96 rfl iz_186 (fr_186_54 hF) ?_
  refine e_iload_n (i := 3) rfl dX12_makes_24 ?_
  refine e_aload_n (i := 0) rfl dX12_makes_25 ?_
  obtain ⟨q2, eq2, hm⟩ := ob_some hm
  refine e_cV0 hko dX12_makes_26 ml_RX12_442 iz_186 (by decide) rfl (by omega) (Nat.le_of_ble_eq_true rfl) (tX12_newChannel hko q1 J F hF _ eq2) ?_
  rintro _ _ ⟨rfl, rfl⟩
  obtain ⟨c_29, hm⟩ := gd_s hm
  refine l_iast dX12_makes_29 iz_214 (inb_in ln_214 c_29) (by decide) ?_
  refine e_aload_n (i := 0) rfl dX12_makes_30 ?_
  refine e_iload_n (i := 1) rfl dX12_makes_31 ?_
  refine e_iload_n (i := 3) rfl dX12_makes_32 ?_
  refine e_aload_n (i := 0) rfl dX12_makes_33 ?_
  refine q_getF 12 13 190 dX12_makes_34 fl_RX12_23 rfl iz_186 (fr_186_13 hF) ?_
  refine e_iload_n (i := 2) rfl dX12_makes_37 ?_
  obtain ⟨c_38, hm⟩ := gd_s hm
  refine l_iald dX12_makes_38 iz_190 (inb_in ln_190 c_38) (by decide) ?_
  refine e_aload_n (i := 0) rfl dX12_makes_39 ?_
  refine q_getF 12 15 192 dX12_makes_40 fl_RX12_29 rfl iz_186 (fr_186_15 hF) ?_
  refine e_iload_n (i := 2) rfl dX12_makes_43 ?_
  obtain ⟨c_44, hm⟩ := gd_s hm
  refine q_lald dX12_makes_44 iz_192 (inb_in ln_192 c_44) ?_
  refine e_l2i dX12_makes_45 ?_
  obtain ⟨q3, eq3, hm⟩ := ob_some hm
  refine e_cV4 hko dX12_makes_46 ml_RX12_507 iz_186 (by decide) rfl (by omega) (Nat.le_of_ble_eq_true rfl) (tX12_tells hko (a_u2 q2.2 214 (I 186 60).toNatClampNeg q2.1) J F hF x1 (I 186 60) ((a_u2 q2.2 214 (I 186 60).toNatClampNeg q2.1) 190 x2.toNatClampNeg) ((J 192 x2.toNatClampNeg).toInt32) _ eq3) ?_
  rintro _ _ ⟨rfl, rfl⟩
  refine q_istore (i := 4) (by decide) rfl dX12_makes_49 ?_
  refine e_aload_n (i := 0) rfl dX12_makes_51 ?_
  refine q_getF 12 57 217 dX12_makes_52 fl_RX12_105 rfl iz_186 (fr_186_57 hF) ?_
  refine e_iload_n (i := 3) rfl dX12_makes_55 ?_
  refine e_iload (i := 4) rfl dX12_makes_56 ?_
  obtain ⟨c_58, hm⟩ := gd_s hm
  refine l_iast dX12_makes_58 iz_217 (inb_in ln_217 c_58) (by decide) ?_
  refine e_aload_n (i := 0) rfl dX12_makes_59 ?_
  refine q_getF 12 57 217 dX12_makes_60 fl_RX12_105 rfl iz_186 (fr_186_57 hF) ?_
  refine e_iload_n (i := 1) rfl dX12_makes_63 ?_
  refine e_dup2 rfl rfl dX12_makes_64 ?_
  obtain ⟨c_65, hm⟩ := gd_s hm
  refine l_iald dX12_makes_65 iz_217 (inb_in ln_217 c_65) (by decide) ?_
  refine e_iconst (v := 1) (by decide) dX12_makes_66 ?_
  refine e_iload (i := 4) rfl dX12_makes_67 ?_
  refine e_isub dX12_makes_69 ?_
  refine e_iadd dX12_makes_70 ?_
  obtain ⟨c_71, hm⟩ := gd_s hm
  refine l_iast dX12_makes_71 iz_217 (inb_in ln_217 c_71) (by decide) ?_
  refine e_aload_n (i := 0) rfl dX12_makes_72 ?_
  refine q_getF 12 58 218 dX12_makes_73 fl_RX12_108 rfl iz_186 (fr_186_58 hF) ?_
  refine e_sipush (v := 128) (by decide) dX12_makes_76 ?_
  refine e_iload_n (i := 1) rfl dX12_makes_79 ?_
  refine e_imul dX12_makes_80 ?_
  refine e_aload_n (i := 0) rfl dX12_makes_81 ?_
  refine q_getF 12 12 189 dX12_makes_82 fl_RX12_20 rfl iz_186 (fr_186_12 hF) ?_
  refine e_iload_n (i := 2) rfl dX12_makes_85 ?_
  obtain ⟨c_86, hm⟩ := gd_s hm
  refine l_iald dX12_makes_86 iz_189 (inb_in ln_189 c_86) (by decide) ?_
  refine e_iadd dX12_makes_87 ?_
  refine e_aload_n (i := 0) rfl dX12_makes_88 ?_
  refine q_getF 12 54 214 dX12_makes_89 fl_RX12_96 rfl iz_186 (fr_186_54 hF) ?_
  refine e_iload_n (i := 3) rfl dX12_makes_92 ?_
  obtain ⟨c_93, hm⟩ := gd_s hm
  refine l_iald dX12_makes_93 iz_214 (inb_in ln_214 c_93) (by decide) ?_
  obtain ⟨c_94, hm⟩ := gd_s hm
  refine l_iast dX12_makes_94 iz_218 (inb_in ln_218 c_94) (by decide) ?_
  refine e_aload_n (i := 0) rfl dX12_makes_95 ?_
  refine e_iload_n (i := 3) rfl dX12_makes_96 ?_
  refine e_aload_n (i := 0) rfl dX12_makes_97 ?_
  refine q_getF 12 15 192 dX12_makes_98 fl_RX12_29 rfl iz_186 (fr_186_15 hF) ?_
  refine e_iload_n (i := 2) rfl dX12_makes_101 ?_
  obtain ⟨c_102, hm⟩ := gd_s hm
  refine q_lald dX12_makes_102 iz_192 (inb_in ln_192 c_102) ?_
  refine e_l2i dX12_makes_103 ?_
  obtain ⟨q4, eq4, hm⟩ := ob_some hm
  refine e_cV2 hko dX12_makes_104 ml_RX12_448 iz_186 (by decide) rfl (by omega) (Nat.le_of_ble_eq_true rfl) (tX12_enters hko (a_u2 (a_u2 (a_u2 q3.2 217 (I 186 60).toNatClampNeg q3.1) 217 x1.toNatClampNeg (((a_u2 q3.2 217 (I 186 60).toNatClampNeg q3.1) 217 x1.toNatClampNeg) + (1 - q3.1))) 218 ((128 * x1) + ((a_u2 (a_u2 q3.2 217 (I 186 60).toNatClampNeg q3.1) 217 x1.toNatClampNeg (((a_u2 q3.2 217 (I 186 60).toNatClampNeg q3.1) 217 x1.toNatClampNeg) + (1 - q3.1))) 189 x2.toNatClampNeg)).toNatClampNeg ((a_u2 (a_u2 q3.2 217 (I 186 60).toNatClampNeg q3.1) 217 x1.toNatClampNeg (((a_u2 q3.2 217 (I 186 60).toNatClampNeg q3.1) 217 x1.toNatClampNeg) + (1 - q3.1))) 214 (I 186 60).toNatClampNeg)) J F hF (I 186 60) ((J 192 x2.toNatClampNeg).toInt32) _ eq4) ?_
  rintro _ _ ⟨rfl, rfl⟩
  refine e_aload_n (i := 0) rfl dX12_makes_107 ?_
  refine e_iload_n (i := 3) rfl dX12_makes_108 ?_
  obtain ⟨q5, eq5, hm⟩ := ob_some hm
  refine e_cV1 hko dX12_makes_109 ml_RX12_452 iz_186 (by decide) rfl (by omega) (Nat.le_of_ble_eq_true rfl) (tX12_settles hko q4 J F hF (I 186 60) _ eq5) ?_
  rintro _ _ ⟨rfl, rfl⟩
  refine e_vret dX12_makes_112 rfl ?_
  have hm := some_in hm
  subst hm
  exact ⟨rfl, rfl⟩
theorem dX12_isGiven_0 : decode cX12_isGiven 0 = .ok (.iload_n 2, 1) := by decide +kernel
theorem dX12_isGiven_1 : decode cX12_isGiven 1 = .ok (.aload_n 0, 1) := by decide +kernel
theorem dX12_isGiven_2 : decode cX12_isGiven 2 = .ok (.getfield 48, 3) := by decide +kernel
theorem dX12_isGiven_5 : decode cX12_isGiven 5 = .ok (.aload_n 0, 1) := by decide +kernel
theorem dX12_isGiven_6 : decode cX12_isGiven 6 = .ok (.aload_n 0, 1) := by decide +kernel
theorem dX12_isGiven_7 : decode cX12_isGiven 7 = .ok (.getfield 90, 3) := by decide +kernel
theorem dX12_isGiven_10 : decode cX12_isGiven 10 = .ok (.iload_n 1, 1) := by decide +kernel
theorem dX12_isGiven_11 : decode cX12_isGiven 11 = .ok (.iaload, 1) := by decide +kernel
theorem dX12_isGiven_12 : decode cX12_isGiven 12 = .ok (.invokevirtual 424, 3) := by decide +kernel
theorem dX12_isGiven_15 : decode cX12_isGiven 15 = .ok (.iaload, 1) := by decide +kernel
theorem dX12_isGiven_16 : decode cX12_isGiven 16 = .ok (.if_icmp .ne 7, 3) := by decide +kernel
theorem dX12_isGiven_19 : decode cX12_isGiven 19 = .ok (.iconst 1, 1) := by decide +kernel
theorem dX12_isGiven_20 : decode cX12_isGiven 20 = .ok (.goto 4, 3) := by decide +kernel
theorem dX12_isGiven_23 : decode cX12_isGiven 23 = .ok (.iconst 0, 1) := by decide +kernel
theorem dX12_isGiven_24 : decode cX12_isGiven 24 = .ok (.ireturn, 1) := by decide +kernel
def mX12_isGiven (I : iT) (x1 : Int32) (x2 : Int32) : Option (Int32) := if inb x1 80 then (mX12_def0 I (I 212 x1.toNatClampNeg)).bind fun q1 => if inb q1 24 then if x2 = (I 198 q1.toNatClampNeg) then some 1 else some 0 else none else none
set_option maxRecDepth 100000 in
set_option maxHeartbeats 4000000 in
theorem tX12_isGiven {l : Launch} {K : a_KT} {g : a_GT} {IA : iT} (hko : a_kok K) (I : iT) (J : jT) (F : fT) (hF : FOK F) (x1 : Int32) (x2 : Int32) (q : Int32) (hm : mX12_isGiven I x1 x2 = some q) : C l K g 1 0 0 yX12_isGiven cX12_isGiven 3 (some .boolean) [.ref 186, .int x1, .int x2] (hg IA I J F) (fun r2 h2 => r2 = some (.int q) ∧ h2 = hg IA I J F) := by
  unfold mX12_isGiven at hm
  refine c_of [.ref 186, .int x1, .int x2] (by decide) (Nat.le_of_ble_eq_true rfl) rfl ?_
  refine e_iload_n (i := 2) rfl dX12_isGiven_0 ?_
  refine e_aload_n (i := 0) rfl dX12_isGiven_1 ?_
  refine q_getF 12 23 198 dX12_isGiven_2 fl_RX12_48 rfl iz_186 (fr_186_23 hF) ?_
  refine e_aload_n (i := 0) rfl dX12_isGiven_5 ?_
  refine e_aload_n (i := 0) rfl dX12_isGiven_6 ?_
  refine q_getF 12 52 212 dX12_isGiven_7 fl_RX12_90 rfl iz_186 (fr_186_52 hF) ?_
  refine e_iload_n (i := 1) rfl dX12_isGiven_10 ?_
  obtain ⟨c_11, hm⟩ := gd_s hm
  refine l_iald dX12_isGiven_11 iz_212 (inb_in ln_212 c_11) (by decide) ?_
  obtain ⟨q1, eq1, hm⟩ := ob_some hm
  refine e_cV1 hko dX12_isGiven_12 ml_RX12_424 iz_186 (by decide) rfl (by omega) (Nat.le_of_ble_eq_true rfl) (tX12_def0 hko I J F hF (I 212 x1.toNatClampNeg) _ eq1) ?_
  rintro _ _ ⟨rfl, rfl⟩
  obtain ⟨c_15, hm⟩ := gd_s hm
  refine l_iald dX12_isGiven_15 iz_198 (inb_in ln_198 c_15) (by decide) ?_
  refine e_icmp_ne 23 dX12_isGiven_16 (by decide) (fun c_16 => ?_) (fun c_16 => ?_)
  · have hm := it_n c_16 hm
    refine e_iconst (v := 0) (by decide) dX12_isGiven_23 ?_
    refine e_zret dX12_isGiven_24 rfl rfl ?_
    have hm := some_in hm
    subst hm
    exact ⟨rfl, rfl⟩
  · have hm := it_p c_16 hm
    refine e_iconst (v := 1) (by decide) dX12_isGiven_19 ?_
    refine e_goto 24 dX12_isGiven_20 (by decide) ?_
    refine e_zret dX12_isGiven_24 rfl rfl ?_
    have hm := some_in hm
    subst hm
    exact ⟨rfl, rfl⟩
theorem dX12_reads_0 : decode cX12_reads 0 = .ok (.iconst 2, 1) := by decide +kernel
theorem dX12_reads_1 : decode cX12_reads 1 = .ok (.aload_n 0, 1) := by decide +kernel
theorem dX12_reads_2 : decode cX12_reads 2 = .ok (.aload_n 0, 1) := by decide +kernel
theorem dX12_reads_3 : decode cX12_reads 3 = .ok (.iload_n 1, 1) := by decide +kernel
theorem dX12_reads_4 : decode cX12_reads 4 = .ok (.iload_n 2, 1) := by decide +kernel
theorem dX12_reads_5 : decode cX12_reads 5 = .ok (.invokevirtual 458, 3) := by decide +kernel
theorem dX12_reads_8 : decode cX12_reads 8 = .ok (.invokevirtual 469, 3) := by decide +kernel
theorem dX12_reads_11 : decode cX12_reads 11 = .ok (.imul, 1) := by decide +kernel
theorem dX12_reads_12 : decode cX12_reads 12 = .ok (.aload_n 0, 1) := by decide +kernel
theorem dX12_reads_13 : decode cX12_reads 13 = .ok (.iload_n 1, 1) := by decide +kernel
theorem dX12_reads_14 : decode cX12_reads 14 = .ok (.iload_n 2, 1) := by decide +kernel
theorem dX12_reads_15 : decode cX12_reads 15 = .ok (.invokevirtual 472, 3) := by decide +kernel
theorem dX12_reads_18 : decode cX12_reads 18 = .ok (.ifCond .eq 7, 3) := by decide +kernel
theorem dX12_reads_21 : decode cX12_reads 21 = .ok (.iconst 1, 1) := by decide +kernel
theorem dX12_reads_22 : decode cX12_reads 22 = .ok (.goto 4, 3) := by decide +kernel
theorem dX12_reads_25 : decode cX12_reads 25 = .ok (.iconst 0, 1) := by decide +kernel
theorem dX12_reads_26 : decode cX12_reads 26 = .ok (.iadd, 1) := by decide +kernel
theorem dX12_reads_27 : decode cX12_reads 27 = .ok (.ireturn, 1) := by decide +kernel
def mX12_reads_26 (I : iT) (x1 : Int32) (x2 : Int32) (s0 : Int32) (s1 : Int32) : Option (Int32) := some (s1 + s0)
def mX12_reads (I : iT) (x1 : Int32) (x2 : Int32) : Option (Int32) := (mX12_value I x1 x2).bind fun q1 => (mX12_real I q1).bind fun q2 => (mX12_isGiven I x1 x2).bind fun q3 => if q3 = 0 then mX12_reads_26 I x1 x2 0 (2 * q2) else mX12_reads_26 I x1 x2 1 (2 * q2)
set_option maxRecDepth 100000 in
set_option maxHeartbeats 4000000 in
theorem tX12_reads_26 {l : Launch} {K : a_KT} {g : a_GT} {IA : iT} (hko : a_kok K) {J : jT} {F : fT} (I : iT) (x1 : Int32) (x2 : Int32) (s0 : Int32) (s1 : Int32) (hF : FOK F) (q : Int32) (hm : mX12_reads_26 I x1 x2 s0 s1 = some q) : E l K g 2 0 0 yX12_reads cX12_reads 3 (some .int) 26 [.ref 186, .int x1, .int x2] [.int s0, .int s1] (hg IA I J F) (fun r2 h2 => r2 = some (.int q) ∧ h2 = hg IA I J F) := by
  unfold mX12_reads_26 at hm
  refine e_iadd dX12_reads_26 ?_
  refine e_iret dX12_reads_27 rfl ?_
  have hm := some_in hm
  subst hm
  exact ⟨rfl, rfl⟩
set_option maxRecDepth 100000 in
set_option maxHeartbeats 4000000 in
theorem tX12_reads {l : Launch} {K : a_KT} {g : a_GT} {IA : iT} (hko : a_kok K) (I : iT) (J : jT) (F : fT) (hF : FOK F) (x1 : Int32) (x2 : Int32) (q : Int32) (hm : mX12_reads I x1 x2 = some q) : C l K g 2 0 0 yX12_reads cX12_reads 3 (some .int) [.ref 186, .int x1, .int x2] (hg IA I J F) (fun r2 h2 => r2 = some (.int q) ∧ h2 = hg IA I J F) := by
  unfold mX12_reads at hm
  refine c_of [.ref 186, .int x1, .int x2] (by decide) (Nat.le_of_ble_eq_true rfl) rfl ?_
  refine e_iconst (v := 2) (by decide) dX12_reads_0 ?_
  refine e_aload_n (i := 0) rfl dX12_reads_1 ?_
  refine e_aload_n (i := 0) rfl dX12_reads_2 ?_
  refine e_iload_n (i := 1) rfl dX12_reads_3 ?_
  refine e_iload_n (i := 2) rfl dX12_reads_4 ?_
  obtain ⟨q1, eq1, hm⟩ := ob_some hm
  refine e_cV2 hko dX12_reads_5 ml_RX12_458 iz_186 (by decide) rfl (by omega) (Nat.le_of_ble_eq_true rfl) (tX12_value hko I J F hF x1 x2 _ eq1) ?_
  rintro _ _ ⟨rfl, rfl⟩
  obtain ⟨q2, eq2, hm⟩ := ob_some hm
  refine e_cV1 hko dX12_reads_8 ml_RX12_469 iz_186 (by decide) rfl (by omega) (Nat.le_of_ble_eq_true rfl) (tX12_real hko I J F hF q1 _ eq2) ?_
  rintro _ _ ⟨rfl, rfl⟩
  refine e_imul dX12_reads_11 ?_
  refine e_aload_n (i := 0) rfl dX12_reads_12 ?_
  refine e_iload_n (i := 1) rfl dX12_reads_13 ?_
  refine e_iload_n (i := 2) rfl dX12_reads_14 ?_
  obtain ⟨q3, eq3, hm⟩ := ob_some hm
  refine e_cV2 hko dX12_reads_15 ml_RX12_472 iz_186 (by decide) rfl (by omega) (Nat.le_of_ble_eq_true rfl) (tX12_isGiven hko I J F hF x1 x2 _ eq3) ?_
  rintro _ _ ⟨rfl, rfl⟩
  refine e_if_eq 25 dX12_reads_18 (by decide) (fun c_18 => ?_) (fun c_18 => ?_)
  · have hm := it_p c_18 hm
    refine e_iconst (v := 0) (by decide) dX12_reads_25 ?_
    refine e_weak [.ref 186, .int x1, .int x2] ⟨rfl, ⟨rfl, ⟨rfl, trivial⟩⟩⟩ ?_
    exact tX12_reads_26 hko I x1 x2 0 (2 * q2) hF _ hm
  · have hm := it_n c_18 hm
    refine e_iconst (v := 1) (by decide) dX12_reads_21 ?_
    refine e_goto 26 dX12_reads_22 (by decide) ?_
    refine e_weak [.ref 186, .int x1, .int x2] ⟨rfl, ⟨rfl, ⟨rfl, trivial⟩⟩⟩ ?_
    exact tX12_reads_26 hko I x1 x2 1 (2 * q2) hF _ hm
theorem dX12_says_0 : decode cX12_says 0 = .ok (.aload_n 0, 1) := by decide +kernel
theorem dX12_says_1 : decode cX12_says 1 = .ok (.getfield 433, 3) := by decide +kernel
theorem dX12_says_4 : decode cX12_says 4 = .ok (.sipush 200, 3) := by decide +kernel
theorem dX12_says_7 : decode cX12_says 7 = .ok (.if_icmp .ge 23, 3) := by decide +kernel
theorem dX12_says_10 : decode cX12_says 10 = .ok (.aload_n 0, 1) := by decide +kernel
theorem dX12_says_11 : decode cX12_says 11 = .ok (.getfield 136, 3) := by decide +kernel
theorem dX12_says_14 : decode cX12_says 14 = .ok (.aload_n 0, 1) := by decide +kernel
theorem dX12_says_15 : decode cX12_says 15 = .ok (.getfield 433, 3) := by decide +kernel
theorem dX12_says_18 : decode cX12_says 18 = .ok (.iload_n 2, 1) := by decide +kernel
theorem dX12_says_19 : decode cX12_says 19 = .ok (.iastore, 1) := by decide +kernel
theorem dX12_says_20 : decode cX12_says 20 = .ok (.aload_n 0, 1) := by decide +kernel
theorem dX12_says_21 : decode cX12_says 21 = .ok (.getfield 139, 3) := by decide +kernel
theorem dX12_says_24 : decode cX12_says 24 = .ok (.aload_n 0, 1) := by decide +kernel
theorem dX12_says_25 : decode cX12_says 25 = .ok (.getfield 433, 3) := by decide +kernel
theorem dX12_says_28 : decode cX12_says 28 = .ok (.iload_n 1, 1) := by decide +kernel
theorem dX12_says_29 : decode cX12_says 29 = .ok (.iastore, 1) := by decide +kernel
theorem dX12_says_30 : decode cX12_says 30 = .ok (.aload_n 0, 1) := by decide +kernel
theorem dX12_says_31 : decode cX12_says 31 = .ok (.dup, 1) := by decide +kernel
theorem dX12_says_32 : decode cX12_says 32 = .ok (.getfield 433, 3) := by decide +kernel
theorem dX12_says_35 : decode cX12_says 35 = .ok (.iconst 1, 1) := by decide +kernel
theorem dX12_says_36 : decode cX12_says 36 = .ok (.iadd, 1) := by decide +kernel
theorem dX12_says_37 : decode cX12_says 37 = .ok (.putfield 433, 3) := by decide +kernel
theorem dX12_says_40 : decode cX12_says 40 = .ok (.aload_n 0, 1) := by decide +kernel
theorem dX12_says_41 : decode cX12_says 41 = .ok (.getfield 102, 3) := by decide +kernel
theorem dX12_says_44 : decode cX12_says 44 = .ok (.iload_n 1, 1) := by decide +kernel
theorem dX12_says_45 : decode cX12_says 45 = .ok (.dup2, 1) := by decide +kernel
theorem dX12_says_46 : decode cX12_says 46 = .ok (.iaload, 1) := by decide +kernel
theorem dX12_says_47 : decode cX12_says 47 = .ok (.iconst 1, 1) := by decide +kernel
theorem dX12_says_48 : decode cX12_says 48 = .ok (.iadd, 1) := by decide +kernel
theorem dX12_says_49 : decode cX12_says 49 = .ok (.iastore, 1) := by decide +kernel
theorem dX12_says_50 : decode cX12_says 50 = .ok (.return_, 1) := by decide +kernel
def mX12_says_30 (I : iT) (x1 : Int32) (x2 : Int32) : Option (iT) := if inb x1 80 then if inb x1 80 then some (a_u2 (a_u2 I 186 63 ((I 186 63) + 1)) 216 x1.toNatClampNeg (((a_u2 I 186 63 ((I 186 63) + 1)) 216 x1.toNatClampNeg) + 1)) else none else none
def mX12_says (I : iT) (x1 : Int32) (x2 : Int32) : Option (iT) := if 200 ≤ (I 186 63) then mX12_says_30 I x1 x2 else if inb (I 186 63) 200 then if inb ((a_u2 I 227 (I 186 63).toNatClampNeg x2) 186 63) 200 then mX12_says_30 (a_u2 (a_u2 I 227 (I 186 63).toNatClampNeg x2) 228 ((a_u2 I 227 (I 186 63).toNatClampNeg x2) 186 63).toNatClampNeg x1) x1 x2 else none else none
set_option maxRecDepth 100000 in
set_option maxHeartbeats 4000000 in
theorem tX12_says_30 {l : Launch} {K : a_KT} {g : a_GT} {IA : iT} (hko : a_kok K) {J : jT} {F : fT} (I : iT) (x1 : Int32) (x2 : Int32) (hF : FOK F) (q : iT) (hm : mX12_says_30 I x1 x2 = some q) : E l K g 0 0 0 yX12_says cX12_says 3 none 30 [.ref 186, .int x1, .int x2] [] (hg IA I J F) (fun r2 h2 => r2 = none ∧ h2 = hg IA q J F) := by
  unfold mX12_says_30 at hm
  refine e_aload_n (i := 0) rfl dX12_says_30 ?_
  refine e_dup rfl dX12_says_31 ?_
  refine l_getI 12 63 dX12_says_32 fl_RX12_433 rfl iz_186 (by decide) ?_
  refine e_iconst (v := 1) (by decide) dX12_says_35 ?_
  refine e_iadd dX12_says_36 ?_
  refine l_putI 12 63 dX12_says_37 fl_RX12_433 rfl rfl iz_186 (by decide) ?_
  refine e_aload_n (i := 0) rfl dX12_says_40 ?_
  refine q_getF 12 56 216 dX12_says_41 fl_RX12_102 rfl iz_186 (fr_186_56 hF) ?_
  refine e_iload_n (i := 1) rfl dX12_says_44 ?_
  refine e_dup2 rfl rfl dX12_says_45 ?_
  obtain ⟨c_46, hm⟩ := gd_s hm
  refine l_iald dX12_says_46 iz_216 (inb_in ln_216 c_46) (by decide) ?_
  refine e_iconst (v := 1) (by decide) dX12_says_47 ?_
  refine e_iadd dX12_says_48 ?_
  obtain ⟨c_49, hm⟩ := gd_s hm
  refine l_iast dX12_says_49 iz_216 (inb_in ln_216 c_49) (by decide) ?_
  refine e_vret dX12_says_50 rfl ?_
  have hm := some_in hm
  subst hm
  exact ⟨rfl, rfl⟩
set_option maxRecDepth 100000 in
set_option maxHeartbeats 4000000 in
theorem tX12_says {l : Launch} {K : a_KT} {g : a_GT} {IA : iT} (hko : a_kok K) (I : iT) (J : jT) (F : fT) (hF : FOK F) (x1 : Int32) (x2 : Int32) (q : iT) (hm : mX12_says I x1 x2 = some q) : C l K g 0 0 0 yX12_says cX12_says 3 none [.ref 186, .int x1, .int x2] (hg IA I J F) (fun r2 h2 => r2 = none ∧ h2 = hg IA q J F) := by
  unfold mX12_says at hm
  refine c_of [.ref 186, .int x1, .int x2] (by decide) (Nat.le_of_ble_eq_true rfl) rfl ?_
  refine e_aload_n (i := 0) rfl dX12_says_0 ?_
  refine l_getI 12 63 dX12_says_1 fl_RX12_433 rfl iz_186 (by decide) ?_
  refine e_sipush (v := 200) (by decide) dX12_says_4 ?_
  refine e_icmp_ge 30 dX12_says_7 (by decide) (fun c_7 => ?_) (fun c_7 => ?_)
  · have hm := it_p c_7 hm
    refine e_weak [.ref 186, .int x1, .int x2] ⟨rfl, ⟨rfl, ⟨rfl, trivial⟩⟩⟩ ?_
    exact tX12_says_30 hko I x1 x2 hF _ hm
  · have hm := it_n c_7 hm
    refine e_aload_n (i := 0) rfl dX12_says_10 ?_
    refine q_getF 12 73 227 dX12_says_11 fl_RX12_136 rfl iz_186 (fr_186_73 hF) ?_
    refine e_aload_n (i := 0) rfl dX12_says_14 ?_
    refine l_getI 12 63 dX12_says_15 fl_RX12_433 rfl iz_186 (by decide) ?_
    refine e_iload_n (i := 2) rfl dX12_says_18 ?_
    obtain ⟨c_19, hm⟩ := gd_s hm
    refine l_iast dX12_says_19 iz_227 (inb_in ln_227 c_19) (by decide) ?_
    refine e_aload_n (i := 0) rfl dX12_says_20 ?_
    refine q_getF 12 74 228 dX12_says_21 fl_RX12_139 rfl iz_186 (fr_186_74 hF) ?_
    refine e_aload_n (i := 0) rfl dX12_says_24 ?_
    refine l_getI 12 63 dX12_says_25 fl_RX12_433 rfl iz_186 (by decide) ?_
    refine e_iload_n (i := 1) rfl dX12_says_28 ?_
    obtain ⟨c_29, hm⟩ := gd_s hm
    refine l_iast dX12_says_29 iz_228 (inb_in ln_228 c_29) (by decide) ?_
    refine e_weak [.ref 186, .int x1, .int x2] ⟨rfl, ⟨rfl, ⟨rfl, trivial⟩⟩⟩ ?_
    exact tX12_says_30 hko (a_u2 (a_u2 I 227 (I 186 63).toNatClampNeg x2) 228 ((a_u2 I 227 (I 186 63).toNatClampNeg x2) 186 63).toNatClampNeg x1) x1 x2 hF _ hm
theorem dX12_take_0 : decode cX12_take 0 = .ok (.aload_n 0, 1) := by decide +kernel
theorem dX12_take_1 : decode cX12_take 1 = .ok (.getfield 118, 3) := by decide +kernel
theorem dX12_take_4 : decode cX12_take 4 = .ok (.iload_n 1, 1) := by decide +kernel
theorem dX12_take_5 : decode cX12_take 5 = .ok (.iaload, 1) := by decide +kernel
theorem dX12_take_6 : decode cX12_take 6 = .ok (.istore_n 2, 1) := by decide +kernel
theorem dX12_take_7 : decode cX12_take 7 = .ok (.aload_n 0, 1) := by decide +kernel
theorem dX12_take_8 : decode cX12_take 8 = .ok (.getfield 118, 3) := by decide +kernel
theorem dX12_take_11 : decode cX12_take 11 = .ok (.iload_n 1, 1) := by decide +kernel
theorem dX12_take_12 : decode cX12_take 12 = .ok (.aload_n 0, 1) := by decide +kernel
theorem dX12_take_13 : decode cX12_take 13 = .ok (.getfield 130, 3) := by decide +kernel
theorem dX12_take_16 : decode cX12_take 16 = .ok (.iload_n 2, 1) := by decide +kernel
theorem dX12_take_17 : decode cX12_take 17 = .ok (.iaload, 1) := by decide +kernel
theorem dX12_take_18 : decode cX12_take 18 = .ok (.iastore, 1) := by decide +kernel
theorem dX12_take_19 : decode cX12_take 19 = .ok (.iload_n 2, 1) := by decide +kernel
theorem dX12_take_20 : decode cX12_take 20 = .ok (.ireturn, 1) := by decide +kernel
def mX12_take (I : iT) (x1 : Int32) : Option (Int32 × iT) := if inb x1 160 then if inb (I 221 x1.toNatClampNeg) 700 then if inb x1 160 then some (I 221 x1.toNatClampNeg, a_u2 I 221 x1.toNatClampNeg (I 225 (I 221 x1.toNatClampNeg).toNatClampNeg)) else none else none else none
set_option maxRecDepth 100000 in
set_option maxHeartbeats 4000000 in
theorem tX12_take {l : Launch} {K : a_KT} {g : a_GT} {IA : iT} (hko : a_kok K) (I : iT) (J : jT) (F : fT) (hF : FOK F) (x1 : Int32) (q : Int32 × iT) (hm : mX12_take I x1 = some q) : C l K g 0 0 0 yX12_take cX12_take 3 (some .int) [.ref 186, .int x1] (hg IA I J F) (fun r2 h2 => r2 = some (.int q.1) ∧ h2 = hg IA q.2 J F) := by
  unfold mX12_take at hm
  refine c_of [.ref 186, .int x1, .null] (by decide) (Nat.le_of_ble_eq_true rfl) rfl ?_
  refine e_aload_n (i := 0) rfl dX12_take_0 ?_
  refine q_getF 12 67 221 dX12_take_1 fl_RX12_118 rfl iz_186 (fr_186_67 hF) ?_
  refine e_iload_n (i := 1) rfl dX12_take_4 ?_
  obtain ⟨c_5, hm⟩ := gd_s hm
  refine l_iald dX12_take_5 iz_221 (inb_in ln_221 c_5) (by decide) ?_
  refine q_istore_n (i := 2) (by decide) rfl dX12_take_6 ?_
  refine e_aload_n (i := 0) rfl dX12_take_7 ?_
  refine q_getF 12 67 221 dX12_take_8 fl_RX12_118 rfl iz_186 (fr_186_67 hF) ?_
  refine e_iload_n (i := 1) rfl dX12_take_11 ?_
  refine e_aload_n (i := 0) rfl dX12_take_12 ?_
  refine q_getF 12 71 225 dX12_take_13 fl_RX12_130 rfl iz_186 (fr_186_71 hF) ?_
  refine e_iload_n (i := 2) rfl dX12_take_16 ?_
  obtain ⟨c_17, hm⟩ := gd_s hm
  refine l_iald dX12_take_17 iz_225 (inb_in ln_225 c_17) (by decide) ?_
  obtain ⟨c_18, hm⟩ := gd_s hm
  refine l_iast dX12_take_18 iz_221 (inb_in ln_221 c_18) (by decide) ?_
  refine e_iload_n (i := 2) rfl dX12_take_19 ?_
  refine e_iret dX12_take_20 rfl ?_
  have hm := some_in hm
  subst hm
  exact ⟨rfl, rfl⟩
theorem dX12_writes_0 : decode cX12_writes 0 = .ok (.iconst 2, 1) := by decide +kernel
theorem dX12_writes_1 : decode cX12_writes 1 = .ok (.aload_n 0, 1) := by decide +kernel
theorem dX12_writes_2 : decode cX12_writes 2 = .ok (.aload_n 0, 1) := by decide +kernel
theorem dX12_writes_3 : decode cX12_writes 3 = .ok (.iload_n 1, 1) := by decide +kernel
theorem dX12_writes_4 : decode cX12_writes 4 = .ok (.iload_n 2, 1) := by decide +kernel
theorem dX12_writes_5 : decode cX12_writes 5 = .ok (.invokevirtual 458, 3) := by decide +kernel
theorem dX12_writes_8 : decode cX12_writes 8 = .ok (.invokevirtual 469, 3) := by decide +kernel
theorem dX12_writes_11 : decode cX12_writes 11 = .ok (.imul, 1) := by decide +kernel
theorem dX12_writes_12 : decode cX12_writes 12 = .ok (.aload_n 0, 1) := by decide +kernel
theorem dX12_writes_13 : decode cX12_writes 13 = .ok (.iload_n 1, 1) := by decide +kernel
theorem dX12_writes_14 : decode cX12_writes 14 = .ok (.iload_n 2, 1) := by decide +kernel
theorem dX12_writes_15 : decode cX12_writes 15 = .ok (.invokevirtual 472, 3) := by decide +kernel
theorem dX12_writes_18 : decode cX12_writes 18 = .ok (.ifCond .eq 7, 3) := by decide +kernel
theorem dX12_writes_21 : decode cX12_writes 21 = .ok (.iconst 0, 1) := by decide +kernel
theorem dX12_writes_22 : decode cX12_writes 22 = .ok (.goto 4, 3) := by decide +kernel
theorem dX12_writes_25 : decode cX12_writes 25 = .ok (.iconst 1, 1) := by decide +kernel
theorem dX12_writes_26 : decode cX12_writes 26 = .ok (.iadd, 1) := by decide +kernel
theorem dX12_writes_27 : decode cX12_writes 27 = .ok (.ireturn, 1) := by decide +kernel
def mX12_writes_26 (I : iT) (x1 : Int32) (x2 : Int32) (s0 : Int32) (s1 : Int32) : Option (Int32) := some (s1 + s0)
def mX12_writes (I : iT) (x1 : Int32) (x2 : Int32) : Option (Int32) := (mX12_value I x1 x2).bind fun q1 => (mX12_real I q1).bind fun q2 => (mX12_isGiven I x1 x2).bind fun q3 => if q3 = 0 then mX12_writes_26 I x1 x2 1 (2 * q2) else mX12_writes_26 I x1 x2 0 (2 * q2)
set_option maxRecDepth 100000 in
set_option maxHeartbeats 4000000 in
theorem tX12_writes_26 {l : Launch} {K : a_KT} {g : a_GT} {IA : iT} (hko : a_kok K) {J : jT} {F : fT} (I : iT) (x1 : Int32) (x2 : Int32) (s0 : Int32) (s1 : Int32) (hF : FOK F) (q : Int32) (hm : mX12_writes_26 I x1 x2 s0 s1 = some q) : E l K g 2 0 0 yX12_writes cX12_writes 3 (some .int) 26 [.ref 186, .int x1, .int x2] [.int s0, .int s1] (hg IA I J F) (fun r2 h2 => r2 = some (.int q) ∧ h2 = hg IA I J F) := by
  unfold mX12_writes_26 at hm
  refine e_iadd dX12_writes_26 ?_
  refine e_iret dX12_writes_27 rfl ?_
  have hm := some_in hm
  subst hm
  exact ⟨rfl, rfl⟩
set_option maxRecDepth 100000 in
set_option maxHeartbeats 4000000 in
theorem tX12_writes {l : Launch} {K : a_KT} {g : a_GT} {IA : iT} (hko : a_kok K) (I : iT) (J : jT) (F : fT) (hF : FOK F) (x1 : Int32) (x2 : Int32) (q : Int32) (hm : mX12_writes I x1 x2 = some q) : C l K g 2 0 0 yX12_writes cX12_writes 3 (some .int) [.ref 186, .int x1, .int x2] (hg IA I J F) (fun r2 h2 => r2 = some (.int q) ∧ h2 = hg IA I J F) := by
  unfold mX12_writes at hm
  refine c_of [.ref 186, .int x1, .int x2] (by decide) (Nat.le_of_ble_eq_true rfl) rfl ?_
  refine e_iconst (v := 2) (by decide) dX12_writes_0 ?_
  refine e_aload_n (i := 0) rfl dX12_writes_1 ?_
  refine e_aload_n (i := 0) rfl dX12_writes_2 ?_
  refine e_iload_n (i := 1) rfl dX12_writes_3 ?_
  refine e_iload_n (i := 2) rfl dX12_writes_4 ?_
  obtain ⟨q1, eq1, hm⟩ := ob_some hm
  refine e_cV2 hko dX12_writes_5 ml_RX12_458 iz_186 (by decide) rfl (by omega) (Nat.le_of_ble_eq_true rfl) (tX12_value hko I J F hF x1 x2 _ eq1) ?_
  rintro _ _ ⟨rfl, rfl⟩
  obtain ⟨q2, eq2, hm⟩ := ob_some hm
  refine e_cV1 hko dX12_writes_8 ml_RX12_469 iz_186 (by decide) rfl (by omega) (Nat.le_of_ble_eq_true rfl) (tX12_real hko I J F hF q1 _ eq2) ?_
  rintro _ _ ⟨rfl, rfl⟩
  refine e_imul dX12_writes_11 ?_
  refine e_aload_n (i := 0) rfl dX12_writes_12 ?_
  refine e_iload_n (i := 1) rfl dX12_writes_13 ?_
  refine e_iload_n (i := 2) rfl dX12_writes_14 ?_
  obtain ⟨q3, eq3, hm⟩ := ob_some hm
  refine e_cV2 hko dX12_writes_15 ml_RX12_472 iz_186 (by decide) rfl (by omega) (Nat.le_of_ble_eq_true rfl) (tX12_isGiven hko I J F hF x1 x2 _ eq3) ?_
  rintro _ _ ⟨rfl, rfl⟩
  refine e_if_eq 25 dX12_writes_18 (by decide) (fun c_18 => ?_) (fun c_18 => ?_)
  · have hm := it_p c_18 hm
    refine e_iconst (v := 1) (by decide) dX12_writes_25 ?_
    refine e_weak [.ref 186, .int x1, .int x2] ⟨rfl, ⟨rfl, ⟨rfl, trivial⟩⟩⟩ ?_
    exact tX12_writes_26 hko I x1 x2 1 (2 * q2) hF _ hm
  · have hm := it_n c_18 hm
    refine e_iconst (v := 0) (by decide) dX12_writes_21 ?_
    refine e_goto 26 dX12_writes_22 (by decide) ?_
    refine e_weak [.ref 186, .int x1, .int x2] ⟨rfl, ⟨rfl, ⟨rfl, trivial⟩⟩⟩ ?_
    exact tX12_writes_26 hko I x1 x2 0 (2 * q2) hF _ hm
