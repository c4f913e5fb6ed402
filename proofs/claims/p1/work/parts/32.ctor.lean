/-! THE CONSTRUCTORS, at their addresses: printed by wip/whole/gen_ctor.py -/
def Fn10_13 (F : fT) : fT := (a_u2 (a_u2 (a_u2 (a_u2 (a_u2 (a_u2 (a_u2 (a_u2 (a_u2 (a_u2 (a_u2 (a_u2 (a_u2 (a_u2 (a_u2 (a_u2 F 14 0 15) 13 0 14) 16 0 17) 13 1 16) 18 0 19) 13 2 18) 20 0 21) 13 3 20) 22 0 23) 13 4 22) 24 0 25) 13 5 24) 26 0 27) 13 6 26) 28 0 29) 13 7 28)
set_option maxRecDepth 100000 in
set_option maxHeartbeats 4000000 in
theorem zn10_13 {I : iT} {J : jT} {F : fT} (hz : ZR 13 I J F) : ZR 29 I J (Fn10_13 F) := by
  have hz1 := hz.up
  have hz2 := (hz1.up).putF (a := 14) (j := 0) (v := 15) (by decide) (by decide)
  have hz3 := hz2.putF (a := 13) (j := 0) (v := 14) (by decide) (by decide)
  have hz4 := hz3.up
  have hz5 := (hz4.up).putF (a := 16) (j := 0) (v := 17) (by decide) (by decide)
  have hz6 := hz5.putF (a := 13) (j := 1) (v := 16) (by decide) (by decide)
  have hz7 := hz6.up
  have hz8 := (hz7.up).putF (a := 18) (j := 0) (v := 19) (by decide) (by decide)
  have hz9 := hz8.putF (a := 13) (j := 2) (v := 18) (by decide) (by decide)
  have hz10 := hz9.up
  have hz11 := (hz10.up).putF (a := 20) (j := 0) (v := 21) (by decide) (by decide)
  have hz12 := hz11.putF (a := 13) (j := 3) (v := 20) (by decide) (by decide)
  have hz13 := hz12.up
  have hz14 := (hz13.up).putF (a := 22) (j := 0) (v := 23) (by decide) (by decide)
  have hz15 := hz14.putF (a := 13) (j := 4) (v := 22) (by decide) (by decide)
  have hz16 := hz15.up
  have hz17 := (hz16.up).putF (a := 24) (j := 0) (v := 25) (by decide) (by decide)
  have hz18 := hz17.putF (a := 13) (j := 5) (v := 24) (by decide) (by decide)
  have hz19 := hz18.up
  have hz20 := (hz19.up).putF (a := 26) (j := 0) (v := 27) (by decide) (by decide)
  have hz21 := hz20.putF (a := 13) (j := 6) (v := 26) (by decide) (by decide)
  have hz22 := hz21.up
  have hz23 := (hz22.up).putF (a := 28) (j := 0) (v := 29) (by decide) (by decide)
  have hz24 := hz23.putF (a := 13) (j := 7) (v := 28) (by decide) (by decide)
  exact hz24
set_option maxRecDepth 100000 in
set_option maxHeartbeats 4000000 in
theorem n10_13 {l : Launch} {K : a_KT} {g : a_GT} (hko : a_kok K) {I : iT} {J : jT} {F : fT} (hz : ZR 13 I J F) : C l K g 2 16 5418 yX10_init cX10_init 1 none [.ref 13] (hq 13 I J F) (fun r h2 => r = none ∧ h2 = hq 29 I J (Fn10_13 F)) := by
  refine c_of [.ref 13] (by decide) (Nat.le_of_ble_eq_true rfl) rfl ?_
  refine e_aload_n (i := 0) rfl dX10_init_0 ?_
  refine e_objInit dX10_init_1 ol_RX10_3 oi_init oc_init (by decide) (by decide) (Nat.le_of_ble_eq_true rfl) ?_
  refine e_aload_n (i := 0) rfl dX10_init_4 ?_
  refine q_new (nc := 15) (ns := 5416) hko 4 2 rfl dX10_init_5 (by decide) nl_RX10_9 hz (by decide +kernel) (by decide +kernel) (by decide) rfl rfl ?_
  have hz1 := hz.up
  refine e_dup rfl dX10_init_8 ?_
  refine e_sipush (v := 1000) (by decide) dX10_init_9 ?_
  refine q_cI (nc := 14) (ns := 4416) [.int 1000] hko dX10_init_12 ml_RX10_11 (by decide) rfl (by decide) (Nat.le_of_ble_eq_true rfl) rfl rfl (nRow (N := 1000) hko hz1 (by exact ⟨by decide +kernel, by decide, by decide⟩) (by decide +kernel) (by decide +kernel) (by decide) (by decide) (by decide)) ?_
  have hz2 := (hz1.up).putF (a := 14) (j := 0) (v := 15) (by decide) (by decide)
  refine q_putF 10 0 dX10_init_15 fl_RX10_14 (Or.inr ⟨rfl, rfl, fw_RX10_14⟩) rfl (by exact ⟨by decide +kernel, by decide, by decide⟩) ?_
  have hz3 := hz2.putF (a := 13) (j := 0) (v := 14) (by decide) (by decide)
  refine e_aload_n (i := 0) rfl dX10_init_18 ?_
  refine q_new (nc := 13) (ns := 4414) hko 4 2 rfl dX10_init_19 (by decide) nl_RX10_9 hz3 (by decide +kernel) (by decide +kernel) (by decide) rfl rfl ?_
  have hz4 := hz3.up
  refine e_dup rfl dX10_init_22 ?_
  refine e_sipush (v := 1000) (by decide) dX10_init_23 ?_
  refine q_cI (nc := 12) (ns := 3414) [.int 1000] hko dX10_init_26 ml_RX10_11 (by decide) rfl (by decide) (Nat.le_of_ble_eq_true rfl) rfl rfl (nRow (N := 1000) hko hz4 (by exact ⟨by decide +kernel, by decide, by decide⟩) (by decide +kernel) (by decide +kernel) (by decide) (by decide) (by decide)) ?_
  have hz5 := (hz4.up).putF (a := 16) (j := 0) (v := 17) (by decide) (by decide)
  refine q_putF 10 1 dX10_init_29 fl_RX10_20 (Or.inr ⟨rfl, rfl, fw_RX10_20⟩) rfl (by exact ⟨by decide +kernel, by decide, by decide⟩) ?_
  have hz6 := hz5.putF (a := 13) (j := 1) (v := 16) (by decide) (by decide)
  refine e_aload_n (i := 0) rfl dX10_init_32 ?_
  refine q_new (nc := 11) (ns := 3412) hko 4 2 rfl dX10_init_33 (by decide) nl_RX10_9 hz6 (by decide +kernel) (by decide +kernel) (by decide) rfl rfl ?_
  have hz7 := hz6.up
  refine e_dup rfl dX10_init_36 ?_
  refine e_sipush (v := 1000) (by decide) dX10_init_37 ?_
  refine q_cI (nc := 10) (ns := 2412) [.int 1000] hko dX10_init_40 ml_RX10_11 (by decide) rfl (by decide) (Nat.le_of_ble_eq_true rfl) rfl rfl (nRow (N := 1000) hko hz7 (by exact ⟨by decide +kernel, by decide, by decide⟩) (by decide +kernel) (by decide +kernel) (by decide) (by decide) (by decide)) ?_
  have hz8 := (hz7.up).putF (a := 18) (j := 0) (v := 19) (by decide) (by decide)
  refine q_putF 10 2 dX10_init_43 fl_RX10_23 (Or.inr ⟨rfl, rfl, fw_RX10_23⟩) rfl (by exact ⟨by decide +kernel, by decide, by decide⟩) ?_
  have hz9 := hz8.putF (a := 13) (j := 2) (v := 18) (by decide) (by decide)
  refine e_aload_n (i := 0) rfl dX10_init_46 ?_
  refine q_new (nc := 9) (ns := 2410) hko 4 2 rfl dX10_init_47 (by decide) nl_RX10_9 hz9 (by decide +kernel) (by decide +kernel) (by decide) rfl rfl ?_
  have hz10 := hz9.up
  refine e_dup rfl dX10_init_50 ?_
  refine e_sipush (v := 1000) (by decide) dX10_init_51 ?_
  refine q_cI (nc := 8) (ns := 1410) [.int 1000] hko dX10_init_54 ml_RX10_11 (by decide) rfl (by decide) (Nat.le_of_ble_eq_true rfl) rfl rfl (nRow (N := 1000) hko hz10 (by exact ⟨by decide +kernel, by decide, by decide⟩) (by decide +kernel) (by decide +kernel) (by decide) (by decide) (by decide)) ?_
  have hz11 := (hz10.up).putF (a := 20) (j := 0) (v := 21) (by decide) (by decide)
  refine q_putF 10 3 dX10_init_57 fl_RX10_26 (Or.inr ⟨rfl, rfl, fw_RX10_26⟩) rfl (by exact ⟨by decide +kernel, by decide, by decide⟩) ?_
  have hz12 := hz11.putF (a := 13) (j := 3) (v := 20) (by decide) (by decide)
  refine e_aload_n (i := 0) rfl dX10_init_60 ?_
  refine q_new (nc := 7) (ns := 1408) hko 4 2 rfl dX10_init_61 (by decide) nl_RX10_9 hz12 (by decide +kernel) (by decide +kernel) (by decide) rfl rfl ?_
  have hz13 := hz12.up
  refine e_dup rfl dX10_init_64 ?_
  refine e_sipush (v := 500) (by decide) dX10_init_65 ?_
  refine q_cI (nc := 6) (ns := 908) [.int 500] hko dX10_init_68 ml_RX10_11 (by decide) rfl (by decide) (Nat.le_of_ble_eq_true rfl) rfl rfl (nRow (N := 500) hko hz13 (by exact ⟨by decide +kernel, by decide, by decide⟩) (by decide +kernel) (by decide +kernel) (by decide) (by decide) (by decide)) ?_
  have hz14 := (hz13.up).putF (a := 22) (j := 0) (v := 23) (by decide) (by decide)
  refine q_putF 10 4 dX10_init_71 fl_RX10_29 (Or.inr ⟨rfl, rfl, fw_RX10_29⟩) rfl (by exact ⟨by decide +kernel, by decide, by decide⟩) ?_
  have hz15 := hz14.putF (a := 13) (j := 4) (v := 22) (by decide) (by decide)
  refine e_aload_n (i := 0) rfl dX10_init_74 ?_
  refine q_new (nc := 5) (ns := 906) hko 4 2 rfl dX10_init_75 (by decide) nl_RX10_9 hz15 (by decide +kernel) (by decide +kernel) (by decide) rfl rfl ?_
  have hz16 := hz15.up
  refine e_dup rfl dX10_init_78 ?_
  refine e_sipush (v := 500) (by decide) dX10_init_79 ?_
  refine q_cI (nc := 4) (ns := 406) [.int 500] hko dX10_init_82 ml_RX10_11 (by decide) rfl (by decide) (Nat.le_of_ble_eq_true rfl) rfl rfl (nRow (N := 500) hko hz16 (by exact ⟨by decide +kernel, by decide, by decide⟩) (by decide +kernel) (by decide +kernel) (by decide) (by decide) (by decide)) ?_
  have hz17 := (hz16.up).putF (a := 24) (j := 0) (v := 25) (by decide) (by decide)
  refine q_putF 10 5 dX10_init_85 fl_RX10_32 (Or.inr ⟨rfl, rfl, fw_RX10_32⟩) rfl (by exact ⟨by decide +kernel, by decide, by decide⟩) ?_
  have hz18 := hz17.putF (a := 13) (j := 5) (v := 24) (by decide) (by decide)
  refine e_aload_n (i := 0) rfl dX10_init_88 ?_
  refine q_new (nc := 3) (ns := 404) hko 4 2 rfl dX10_init_89 (by decide) nl_RX10_9 hz18 (by decide +kernel) (by decide +kernel) (by decide) rfl rfl ?_
  have hz19 := hz18.up
  refine e_dup rfl dX10_init_92 ?_
  refine e_sipush (v := 201) (by decide) dX10_init_93 ?_
  refine q_cI (nc := 2) (ns := 203) [.int 201] hko dX10_init_96 ml_RX10_11 (by decide) rfl (by decide) (Nat.le_of_ble_eq_true rfl) rfl rfl (nRow (N := 201) hko hz19 (by exact ⟨by decide +kernel, by decide, by decide⟩) (by decide +kernel) (by decide +kernel) (by decide) (by decide) (by decide)) ?_
  have hz20 := (hz19.up).putF (a := 26) (j := 0) (v := 27) (by decide) (by decide)
  refine q_putF 10 6 dX10_init_99 fl_RX10_35 (Or.inr ⟨rfl, rfl, fw_RX10_35⟩) rfl (by exact ⟨by decide +kernel, by decide, by decide⟩) ?_
  have hz21 := hz20.putF (a := 13) (j := 6) (v := 26) (by decide) (by decide)
  refine e_aload_n (i := 0) rfl dX10_init_102 ?_
  refine q_new (nc := 1) (ns := 201) hko 4 2 rfl dX10_init_103 (by decide) nl_RX10_9 hz21 (by decide +kernel) (by decide +kernel) (by decide) rfl rfl ?_
  have hz22 := hz21.up
  refine e_dup rfl dX10_init_106 ?_
  refine e_sipush (v := 201) (by decide) dX10_init_107 ?_
  refine q_cI (nc := 0) (ns := 0) [.int 201] hko dX10_init_110 ml_RX10_11 (by decide) rfl (by decide) (Nat.le_of_ble_eq_true rfl) rfl rfl (nRow (N := 201) hko hz22 (by exact ⟨by decide +kernel, by decide, by decide⟩) (by decide +kernel) (by decide +kernel) (by decide) (by decide) (by decide)) ?_
  have hz23 := (hz22.up).putF (a := 28) (j := 0) (v := 29) (by decide) (by decide)
  refine q_putF 10 7 dX10_init_113 fl_RX10_38 (Or.inr ⟨rfl, rfl, fw_RX10_38⟩) rfl (by exact ⟨by decide +kernel, by decide, by decide⟩) ?_
  have hz24 := hz23.putF (a := 13) (j := 7) (v := 28) (by decide) (by decide)
  exact e_vret dX10_init_116 rfl ⟨rfl, rfl⟩
def Fn8_30 (F : fT) : fT := (a_u2 (a_u2 (a_u2 (a_u2 (a_u2 (a_u2 (a_u2 (a_u2 (a_u2 (a_u2 F 31 0 32) 30 0 31) 33 0 34) 30 1 33) 35 0 36) 30 2 35) 37 0 38) 30 3 37) 39 0 40) 30 4 39)
set_option maxRecDepth 100000 in
set_option maxHeartbeats 4000000 in
theorem zn8_30 {I : iT} {J : jT} {F : fT} (hz : ZR 30 I J F) : ZR 40 I J (Fn8_30 F) := by
  have hz1 := hz.up
  have hz2 := (hz1.up).putF (a := 31) (j := 0) (v := 32) (by decide) (by decide)
  have hz3 := hz2.putF (a := 30) (j := 0) (v := 31) (by decide) (by decide)
  have hz4 := hz3.up
  have hz5 := (hz4.up).putF (a := 33) (j := 0) (v := 34) (by decide) (by decide)
  have hz6 := hz5.putF (a := 30) (j := 1) (v := 33) (by decide) (by decide)
  have hz7 := hz6.up
  have hz8 := (hz7.up).putF (a := 35) (j := 0) (v := 36) (by decide) (by decide)
  have hz9 := hz8.putF (a := 30) (j := 2) (v := 35) (by decide) (by decide)
  have hz10 := hz9.up
  have hz11 := (hz10.up).putF (a := 37) (j := 0) (v := 38) (by decide) (by decide)
  have hz12 := hz11.putF (a := 30) (j := 3) (v := 37) (by decide) (by decide)
  have hz13 := hz12.up
  have hz14 := (hz13.up).putF (a := 39) (j := 0) (v := 40) (by decide) (by decide)
  have hz15 := hz14.putF (a := 30) (j := 4) (v := 39) (by decide) (by decide)
  exact hz15
set_option maxRecDepth 100000 in
set_option maxHeartbeats 4000000 in
theorem n8_30 {l : Launch} {K : a_KT} {g : a_GT} (hko : a_kok K) {I : iT} {J : jT} {F : fT} (hz : ZR 30 I J F) : C l K g 2 10 5010 yX8_init cX8_init 1 none [.ref 30] (hq 30 I J F) (fun r h2 => r = none ∧ h2 = hq 40 I J (Fn8_30 F)) := by
  refine c_of [.ref 30] (by decide) (Nat.le_of_ble_eq_true rfl) rfl ?_
  refine e_aload_n (i := 0) rfl dX8_init_0 ?_
  refine e_objInit dX8_init_1 ol_RX8_3 oi_init oc_init (by decide) (by decide) (Nat.le_of_ble_eq_true rfl) ?_
  refine e_aload_n (i := 0) rfl dX8_init_4 ?_
  refine q_new (nc := 9) (ns := 5008) hko 4 2 rfl dX8_init_5 (by decide) nl_RX8_9 hz (by decide +kernel) (by decide +kernel) (by decide) rfl rfl ?_
  have hz1 := hz.up
  refine e_dup rfl dX8_init_8 ?_
  refine e_sipush (v := 1000) (by decide) dX8_init_9 ?_
  refine q_cI (nc := 8) (ns := 4008) [.int 1000] hko dX8_init_12 ml_RX8_11 (by decide) rfl (by decide) (Nat.le_of_ble_eq_true rfl) rfl rfl (nRow (N := 1000) hko hz1 (by exact ⟨by decide +kernel, by decide, by decide⟩) (by decide +kernel) (by decide +kernel) (by decide) (by decide) (by decide)) ?_
  have hz2 := (hz1.up).putF (a := 31) (j := 0) (v := 32) (by decide) (by decide)
  refine q_putF 8 0 dX8_init_15 fl_RX8_14 (Or.inr ⟨rfl, rfl, fw_RX8_14⟩) rfl (by exact ⟨by decide +kernel, by decide, by decide⟩) ?_
  have hz3 := hz2.putF (a := 30) (j := 0) (v := 31) (by decide) (by decide)
  refine e_aload_n (i := 0) rfl dX8_init_18 ?_
  refine q_new (nc := 7) (ns := 4006) hko 4 2 rfl dX8_init_19 (by decide) nl_RX8_9 hz3 (by decide +kernel) (by decide +kernel) (by decide) rfl rfl ?_
  have hz4 := hz3.up
  refine e_dup rfl dX8_init_22 ?_
  refine e_sipush (v := 1000) (by decide) dX8_init_23 ?_
  refine q_cI (nc := 6) (ns := 3006) [.int 1000] hko dX8_init_26 ml_RX8_11 (by decide) rfl (by decide) (Nat.le_of_ble_eq_true rfl) rfl rfl (nRow (N := 1000) hko hz4 (by exact ⟨by decide +kernel, by decide, by decide⟩) (by decide +kernel) (by decide +kernel) (by decide) (by decide) (by decide)) ?_
  have hz5 := (hz4.up).putF (a := 33) (j := 0) (v := 34) (by decide) (by decide)
  refine q_putF 8 1 dX8_init_29 fl_RX8_20 (Or.inr ⟨rfl, rfl, fw_RX8_20⟩) rfl (by exact ⟨by decide +kernel, by decide, by decide⟩) ?_
  have hz6 := hz5.putF (a := 30) (j := 1) (v := 33) (by decide) (by decide)
  refine e_aload_n (i := 0) rfl dX8_init_32 ?_
  refine q_new (nc := 5) (ns := 3004) hko 4 2 rfl dX8_init_33 (by decide) nl_RX8_9 hz6 (by decide +kernel) (by decide +kernel) (by decide) rfl rfl ?_
  have hz7 := hz6.up
  refine e_dup rfl dX8_init_36 ?_
  refine e_sipush (v := 1000) (by decide) dX8_init_37 ?_
  refine q_cI (nc := 4) (ns := 2004) [.int 1000] hko dX8_init_40 ml_RX8_11 (by decide) rfl (by decide) (Nat.le_of_ble_eq_true rfl) rfl rfl (nRow (N := 1000) hko hz7 (by exact ⟨by decide +kernel, by decide, by decide⟩) (by decide +kernel) (by decide +kernel) (by decide) (by decide) (by decide)) ?_
  have hz8 := (hz7.up).putF (a := 35) (j := 0) (v := 36) (by decide) (by decide)
  refine q_putF 8 2 dX8_init_43 fl_RX8_23 (Or.inr ⟨rfl, rfl, fw_RX8_23⟩) rfl (by exact ⟨by decide +kernel, by decide, by decide⟩) ?_
  have hz9 := hz8.putF (a := 30) (j := 2) (v := 35) (by decide) (by decide)
  refine e_aload_n (i := 0) rfl dX8_init_46 ?_
  refine q_new (nc := 3) (ns := 2002) hko 4 2 rfl dX8_init_47 (by decide) nl_RX8_9 hz9 (by decide +kernel) (by decide +kernel) (by decide) rfl rfl ?_
  have hz10 := hz9.up
  refine e_dup rfl dX8_init_50 ?_
  refine e_sipush (v := 1000) (by decide) dX8_init_51 ?_
  refine q_cI (nc := 2) (ns := 1002) [.int 1000] hko dX8_init_54 ml_RX8_11 (by decide) rfl (by decide) (Nat.le_of_ble_eq_true rfl) rfl rfl (nRow (N := 1000) hko hz10 (by exact ⟨by decide +kernel, by decide, by decide⟩) (by decide +kernel) (by decide +kernel) (by decide) (by decide) (by decide)) ?_
  have hz11 := (hz10.up).putF (a := 37) (j := 0) (v := 38) (by decide) (by decide)
  refine q_putF 8 3 dX8_init_57 fl_RX8_26 (Or.inr ⟨rfl, rfl, fw_RX8_26⟩) rfl (by exact ⟨by decide +kernel, by decide, by decide⟩) ?_
  have hz12 := hz11.putF (a := 30) (j := 3) (v := 37) (by decide) (by decide)
  refine e_aload_n (i := 0) rfl dX8_init_60 ?_
  refine q_new (nc := 1) (ns := 1000) hko 4 2 rfl dX8_init_61 (by decide) nl_RX8_9 hz12 (by decide +kernel) (by decide +kernel) (by decide) rfl rfl ?_
  have hz13 := hz12.up
  refine e_dup rfl dX8_init_64 ?_
  refine e_sipush (v := 1000) (by decide) dX8_init_65 ?_
  refine q_cI (nc := 0) (ns := 0) [.int 1000] hko dX8_init_68 ml_RX8_11 (by decide) rfl (by decide) (Nat.le_of_ble_eq_true rfl) rfl rfl (nRow (N := 1000) hko hz13 (by exact ⟨by decide +kernel, by decide, by decide⟩) (by decide +kernel) (by decide +kernel) (by decide) (by decide) (by decide)) ?_
  have hz14 := (hz13.up).putF (a := 39) (j := 0) (v := 40) (by decide) (by decide)
  refine q_putF 8 4 dX8_init_71 fl_RX8_29 (Or.inr ⟨rfl, rfl, fw_RX8_29⟩) rfl (by exact ⟨by decide +kernel, by decide, by decide⟩) ?_
  have hz15 := hz14.putF (a := 30) (j := 4) (v := 39) (by decide) (by decide)
  exact e_vret dX8_init_74 rfl ⟨rfl, rfl⟩
def Fn0_12 (F : fT) : fT := (a_u2 (a_u2 (a_u2 (a_u2 (a_u2 (a_u2 (a_u2 (a_u2 (a_u2 (a_u2 (a_u2 (a_u2 (a_u2 (a_u2 (a_u2 (a_u2 (a_u2 (a_u2 (a_u2 (a_u2 (a_u2 (a_u2 (a_u2 (a_u2 (a_u2 (a_u2 (a_u2 (a_u2 (a_u2 (a_u2 (a_u2 (a_u2 (a_u2 (Fn8_30 (a_u2 (Fn10_13 F) 12 0 13)) 12 1 30) 41 0 42) 12 2 41) 43 0 44) 12 3 43) 45 0 46) 12 4 45) 47 0 48) 12 5 47) 49 0 50) 12 6 49) 51 0 52) 12 7 51) 53 0 54) 12 8 53) 55 0 56) 12 9 55) 57 0 58) 12 10 57) 59 0 60) 12 11 59) 61 0 62) 12 12 61) 63 0 64) 12 13 63) 65 0 66) 12 14 65) 67 0 68) 12 15 67) 69 0 70) 12 16 69) 71 0 72) 12 17 71)
set_option maxRecDepth 100000 in
set_option maxHeartbeats 4000000 in
theorem zn0_12 {I : iT} {J : jT} {F : fT} (hz : ZR 12 I J F) : ZR 72 I J (Fn0_12 F) := by
  have hz1 := hz.up
  have hz2 := zn10_13 hz1
  have hz3 := hz2.putF (a := 12) (j := 0) (v := 13) (by decide) (by decide)
  have hz4 := hz3.up
  have hz5 := zn8_30 hz4
  have hz6 := hz5.putF (a := 12) (j := 1) (v := 30) (by decide) (by decide)
  have hz7 := hz6.up
  have hz8 := (hz7.up).putF (a := 41) (j := 0) (v := 42) (by decide) (by decide)
  have hz9 := hz8.putF (a := 12) (j := 2) (v := 41) (by decide) (by decide)
  have hz10 := hz9.up
  have hz11 := (hz10.up).putF (a := 43) (j := 0) (v := 44) (by decide) (by decide)
  have hz12 := hz11.putF (a := 12) (j := 3) (v := 43) (by decide) (by decide)
  have hz13 := hz12.up
  have hz14 := (hz13.up).putF (a := 45) (j := 0) (v := 46) (by decide) (by decide)
  have hz15 := hz14.putF (a := 12) (j := 4) (v := 45) (by decide) (by decide)
  have hz16 := hz15.up
  have hz17 := (hz16.up).putF (a := 47) (j := 0) (v := 48) (by decide) (by decide)
  have hz18 := hz17.putF (a := 12) (j := 5) (v := 47) (by decide) (by decide)
  have hz19 := hz18.up
  have hz20 := (hz19.up).putF (a := 49) (j := 0) (v := 50) (by decide) (by decide)
  have hz21 := hz20.putF (a := 12) (j := 6) (v := 49) (by decide) (by decide)
  have hz22 := hz21.up
  have hz23 := (hz22.up).putF (a := 51) (j := 0) (v := 52) (by decide) (by decide)
  have hz24 := hz23.putF (a := 12) (j := 7) (v := 51) (by decide) (by decide)
  have hz25 := hz24.up
  have hz26 := (hz25.up).putF (a := 53) (j := 0) (v := 54) (by decide) (by decide)
  have hz27 := hz26.putF (a := 12) (j := 8) (v := 53) (by decide) (by decide)
  have hz28 := hz27.up
  have hz29 := (hz28.up).putF (a := 55) (j := 0) (v := 56) (by decide) (by decide)
  have hz30 := hz29.putF (a := 12) (j := 9) (v := 55) (by decide) (by decide)
  have hz31 := hz30.up
  have hz32 := (hz31.up).putF (a := 57) (j := 0) (v := 58) (by decide) (by decide)
  have hz33 := hz32.putF (a := 12) (j := 10) (v := 57) (by decide) (by decide)
  have hz34 := hz33.up
  have hz35 := (hz34.up).putF (a := 59) (j := 0) (v := 60) (by decide) (by decide)
  have hz36 := hz35.putF (a := 12) (j := 11) (v := 59) (by decide) (by decide)
  have hz37 := hz36.up
  have hz38 := (hz37.up).putF (a := 61) (j := 0) (v := 62) (by decide) (by decide)
  have hz39 := hz38.putF (a := 12) (j := 12) (v := 61) (by decide) (by decide)
  have hz40 := hz39.up
  have hz41 := (hz40.up).putF (a := 63) (j := 0) (v := 64) (by decide) (by decide)
  have hz42 := hz41.putF (a := 12) (j := 13) (v := 63) (by decide) (by decide)
  have hz43 := hz42.up
  have hz44 := (hz43.up).putF (a := 65) (j := 0) (v := 66) (by decide) (by decide)
  have hz45 := hz44.putF (a := 12) (j := 14) (v := 65) (by decide) (by decide)
  have hz46 := hz45.up
  have hz47 := (hz46.up).putF (a := 67) (j := 0) (v := 68) (by decide) (by decide)
  have hz48 := hz47.putF (a := 12) (j := 15) (v := 67) (by decide) (by decide)
  have hz49 := hz48.up
  have hz50 := (hz49.up).putF (a := 69) (j := 0) (v := 70) (by decide) (by decide)
  have hz51 := hz50.putF (a := 12) (j := 16) (v := 69) (by decide) (by decide)
  have hz52 := hz51.up
  have hz53 := (hz52.up).putF (a := 71) (j := 0) (v := 72) (by decide) (by decide)
  have hz54 := hz53.putF (a := 12) (j := 17) (v := 71) (by decide) (by decide)
  exact hz54
set_option maxRecDepth 100000 in
set_option maxHeartbeats 4000000 in
theorem n0_12 {l : Launch} {K : a_KT} {g : a_GT} (hko : a_kok K) {I : iT} {J : jT} {F : fT} (hz : ZR 12 I J F) : C l K g 3 60 13117 yX0_init cX0_init 1 none [.ref 12] (hq 12 I J F) (fun r h2 => r = none ∧ h2 = hq 72 I J (Fn0_12 F)) := by
  refine c_of [.ref 12] (by decide) (Nat.le_of_ble_eq_true rfl) rfl ?_
  refine e_aload_n (i := 0) rfl dX0_init_0 ?_
  refine e_objInit dX0_init_1 ol_RX0_3 oi_init oc_init (by decide) (by decide) (Nat.le_of_ble_eq_true rfl) ?_
  refine e_aload_n (i := 0) rfl dX0_init_4 ?_
  refine q_new (nc := 59) (ns := 13109) hko 10 8 rfl dX0_init_5 (by decide) nl_RX0_9 hz (by decide +kernel) (by decide +kernel) (by decide) rfl rfl ?_
  have hz1 := hz.up
  refine e_dup rfl dX0_init_8 ?_
  refine q_cI (nc := 43) (ns := 7691) [] hko dX0_init_9 ml_RX0_11 (by decide) rfl (by decide) (Nat.le_of_ble_eq_true rfl) rfl rfl (n10_13 hko hz1) ?_
  have hz2 := zn10_13 hz1
  refine q_putF 0 0 dX0_init_12 fl_RX0_12 (Or.inr ⟨rfl, rfl, fw_RX0_12⟩) rfl (by exact ⟨by decide +kernel, by decide, by decide⟩) ?_
  have hz3 := hz2.putF (a := 12) (j := 0) (v := 13) (by decide) (by decide)
  refine e_aload_n (i := 0) rfl dX0_init_15 ?_
  refine q_new (nc := 42) (ns := 7686) hko 8 5 rfl dX0_init_16 (by decide) nl_RX0_18 hz3 (by decide +kernel) (by decide +kernel) (by decide) rfl rfl ?_
  have hz4 := hz3.up
  refine e_dup rfl dX0_init_19 ?_
  refine q_cI (nc := 32) (ns := 2676) [] hko dX0_init_20 ml_RX0_20 (by decide) rfl (by decide) (Nat.le_of_ble_eq_true rfl) rfl rfl (n8_30 hko hz4) ?_
  have hz5 := zn8_30 hz4
  refine q_putF 0 1 dX0_init_23 fl_RX0_21 (Or.inr ⟨rfl, rfl, fw_RX0_21⟩) rfl (by exact ⟨by decide +kernel, by decide, by decide⟩) ?_
  have hz6 := hz5.putF (a := 12) (j := 1) (v := 30) (by decide) (by decide)
  refine e_aload_n (i := 0) rfl dX0_init_26 ?_
  refine q_new (nc := 31) (ns := 2674) hko 4 2 rfl dX0_init_27 (by decide) nl_RX0_25 hz6 (by decide +kernel) (by decide +kernel) (by decide) rfl rfl ?_
  have hz7 := hz6.up
  refine e_dup rfl dX0_init_30 ?_
  refine e_bipush (v := 12) (by decide) dX0_init_31 ?_
  refine q_cI (nc := 30) (ns := 2662) [.int 12] hko dX0_init_33 ml_RX0_27 (by decide) rfl (by decide) (Nat.le_of_ble_eq_true rfl) rfl rfl (nRow (N := 12) hko hz7 (by exact ⟨by decide +kernel, by decide, by decide⟩) (by decide +kernel) (by decide +kernel) (by decide) (by decide) (by decide)) ?_
  have hz8 := (hz7.up).putF (a := 41) (j := 0) (v := 42) (by decide) (by decide)
  refine q_putF 0 2 dX0_init_36 fl_RX0_30 (Or.inr ⟨rfl, rfl, fw_RX0_30⟩) rfl (by exact ⟨by decide +kernel, by decide, by decide⟩) ?_
  have hz9 := hz8.putF (a := 12) (j := 2) (v := 41) (by decide) (by decide)
  refine e_aload_n (i := 0) rfl dX0_init_39 ?_
  refine q_new (nc := 29) (ns := 2660) hko 4 2 rfl dX0_init_40 (by decide) nl_RX0_25 hz9 (by decide +kernel) (by decide +kernel) (by decide) rfl rfl ?_
  have hz10 := hz9.up
  refine e_dup rfl dX0_init_43 ?_
  refine e_bipush (v := 12) (by decide) dX0_init_44 ?_
  refine q_cI (nc := 28) (ns := 2648) [.int 12] hko dX0_init_46 ml_RX0_27 (by decide) rfl (by decide) (Nat.le_of_ble_eq_true rfl) rfl rfl (nRow (N := 12) hko hz10 (by exact ⟨by decide +kernel, by decide, by decide⟩) (by decide +kernel) (by decide +kernel) (by decide) (by decide) (by decide)) ?_
  have hz11 := (hz10.up).putF (a := 43) (j := 0) (v := 44) (by decide) (by decide)
  refine q_putF 0 3 dX0_init_49 fl_RX0_34 (Or.inr ⟨rfl, rfl, fw_RX0_34⟩) rfl (by exact ⟨by decide +kernel, by decide, by decide⟩) ?_
  have hz12 := hz11.putF (a := 12) (j := 3) (v := 43) (by decide) (by decide)
  refine e_aload_n (i := 0) rfl dX0_init_52 ?_
  refine q_new (nc := 27) (ns := 2646) hko 4 2 rfl dX0_init_53 (by decide) nl_RX0_25 hz12 (by decide +kernel) (by decide +kernel) (by decide) rfl rfl ?_
  have hz13 := hz12.up
  refine e_dup rfl dX0_init_56 ?_
  refine e_bipush (v := 12) (by decide) dX0_init_57 ?_
  refine q_cI (nc := 26) (ns := 2634) [.int 12] hko dX0_init_59 ml_RX0_27 (by decide) rfl (by decide) (Nat.le_of_ble_eq_true rfl) rfl rfl (nRow (N := 12) hko hz13 (by exact ⟨by decide +kernel, by decide, by decide⟩) (by decide +kernel) (by decide +kernel) (by decide) (by decide) (by decide)) ?_
  have hz14 := (hz13.up).putF (a := 45) (j := 0) (v := 46) (by decide) (by decide)
  refine q_putF 0 4 dX0_init_62 fl_RX0_37 (Or.inr ⟨rfl, rfl, fw_RX0_37⟩) rfl (by exact ⟨by decide +kernel, by decide, by decide⟩) ?_
  have hz15 := hz14.putF (a := 12) (j := 4) (v := 45) (by decide) (by decide)
  refine e_aload_n (i := 0) rfl dX0_init_65 ?_
  refine q_new (nc := 25) (ns := 2632) hko 4 2 rfl dX0_init_66 (by decide) nl_RX0_25 hz15 (by decide +kernel) (by decide +kernel) (by decide) rfl rfl ?_
  have hz16 := hz15.up
  refine e_dup rfl dX0_init_69 ?_
  refine e_bipush (v := 12) (by decide) dX0_init_70 ?_
  refine q_cI (nc := 24) (ns := 2620) [.int 12] hko dX0_init_72 ml_RX0_27 (by decide) rfl (by decide) (Nat.le_of_ble_eq_true rfl) rfl rfl (nRow (N := 12) hko hz16 (by exact ⟨by decide +kernel, by decide, by decide⟩) (by decide +kernel) (by decide +kernel) (by decide) (by decide) (by decide)) ?_
  have hz17 := (hz16.up).putF (a := 47) (j := 0) (v := 48) (by decide) (by decide)
  refine q_putF 0 5 dX0_init_75 fl_RX0_40 (Or.inr ⟨rfl, rfl, fw_RX0_40⟩) rfl (by exact ⟨by decide +kernel, by decide, by decide⟩) ?_
  have hz18 := hz17.putF (a := 12) (j := 5) (v := 47) (by decide) (by decide)
  refine e_aload_n (i := 0) rfl dX0_init_78 ?_
  refine q_new (nc := 23) (ns := 2618) hko 4 2 rfl dX0_init_79 (by decide) nl_RX0_25 hz18 (by decide +kernel) (by decide +kernel) (by decide) rfl rfl ?_
  have hz19 := hz18.up
  refine e_dup rfl dX0_init_82 ?_
  refine e_bipush (v := 12) (by decide) dX0_init_83 ?_
  refine q_cI (nc := 22) (ns := 2606) [.int 12] hko dX0_init_85 ml_RX0_27 (by decide) rfl (by decide) (Nat.le_of_ble_eq_true rfl) rfl rfl (nRow (N := 12) hko hz19 (by exact ⟨by decide +kernel, by decide, by decide⟩) (by decide +kernel) (by decide +kernel) (by decide) (by decide) (by decide)) ?_
  have hz20 := (hz19.up).putF (a := 49) (j := 0) (v := 50) (by decide) (by decide)
  refine q_putF 0 6 dX0_init_88 fl_RX0_43 (Or.inr ⟨rfl, rfl, fw_RX0_43⟩) rfl (by exact ⟨by decide +kernel, by decide, by decide⟩) ?_
  have hz21 := hz20.putF (a := 12) (j := 6) (v := 49) (by decide) (by decide)
  refine e_aload_n (i := 0) rfl dX0_init_91 ?_
  refine q_new (nc := 21) (ns := 2604) hko 4 2 rfl dX0_init_92 (by decide) nl_RX0_25 hz21 (by decide +kernel) (by decide +kernel) (by decide) rfl rfl ?_
  have hz22 := hz21.up
  refine e_dup rfl dX0_init_95 ?_
  refine e_bipush (v := 12) (by decide) dX0_init_96 ?_
  refine q_cI (nc := 20) (ns := 2592) [.int 12] hko dX0_init_98 ml_RX0_27 (by decide) rfl (by decide) (Nat.le_of_ble_eq_true rfl) rfl rfl (nRow (N := 12) hko hz22 (by exact ⟨by decide +kernel, by decide, by decide⟩) (by decide +kernel) (by decide +kernel) (by decide) (by decide) (by decide)) ?_
  have hz23 := (hz22.up).putF (a := 51) (j := 0) (v := 52) (by decide) (by decide)
  refine q_putF 0 7 dX0_init_101 fl_RX0_46 (Or.inr ⟨rfl, rfl, fw_RX0_46⟩) rfl (by exact ⟨by decide +kernel, by decide, by decide⟩) ?_
  have hz24 := hz23.putF (a := 12) (j := 7) (v := 51) (by decide) (by decide)
  refine e_aload_n (i := 0) rfl dX0_init_104 ?_
  refine q_new (nc := 19) (ns := 2590) hko 4 2 rfl dX0_init_105 (by decide) nl_RX0_25 hz24 (by decide +kernel) (by decide +kernel) (by decide) rfl rfl ?_
  have hz25 := hz24.up
  refine e_dup rfl dX0_init_108 ?_
  refine e_bipush (v := 12) (by decide) dX0_init_109 ?_
  refine q_cI (nc := 18) (ns := 2578) [.int 12] hko dX0_init_111 ml_RX0_27 (by decide) rfl (by decide) (Nat.le_of_ble_eq_true rfl) rfl rfl (nRow (N := 12) hko hz25 (by exact ⟨by decide +kernel, by decide, by decide⟩) (by decide +kernel) (by decide +kernel) (by decide) (by decide) (by decide)) ?_
  have hz26 := (hz25.up).putF (a := 53) (j := 0) (v := 54) (by decide) (by decide)
  refine q_putF 0 8 dX0_init_114 fl_RX0_49 (Or.inr ⟨rfl, rfl, fw_RX0_49⟩) rfl (by exact ⟨by decide +kernel, by decide, by decide⟩) ?_
  have hz27 := hz26.putF (a := 12) (j := 8) (v := 53) (by decide) (by decide)
  refine e_aload_n (i := 0) rfl dX0_init_117 ?_
  refine q_new (nc := 17) (ns := 2576) hko 4 2 rfl dX0_init_118 (by decide) nl_RX0_25 hz27 (by decide +kernel) (by decide +kernel) (by decide) rfl rfl ?_
  have hz28 := hz27.up
  refine e_dup rfl dX0_init_121 ?_
  refine e_bipush (v := 12) (by decide) dX0_init_122 ?_
  refine q_cI (nc := 16) (ns := 2564) [.int 12] hko dX0_init_124 ml_RX0_27 (by decide) rfl (by decide) (Nat.le_of_ble_eq_true rfl) rfl rfl (nRow (N := 12) hko hz28 (by exact ⟨by decide +kernel, by decide, by decide⟩) (by decide +kernel) (by decide +kernel) (by decide) (by decide) (by decide)) ?_
  have hz29 := (hz28.up).putF (a := 55) (j := 0) (v := 56) (by decide) (by decide)
  refine q_putF 0 9 dX0_init_127 fl_RX0_52 (Or.inr ⟨rfl, rfl, fw_RX0_52⟩) rfl (by exact ⟨by decide +kernel, by decide, by decide⟩) ?_
  have hz30 := hz29.putF (a := 12) (j := 9) (v := 55) (by decide) (by decide)
  refine e_aload_n (i := 0) rfl dX0_init_130 ?_
  refine q_new (nc := 15) (ns := 2562) hko 4 2 rfl dX0_init_131 (by decide) nl_RX0_25 hz30 (by decide +kernel) (by decide +kernel) (by decide) rfl rfl ?_
  have hz31 := hz30.up
  refine e_dup rfl dX0_init_134 ?_
  refine e_bipush (v := 48) (by decide) dX0_init_135 ?_
  refine q_cI (nc := 14) (ns := 2514) [.int 48] hko dX0_init_137 ml_RX0_27 (by decide) rfl (by decide) (Nat.le_of_ble_eq_true rfl) rfl rfl (nRow (N := 48) hko hz31 (by exact ⟨by decide +kernel, by decide, by decide⟩) (by decide +kernel) (by decide +kernel) (by decide) (by decide) (by decide)) ?_
  have hz32 := (hz31.up).putF (a := 57) (j := 0) (v := 58) (by decide) (by decide)
  refine q_putF 0 10 dX0_init_140 fl_RX0_55 (Or.inr ⟨rfl, rfl, fw_RX0_55⟩) rfl (by exact ⟨by decide +kernel, by decide, by decide⟩) ?_
  have hz33 := hz32.putF (a := 12) (j := 10) (v := 57) (by decide) (by decide)
  refine e_aload_n (i := 0) rfl dX0_init_143 ?_
  refine q_new (nc := 13) (ns := 2512) hko 4 2 rfl dX0_init_144 (by decide) nl_RX0_25 hz33 (by decide +kernel) (by decide +kernel) (by decide) rfl rfl ?_
  have hz34 := hz33.up
  refine e_dup rfl dX0_init_147 ?_
  refine e_sipush (v := 250) (by decide) dX0_init_148 ?_
  refine q_cI (nc := 12) (ns := 2262) [.int 250] hko dX0_init_151 ml_RX0_27 (by decide) rfl (by decide) (Nat.le_of_ble_eq_true rfl) rfl rfl (nRow (N := 250) hko hz34 (by exact ⟨by decide +kernel, by decide, by decide⟩) (by decide +kernel) (by decide +kernel) (by decide) (by decide) (by decide)) ?_
  have hz35 := (hz34.up).putF (a := 59) (j := 0) (v := 60) (by decide) (by decide)
  refine q_putF 0 11 dX0_init_154 fl_RX0_58 (Or.inr ⟨rfl, rfl, fw_RX0_58⟩) rfl (by exact ⟨by decide +kernel, by decide, by decide⟩) ?_
  have hz36 := hz35.putF (a := 12) (j := 11) (v := 59) (by decide) (by decide)
  refine e_aload_n (i := 0) rfl dX0_init_157 ?_
  refine q_new (nc := 11) (ns := 2260) hko 4 2 rfl dX0_init_158 (by decide) nl_RX0_25 hz36 (by decide +kernel) (by decide +kernel) (by decide) rfl rfl ?_
  have hz37 := hz36.up
  refine e_dup rfl dX0_init_161 ?_
  refine e_sipush (v := 250) (by decide) dX0_init_162 ?_
  refine q_cI (nc := 10) (ns := 2010) [.int 250] hko dX0_init_165 ml_RX0_27 (by decide) rfl (by decide) (Nat.le_of_ble_eq_true rfl) rfl rfl (nRow (N := 250) hko hz37 (by exact ⟨by decide +kernel, by decide, by decide⟩) (by decide +kernel) (by decide +kernel) (by decide) (by decide) (by decide)) ?_
  have hz38 := (hz37.up).putF (a := 61) (j := 0) (v := 62) (by decide) (by decide)
  refine q_putF 0 12 dX0_init_168 fl_RX0_61 (Or.inr ⟨rfl, rfl, fw_RX0_61⟩) rfl (by exact ⟨by decide +kernel, by decide, by decide⟩) ?_
  have hz39 := hz38.putF (a := 12) (j := 12) (v := 61) (by decide) (by decide)
  refine e_aload_n (i := 0) rfl dX0_init_171 ?_
  refine q_new (nc := 9) (ns := 2008) hko 4 2 rfl dX0_init_172 (by decide) nl_RX0_25 hz39 (by decide +kernel) (by decide +kernel) (by decide) rfl rfl ?_
  have hz40 := hz39.up
  refine e_dup rfl dX0_init_175 ?_
  refine e_sipush (v := 250) (by decide) dX0_init_176 ?_
  refine q_cI (nc := 8) (ns := 1758) [.int 250] hko dX0_init_179 ml_RX0_27 (by decide) rfl (by decide) (Nat.le_of_ble_eq_true rfl) rfl rfl (nRow (N := 250) hko hz40 (by exact ⟨by decide +kernel, by decide, by decide⟩) (by decide +kernel) (by decide +kernel) (by decide) (by decide) (by decide)) ?_
  have hz41 := (hz40.up).putF (a := 63) (j := 0) (v := 64) (by decide) (by decide)
  refine q_putF 0 13 dX0_init_182 fl_RX0_64 (Or.inr ⟨rfl, rfl, fw_RX0_64⟩) rfl (by exact ⟨by decide +kernel, by decide, by decide⟩) ?_
  have hz42 := hz41.putF (a := 12) (j := 13) (v := 63) (by decide) (by decide)
  refine e_aload_n (i := 0) rfl dX0_init_185 ?_
  refine q_new (nc := 7) (ns := 1756) hko 4 2 rfl dX0_init_186 (by decide) nl_RX0_25 hz42 (by decide +kernel) (by decide +kernel) (by decide) rfl rfl ?_
  have hz43 := hz42.up
  refine e_dup rfl dX0_init_189 ?_
  refine e_sipush (v := 250) (by decide) dX0_init_190 ?_
  refine q_cI (nc := 6) (ns := 1506) [.int 250] hko dX0_init_193 ml_RX0_27 (by decide) rfl (by decide) (Nat.le_of_ble_eq_true rfl) rfl rfl (nRow (N := 250) hko hz43 (by exact ⟨by decide +kernel, by decide, by decide⟩) (by decide +kernel) (by decide +kernel) (by decide) (by decide) (by decide)) ?_
  have hz44 := (hz43.up).putF (a := 65) (j := 0) (v := 66) (by decide) (by decide)
  refine q_putF 0 14 dX0_init_196 fl_RX0_67 (Or.inr ⟨rfl, rfl, fw_RX0_67⟩) rfl (by exact ⟨by decide +kernel, by decide, by decide⟩) ?_
  have hz45 := hz44.putF (a := 12) (j := 14) (v := 65) (by decide) (by decide)
  refine e_aload_n (i := 0) rfl dX0_init_199 ?_
  refine q_new (nc := 5) (ns := 1504) hko 4 2 rfl dX0_init_200 (by decide) nl_RX0_25 hz45 (by decide +kernel) (by decide +kernel) (by decide) rfl rfl ?_
  have hz46 := hz45.up
  refine e_dup rfl dX0_init_203 ?_
  refine e_sipush (v := 500) (by decide) dX0_init_204 ?_
  refine q_cI (nc := 4) (ns := 1004) [.int 500] hko dX0_init_207 ml_RX0_27 (by decide) rfl (by decide) (Nat.le_of_ble_eq_true rfl) rfl rfl (nRow (N := 500) hko hz46 (by exact ⟨by decide +kernel, by decide, by decide⟩) (by decide +kernel) (by decide +kernel) (by decide) (by decide) (by decide)) ?_
  have hz47 := (hz46.up).putF (a := 67) (j := 0) (v := 68) (by decide) (by decide)
  refine q_putF 0 15 dX0_init_210 fl_RX0_70 (Or.inr ⟨rfl, rfl, fw_RX0_70⟩) rfl (by exact ⟨by decide +kernel, by decide, by decide⟩) ?_
  have hz48 := hz47.putF (a := 12) (j := 15) (v := 67) (by decide) (by decide)
  refine e_aload_n (i := 0) rfl dX0_init_213 ?_
  refine q_new (nc := 3) (ns := 1002) hko 4 2 rfl dX0_init_214 (by decide) nl_RX0_25 hz48 (by decide +kernel) (by decide +kernel) (by decide) rfl rfl ?_
  have hz49 := hz48.up
  refine e_dup rfl dX0_init_217 ?_
  refine e_sipush (v := 500) (by decide) dX0_init_218 ?_
  refine q_cI (nc := 2) (ns := 502) [.int 500] hko dX0_init_221 ml_RX0_27 (by decide) rfl (by decide) (Nat.le_of_ble_eq_true rfl) rfl rfl (nRow (N := 500) hko hz49 (by exact ⟨by decide +kernel, by decide, by decide⟩) (by decide +kernel) (by decide +kernel) (by decide) (by decide) (by decide)) ?_
  have hz50 := (hz49.up).putF (a := 69) (j := 0) (v := 70) (by decide) (by decide)
  refine q_putF 0 16 dX0_init_224 fl_RX0_73 (Or.inr ⟨rfl, rfl, fw_RX0_73⟩) rfl (by exact ⟨by decide +kernel, by decide, by decide⟩) ?_
  have hz51 := hz50.putF (a := 12) (j := 16) (v := 69) (by decide) (by decide)
  refine e_aload_n (i := 0) rfl dX0_init_227 ?_
  refine q_new (nc := 1) (ns := 500) hko 4 2 rfl dX0_init_228 (by decide) nl_RX0_25 hz51 (by decide +kernel) (by decide +kernel) (by decide) rfl rfl ?_
  have hz52 := hz51.up
  refine e_dup rfl dX0_init_231 ?_
  refine e_sipush (v := 500) (by decide) dX0_init_232 ?_
  refine q_cI (nc := 0) (ns := 0) [.int 500] hko dX0_init_235 ml_RX0_27 (by decide) rfl (by decide) (Nat.le_of_ble_eq_true rfl) rfl rfl (nRow (N := 500) hko hz52 (by exact ⟨by decide +kernel, by decide, by decide⟩) (by decide +kernel) (by decide +kernel) (by decide) (by decide) (by decide)) ?_
  have hz53 := (hz52.up).putF (a := 71) (j := 0) (v := 72) (by decide) (by decide)
  refine q_putF 0 17 dX0_init_238 fl_RX0_76 (Or.inr ⟨rfl, rfl, fw_RX0_76⟩) rfl (by exact ⟨by decide +kernel, by decide, by decide⟩) ?_
  have hz54 := hz53.putF (a := 12) (j := 17) (v := 71) (by decide) (by decide)
  exact e_vret dX0_init_241 rfl ⟨rfl, rfl⟩
def Fn10_74 (F : fT) : fT := (a_u2 (a_u2 (a_u2 (a_u2 (a_u2 (a_u2 (a_u2 (a_u2 (a_u2 (a_u2 (a_u2 (a_u2 (a_u2 (a_u2 (a_u2 (a_u2 F 75 0 76) 74 0 75) 77 0 78) 74 1 77) 79 0 80) 74 2 79) 81 0 82) 74 3 81) 83 0 84) 74 4 83) 85 0 86) 74 5 85) 87 0 88) 74 6 87) 89 0 90) 74 7 89)
set_option maxRecDepth 100000 in
set_option maxHeartbeats 4000000 in
theorem zn10_74 {I : iT} {J : jT} {F : fT} (hz : ZR 74 I J F) : ZR 90 I J (Fn10_74 F) := by
  have hz1 := hz.up
  have hz2 := (hz1.up).putF (a := 75) (j := 0) (v := 76) (by decide) (by decide)
  have hz3 := hz2.putF (a := 74) (j := 0) (v := 75) (by decide) (by decide)
  have hz4 := hz3.up
  have hz5 := (hz4.up).putF (a := 77) (j := 0) (v := 78) (by decide) (by decide)
  have hz6 := hz5.putF (a := 74) (j := 1) (v := 77) (by decide) (by decide)
  have hz7 := hz6.up
  have hz8 := (hz7.up).putF (a := 79) (j := 0) (v := 80) (by decide) (by decide)
  have hz9 := hz8.putF (a := 74) (j := 2) (v := 79) (by decide) (by decide)
  have hz10 := hz9.up
  have hz11 := (hz10.up).putF (a := 81) (j := 0) (v := 82) (by decide) (by decide)
  have hz12 := hz11.putF (a := 74) (j := 3) (v := 81) (by decide) (by decide)
  have hz13 := hz12.up
  have hz14 := (hz13.up).putF (a := 83) (j := 0) (v := 84) (by decide) (by decide)
  have hz15 := hz14.putF (a := 74) (j := 4) (v := 83) (by decide) (by decide)
  have hz16 := hz15.up
  have hz17 := (hz16.up).putF (a := 85) (j := 0) (v := 86) (by decide) (by decide)
  have hz18 := hz17.putF (a := 74) (j := 5) (v := 85) (by decide) (by decide)
  have hz19 := hz18.up
  have hz20 := (hz19.up).putF (a := 87) (j := 0) (v := 88) (by decide) (by decide)
  have hz21 := hz20.putF (a := 74) (j := 6) (v := 87) (by decide) (by decide)
  have hz22 := hz21.up
  have hz23 := (hz22.up).putF (a := 89) (j := 0) (v := 90) (by decide) (by decide)
  have hz24 := hz23.putF (a := 74) (j := 7) (v := 89) (by decide) (by decide)
  exact hz24
set_option maxRecDepth 100000 in
set_option maxHeartbeats 4000000 in
theorem n10_74 {l : Launch} {K : a_KT} {g : a_GT} (hko : a_kok K) {I : iT} {J : jT} {F : fT} (hz : ZR 74 I J F) : C l K g 2 16 5418 yX10_init cX10_init 1 none [.ref 74] (hq 74 I J F) (fun r h2 => r = none ∧ h2 = hq 90 I J (Fn10_74 F)) := by
  refine c_of [.ref 74] (by decide) (Nat.le_of_ble_eq_true rfl) rfl ?_
  refine e_aload_n (i := 0) rfl dX10_init_0 ?_
  refine e_objInit dX10_init_1 ol_RX10_3 oi_init oc_init (by decide) (by decide) (Nat.le_of_ble_eq_true rfl) ?_
  refine e_aload_n (i := 0) rfl dX10_init_4 ?_
  refine q_new (nc := 15) (ns := 5416) hko 4 2 rfl dX10_init_5 (by decide) nl_RX10_9 hz (by decide +kernel) (by decide +kernel) (by decide) rfl rfl ?_
  have hz1 := hz.up
  refine e_dup rfl dX10_init_8 ?_
  refine e_sipush (v := 1000) (by decide) dX10_init_9 ?_
  refine q_cI (nc := 14) (ns := 4416) [.int 1000] hko dX10_init_12 ml_RX10_11 (by decide) rfl (by decide) (Nat.le_of_ble_eq_true rfl) rfl rfl (nRow (N := 1000) hko hz1 (by exact ⟨by decide +kernel, by decide, by decide⟩) (by decide +kernel) (by decide +kernel) (by decide) (by decide) (by decide)) ?_
  have hz2 := (hz1.up).putF (a := 75) (j := 0) (v := 76) (by decide) (by decide)
  refine q_putF 10 0 dX10_init_15 fl_RX10_14 (Or.inr ⟨rfl, rfl, fw_RX10_14⟩) rfl (by exact ⟨by decide +kernel, by decide, by decide⟩) ?_
  have hz3 := hz2.putF (a := 74) (j := 0) (v := 75) (by decide) (by decide)
  refine e_aload_n (i := 0) rfl dX10_init_18 ?_
  refine q_new (nc := 13) (ns := 4414) hko 4 2 rfl dX10_init_19 (by decide) nl_RX10_9 hz3 (by decide +kernel) (by decide +kernel) (by decide) rfl rfl ?_
  have hz4 := hz3.up
  refine e_dup rfl dX10_init_22 ?_
  refine e_sipush (v := 1000) (by decide) dX10_init_23 ?_
  refine q_cI (nc := 12) (ns := 3414) [.int 1000] hko dX10_init_26 ml_RX10_11 (by decide) rfl (by decide) (Nat.le_of_ble_eq_true rfl) rfl rfl (nRow (N := 1000) hko hz4 (by exact ⟨by decide +kernel, by decide, by decide⟩) (by decide +kernel) (by decide +kernel) (by decide) (by decide) (by decide)) ?_
  have hz5 := (hz4.up).putF (a := 77) (j := 0) (v := 78) (by decide) (by decide)
  refine q_putF 10 1 dX10_init_29 fl_RX10_20 (Or.inr ⟨rfl, rfl, fw_RX10_20⟩) rfl (by exact ⟨by decide +kernel, by decide, by decide⟩) ?_
  have hz6 := hz5.putF (a := 74) (j := 1) (v := 77) (by decide) (by decide)
  refine e_aload_n (i := 0) rfl dX10_init_32 ?_
  refine q_new (nc := 11) (ns := 3412) hko 4 2 rfl dX10_init_33 (by decide) nl_RX10_9 hz6 (by decide +kernel) (by decide +kernel) (by decide) rfl rfl ?_
  have hz7 := hz6.up
  refine e_dup rfl dX10_init_36 ?_
  refine e_sipush (v := 1000) (by decide) dX10_init_37 ?_
  refine q_cI (nc := 10) (ns := 2412) [.int 1000] hko dX10_init_40 ml_RX10_11 (by decide) rfl (by decide) (Nat.le_of_ble_eq_true rfl) rfl rfl (nRow (N := 1000) hko hz7 (by exact ⟨by decide +kernel, by decide, by decide⟩) (by decide +kernel) (by decide +kernel) (by decide) (by decide) (by decide)) ?_
  have hz8 := (hz7.up).putF (a := 79) (j := 0) (v := 80) (by decide) (by decide)
  refine q_putF 10 2 dX10_init_43 fl_RX10_23 (Or.inr ⟨rfl, rfl, fw_RX10_23⟩) rfl (by exact ⟨by decide +kernel, by decide, by decide⟩) ?_
  have hz9 := hz8.putF (a := 74) (j := 2) (v := 79) (by decide) (by decide)
  refine e_aload_n (i := 0) rfl dX10_init_46 ?_
  refine q_new (nc := 9) (ns := 2410) hko 4 2 rfl dX10_init_47 (by decide) nl_RX10_9 hz9 (by decide +kernel) (by decide +kernel) (by decide) rfl rfl ?_
  have hz10 := hz9.up
  refine e_dup rfl dX10_init_50 ?_
  refine e_sipush (v := 1000) (by decide) dX10_init_51 ?_
  refine q_cI (nc := 8) (ns := 1410) [.int 1000] hko dX10_init_54 ml_RX10_11 (by decide) rfl (by decide) (Nat.le_of_ble_eq_true rfl) rfl rfl (nRow (N := 1000) hko hz10 (by exact ⟨by decide +kernel, by decide, by decide⟩) (by decide +kernel) (by decide +kernel) (by decide) (by decide) (by decide)) ?_
  have hz11 := (hz10.up).putF (a := 81) (j := 0) (v := 82) (by decide) (by decide)
  refine q_putF 10 3 dX10_init_57 fl_RX10_26 (Or.inr ⟨rfl, rfl, fw_RX10_26⟩) rfl (by exact ⟨by decide +kernel, by decide, by decide⟩) ?_
  have hz12 := hz11.putF (a := 74) (j := 3) (v := 81) (by decide) (by decide)
  refine e_aload_n (i := 0) rfl dX10_init_60 ?_
  refine q_new (nc := 7) (ns := 1408) hko 4 2 rfl dX10_init_61 (by decide) nl_RX10_9 hz12 (by decide +kernel) (by decide +kernel) (by decide) rfl rfl ?_
  have hz13 := hz12.up
  refine e_dup rfl dX10_init_64 ?_
  refine e_sipush (v := 500) (by decide) dX10_init_65 ?_
  refine q_cI (nc := 6) (ns := 908) [.int 500] hko dX10_init_68 ml_RX10_11 (by decide) rfl (by decide) (Nat.le_of_ble_eq_true rfl) rfl rfl (nRow (N := 500) hko hz13 (by exact ⟨by decide +kernel, by decide, by decide⟩) (by decide +kernel) (by decide +kernel) (by decide) (by decide) (by decide)) ?_
  have hz14 := (hz13.up).putF (a := 83) (j := 0) (v := 84) (by decide) (by decide)
  refine q_putF 10 4 dX10_init_71 fl_RX10_29 (Or.inr ⟨rfl, rfl, fw_RX10_29⟩) rfl (by exact ⟨by decide +kernel, by decide, by decide⟩) ?_
  have hz15 := hz14.putF (a := 74) (j := 4) (v := 83) (by decide) (by decide)
  refine e_aload_n (i := 0) rfl dX10_init_74 ?_
  refine q_new (nc := 5) (ns := 906) hko 4 2 rfl dX10_init_75 (by decide) nl_RX10_9 hz15 (by decide +kernel) (by decide +kernel) (by decide) rfl rfl ?_
  have hz16 := hz15.up
  refine e_dup rfl dX10_init_78 ?_
  refine e_sipush (v := 500) (by decide) dX10_init_79 ?_
  refine q_cI (nc := 4) (ns := 406) [.int 500] hko dX10_init_82 ml_RX10_11 (by decide) rfl (by decide) (Nat.le_of_ble_eq_true rfl) rfl rfl (nRow (N := 500) hko hz16 (by exact ⟨by decide +kernel, by decide, by decide⟩) (by decide +kernel) (by decide +kernel) (by decide) (by decide) (by decide)) ?_
  have hz17 := (hz16.up).putF (a := 85) (j := 0) (v := 86) (by decide) (by decide)
  refine q_putF 10 5 dX10_init_85 fl_RX10_32 (Or.inr ⟨rfl, rfl, fw_RX10_32⟩) rfl (by exact ⟨by decide +kernel, by decide, by decide⟩) ?_
  have hz18 := hz17.putF (a := 74) (j := 5) (v := 85) (by decide) (by decide)
  refine e_aload_n (i := 0) rfl dX10_init_88 ?_
  refine q_new (nc := 3) (ns := 404) hko 4 2 rfl dX10_init_89 (by decide) nl_RX10_9 hz18 (by decide +kernel) (by decide +kernel) (by decide) rfl rfl ?_
  have hz19 := hz18.up
  refine e_dup rfl dX10_init_92 ?_
  refine e_sipush (v := 201) (by decide) dX10_init_93 ?_
  refine q_cI (nc := 2) (ns := 203) [.int 201] hko dX10_init_96 ml_RX10_11 (by decide) rfl (by decide) (Nat.le_of_ble_eq_true rfl) rfl rfl (nRow (N := 201) hko hz19 (by exact ⟨by decide +kernel, by decide, by decide⟩) (by decide +kernel) (by decide +kernel) (by decide) (by decide) (by decide)) ?_
  have hz20 := (hz19.up).putF (a := 87) (j := 0) (v := 88) (by decide) (by decide)
  refine q_putF 10 6 dX10_init_99 fl_RX10_35 (Or.inr ⟨rfl, rfl, fw_RX10_35⟩) rfl (by exact ⟨by decide +kernel, by decide, by decide⟩) ?_
  have hz21 := hz20.putF (a := 74) (j := 6) (v := 87) (by decide) (by decide)
  refine e_aload_n (i := 0) rfl dX10_init_102 ?_
  refine q_new (nc := 1) (ns := 201) hko 4 2 rfl dX10_init_103 (by decide) nl_RX10_9 hz21 (by decide +kernel) (by decide +kernel) (by decide) rfl rfl ?_
  have hz22 := hz21.up
  refine e_dup rfl dX10_init_106 ?_
  refine e_sipush (v := 201) (by decide) dX10_init_107 ?_
  refine q_cI (nc := 0) (ns := 0) [.int 201] hko dX10_init_110 ml_RX10_11 (by decide) rfl (by decide) (Nat.le_of_ble_eq_true rfl) rfl rfl (nRow (N := 201) hko hz22 (by exact ⟨by decide +kernel, by decide, by decide⟩) (by decide +kernel) (by decide +kernel) (by decide) (by decide) (by decide)) ?_
  have hz23 := (hz22.up).putF (a := 89) (j := 0) (v := 90) (by decide) (by decide)
  refine q_putF 10 7 dX10_init_113 fl_RX10_38 (Or.inr ⟨rfl, rfl, fw_RX10_38⟩) rfl (by exact ⟨by decide +kernel, by decide, by decide⟩) ?_
  have hz24 := hz23.putF (a := 74) (j := 7) (v := 89) (by decide) (by decide)
  exact e_vret dX10_init_116 rfl ⟨rfl, rfl⟩
def Fn8_91 (F : fT) : fT := (a_u2 (a_u2 (a_u2 (a_u2 (a_u2 (a_u2 (a_u2 (a_u2 (a_u2 (a_u2 F 92 0 93) 91 0 92) 94 0 95) 91 1 94) 96 0 97) 91 2 96) 98 0 99) 91 3 98) 100 0 101) 91 4 100)
set_option maxRecDepth 100000 in
set_option maxHeartbeats 4000000 in
theorem zn8_91 {I : iT} {J : jT} {F : fT} (hz : ZR 91 I J F) : ZR 101 I J (Fn8_91 F) := by
  have hz1 := hz.up
  have hz2 := (hz1.up).putF (a := 92) (j := 0) (v := 93) (by decide) (by decide)
  have hz3 := hz2.putF (a := 91) (j := 0) (v := 92) (by decide) (by decide)
  have hz4 := hz3.up
  have hz5 := (hz4.up).putF (a := 94) (j := 0) (v := 95) (by decide) (by decide)
  have hz6 := hz5.putF (a := 91) (j := 1) (v := 94) (by decide) (by decide)
  have hz7 := hz6.up
  have hz8 := (hz7.up).putF (a := 96) (j := 0) (v := 97) (by decide) (by decide)
  have hz9 := hz8.putF (a := 91) (j := 2) (v := 96) (by decide) (by decide)
  have hz10 := hz9.up
  have hz11 := (hz10.up).putF (a := 98) (j := 0) (v := 99) (by decide) (by decide)
  have hz12 := hz11.putF (a := 91) (j := 3) (v := 98) (by decide) (by decide)
  have hz13 := hz12.up
  have hz14 := (hz13.up).putF (a := 100) (j := 0) (v := 101) (by decide) (by decide)
  have hz15 := hz14.putF (a := 91) (j := 4) (v := 100) (by decide) (by decide)
  exact hz15
set_option maxRecDepth 100000 in
set_option maxHeartbeats 4000000 in
theorem n8_91 {l : Launch} {K : a_KT} {g : a_GT} (hko : a_kok K) {I : iT} {J : jT} {F : fT} (hz : ZR 91 I J F) : C l K g 2 10 5010 yX8_init cX8_init 1 none [.ref 91] (hq 91 I J F) (fun r h2 => r = none ∧ h2 = hq 101 I J (Fn8_91 F)) := by
  refine c_of [.ref 91] (by decide) (Nat.le_of_ble_eq_true rfl) rfl ?_
  refine e_aload_n (i := 0) rfl dX8_init_0 ?_
  refine e_objInit dX8_init_1 ol_RX8_3 oi_init oc_init (by decide) (by decide) (Nat.le_of_ble_eq_true rfl) ?_
  refine e_aload_n (i := 0) rfl dX8_init_4 ?_
  refine q_new (nc := 9) (ns := 5008) hko 4 2 rfl dX8_init_5 (by decide) nl_RX8_9 hz (by decide +kernel) (by decide +kernel) (by decide) rfl rfl ?_
  have hz1 := hz.up
  refine e_dup rfl dX8_init_8 ?_
  refine e_sipush (v := 1000) (by decide) dX8_init_9 ?_
  refine q_cI (nc := 8) (ns := 4008) [.int 1000] hko dX8_init_12 ml_RX8_11 (by decide) rfl (by decide) (Nat.le_of_ble_eq_true rfl) rfl rfl (nRow (N := 1000) hko hz1 (by exact ⟨by decide +kernel, by decide, by decide⟩) (by decide +kernel) (by decide +kernel) (by decide) (by decide) (by decide)) ?_
  have hz2 := (hz1.up).putF (a := 92) (j := 0) (v := 93) (by decide) (by decide)
  refine q_putF 8 0 dX8_init_15 fl_RX8_14 (Or.inr ⟨rfl, rfl, fw_RX8_14⟩) rfl (by exact ⟨by decide +kernel, by decide, by decide⟩) ?_
  have hz3 := hz2.putF (a := 91) (j := 0) (v := 92) (by decide) (by decide)
  refine e_aload_n (i := 0) rfl dX8_init_18 ?_
  refine q_new (nc := 7) (ns := 4006) hko 4 2 rfl dX8_init_19 (by decide) nl_RX8_9 hz3 (by decide +kernel) (by decide +kernel) (by decide) rfl rfl ?_
  have hz4 := hz3.up
  refine e_dup rfl dX8_init_22 ?_
  refine e_sipush (v := 1000) (by decide) dX8_init_23 ?_
  refine q_cI (nc := 6) (ns := 3006) [.int 1000] hko dX8_init_26 ml_RX8_11 (by decide) rfl (by decide) (Nat.le_of_ble_eq_true rfl) rfl rfl (nRow (N := 1000) hko hz4 (by exact ⟨by decide +kernel, by decide, by decide⟩) (by decide +kernel) (by decide +kernel) (by decide) (by decide) (by decide)) ?_
  have hz5 := (hz4.up).putF (a := 94) (j := 0) (v := 95) (by decide) (by decide)
  refine q_putF 8 1 dX8_init_29 fl_RX8_20 (Or.inr ⟨rfl, rfl, fw_RX8_20⟩) rfl (by exact ⟨by decide +kernel, by decide, by decide⟩) ?_
  have hz6 := hz5.putF (a := 91) (j := 1) (v := 94) (by decide) (by decide)
  refine e_aload_n (i := 0) rfl dX8_init_32 ?_
  refine q_new (nc := 5) (ns := 3004) hko 4 2 rfl dX8_init_33 (by decide) nl_RX8_9 hz6 (by decide +kernel) (by decide +kernel) (by decide) rfl rfl ?_
  have hz7 := hz6.up
  refine e_dup rfl dX8_init_36 ?_
  refine e_sipush (v := 1000) (by decide) dX8_init_37 ?_
  refine q_cI (nc := 4) (ns := 2004) [.int 1000] hko dX8_init_40 ml_RX8_11 (by decide) rfl (by decide) (Nat.le_of_ble_eq_true rfl) rfl rfl (nRow (N := 1000) hko hz7 (by exact ⟨by decide +kernel, by decide, by decide⟩) (by decide +kernel) (by decide +kernel) (by decide) (by decide) (by decide)) ?_
  have hz8 := (hz7.up).putF (a := 96) (j := 0) (v := 97) (by decide) (by decide)
  refine q_putF 8 2 dX8_init_43 fl_RX8_23 (Or.inr ⟨rfl, rfl, fw_RX8_23⟩) rfl (by exact ⟨by decide +kernel, by decide, by decide⟩) ?_
  have hz9 := hz8.putF (a := 91) (j := 2) (v := 96) (by decide) (by decide)
  refine e_aload_n (i := 0) rfl dX8_init_46 ?_
  refine q_new (nc := 3) (ns := 2002) hko 4 2 rfl dX8_init_47 (by decide) nl_RX8_9 hz9 (by decide +kernel) (by decide +kernel) (by decide) rfl rfl ?_
  have hz10 := hz9.up
  refine e_dup rfl dX8_init_50 ?_
  refine e_sipush (v := 1000) (by decide) dX8_init_51 ?_
  refine q_cI (nc := 2) (ns := 1002) [.int 1000] hko dX8_init_54 ml_RX8_11 (by decide) rfl (by decide) (Nat.le_of_ble_eq_true rfl) rfl rfl (nRow (N := 1000) hko hz10 (by exact ⟨by decide +kernel, by decide, by decide⟩) (by decide +kernel) (by decide +kernel) (by decide) (by decide) (by decide)) ?_
  have hz11 := (hz10.up).putF (a := 98) (j := 0) (v := 99) (by decide) (by decide)
  refine q_putF 8 3 dX8_init_57 fl_RX8_26 (Or.inr ⟨rfl, rfl, fw_RX8_26⟩) rfl (by exact ⟨by decide +kernel, by decide, by decide⟩) ?_
  have hz12 := hz11.putF (a := 91) (j := 3) (v := 98) (by decide) (by decide)
  refine e_aload_n (i := 0) rfl dX8_init_60 ?_
  refine q_new (nc := 1) (ns := 1000) hko 4 2 rfl dX8_init_61 (by decide) nl_RX8_9 hz12 (by decide +kernel) (by decide +kernel) (by decide) rfl rfl ?_
  have hz13 := hz12.up
  refine e_dup rfl dX8_init_64 ?_
  refine e_sipush (v := 1000) (by decide) dX8_init_65 ?_
  refine q_cI (nc := 0) (ns := 0) [.int 1000] hko dX8_init_68 ml_RX8_11 (by decide) rfl (by decide) (Nat.le_of_ble_eq_true rfl) rfl rfl (nRow (N := 1000) hko hz13 (by exact ⟨by decide +kernel, by decide, by decide⟩) (by decide +kernel) (by decide +kernel) (by decide) (by decide) (by decide)) ?_
  have hz14 := (hz13.up).putF (a := 100) (j := 0) (v := 101) (by decide) (by decide)
  refine q_putF 8 4 dX8_init_71 fl_RX8_29 (Or.inr ⟨rfl, rfl, fw_RX8_29⟩) rfl (by exact ⟨by decide +kernel, by decide, by decide⟩) ?_
  have hz15 := hz14.putF (a := 91) (j := 4) (v := 100) (by decide) (by decide)
  exact e_vret dX8_init_74 rfl ⟨rfl, rfl⟩
def Fn0_73 (F : fT) : fT := (a_u2 (a_u2 (a_u2 (a_u2 (a_u2 (a_u2 (a_u2 (a_u2 (a_u2 (a_u2 (a_u2 (a_u2 (a_u2 (a_u2 (a_u2 (a_u2 (a_u2 (a_u2 (a_u2 (a_u2 (a_u2 (a_u2 (a_u2 (a_u2 (a_u2 (a_u2 (a_u2 (a_u2 (a_u2 (a_u2 (a_u2 (a_u2 (a_u2 (Fn8_91 (a_u2 (Fn10_74 F) 73 0 74)) 73 1 91) 102 0 103) 73 2 102) 104 0 105) 73 3 104) 106 0 107) 73 4 106) 108 0 109) 73 5 108) 110 0 111) 73 6 110) 112 0 113) 73 7 112) 114 0 115) 73 8 114) 116 0 117) 73 9 116) 118 0 119) 73 10 118) 120 0 121) 73 11 120) 122 0 123) 73 12 122) 124 0 125) 73 13 124) 126 0 127) 73 14 126) 128 0 129) 73 15 128) 130 0 131) 73 16 130) 132 0 133) 73 17 132)
set_option maxRecDepth 100000 in
set_option maxHeartbeats 4000000 in
theorem zn0_73 {I : iT} {J : jT} {F : fT} (hz : ZR 73 I J F) : ZR 133 I J (Fn0_73 F) := by
  have hz1 := hz.up
  have hz2 := zn10_74 hz1
  have hz3 := hz2.putF (a := 73) (j := 0) (v := 74) (by decide) (by decide)
  have hz4 := hz3.up
  have hz5 := zn8_91 hz4
  have hz6 := hz5.putF (a := 73) (j := 1) (v := 91) (by decide) (by decide)
  have hz7 := hz6.up
  have hz8 := (hz7.up).putF (a := 102) (j := 0) (v := 103) (by decide) (by decide)
  have hz9 := hz8.putF (a := 73) (j := 2) (v := 102) (by decide) (by decide)
  have hz10 := hz9.up
  have hz11 := (hz10.up).putF (a := 104) (j := 0) (v := 105) (by decide) (by decide)
  have hz12 := hz11.putF (a := 73) (j := 3) (v := 104) (by decide) (by decide)
  have hz13 := hz12.up
  have hz14 := (hz13.up).putF (a := 106) (j := 0) (v := 107) (by decide) (by decide)
  have hz15 := hz14.putF (a := 73) (j := 4) (v := 106) (by decide) (by decide)
  have hz16 := hz15.up
  have hz17 := (hz16.up).putF (a := 108) (j := 0) (v := 109) (by decide) (by decide)
  have hz18 := hz17.putF (a := 73) (j := 5) (v := 108) (by decide) (by decide)
  have hz19 := hz18.up
  have hz20 := (hz19.up).putF (a := 110) (j := 0) (v := 111) (by decide) (by decide)
  have hz21 := hz20.putF (a := 73) (j := 6) (v := 110) (by decide) (by decide)
  have hz22 := hz21.up
  have hz23 := (hz22.up).putF (a := 112) (j := 0) (v := 113) (by decide) (by decide)
  have hz24 := hz23.putF (a := 73) (j := 7) (v := 112) (by decide) (by decide)
  have hz25 := hz24.up
  have hz26 := (hz25.up).putF (a := 114) (j := 0) (v := 115) (by decide) (by decide)
  have hz27 := hz26.putF (a := 73) (j := 8) (v := 114) (by decide) (by decide)
  have hz28 := hz27.up
  have hz29 := (hz28.up).putF (a := 116) (j := 0) (v := 117) (by decide) (by decide)
  have hz30 := hz29.putF (a := 73) (j := 9) (v := 116) (by decide) (by decide)
  have hz31 := hz30.up
  have hz32 := (hz31.up).putF (a := 118) (j := 0) (v := 119) (by decide) (by decide)
  have hz33 := hz32.putF (a := 73) (j := 10) (v := 118) (by decide) (by decide)
  have hz34 := hz33.up
  have hz35 := (hz34.up).putF (a := 120) (j := 0) (v := 121) (by decide) (by decide)
  have hz36 := hz35.putF (a := 73) (j := 11) (v := 120) (by decide) (by decide)
  have hz37 := hz36.up
  have hz38 := (hz37.up).putF (a := 122) (j := 0) (v := 123) (by decide) (by decide)
  have hz39 := hz38.putF (a := 73) (j := 12) (v := 122) (by decide) (by decide)
  have hz40 := hz39.up
  have hz41 := (hz40.up).putF (a := 124) (j := 0) (v := 125) (by decide) (by decide)
  have hz42 := hz41.putF (a := 73) (j := 13) (v := 124) (by decide) (by decide)
  have hz43 := hz42.up
  have hz44 := (hz43.up).putF (a := 126) (j := 0) (v := 127) (by decide) (by decide)
  have hz45 := hz44.putF (a := 73) (j := 14) (v := 126) (by decide) (by decide)
  have hz46 := hz45.up
  have hz47 := (hz46.up).putF (a := 128) (j := 0) (v := 129) (by decide) (by decide)
  have hz48 := hz47.putF (a := 73) (j := 15) (v := 128) (by decide) (by decide)
  have hz49 := hz48.up
  have hz50 := (hz49.up).putF (a := 130) (j := 0) (v := 131) (by decide) (by decide)
  have hz51 := hz50.putF (a := 73) (j := 16) (v := 130) (by decide) (by decide)
  have hz52 := hz51.up
  have hz53 := (hz52.up).putF (a := 132) (j := 0) (v := 133) (by decide) (by decide)
  have hz54 := hz53.putF (a := 73) (j := 17) (v := 132) (by decide) (by decide)
  exact hz54
set_option maxRecDepth 100000 in
set_option maxHeartbeats 4000000 in
theorem n0_73 {l : Launch} {K : a_KT} {g : a_GT} (hko : a_kok K) {I : iT} {J : jT} {F : fT} (hz : ZR 73 I J F) : C l K g 3 60 13117 yX0_init cX0_init 1 none [.ref 73] (hq 73 I J F) (fun r h2 => r = none ∧ h2 = hq 133 I J (Fn0_73 F)) := by
  refine c_of [.ref 73] (by decide) (Nat.le_of_ble_eq_true rfl) rfl ?_
  refine e_aload_n (i := 0) rfl dX0_init_0 ?_
  refine e_objInit dX0_init_1 ol_RX0_3 oi_init oc_init (by decide) (by decide) (Nat.le_of_ble_eq_true rfl) ?_
  refine e_aload_n (i := 0) rfl dX0_init_4 ?_
  refine q_new (nc := 59) (ns := 13109) hko 10 8 rfl dX0_init_5 (by decide) nl_RX0_9 hz (by decide +kernel) (by decide +kernel) (by decide) rfl rfl ?_
  have hz1 := hz.up
  refine e_dup rfl dX0_init_8 ?_
  refine q_cI (nc := 43) (ns := 7691) [] hko dX0_init_9 ml_RX0_11 (by decide) rfl (by decide) (Nat.le_of_ble_eq_true rfl) rfl rfl (n10_74 hko hz1) ?_
  have hz2 := zn10_74 hz1
  refine q_putF 0 0 dX0_init_12 fl_RX0_12 (Or.inr ⟨rfl, rfl, fw_RX0_12⟩) rfl (by exact ⟨by decide +kernel, by decide, by decide⟩) ?_
  have hz3 := hz2.putF (a := 73) (j := 0) (v := 74) (by decide) (by decide)
  refine e_aload_n (i := 0) rfl dX0_init_15 ?_
  refine q_new (nc := 42) (ns := 7686) hko 8 5 rfl dX0_init_16 (by decide) nl_RX0_18 hz3 (by decide +kernel) (by decide +kernel) (by decide) rfl rfl ?_
  have hz4 := hz3.up
  refine e_dup rfl dX0_init_19 ?_
  refine q_cI (nc := 32) (ns := 2676) [] hko dX0_init_20 ml_RX0_20 (by decide) rfl (by decide) (Nat.le_of_ble_eq_true rfl) rfl rfl (n8_91 hko hz4) ?_
  have hz5 := zn8_91 hz4
  refine q_putF 0 1 dX0_init_23 fl_RX0_21 (Or.inr ⟨rfl, rfl, fw_RX0_21⟩) rfl (by exact ⟨by decide +kernel, by decide, by decide⟩) ?_
  have hz6 := hz5.putF (a := 73) (j := 1) (v := 91) (by decide) (by decide)
  refine e_aload_n (i := 0) rfl dX0_init_26 ?_
  refine q_new (nc := 31) (ns := 2674) hko 4 2 rfl dX0_init_27 (by decide) nl_RX0_25 hz6 (by decide +kernel) (by decide +kernel) (by decide) rfl rfl ?_
  have hz7 := hz6.up
  refine e_dup rfl dX0_init_30 ?_
  refine e_bipush (v := 12) (by decide) dX0_init_31 ?_
  refine q_cI (nc := 30) (ns := 2662) [.int 12] hko dX0_init_33 ml_RX0_27 (by decide) rfl (by decide) (Nat.le_of_ble_eq_true rfl) rfl rfl (nRow (N := 12) hko hz7 (by exact ⟨by decide +kernel, by decide, by decide⟩) (by decide +kernel) (by decide +kernel) (by decide) (by decide) (by decide)) ?_
  have hz8 := (hz7.up).putF (a := 102) (j := 0) (v := 103) (by decide) (by decide)
  refine q_putF 0 2 dX0_init_36 fl_RX0_30 (Or.inr ⟨rfl, rfl, fw_RX0_30⟩) rfl (by exact ⟨by decide +kernel, by decide, by decide⟩) ?_
  have hz9 := hz8.putF (a := 73) (j := 2) (v := 102) (by decide) (by decide)
  refine e_aload_n (i := 0) rfl dX0_init_39 ?_
  refine q_new (nc := 29) (ns := 2660) hko 4 2 rfl dX0_init_40 (by decide) nl_RX0_25 hz9 (by decide +kernel) (by decide +kernel) (by decide) rfl rfl ?_
  have hz10 := hz9.up
  refine e_dup rfl dX0_init_43 ?_
  refine e_bipush (v := 12) (by decide) dX0_init_44 ?_
  refine q_cI (nc := 28) (ns := 2648) [.int 12] hko dX0_init_46 ml_RX0_27 (by decide) rfl (by decide) (Nat.le_of_ble_eq_true rfl) rfl rfl (nRow (N := 12) hko hz10 (by exact ⟨by decide +kernel, by decide, by decide⟩) (by decide +kernel) (by decide +kernel) (by decide) (by decide) (by decide)) ?_
  have hz11 := (hz10.up).putF (a := 104) (j := 0) (v := 105) (by decide) (by decide)
  refine q_putF 0 3 dX0_init_49 fl_RX0_34 (Or.inr ⟨rfl, rfl, fw_RX0_34⟩) rfl (by exact ⟨by decide +kernel, by decide, by decide⟩) ?_
  have hz12 := hz11.putF (a := 73) (j := 3) (v := 104) (by decide) (by decide)
  refine e_aload_n (i := 0) rfl dX0_init_52 ?_
  refine q_new (nc := 27) (ns := 2646) hko 4 2 rfl dX0_init_53 (by decide) nl_RX0_25 hz12 (by decide +kernel) (by decide +kernel) (by decide) rfl rfl ?_
  have hz13 := hz12.up
  refine e_dup rfl dX0_init_56 ?_
  refine e_bipush (v := 12) (by decide) dX0_init_57 ?_
  refine q_cI (nc := 26) (ns := 2634) [.int 12] hko dX0_init_59 ml_RX0_27 (by decide) rfl (by decide) (Nat.le_of_ble_eq_true rfl) rfl rfl (nRow (N := 12) hko hz13 (by exact ⟨by decide +kernel, by decide, by decide⟩) (by decide +kernel) (by decide +kernel) (by decide) (by decide) (by decide)) ?_
  have hz14 := (hz13.up).putF (a := 106) (j := 0) (v := 107) (by decide) (by decide)
  refine q_putF 0 4 dX0_init_62 fl_RX0_37 (Or.inr ⟨rfl, rfl, fw_RX0_37⟩) rfl (by exact ⟨by decide +kernel, by decide, by decide⟩) ?_
  have hz15 := hz14.putF (a := 73) (j := 4) (v := 106) (by decide) (by decide)
  refine e_aload_n (i := 0) rfl dX0_init_65 ?_
  refine q_new (nc := 25) (ns := 2632) hko 4 2 rfl dX0_init_66 (by decide) nl_RX0_25 hz15 (by decide +kernel) (by decide +kernel) (by decide) rfl rfl ?_
  have hz16 := hz15.up
  refine e_dup rfl dX0_init_69 ?_
  refine e_bipush (v := 12) (by decide) dX0_init_70 ?_
  refine q_cI (nc := 24) (ns := 2620) [.int 12] hko dX0_init_72 ml_RX0_27 (by decide) rfl (by decide) (Nat.le_of_ble_eq_true rfl) rfl rfl (nRow (N := 12) hko hz16 (by exact ⟨by decide +kernel, by decide, by decide⟩) (by decide +kernel) (by decide +kernel) (by decide) (by decide) (by decide)) ?_
  have hz17 := (hz16.up).putF (a := 108) (j := 0) (v := 109) (by decide) (by decide)
  refine q_putF 0 5 dX0_init_75 fl_RX0_40 (Or.inr ⟨rfl, rfl, fw_RX0_40⟩) rfl (by exact ⟨by decide +kernel, by decide, by decide⟩) ?_
  have hz18 := hz17.putF (a := 73) (j := 5) (v := 108) (by decide) (by decide)
  refine e_aload_n (i := 0) rfl dX0_init_78 ?_
  refine q_new (nc := 23) (ns := 2618) hko 4 2 rfl dX0_init_79 (by decide) nl_RX0_25 hz18 (by decide +kernel) (by decide +kernel) (by decide) rfl rfl ?_
  have hz19 := hz18.up
  refine e_dup rfl dX0_init_82 ?_
  refine e_bipush (v := 12) (by decide) dX0_init_83 ?_
  refine q_cI (nc := 22) (ns := 2606) [.int 12] hko dX0_init_85 ml_RX0_27 (by decide) rfl (by decide) (Nat.le_of_ble_eq_true rfl) rfl rfl (nRow (N := 12) hko hz19 (by exact ⟨by decide +kernel, by decide, by decide⟩) (by decide +kernel) (by decide +kernel) (by decide) (by decide) (by decide)) ?_
  have hz20 := (hz19.up).putF (a := 110) (j := 0) (v := 111) (by decide) (by decide)
  refine q_putF 0 6 dX0_init_88 fl_RX0_43 (Or.inr ⟨rfl, rfl, fw_RX0_43⟩) rfl (by exact ⟨by decide +kernel, by decide, by decide⟩) ?_
  have hz21 := hz20.putF (a := 73) (j := 6) (v := 110) (by decide) (by decide)
  refine e_aload_n (i := 0) rfl dX0_init_91 ?_
  refine q_new (nc := 21) (ns := 2604) hko 4 2 rfl dX0_init_92 (by decide) nl_RX0_25 hz21 (by decide +kernel) (by decide +kernel) (by decide) rfl rfl ?_
  have hz22 := hz21.up
  refine e_dup rfl dX0_init_95 ?_
  refine e_bipush (v := 12) (by decide) dX0_init_96 ?_
  refine q_cI (nc := 20) (ns := 2592) [.int 12] hko dX0_init_98 ml_RX0_27 (by decide) rfl (by decide) (Nat.le_of_ble_eq_true rfl) rfl rfl (nRow (N := 12) hko hz22 (by exact ⟨by decide +kernel, by decide, by decide⟩) (by decide +kernel) (by decide +kernel) (by decide) (by decide) (by decide)) ?_
  have hz23 := (hz22.up).putF (a := 112) (j := 0) (v := 113) (by decide) (by decide)
  refine q_putF 0 7 dX0_init_101 fl_RX0_46 (Or.inr ⟨rfl, rfl, fw_RX0_46⟩) rfl (by exact ⟨by decide +kernel, by decide, by decide⟩) ?_
  have hz24 := hz23.putF (a := 73) (j := 7) (v := 112) (by decide) (by decide)
  refine e_aload_n (i := 0) rfl dX0_init_104 ?_
  refine q_new (nc := 19) (ns := 2590) hko 4 2 rfl dX0_init_105 (by decide) nl_RX0_25 hz24 (by decide +kernel) (by decide +kernel) (by decide) rfl rfl ?_
  have hz25 := hz24.up
  refine e_dup rfl dX0_init_108 ?_
  refine e_bipush (v := 12) (by decide) dX0_init_109 ?_
  refine q_cI (nc := 18) (ns := 2578) [.int 12] hko dX0_init_111 ml_RX0_27 (by decide) rfl (by decide) (Nat.le_of_ble_eq_true rfl) rfl rfl (nRow (N := 12) hko hz25 (by exact ⟨by decide +kernel, by decide, by decide⟩) (by decide +kernel) (by decide +kernel) (by decide) (by decide) (by decide)) ?_
  have hz26 := (hz25.up).putF (a := 114) (j := 0) (v := 115) (by decide) (by decide)
  refine q_putF 0 8 dX0_init_114 fl_RX0_49 (Or.inr ⟨rfl, rfl, fw_RX0_49⟩) rfl (by exact ⟨by decide +kernel, by decide, by decide⟩) ?_
  have hz27 := hz26.putF (a := 73) (j := 8) (v := 114) (by decide) (by decide)
  refine e_aload_n (i := 0) rfl dX0_init_117 ?_
  refine q_new (nc := 17) (ns := 2576) hko 4 2 rfl dX0_init_118 (by decide) nl_RX0_25 hz27 (by decide +kernel) (by decide +kernel) (by decide) rfl rfl ?_
  have hz28 := hz27.up
  refine e_dup rfl dX0_init_121 ?_
  refine e_bipush (v := 12) (by decide) dX0_init_122 ?_
  refine q_cI (nc := 16) (ns := 2564) [.int 12] hko dX0_init_124 ml_RX0_27 (by decide) rfl (by decide) (Nat.le_of_ble_eq_true rfl) rfl rfl (nRow (N := 12) hko hz28 (by exact ⟨by decide +kernel, by decide, by decide⟩) (by decide +kernel) (by decide +kernel) (by decide) (by decide) (by decide)) ?_
  have hz29 := (hz28.up).putF (a := 116) (j := 0) (v := 117) (by decide) (by decide)
  refine q_putF 0 9 dX0_init_127 fl_RX0_52 (Or.inr ⟨rfl, rfl, fw_RX0_52⟩) rfl (by exact ⟨by decide +kernel, by decide, by decide⟩) ?_
  have hz30 := hz29.putF (a := 73) (j := 9) (v := 116) (by decide) (by decide)
  refine e_aload_n (i := 0) rfl dX0_init_130 ?_
  refine q_new (nc := 15) (ns := 2562) hko 4 2 rfl dX0_init_131 (by decide) nl_RX0_25 hz30 (by decide +kernel) (by decide +kernel) (by decide) rfl rfl ?_
  have hz31 := hz30.up
  refine e_dup rfl dX0_init_134 ?_
  refine e_bipush (v := 48) (by decide) dX0_init_135 ?_
  refine q_cI (nc := 14) (ns := 2514) [.int 48] hko dX0_init_137 ml_RX0_27 (by decide) rfl (by decide) (Nat.le_of_ble_eq_true rfl) rfl rfl (nRow (N := 48) hko hz31 (by exact ⟨by decide +kernel, by decide, by decide⟩) (by decide +kernel) (by decide +kernel) (by decide) (by decide) (by decide)) ?_
  have hz32 := (hz31.up).putF (a := 118) (j := 0) (v := 119) (by decide) (by decide)
  refine q_putF 0 10 dX0_init_140 fl_RX0_55 (Or.inr ⟨rfl, rfl, fw_RX0_55⟩) rfl (by exact ⟨by decide +kernel, by decide, by decide⟩) ?_
  have hz33 := hz32.putF (a := 73) (j := 10) (v := 118) (by decide) (by decide)
  refine e_aload_n (i := 0) rfl dX0_init_143 ?_
  refine q_new (nc := 13) (ns := 2512) hko 4 2 rfl dX0_init_144 (by decide) nl_RX0_25 hz33 (by decide +kernel) (by decide +kernel) (by decide) rfl rfl ?_
  have hz34 := hz33.up
  refine e_dup rfl dX0_init_147 ?_
  refine e_sipush (v := 250) (by decide) dX0_init_148 ?_
  refine q_cI (nc := 12) (ns := 2262) [.int 250] hko dX0_init_151 ml_RX0_27 (by decide) rfl (by decide) (Nat.le_of_ble_eq_true rfl) rfl rfl (nRow (N := 250) hko hz34 (by exact ⟨by decide +kernel, by decide, by decide⟩) (by decide +kernel) (by decide +kernel) (by decide) (by decide) (by decide)) ?_
  have hz35 := (hz34.up).putF (a := 120) (j := 0) (v := 121) (by decide) (by decide)
  refine q_putF 0 11 dX0_init_154 fl_RX0_58 (Or.inr ⟨rfl, rfl, fw_RX0_58⟩) rfl (by exact ⟨by decide +kernel, by decide, by decide⟩) ?_
  have hz36 := hz35.putF (a := 73) (j := 11) (v := 120) (by decide) (by decide)
  refine e_aload_n (i := 0) rfl dX0_init_157 ?_
  refine q_new (nc := 11) (ns := 2260) hko 4 2 rfl dX0_init_158 (by decide) nl_RX0_25 hz36 (by decide +kernel) (by decide +kernel) (by decide) rfl rfl ?_
  have hz37 := hz36.up
  refine e_dup rfl dX0_init_161 ?_
  refine e_sipush (v := 250) (by decide) dX0_init_162 ?_
  refine q_cI (nc := 10) (ns := 2010) [.int 250] hko dX0_init_165 ml_RX0_27 (by decide) rfl (by decide) (Nat.le_of_ble_eq_true rfl) rfl rfl (nRow (N := 250) hko hz37 (by exact ⟨by decide +kernel, by decide, by decide⟩) (by decide +kernel) (by decide +kernel) (by decide) (by decide) (by decide)) ?_
  have hz38 := (hz37.up).putF (a := 122) (j := 0) (v := 123) (by decide) (by decide)
  refine q_putF 0 12 dX0_init_168 fl_RX0_61 (Or.inr ⟨rfl, rfl, fw_RX0_61⟩) rfl (by exact ⟨by decide +kernel, by decide, by decide⟩) ?_
  have hz39 := hz38.putF (a := 73) (j := 12) (v := 122) (by decide) (by decide)
  refine e_aload_n (i := 0) rfl dX0_init_171 ?_
  refine q_new (nc := 9) (ns := 2008) hko 4 2 rfl dX0_init_172 (by decide) nl_RX0_25 hz39 (by decide +kernel) (by decide +kernel) (by decide) rfl rfl ?_
  have hz40 := hz39.up
  refine e_dup rfl dX0_init_175 ?_
  refine e_sipush (v := 250) (by decide) dX0_init_176 ?_
  refine q_cI (nc := 8) (ns := 1758) [.int 250] hko dX0_init_179 ml_RX0_27 (by decide) rfl (by decide) (Nat.le_of_ble_eq_true rfl) rfl rfl (nRow (N := 250) hko hz40 (by exact ⟨by decide +kernel, by decide, by decide⟩) (by decide +kernel) (by decide +kernel) (by decide) (by decide) (by decide)) ?_
  have hz41 := (hz40.up).putF (a := 124) (j := 0) (v := 125) (by decide) (by decide)
  refine q_putF 0 13 dX0_init_182 fl_RX0_64 (Or.inr ⟨rfl, rfl, fw_RX0_64⟩) rfl (by exact ⟨by decide +kernel, by decide, by decide⟩) ?_
  have hz42 := hz41.putF (a := 73) (j := 13) (v := 124) (by decide) (by decide)
  refine e_aload_n (i := 0) rfl dX0_init_185 ?_
  refine q_new (nc := 7) (ns := 1756) hko 4 2 rfl dX0_init_186 (by decide) nl_RX0_25 hz42 (by decide +kernel) (by decide +kernel) (by decide) rfl rfl ?_
  have hz43 := hz42.up
  refine e_dup rfl dX0_init_189 ?_
  refine e_sipush (v := 250) (by decide) dX0_init_190 ?_
  refine q_cI (nc := 6) (ns := 1506) [.int 250] hko dX0_init_193 ml_RX0_27 (by decide) rfl (by decide) (Nat.le_of_ble_eq_true rfl) rfl rfl (nRow (N := 250) hko hz43 (by exact ⟨by decide +kernel, by decide, by decide⟩) (by decide +kernel) (by decide +kernel) (by decide) (by decide) (by decide)) ?_
  have hz44 := (hz43.up).putF (a := 126) (j := 0) (v := 127) (by decide) (by decide)
  refine q_putF 0 14 dX0_init_196 fl_RX0_67 (Or.inr ⟨rfl, rfl, fw_RX0_67⟩) rfl (by exact ⟨by decide +kernel, by decide, by decide⟩) ?_
  have hz45 := hz44.putF (a := 73) (j := 14) (v := 126) (by decide) (by decide)
  refine e_aload_n (i := 0) rfl dX0_init_199 ?_
  refine q_new (nc := 5) (ns := 1504) hko 4 2 rfl dX0_init_200 (by decide) nl_RX0_25 hz45 (by decide +kernel) (by decide +kernel) (by decide) rfl rfl ?_
  have hz46 := hz45.up
  refine e_dup rfl dX0_init_203 ?_
  refine e_sipush (v := 500) (by decide) dX0_init_204 ?_
  refine q_cI (nc := 4) (ns := 1004) [.int 500] hko dX0_init_207 ml_RX0_27 (by decide) rfl (by decide) (Nat.le_of_ble_eq_true rfl) rfl rfl (nRow (N := 500) hko hz46 (by exact ⟨by decide +kernel, by decide, by decide⟩) (by decide +kernel) (by decide +kernel) (by decide) (by decide) (by decide)) ?_
  have hz47 := (hz46.up).putF (a := 128) (j := 0) (v := 129) (by decide) (by decide)
  refine q_putF 0 15 dX0_init_210 fl_RX0_70 (Or.inr ⟨rfl, rfl, fw_RX0_70⟩) rfl (by exact ⟨by decide +kernel, by decide, by decide⟩) ?_
  have hz48 := hz47.putF (a := 73) (j := 15) (v := 128) (by decide) (by decide)
  refine e_aload_n (i := 0) rfl dX0_init_213 ?_
  refine q_new (nc := 3) (ns := 1002) hko 4 2 rfl dX0_init_214 (by decide) nl_RX0_25 hz48 (by decide +kernel) (by decide +kernel) (by decide) rfl rfl ?_
  have hz49 := hz48.up
  refine e_dup rfl dX0_init_217 ?_
  refine e_sipush (v := 500) (by decide) dX0_init_218 ?_
  refine q_cI (nc := 2) (ns := 502) [.int 500] hko dX0_init_221 ml_RX0_27 (by decide) rfl (by decide) (Nat.le_of_ble_eq_true rfl) rfl rfl (nRow (N := 500) hko hz49 (by exact ⟨by decide +kernel, by decide, by decide⟩) (by decide +kernel) (by decide +kernel) (by decide) (by decide) (by decide)) ?_
  have hz50 := (hz49.up).putF (a := 130) (j := 0) (v := 131) (by decide) (by decide)
  refine q_putF 0 16 dX0_init_224 fl_RX0_73 (Or.inr ⟨rfl, rfl, fw_RX0_73⟩) rfl (by exact ⟨by decide +kernel, by decide, by decide⟩) ?_
  have hz51 := hz50.putF (a := 73) (j := 16) (v := 130) (by decide) (by decide)
  refine e_aload_n (i := 0) rfl dX0_init_227 ?_
  refine q_new (nc := 1) (ns := 500) hko 4 2 rfl dX0_init_228 (by decide) nl_RX0_25 hz51 (by decide +kernel) (by decide +kernel) (by decide) rfl rfl ?_
  have hz52 := hz51.up
  refine e_dup rfl dX0_init_231 ?_
  refine e_sipush (v := 500) (by decide) dX0_init_232 ?_
  refine q_cI (nc := 0) (ns := 0) [.int 500] hko dX0_init_235 ml_RX0_27 (by decide) rfl (by decide) (Nat.le_of_ble_eq_true rfl) rfl rfl (nRow (N := 500) hko hz52 (by exact ⟨by decide +kernel, by decide, by decide⟩) (by decide +kernel) (by decide +kernel) (by decide) (by decide) (by decide)) ?_
  have hz53 := (hz52.up).putF (a := 132) (j := 0) (v := 133) (by decide) (by decide)
  refine q_putF 0 17 dX0_init_238 fl_RX0_76 (Or.inr ⟨rfl, rfl, fw_RX0_76⟩) rfl (by exact ⟨by decide +kernel, by decide, by decide⟩) ?_
  have hz54 := hz53.putF (a := 73) (j := 17) (v := 132) (by decide) (by decide)
  exact e_vret dX0_init_241 rfl ⟨rfl, rfl⟩
def Fn1_149 (F : fT) : fT := (a_u2 (a_u2 (a_u2 (a_u2 (a_u2 (a_u2 (a_u2 (a_u2 (a_u2 (a_u2 (a_u2 (a_u2 (a_u2 (a_u2 F 150 0 151) 149 0 150) 152 0 153) 149 1 152) 154 0 155) 149 2 154) 156 0 157) 149 3 156) 158 0 159) 149 4 158) 160 0 161) 149 5 160) 162 0 163) 149 6 162)
set_option maxRecDepth 100000 in
set_option maxHeartbeats 4000000 in
theorem zn1_149 {I : iT} {J : jT} {F : fT} (hz : ZR 149 I J F) : ZR 163 I J (Fn1_149 F) := by
  have hz1 := hz.up
  have hz2 := (hz1.up).putF (a := 150) (j := 0) (v := 151) (by decide) (by decide)
  have hz3 := hz2.putF (a := 149) (j := 0) (v := 150) (by decide) (by decide)
  have hz4 := hz3.up
  have hz5 := (hz4.up).putF (a := 152) (j := 0) (v := 153) (by decide) (by decide)
  have hz6 := hz5.putF (a := 149) (j := 1) (v := 152) (by decide) (by decide)
  have hz7 := hz6.up
  have hz8 := (hz7.up).putF (a := 154) (j := 0) (v := 155) (by decide) (by decide)
  have hz9 := hz8.putF (a := 149) (j := 2) (v := 154) (by decide) (by decide)
  have hz10 := hz9.up
  have hz11 := (hz10.up).putF (a := 156) (j := 0) (v := 157) (by decide) (by decide)
  have hz12 := hz11.putF (a := 149) (j := 3) (v := 156) (by decide) (by decide)
  have hz13 := hz12.up
  have hz14 := (hz13.up).putF (a := 158) (j := 0) (v := 159) (by decide) (by decide)
  have hz15 := hz14.putF (a := 149) (j := 4) (v := 158) (by decide) (by decide)
  have hz16 := hz15.up
  have hz17 := (hz16.up).putF (a := 160) (j := 0) (v := 161) (by decide) (by decide)
  have hz18 := hz17.putF (a := 149) (j := 5) (v := 160) (by decide) (by decide)
  have hz19 := hz18.up
  have hz20 := (hz19.up).putF (a := 162) (j := 0) (v := 163) (by decide) (by decide)
  have hz21 := hz20.putF (a := 149) (j := 6) (v := 162) (by decide) (by decide)
  exact hz21
set_option maxRecDepth 100000 in
set_option maxHeartbeats 4000000 in
theorem n1_149 {l : Launch} {K : a_KT} {g : a_GT} (hko : a_kok K) {I : iT} {J : jT} {F : fT} (hz : ZR 149 I J F) : C l K g 2 14 2374 yX1_init cX1_init 1 none [.ref 149] (hq 149 I J F) (fun r h2 => r = none ∧ h2 = hq 163 I J (Fn1_149 F)) := by
  refine c_of [.ref 149] (by decide) (Nat.le_of_ble_eq_true rfl) rfl ?_
  refine e_aload_n (i := 0) rfl dX1_init_0 ?_
  refine e_objInit dX1_init_1 ol_RX1_3 oi_init oc_init (by decide) (by decide) (Nat.le_of_ble_eq_true rfl) ?_
  refine e_aload_n (i := 0) rfl dX1_init_4 ?_
  refine q_new (nc := 13) (ns := 2372) hko 4 2 rfl dX1_init_5 (by decide) nl_RX1_9 hz (by decide +kernel) (by decide +kernel) (by decide) rfl rfl ?_
  have hz1 := hz.up
  refine e_dup rfl dX1_init_8 ?_
  refine e_bipush (v := 80) (by decide) dX1_init_9 ?_
  refine q_cI (nc := 12) (ns := 2292) [.int 80] hko dX1_init_11 ml_RX1_11 (by decide) rfl (by decide) (Nat.le_of_ble_eq_true rfl) rfl rfl (nRow (N := 80) hko hz1 (by exact ⟨by decide +kernel, by decide, by decide⟩) (by decide +kernel) (by decide +kernel) (by decide) (by decide) (by decide)) ?_
  have hz2 := (hz1.up).putF (a := 150) (j := 0) (v := 151) (by decide) (by decide)
  refine q_putF 1 0 dX1_init_14 fl_RX1_14 (Or.inr ⟨rfl, rfl, fw_RX1_14⟩) rfl (by exact ⟨by decide +kernel, by decide, by decide⟩) ?_
  have hz3 := hz2.putF (a := 149) (j := 0) (v := 150) (by decide) (by decide)
  refine e_aload_n (i := 0) rfl dX1_init_17 ?_
  refine q_new (nc := 11) (ns := 2290) hko 4 2 rfl dX1_init_18 (by decide) nl_RX1_9 hz3 (by decide +kernel) (by decide +kernel) (by decide) rfl rfl ?_
  have hz4 := hz3.up
  refine e_dup rfl dX1_init_21 ?_
  refine e_sipush (v := 160) (by decide) dX1_init_22 ?_
  refine q_cI (nc := 10) (ns := 2130) [.int 160] hko dX1_init_25 ml_RX1_11 (by decide) rfl (by decide) (Nat.le_of_ble_eq_true rfl) rfl rfl (nRow (N := 160) hko hz4 (by exact ⟨by decide +kernel, by decide, by decide⟩) (by decide +kernel) (by decide +kernel) (by decide) (by decide) (by decide)) ?_
  have hz5 := (hz4.up).putF (a := 152) (j := 0) (v := 153) (by decide) (by decide)
  refine q_putF 1 1 dX1_init_28 fl_RX1_20 (Or.inr ⟨rfl, rfl, fw_RX1_20⟩) rfl (by exact ⟨by decide +kernel, by decide, by decide⟩) ?_
  have hz6 := hz5.putF (a := 149) (j := 1) (v := 152) (by decide) (by decide)
  refine e_aload_n (i := 0) rfl dX1_init_31 ?_
  refine q_new (nc := 9) (ns := 2128) hko 4 2 rfl dX1_init_32 (by decide) nl_RX1_9 hz6 (by decide +kernel) (by decide +kernel) (by decide) rfl rfl ?_
  have hz7 := hz6.up
  refine e_dup rfl dX1_init_35 ?_
  refine e_sipush (v := 160) (by decide) dX1_init_36 ?_
  refine q_cI (nc := 8) (ns := 1968) [.int 160] hko dX1_init_39 ml_RX1_11 (by decide) rfl (by decide) (Nat.le_of_ble_eq_true rfl) rfl rfl (nRow (N := 160) hko hz7 (by exact ⟨by decide +kernel, by decide, by decide⟩) (by decide +kernel) (by decide +kernel) (by decide) (by decide) (by decide)) ?_
  have hz8 := (hz7.up).putF (a := 154) (j := 0) (v := 155) (by decide) (by decide)
  refine q_putF 1 2 dX1_init_42 fl_RX1_23 (Or.inr ⟨rfl, rfl, fw_RX1_23⟩) rfl (by exact ⟨by decide +kernel, by decide, by decide⟩) ?_
  have hz9 := hz8.putF (a := 149) (j := 2) (v := 154) (by decide) (by decide)
  refine e_aload_n (i := 0) rfl dX1_init_45 ?_
  refine q_new (nc := 7) (ns := 1966) hko 4 2 rfl dX1_init_46 (by decide) nl_RX1_9 hz9 (by decide +kernel) (by decide +kernel) (by decide) rfl rfl ?_
  have hz10 := hz9.up
  refine e_dup rfl dX1_init_49 ?_
  refine e_sipush (v := 160) (by decide) dX1_init_50 ?_
  refine q_cI (nc := 6) (ns := 1806) [.int 160] hko dX1_init_53 ml_RX1_11 (by decide) rfl (by decide) (Nat.le_of_ble_eq_true rfl) rfl rfl (nRow (N := 160) hko hz10 (by exact ⟨by decide +kernel, by decide, by decide⟩) (by decide +kernel) (by decide +kernel) (by decide) (by decide) (by decide)) ?_
  have hz11 := (hz10.up).putF (a := 156) (j := 0) (v := 157) (by decide) (by decide)
  refine q_putF 1 3 dX1_init_56 fl_RX1_26 (Or.inr ⟨rfl, rfl, fw_RX1_26⟩) rfl (by exact ⟨by decide +kernel, by decide, by decide⟩) ?_
  have hz12 := hz11.putF (a := 149) (j := 3) (v := 156) (by decide) (by decide)
  refine e_aload_n (i := 0) rfl dX1_init_59 ?_
  refine q_new (nc := 5) (ns := 1804) hko 4 2 rfl dX1_init_60 (by decide) nl_RX1_9 hz12 (by decide +kernel) (by decide +kernel) (by decide) rfl rfl ?_
  have hz13 := hz12.up
  refine e_dup rfl dX1_init_63 ?_
  refine e_sipush (v := 600) (by decide) dX1_init_64 ?_
  refine q_cI (nc := 4) (ns := 1204) [.int 600] hko dX1_init_67 ml_RX1_11 (by decide) rfl (by decide) (Nat.le_of_ble_eq_true rfl) rfl rfl (nRow (N := 600) hko hz13 (by exact ⟨by decide +kernel, by decide, by decide⟩) (by decide +kernel) (by decide +kernel) (by decide) (by decide) (by decide)) ?_
  have hz14 := (hz13.up).putF (a := 158) (j := 0) (v := 159) (by decide) (by decide)
  refine q_putF 1 4 dX1_init_70 fl_RX1_29 (Or.inr ⟨rfl, rfl, fw_RX1_29⟩) rfl (by exact ⟨by decide +kernel, by decide, by decide⟩) ?_
  have hz15 := hz14.putF (a := 149) (j := 4) (v := 158) (by decide) (by decide)
  refine e_aload_n (i := 0) rfl dX1_init_73 ?_
  refine q_new (nc := 3) (ns := 1202) hko 4 2 rfl dX1_init_74 (by decide) nl_RX1_9 hz15 (by decide +kernel) (by decide +kernel) (by decide) rfl rfl ?_
  have hz16 := hz15.up
  refine e_dup rfl dX1_init_77 ?_
  refine e_sipush (v := 600) (by decide) dX1_init_78 ?_
  refine q_cI (nc := 2) (ns := 602) [.int 600] hko dX1_init_81 ml_RX1_11 (by decide) rfl (by decide) (Nat.le_of_ble_eq_true rfl) rfl rfl (nRow (N := 600) hko hz16 (by exact ⟨by decide +kernel, by decide, by decide⟩) (by decide +kernel) (by decide +kernel) (by decide) (by decide) (by decide)) ?_
  have hz17 := (hz16.up).putF (a := 160) (j := 0) (v := 161) (by decide) (by decide)
  refine q_putF 1 5 dX1_init_84 fl_RX1_32 (Or.inr ⟨rfl, rfl, fw_RX1_32⟩) rfl (by exact ⟨by decide +kernel, by decide, by decide⟩) ?_
  have hz18 := hz17.putF (a := 149) (j := 5) (v := 160) (by decide) (by decide)
  refine e_aload_n (i := 0) rfl dX1_init_87 ?_
  refine q_new (nc := 1) (ns := 600) hko 4 2 rfl dX1_init_88 (by decide) nl_RX1_9 hz18 (by decide +kernel) (by decide +kernel) (by decide) rfl rfl ?_
  have hz19 := hz18.up
  refine e_dup rfl dX1_init_91 ?_
  refine e_sipush (v := 600) (by decide) dX1_init_92 ?_
  refine q_cI (nc := 0) (ns := 0) [.int 600] hko dX1_init_95 ml_RX1_11 (by decide) rfl (by decide) (Nat.le_of_ble_eq_true rfl) rfl rfl (nRow (N := 600) hko hz19 (by exact ⟨by decide +kernel, by decide, by decide⟩) (by decide +kernel) (by decide +kernel) (by decide) (by decide) (by decide)) ?_
  have hz20 := (hz19.up).putF (a := 162) (j := 0) (v := 163) (by decide) (by decide)
  refine q_putF 1 6 dX1_init_98 fl_RX1_35 (Or.inr ⟨rfl, rfl, fw_RX1_35⟩) rfl (by exact ⟨by decide +kernel, by decide, by decide⟩) ?_
  have hz21 := hz20.putF (a := 149) (j := 6) (v := 162) (by decide) (by decide)
  exact e_vret dX1_init_101 rfl ⟨rfl, rfl⟩
def Fn9_142 (F : fT) : fT := (a_u2 (a_u2 (a_u2 (a_u2 (a_u2 (a_u2 F 143 0 144) 142 1 143) 145 0 146) 142 2 145) 142 0 6) 142 3 73)
set_option maxRecDepth 100000 in
set_option maxHeartbeats 4000000 in
theorem zn9_142 {I : iT} {J : jT} {F : fT} (hz : ZR 142 I J F) : ZR 146 I J (Fn9_142 F) := by
  have hz1 := hz.up
  have hz2 := (hz1.up).putF (a := 143) (j := 0) (v := 144) (by decide) (by decide)
  have hz3 := hz2.putF (a := 142) (j := 1) (v := 143) (by decide) (by decide)
  have hz4 := hz3.up
  have hz5 := (hz4.up).putF (a := 145) (j := 0) (v := 146) (by decide) (by decide)
  have hz6 := hz5.putF (a := 142) (j := 2) (v := 145) (by decide) (by decide)
  have hz7 := hz6.putF (a := 142) (j := 0) (v := 6) (by decide) (by decide)
  have hz8 := hz7.putF (a := 142) (j := 3) (v := 73) (by decide) (by decide)
  exact hz8
set_option maxRecDepth 100000 in
set_option maxHeartbeats 4000000 in
theorem n9_142 {l : Launch} {K : a_KT} {g : a_GT} (hko : a_kok K) {I : iT} {J : jT} {F : fT} (hz : ZR 142 I J F) : C l K g 2 4 150 yX9_init cX9_init 3 none [.ref 142, .ref 6, .ref 73] (hq 142 I J F) (fun r h2 => r = none ∧ h2 = hq 146 I J (Fn9_142 F)) := by
  refine c_of [.ref 142, .ref 6, .ref 73] (by decide) (Nat.le_of_ble_eq_true rfl) rfl ?_
  refine e_aload_n (i := 0) rfl dX9_init_0 ?_
  refine e_objInit dX9_init_1 ol_RX9_3 oi_init oc_init (by decide) (by decide) (Nat.le_of_ble_eq_true rfl) ?_
  refine e_aload_n (i := 0) rfl dX9_init_4 ?_
  refine q_new (nc := 3) (ns := 148) hko 4 2 rfl dX9_init_5 (by decide) nl_RX9_9 hz (by decide +kernel) (by decide +kernel) (by decide) rfl rfl ?_
  have hz1 := hz.up
  refine e_dup rfl dX9_init_8 ?_
  refine e_bipush (v := 73) (by decide) dX9_init_9 ?_
  refine q_cI (nc := 2) (ns := 75) [.int 73] hko dX9_init_11 ml_RX9_11 (by decide) rfl (by decide) (Nat.le_of_ble_eq_true rfl) rfl rfl (nRow (N := 73) hko hz1 (by exact ⟨by decide +kernel, by decide, by decide⟩) (by decide +kernel) (by decide +kernel) (by decide) (by decide) (by decide)) ?_
  have hz2 := (hz1.up).putF (a := 143) (j := 0) (v := 144) (by decide) (by decide)
  refine q_putF 9 1 dX9_init_14 fl_RX9_14 (Or.inr ⟨rfl, rfl, fw_RX9_14⟩) rfl (by exact ⟨by decide +kernel, by decide, by decide⟩) ?_
  have hz3 := hz2.putF (a := 142) (j := 1) (v := 143) (by decide) (by decide)
  refine e_aload_n (i := 0) rfl dX9_init_17 ?_
  refine q_new (nc := 1) (ns := 73) hko 4 2 rfl dX9_init_18 (by decide) nl_RX9_9 hz3 (by decide +kernel) (by decide +kernel) (by decide) rfl rfl ?_
  have hz4 := hz3.up
  refine e_dup rfl dX9_init_21 ?_
  refine e_bipush (v := 73) (by decide) dX9_init_22 ?_
  refine q_cI (nc := 0) (ns := 0) [.int 73] hko dX9_init_24 ml_RX9_11 (by decide) rfl (by decide) (Nat.le_of_ble_eq_true rfl) rfl rfl (nRow (N := 73) hko hz4 (by exact ⟨by decide +kernel, by decide, by decide⟩) (by decide +kernel) (by decide +kernel) (by decide) (by decide) (by decide)) ?_
  have hz5 := (hz4.up).putF (a := 145) (j := 0) (v := 146) (by decide) (by decide)
  refine q_putF 9 2 dX9_init_27 fl_RX9_20 (Or.inr ⟨rfl, rfl, fw_RX9_20⟩) rfl (by exact ⟨by decide +kernel, by decide, by decide⟩) ?_
  have hz6 := hz5.putF (a := 142) (j := 2) (v := 145) (by decide) (by decide)
  refine e_aload_n (i := 0) rfl dX9_init_30 ?_
  refine e_aload_n (i := 1) rfl dX9_init_31 ?_
  refine q_putF 9 0 dX9_init_32 fl_RX9_23 (Or.inr ⟨rfl, rfl, fw_RX9_23⟩) rfl (by exact ⟨by decide +kernel, by decide, by decide⟩) ?_
  have hz7 := hz6.putF (a := 142) (j := 0) (v := 6) (by decide) (by decide)
  refine e_aload_n (i := 0) rfl dX9_init_35 ?_
  refine e_aload_n (i := 2) rfl dX9_init_36 ?_
  refine q_putF 9 3 dX9_init_37 fl_RX9_27 (Or.inl rfl) rfl (by exact ⟨by decide +kernel, by decide, by decide⟩) ?_
  have hz8 := hz7.putF (a := 142) (j := 3) (v := 73) (by decide) (by decide)
  exact e_vret dX9_init_40 rfl ⟨rfl, rfl⟩
def Fn7_147 (F : fT) : fT := (a_u2 (a_u2 (a_u2 F 147 0 6) 147 1 135) 147 2 91)
set_option maxRecDepth 100000 in
set_option maxHeartbeats 4000000 in
theorem zn7_147 {I : iT} {J : jT} {F : fT} (hz : ZR 147 I J F) : ZR 147 I J (Fn7_147 F) := by
  have hz1 := hz.putF (a := 147) (j := 0) (v := 6) (by decide) (by decide)
  have hz2 := hz1.putF (a := 147) (j := 1) (v := 135) (by decide) (by decide)
  have hz3 := hz2.putF (a := 147) (j := 2) (v := 91) (by decide) (by decide)
  exact hz3
set_option maxRecDepth 100000 in
set_option maxHeartbeats 4000000 in
theorem n7_147 {l : Launch} {K : a_KT} {g : a_GT} (hko : a_kok K) {I : iT} {J : jT} {F : fT} (hz : ZR 147 I J F) : C l K g 1 0 0 yX7_init cX7_init 4 none [.ref 147, .ref 6, .ref 135, .ref 91] (hq 147 I J F) (fun r h2 => r = none ∧ h2 = hq 147 I J (Fn7_147 F)) := by
  refine c_of [.ref 147, .ref 6, .ref 135, .ref 91] (by decide) (Nat.le_of_ble_eq_true rfl) rfl ?_
  refine e_aload_n (i := 0) rfl dX7_init_0 ?_
  refine e_objInit dX7_init_1 ol_RX7_3 oi_init oc_init (by decide) (by decide) (Nat.le_of_ble_eq_true rfl) ?_
  refine e_aload_n (i := 0) rfl dX7_init_4 ?_
  refine e_aload_n (i := 1) rfl dX7_init_5 ?_
  refine q_putF 7 0 dX7_init_6 fl_RX7_9 (Or.inr ⟨rfl, rfl, fw_RX7_9⟩) rfl (by exact ⟨by decide +kernel, by decide, by decide⟩) ?_
  have hz1 := hz.putF (a := 147) (j := 0) (v := 6) (by decide) (by decide)
  refine e_aload_n (i := 0) rfl dX7_init_9 ?_
  refine e_aload_n (i := 2) rfl dX7_init_10 ?_
  refine q_putF 7 1 dX7_init_11 fl_RX7_15 (Or.inr ⟨rfl, rfl, fw_RX7_15⟩) rfl (by exact ⟨by decide +kernel, by decide, by decide⟩) ?_
  have hz2 := hz1.putF (a := 147) (j := 1) (v := 135) (by decide) (by decide)
  refine e_aload_n (i := 0) rfl dX7_init_14 ?_
  refine e_aload_n (i := 3) rfl dX7_init_15 ?_
  refine q_putF 7 2 dX7_init_16 fl_RX7_19 (Or.inl rfl) rfl (by exact ⟨by decide +kernel, by decide, by decide⟩) ?_
  have hz3 := hz2.putF (a := 147) (j := 2) (v := 91) (by decide) (by decide)
  exact e_vret dX7_init_19 rfl ⟨rfl, rfl⟩
def Fn12_186 (F : fT) : fT := (a_u2 (a_u2 (a_u2 (a_u2 (a_u2 (a_u2 (a_u2 (a_u2 (a_u2 (a_u2 (a_u2 (a_u2 (a_u2 (a_u2 (a_u2 (a_u2 (a_u2 (a_u2 (a_u2 (a_u2 (a_u2 (a_u2 (a_u2 (a_u2 (a_u2 (a_u2 (a_u2 (a_u2 (a_u2 (a_u2 (a_u2 (a_u2 (a_u2 (a_u2 (a_u2 (a_u2 (a_u2 (a_u2 (a_u2 (a_u2 (a_u2 (a_u2 (a_u2 (a_u2 (a_u2 F 186 0 187) 186 11 188) 186 12 189) 186 13 190) 186 14 191) 186 15 192) 186 18 193) 186 19 194) 186 20 195) 186 21 196) 186 22 197) 186 23 198) 186 24 199) 186 25 200) 186 26 201) 186 27 202) 186 28 203) 186 29 204) 186 30 205) 186 37 206) 186 38 207) 186 39 208) 186 40 209) 186 41 210) 186 42 211) 186 52 212) 186 53 213) 186 54 214) 186 55 215) 186 56 216) 186 57 217) 186 58 218) 186 59 219) 186 66 220) 186 67 221) 186 68 222) 186 69 223) 186 70 224) 186 71 225) 186 72 226) 186 73 227) 186 74 228) 186 75 229) 186 77 230) 186 79 231)
set_option maxRecDepth 100000 in
set_option maxHeartbeats 4000000 in
theorem zn12_186 {I : iT} {J : jT} {F : fT} (hz : ZR 186 I J F) : ZR 231 ((a_u2 I 186 10 (-1))) J (Fn12_186 F) := by
  have hz1 := hz.up
  have hz2 := hz1.putF (a := 186) (j := 0) (v := 187) (by decide) (by decide)
  have hz3 := hz2.put1 (a := 186) (j := 10) (v := (-1)) (by decide)
  have hz4 := hz3.up
  have hz5 := hz4.putF (a := 186) (j := 11) (v := 188) (by decide) (by decide)
  have hz6 := hz5.up
  have hz7 := hz6.putF (a := 186) (j := 12) (v := 189) (by decide) (by decide)
  have hz8 := hz7.up
  have hz9 := hz8.putF (a := 186) (j := 13) (v := 190) (by decide) (by decide)
  have hz10 := hz9.up
  have hz11 := hz10.putF (a := 186) (j := 14) (v := 191) (by decide) (by decide)
  have hz12 := hz11.up
  have hz13 := hz12.putF (a := 186) (j := 15) (v := 192) (by decide) (by decide)
  have hz14 := hz13.up
  have hz15 := hz14.putF (a := 186) (j := 18) (v := 193) (by decide) (by decide)
  have hz16 := hz15.up
  have hz17 := hz16.putF (a := 186) (j := 19) (v := 194) (by decide) (by decide)
  have hz18 := hz17.up
  have hz19 := hz18.putF (a := 186) (j := 20) (v := 195) (by decide) (by decide)
  have hz20 := hz19.up
  have hz21 := hz20.putF (a := 186) (j := 21) (v := 196) (by decide) (by decide)
  have hz22 := hz21.up
  have hz23 := hz22.putF (a := 186) (j := 22) (v := 197) (by decide) (by decide)
  have hz24 := hz23.up
  have hz25 := hz24.putF (a := 186) (j := 23) (v := 198) (by decide) (by decide)
  have hz26 := hz25.up
  have hz27 := hz26.putF (a := 186) (j := 24) (v := 199) (by decide) (by decide)
  have hz28 := hz27.up
  have hz29 := hz28.putF (a := 186) (j := 25) (v := 200) (by decide) (by decide)
  have hz30 := hz29.up
  have hz31 := hz30.putF (a := 186) (j := 26) (v := 201) (by decide) (by decide)
  have hz32 := hz31.up
  have hz33 := hz32.putF (a := 186) (j := 27) (v := 202) (by decide) (by decide)
  have hz34 := hz33.up
  have hz35 := hz34.putF (a := 186) (j := 28) (v := 203) (by decide) (by decide)
  have hz36 := hz35.up
  have hz37 := hz36.putF (a := 186) (j := 29) (v := 204) (by decide) (by decide)
  have hz38 := hz37.up
  have hz39 := hz38.putF (a := 186) (j := 30) (v := 205) (by decide) (by decide)
  have hz40 := hz39.up
  have hz41 := hz40.putF (a := 186) (j := 37) (v := 206) (by decide) (by decide)
  have hz42 := hz41.up
  have hz43 := hz42.putF (a := 186) (j := 38) (v := 207) (by decide) (by decide)
  have hz44 := hz43.up
  have hz45 := hz44.putF (a := 186) (j := 39) (v := 208) (by decide) (by decide)
  have hz46 := hz45.up
  have hz47 := hz46.putF (a := 186) (j := 40) (v := 209) (by decide) (by decide)
  have hz48 := hz47.up
  have hz49 := hz48.putF (a := 186) (j := 41) (v := 210) (by decide) (by decide)
  have hz50 := hz49.up
  have hz51 := hz50.putF (a := 186) (j := 42) (v := 211) (by decide) (by decide)
  have hz52 := hz51.up
  have hz53 := hz52.putF (a := 186) (j := 52) (v := 212) (by decide) (by decide)
  have hz54 := hz53.up
  have hz55 := hz54.putF (a := 186) (j := 53) (v := 213) (by decide) (by decide)
  have hz56 := hz55.up
  have hz57 := hz56.putF (a := 186) (j := 54) (v := 214) (by decide) (by decide)
  have hz58 := hz57.up
  have hz59 := hz58.putF (a := 186) (j := 55) (v := 215) (by decide) (by decide)
  have hz60 := hz59.up
  have hz61 := hz60.putF (a := 186) (j := 56) (v := 216) (by decide) (by decide)
  have hz62 := hz61.up
  have hz63 := hz62.putF (a := 186) (j := 57) (v := 217) (by decide) (by decide)
  have hz64 := hz63.up
  have hz65 := hz64.putF (a := 186) (j := 58) (v := 218) (by decide) (by decide)
  have hz66 := hz65.up
  have hz67 := hz66.putF (a := 186) (j := 59) (v := 219) (by decide) (by decide)
  have hz68 := hz67.up
  have hz69 := hz68.putF (a := 186) (j := 66) (v := 220) (by decide) (by decide)
  have hz70 := hz69.up
  have hz71 := hz70.putF (a := 186) (j := 67) (v := 221) (by decide) (by decide)
  have hz72 := hz71.up
  have hz73 := hz72.putF (a := 186) (j := 68) (v := 222) (by decide) (by decide)
  have hz74 := hz73.up
  have hz75 := hz74.putF (a := 186) (j := 69) (v := 223) (by decide) (by decide)
  have hz76 := hz75.up
  have hz77 := hz76.putF (a := 186) (j := 70) (v := 224) (by decide) (by decide)
  have hz78 := hz77.up
  have hz79 := hz78.putF (a := 186) (j := 71) (v := 225) (by decide) (by decide)
  have hz80 := hz79.up
  have hz81 := hz80.putF (a := 186) (j := 72) (v := 226) (by decide) (by decide)
  have hz82 := hz81.up
  have hz83 := hz82.putF (a := 186) (j := 73) (v := 227) (by decide) (by decide)
  have hz84 := hz83.up
  have hz85 := hz84.putF (a := 186) (j := 74) (v := 228) (by decide) (by decide)
  have hz86 := hz85.up
  have hz87 := hz86.putF (a := 186) (j := 75) (v := 229) (by decide) (by decide)
  have hz88 := hz87.up
  have hz89 := hz88.putF (a := 186) (j := 77) (v := 230) (by decide) (by decide)
  have hz90 := hz89.up
  have hz91 := hz90.putF (a := 186) (j := 79) (v := 231) (by decide) (by decide)
  exact hz91
set_option maxRecDepth 100000 in
set_option maxHeartbeats 4000000 in
theorem n12_186 {l : Launch} {K : a_KT} {g : a_GT} (hko : a_kok K) {I : iT} {J : jT} {F : fT} (hz : ZR 186 I J F) : C l K g 1 45 43056 yX12_init cX12_init 1 none [.ref 186] (hq 186 I J F) (fun r h2 => r = none ∧ h2 = hq 231 ((a_u2 I 186 10 (-1))) J (Fn12_186 F)) := by
  refine c_of [.ref 186] (by decide) (Nat.le_of_ble_eq_true rfl) rfl ?_
  refine e_aload_n (i := 0) rfl dX12_init_0 ?_
  refine e_objInit dX12_init_1 ol_RX12_1 oi_init oc_init (by decide) (by decide) (Nat.le_of_ble_eq_true rfl) ?_
  refine e_aload_n (i := 0) rfl dX12_init_4 ?_
  refine e_sipush (v := 1000) (by decide) dX12_init_5 ?_
  refine q_newa (nc := 44) (ns := 42056) hko 0 1000 dX12_init_8 (Or.inl ⟨rfl, rfl⟩) ac_int (by decide) (by decide) (by decide) hz (by decide +kernel) (by decide +kernel) (by decide) rfl rfl ?_
  have hz1 := hz.up
  refine q_putF 12 0 dX12_init_10 fl_RX12_7 (Or.inr ⟨rfl, rfl, fw_RX12_7⟩) rfl (by exact ⟨by decide +kernel, by decide, by decide⟩) ?_
  have hz2 := hz1.putF (a := 186) (j := 0) (v := 187) (by decide) (by decide)
  refine e_aload_n (i := 0) rfl dX12_init_13 ?_
  refine e_iconst (v := (-1)) (by decide) dX12_init_14 ?_
  refine q_putI 12 10 dX12_init_15 fl_RX12_13 rfl rfl (by exact ⟨by decide +kernel, by decide, by decide⟩) ?_
  have hz3 := hz2.put1 (a := 186) (j := 10) (v := (-1)) (by decide)
  refine e_aload_n (i := 0) rfl dX12_init_18 ?_
  refine e_sipush (v := 2800) (by decide) dX12_init_19 ?_
  refine q_newa (nc := 43) (ns := 39256) hko 0 2800 dX12_init_22 (Or.inl ⟨rfl, rfl⟩) ac_int (by decide) (by decide) (by decide) hz3 (by decide +kernel) (by decide +kernel) (by decide) rfl rfl ?_
  have hz4 := hz3.up
  refine q_putF 12 11 dX12_init_24 fl_RX12_17 (Or.inr ⟨rfl, rfl, fw_RX12_17⟩) rfl (by exact ⟨by decide +kernel, by decide, by decide⟩) ?_
  have hz5 := hz4.putF (a := 186) (j := 11) (v := 188) (by decide) (by decide)
  refine e_aload_n (i := 0) rfl dX12_init_27 ?_
  refine e_sipush (v := 2800) (by decide) dX12_init_28 ?_
  refine q_newa (nc := 42) (ns := 36456) hko 0 2800 dX12_init_31 (Or.inl ⟨rfl, rfl⟩) ac_int (by decide) (by decide) (by decide) hz5 (by decide +kernel) (by decide +kernel) (by decide) rfl rfl ?_
  have hz6 := hz5.up
  refine q_putF 12 12 dX12_init_33 fl_RX12_20 (Or.inr ⟨rfl, rfl, fw_RX12_20⟩) rfl (by exact ⟨by decide +kernel, by decide, by decide⟩) ?_
  have hz7 := hz6.putF (a := 186) (j := 12) (v := 189) (by decide) (by decide)
  refine e_aload_n (i := 0) rfl dX12_init_36 ?_
  refine e_sipush (v := 2800) (by decide) dX12_init_37 ?_
  refine q_newa (nc := 41) (ns := 33656) hko 0 2800 dX12_init_40 (Or.inl ⟨rfl, rfl⟩) ac_int (by decide) (by decide) (by decide) hz7 (by decide +kernel) (by decide +kernel) (by decide) rfl rfl ?_
  have hz8 := hz7.up
  refine q_putF 12 13 dX12_init_42 fl_RX12_23 (Or.inr ⟨rfl, rfl, fw_RX12_23⟩) rfl (by exact ⟨by decide +kernel, by decide, by decide⟩) ?_
  have hz9 := hz8.putF (a := 186) (j := 13) (v := 190) (by decide) (by decide)
  refine e_aload_n (i := 0) rfl dX12_init_45 ?_
  refine e_sipush (v := 2800) (by decide) dX12_init_46 ?_
  refine q_newa (nc := 40) (ns := 30856) hko 0 2800 dX12_init_49 (Or.inl ⟨rfl, rfl⟩) ac_int (by decide) (by decide) (by decide) hz9 (by decide +kernel) (by decide +kernel) (by decide) rfl rfl ?_
  have hz10 := hz9.up
  refine q_putF 12 14 dX12_init_51 fl_RX12_26 (Or.inr ⟨rfl, rfl, fw_RX12_26⟩) rfl (by exact ⟨by decide +kernel, by decide, by decide⟩) ?_
  have hz11 := hz10.putF (a := 186) (j := 14) (v := 191) (by decide) (by decide)
  refine e_aload_n (i := 0) rfl dX12_init_54 ?_
  refine e_sipush (v := 2800) (by decide) dX12_init_55 ?_
  refine q_newa (nc := 39) (ns := 28056) hko 1 2800 dX12_init_58 (Or.inr (Or.inl ⟨rfl, rfl⟩)) ac_long (by decide) (by decide) (by decide) hz11 (by decide +kernel) (by decide +kernel) (by decide) rfl rfl ?_
  have hz12 := hz11.up
  refine q_putF 12 15 dX12_init_60 fl_RX12_29 (Or.inr ⟨rfl, rfl, fw_RX12_29⟩) rfl (by exact ⟨by decide +kernel, by decide, by decide⟩) ?_
  have hz13 := hz12.putF (a := 186) (j := 15) (v := 192) (by decide) (by decide)
  refine e_aload_n (i := 0) rfl dX12_init_63 ?_
  refine e_bipush (v := 24) (by decide) dX12_init_64 ?_
  refine q_newa (nc := 38) (ns := 28032) hko 1 24 dX12_init_66 (Or.inr (Or.inl ⟨rfl, rfl⟩)) ac_long (by decide) (by decide) (by decide) hz13 (by decide +kernel) (by decide +kernel) (by decide) rfl rfl ?_
  have hz14 := hz13.up
  refine q_putF 12 18 dX12_init_68 fl_RX12_33 (Or.inr ⟨rfl, rfl, fw_RX12_33⟩) rfl (by exact ⟨by decide +kernel, by decide, by decide⟩) ?_
  have hz15 := hz14.putF (a := 186) (j := 18) (v := 193) (by decide) (by decide)
  refine e_aload_n (i := 0) rfl dX12_init_71 ?_
  refine e_bipush (v := 24) (by decide) dX12_init_72 ?_
  refine q_newa (nc := 37) (ns := 28008) hko 1 24 dX12_init_74 (Or.inr (Or.inl ⟨rfl, rfl⟩)) ac_long (by decide) (by decide) (by decide) hz15 (by decide +kernel) (by decide +kernel) (by decide) rfl rfl ?_
  have hz16 := hz15.up
  refine q_putF 12 19 dX12_init_76 fl_RX12_36 (Or.inr ⟨rfl, rfl, fw_RX12_36⟩) rfl (by exact ⟨by decide +kernel, by decide, by decide⟩) ?_
  have hz17 := hz16.putF (a := 186) (j := 19) (v := 194) (by decide) (by decide)
  refine e_aload_n (i := 0) rfl dX12_init_79 ?_
  refine e_bipush (v := 96) (by decide) dX12_init_80 ?_
  refine q_newa (nc := 36) (ns := 27912) hko 1 96 dX12_init_82 (Or.inr (Or.inl ⟨rfl, rfl⟩)) ac_long (by decide) (by decide) (by decide) hz17 (by decide +kernel) (by decide +kernel) (by decide) rfl rfl ?_
  have hz18 := hz17.up
  refine q_putF 12 20 dX12_init_84 fl_RX12_39 (Or.inr ⟨rfl, rfl, fw_RX12_39⟩) rfl (by exact ⟨by decide +kernel, by decide, by decide⟩) ?_
  have hz19 := hz18.putF (a := 186) (j := 20) (v := 195) (by decide) (by decide)
  refine e_aload_n (i := 0) rfl dX12_init_87 ?_
  refine e_bipush (v := 24) (by decide) dX12_init_88 ?_
  refine q_newa (nc := 35) (ns := 27888) hko 1 24 dX12_init_90 (Or.inr (Or.inl ⟨rfl, rfl⟩)) ac_long (by decide) (by decide) (by decide) hz19 (by decide +kernel) (by decide +kernel) (by decide) rfl rfl ?_
  have hz20 := hz19.up
  refine q_putF 12 21 dX12_init_92 fl_RX12_42 (Or.inr ⟨rfl, rfl, fw_RX12_42⟩) rfl (by exact ⟨by decide +kernel, by decide, by decide⟩) ?_
  have hz21 := hz20.putF (a := 186) (j := 21) (v := 196) (by decide) (by decide)
  refine e_aload_n (i := 0) rfl dX12_init_95 ?_
  refine e_bipush (v := 24) (by decide) dX12_init_96 ?_
  refine q_newa (nc := 34) (ns := 27864) hko 0 24 dX12_init_98 (Or.inl ⟨rfl, rfl⟩) ac_int (by decide) (by decide) (by decide) hz21 (by decide +kernel) (by decide +kernel) (by decide) rfl rfl ?_
  have hz22 := hz21.up
  refine q_putF 12 22 dX12_init_100 fl_RX12_45 (Or.inr ⟨rfl, rfl, fw_RX12_45⟩) rfl (by exact ⟨by decide +kernel, by decide, by decide⟩) ?_
  have hz23 := hz22.putF (a := 186) (j := 22) (v := 197) (by decide) (by decide)
  refine e_aload_n (i := 0) rfl dX12_init_103 ?_
  refine e_bipush (v := 24) (by decide) dX12_init_104 ?_
  refine q_newa (nc := 33) (ns := 27840) hko 0 24 dX12_init_106 (Or.inl ⟨rfl, rfl⟩) ac_int (by decide) (by decide) (by decide) hz23 (by decide +kernel) (by decide +kernel) (by decide) rfl rfl ?_
  have hz24 := hz23.up
  refine q_putF 12 23 dX12_init_108 fl_RX12_48 (Or.inr ⟨rfl, rfl, fw_RX12_48⟩) rfl (by exact ⟨by decide +kernel, by decide, by decide⟩) ?_
  have hz25 := hz24.putF (a := 186) (j := 23) (v := 198) (by decide) (by decide)
  refine e_aload_n (i := 0) rfl dX12_init_111 ?_
  refine e_bipush (v := 96) (by decide) dX12_init_112 ?_
  refine q_newa (nc := 32) (ns := 27744) hko 0 96 dX12_init_114 (Or.inl ⟨rfl, rfl⟩) ac_int (by decide) (by decide) (by decide) hz25 (by decide +kernel) (by decide +kernel) (by decide) rfl rfl ?_
  have hz26 := hz25.up
  refine q_putF 12 24 dX12_init_116 fl_RX12_51 (Or.inr ⟨rfl, rfl, fw_RX12_51⟩) rfl (by exact ⟨by decide +kernel, by decide, by decide⟩) ?_
  have hz27 := hz26.putF (a := 186) (j := 24) (v := 199) (by decide) (by decide)
  refine e_aload_n (i := 0) rfl dX12_init_119 ?_
  refine e_bipush (v := 24) (by decide) dX12_init_120 ?_
  refine q_newa (nc := 31) (ns := 27720) hko 0 24 dX12_init_122 (Or.inl ⟨rfl, rfl⟩) ac_int (by decide) (by decide) (by decide) hz27 (by decide +kernel) (by decide +kernel) (by decide) rfl rfl ?_
  have hz28 := hz27.up
  refine q_putF 12 25 dX12_init_124 fl_RX12_54 (Or.inr ⟨rfl, rfl, fw_RX12_54⟩) rfl (by exact ⟨by decide +kernel, by decide, by decide⟩) ?_
  have hz29 := hz28.putF (a := 186) (j := 25) (v := 200) (by decide) (by decide)
  refine e_aload_n (i := 0) rfl dX12_init_127 ?_
  refine e_bipush (v := 24) (by decide) dX12_init_128 ?_
  refine q_newa (nc := 30) (ns := 27696) hko 0 24 dX12_init_130 (Or.inl ⟨rfl, rfl⟩) ac_int (by decide) (by decide) (by decide) hz29 (by decide +kernel) (by decide +kernel) (by decide) rfl rfl ?_
  have hz30 := hz29.up
  refine q_putF 12 26 dX12_init_132 fl_RX12_57 (Or.inr ⟨rfl, rfl, fw_RX12_57⟩) rfl (by exact ⟨by decide +kernel, by decide, by decide⟩) ?_
  have hz31 := hz30.putF (a := 186) (j := 26) (v := 201) (by decide) (by decide)
  refine e_aload_n (i := 0) rfl dX12_init_135 ?_
  refine e_bipush (v := 24) (by decide) dX12_init_136 ?_
  refine q_newa (nc := 29) (ns := 27672) hko 0 24 dX12_init_138 (Or.inl ⟨rfl, rfl⟩) ac_int (by decide) (by decide) (by decide) hz31 (by decide +kernel) (by decide +kernel) (by decide) rfl rfl ?_
  have hz32 := hz31.up
  refine q_putF 12 27 dX12_init_140 fl_RX12_60 (Or.inr ⟨rfl, rfl, fw_RX12_60⟩) rfl (by exact ⟨by decide +kernel, by decide, by decide⟩) ?_
  have hz33 := hz32.putF (a := 186) (j := 27) (v := 202) (by decide) (by decide)
  refine e_aload_n (i := 0) rfl dX12_init_143 ?_
  refine e_bipush (v := 24) (by decide) dX12_init_144 ?_
  refine q_newa (nc := 28) (ns := 27648) hko 0 24 dX12_init_146 (Or.inl ⟨rfl, rfl⟩) ac_int (by decide) (by decide) (by decide) hz33 (by decide +kernel) (by decide +kernel) (by decide) rfl rfl ?_
  have hz34 := hz33.up
  refine q_putF 12 28 dX12_init_148 fl_RX12_63 (Or.inr ⟨rfl, rfl, fw_RX12_63⟩) rfl (by exact ⟨by decide +kernel, by decide, by decide⟩) ?_
  have hz35 := hz34.putF (a := 186) (j := 28) (v := 203) (by decide) (by decide)
  refine e_aload_n (i := 0) rfl dX12_init_151 ?_
  refine e_iconst (v := 2) (by decide) dX12_init_152 ?_
  refine q_newa (nc := 27) (ns := 27646) hko 0 2 dX12_init_153 (Or.inl ⟨rfl, rfl⟩) ac_int (by decide) (by decide) (by decide) hz35 (by decide +kernel) (by decide +kernel) (by decide) rfl rfl ?_
  have hz36 := hz35.up
  refine q_putF 12 29 dX12_init_155 fl_RX12_66 (Or.inr ⟨rfl, rfl, fw_RX12_66⟩) rfl (by exact ⟨by decide +kernel, by decide, by decide⟩) ?_
  have hz37 := hz36.putF (a := 186) (j := 29) (v := 204) (by decide) (by decide)
  refine e_aload_n (i := 0) rfl dX12_init_158 ?_
  refine e_iconst (v := 2) (by decide) dX12_init_159 ?_
  refine q_newa (nc := 26) (ns := 27644) hko 0 2 dX12_init_160 (Or.inl ⟨rfl, rfl⟩) ac_int (by decide) (by decide) (by decide) hz37 (by decide +kernel) (by decide +kernel) (by decide) rfl rfl ?_
  have hz38 := hz37.up
  refine q_putF 12 30 dX12_init_162 fl_RX12_69 (Or.inr ⟨rfl, rfl, fw_RX12_69⟩) rfl (by exact ⟨by decide +kernel, by decide, by decide⟩) ?_
  have hz39 := hz38.putF (a := 186) (j := 30) (v := 205) (by decide) (by decide)
  refine e_aload_n (i := 0) rfl dX12_init_165 ?_
  refine e_sipush (v := 128) (by decide) dX12_init_166 ?_
  refine q_newa (nc := 25) (ns := 27516) hko 1 128 dX12_init_169 (Or.inr (Or.inl ⟨rfl, rfl⟩)) ac_long (by decide) (by decide) (by decide) hz39 (by decide +kernel) (by decide +kernel) (by decide) rfl rfl ?_
  have hz40 := hz39.up
  refine q_putF 12 37 dX12_init_171 fl_RX12_72 (Or.inr ⟨rfl, rfl, fw_RX12_72⟩) rfl (by exact ⟨by decide +kernel, by decide, by decide⟩) ?_
  have hz41 := hz40.putF (a := 186) (j := 37) (v := 206) (by decide) (by decide)
  refine e_aload_n (i := 0) rfl dX12_init_174 ?_
  refine e_sipush (v := 1152) (by decide) dX12_init_175 ?_
  refine q_newa (nc := 24) (ns := 26364) hko 1 1152 dX12_init_178 (Or.inr (Or.inl ⟨rfl, rfl⟩)) ac_long (by decide) (by decide) (by decide) hz41 (by decide +kernel) (by decide +kernel) (by decide) rfl rfl ?_
  have hz42 := hz41.up
  refine q_putF 12 38 dX12_init_180 fl_RX12_75 (Or.inr ⟨rfl, rfl, fw_RX12_75⟩) rfl (by exact ⟨by decide +kernel, by decide, by decide⟩) ?_
  have hz43 := hz42.putF (a := 186) (j := 38) (v := 207) (by decide) (by decide)
  refine e_aload_n (i := 0) rfl dX12_init_183 ?_
  refine e_sipush (v := 128) (by decide) dX12_init_184 ?_
  refine q_newa (nc := 23) (ns := 26236) hko 0 128 dX12_init_187 (Or.inl ⟨rfl, rfl⟩) ac_int (by decide) (by decide) (by decide) hz43 (by decide +kernel) (by decide +kernel) (by decide) rfl rfl ?_
  have hz44 := hz43.up
  refine q_putF 12 39 dX12_init_189 fl_RX12_78 (Or.inr ⟨rfl, rfl, fw_RX12_78⟩) rfl (by exact ⟨by decide +kernel, by decide, by decide⟩) ?_
  have hz45 := hz44.putF (a := 186) (j := 39) (v := 208) (by decide) (by decide)
  refine e_aload_n (i := 0) rfl dX12_init_192 ?_
  refine e_sipush (v := 128) (by decide) dX12_init_193 ?_
  refine q_newa (nc := 22) (ns := 26108) hko 0 128 dX12_init_196 (Or.inl ⟨rfl, rfl⟩) ac_int (by decide) (by decide) (by decide) hz45 (by decide +kernel) (by decide +kernel) (by decide) rfl rfl ?_
  have hz46 := hz45.up
  refine q_putF 12 40 dX12_init_198 fl_RX12_81 (Or.inr ⟨rfl, rfl, fw_RX12_81⟩) rfl (by exact ⟨by decide +kernel, by decide, by decide⟩) ?_
  have hz47 := hz46.putF (a := 186) (j := 40) (v := 209) (by decide) (by decide)
  refine e_aload_n (i := 0) rfl dX12_init_201 ?_
  refine e_sipush (v := 1152) (by decide) dX12_init_202 ?_
  refine q_newa (nc := 21) (ns := 24956) hko 0 1152 dX12_init_205 (Or.inl ⟨rfl, rfl⟩) ac_int (by decide) (by decide) (by decide) hz47 (by decide +kernel) (by decide +kernel) (by decide) rfl rfl ?_
  have hz48 := hz47.up
  refine q_putF 12 41 dX12_init_207 fl_RX12_84 (Or.inr ⟨rfl, rfl, fw_RX12_84⟩) rfl (by exact ⟨by decide +kernel, by decide, by decide⟩) ?_
  have hz49 := hz48.putF (a := 186) (j := 41) (v := 210) (by decide) (by decide)
  refine e_aload_n (i := 0) rfl dX12_init_210 ?_
  refine e_sipush (v := 1152) (by decide) dX12_init_211 ?_
  refine q_newa (nc := 20) (ns := 23804) hko 0 1152 dX12_init_214 (Or.inl ⟨rfl, rfl⟩) ac_int (by decide) (by decide) (by decide) hz49 (by decide +kernel) (by decide +kernel) (by decide) rfl rfl ?_
  have hz50 := hz49.up
  refine q_putF 12 42 dX12_init_216 fl_RX12_87 (Or.inr ⟨rfl, rfl, fw_RX12_87⟩) rfl (by exact ⟨by decide +kernel, by decide, by decide⟩) ?_
  have hz51 := hz50.putF (a := 186) (j := 42) (v := 211) (by decide) (by decide)
  refine e_aload_n (i := 0) rfl dX12_init_219 ?_
  refine e_bipush (v := 80) (by decide) dX12_init_220 ?_
  refine q_newa (nc := 19) (ns := 23724) hko 0 80 dX12_init_222 (Or.inl ⟨rfl, rfl⟩) ac_int (by decide) (by decide) (by decide) hz51 (by decide +kernel) (by decide +kernel) (by decide) rfl rfl ?_
  have hz52 := hz51.up
  refine q_putF 12 52 dX12_init_224 fl_RX12_90 (Or.inr ⟨rfl, rfl, fw_RX12_90⟩) rfl (by exact ⟨by decide +kernel, by decide, by decide⟩) ?_
  have hz53 := hz52.putF (a := 186) (j := 52) (v := 212) (by decide) (by decide)
  refine e_aload_n (i := 0) rfl dX12_init_227 ?_
  refine e_bipush (v := 80) (by decide) dX12_init_228 ?_
  refine q_newa (nc := 18) (ns := 23644) hko 0 80 dX12_init_230 (Or.inl ⟨rfl, rfl⟩) ac_int (by decide) (by decide) (by decide) hz53 (by decide +kernel) (by decide +kernel) (by decide) rfl rfl ?_
  have hz54 := hz53.up
  refine q_putF 12 53 dX12_init_232 fl_RX12_93 (Or.inr ⟨rfl, rfl, fw_RX12_93⟩) rfl (by exact ⟨by decide +kernel, by decide, by decide⟩) ?_
  have hz55 := hz54.putF (a := 186) (j := 53) (v := 213) (by decide) (by decide)
  refine e_aload_n (i := 0) rfl dX12_init_235 ?_
  refine e_bipush (v := 80) (by decide) dX12_init_236 ?_
  refine q_newa (nc := 17) (ns := 23564) hko 0 80 dX12_init_238 (Or.inl ⟨rfl, rfl⟩) ac_int (by decide) (by decide) (by decide) hz55 (by decide +kernel) (by decide +kernel) (by decide) rfl rfl ?_
  have hz56 := hz55.up
  refine q_putF 12 54 dX12_init_240 fl_RX12_96 (Or.inr ⟨rfl, rfl, fw_RX12_96⟩) rfl (by exact ⟨by decide +kernel, by decide, by decide⟩) ?_
  have hz57 := hz56.putF (a := 186) (j := 54) (v := 214) (by decide) (by decide)
  refine e_aload_n (i := 0) rfl dX12_init_243 ?_
  refine e_bipush (v := 80) (by decide) dX12_init_244 ?_
  refine q_newa (nc := 16) (ns := 23484) hko 0 80 dX12_init_246 (Or.inl ⟨rfl, rfl⟩) ac_int (by decide) (by decide) (by decide) hz57 (by decide +kernel) (by decide +kernel) (by decide) rfl rfl ?_
  have hz58 := hz57.up
  refine q_putF 12 55 dX12_init_248 fl_RX12_99 (Or.inr ⟨rfl, rfl, fw_RX12_99⟩) rfl (by exact ⟨by decide +kernel, by decide, by decide⟩) ?_
  have hz59 := hz58.putF (a := 186) (j := 55) (v := 215) (by decide) (by decide)
  refine e_aload_n (i := 0) rfl dX12_init_251 ?_
  refine e_bipush (v := 80) (by decide) dX12_init_252 ?_
  refine q_newa (nc := 15) (ns := 23404) hko 0 80 dX12_init_254 (Or.inl ⟨rfl, rfl⟩) ac_int (by decide) (by decide) (by decide) hz59 (by decide +kernel) (by decide +kernel) (by decide) rfl rfl ?_
  have hz60 := hz59.up
  refine q_putF 12 56 dX12_init_256 fl_RX12_102 (Or.inr ⟨rfl, rfl, fw_RX12_102⟩) rfl (by exact ⟨by decide +kernel, by decide, by decide⟩) ?_
  have hz61 := hz60.putF (a := 186) (j := 56) (v := 216) (by decide) (by decide)
  refine e_aload_n (i := 0) rfl dX12_init_259 ?_
  refine e_bipush (v := 80) (by decide) dX12_init_260 ?_
  refine q_newa (nc := 14) (ns := 23324) hko 0 80 dX12_init_262 (Or.inl ⟨rfl, rfl⟩) ac_int (by decide) (by decide) (by decide) hz61 (by decide +kernel) (by decide +kernel) (by decide) rfl rfl ?_
  have hz62 := hz61.up
  refine q_putF 12 57 dX12_init_264 fl_RX12_105 (Or.inr ⟨rfl, rfl, fw_RX12_105⟩) rfl (by exact ⟨by decide +kernel, by decide, by decide⟩) ?_
  have hz63 := hz62.putF (a := 186) (j := 57) (v := 217) (by decide) (by decide)
  refine e_aload_n (i := 0) rfl dX12_init_267 ?_
  refine e_sipush (v := 10240) (by decide) dX12_init_268 ?_
  refine q_newa (nc := 13) (ns := 13084) hko 0 10240 dX12_init_271 (Or.inl ⟨rfl, rfl⟩) ac_int (by decide) (by decide) (by decide) hz63 (by decide +kernel) (by decide +kernel) (by decide) rfl rfl ?_
  have hz64 := hz63.up
  refine q_putF 12 58 dX12_init_273 fl_RX12_108 (Or.inr ⟨rfl, rfl, fw_RX12_108⟩) rfl (by exact ⟨by decide +kernel, by decide, by decide⟩) ?_
  have hz65 := hz64.putF (a := 186) (j := 58) (v := 218) (by decide) (by decide)
  refine e_aload_n (i := 0) rfl dX12_init_276 ?_
  refine e_bipush (v := 80) (by decide) dX12_init_277 ?_
  refine q_newa (nc := 12) (ns := 13004) hko 2 80 dX12_init_279 (Or.inr (Or.inr ⟨rfl, rfl⟩)) ac_boolean (by decide) (by decide) (by decide) hz65 (by decide +kernel) (by decide +kernel) (by decide) rfl rfl ?_
  have hz66 := hz65.up
  refine q_putF 12 59 dX12_init_281 fl_RX12_111 (Or.inr ⟨rfl, rfl, fw_RX12_111⟩) rfl (by exact ⟨by decide +kernel, by decide, by decide⟩) ?_
  have hz67 := hz66.putF (a := 186) (j := 59) (v := 219) (by decide) (by decide)
  refine e_aload_n (i := 0) rfl dX12_init_284 ?_
  refine e_bipush (v := 80) (by decide) dX12_init_285 ?_
  refine q_newa (nc := 11) (ns := 12924) hko 0 80 dX12_init_287 (Or.inl ⟨rfl, rfl⟩) ac_int (by decide) (by decide) (by decide) hz67 (by decide +kernel) (by decide +kernel) (by decide) rfl rfl ?_
  have hz68 := hz67.up
  refine q_putF 12 66 dX12_init_289 fl_RX12_115 (Or.inr ⟨rfl, rfl, fw_RX12_115⟩) rfl (by exact ⟨by decide +kernel, by decide, by decide⟩) ?_
  have hz69 := hz68.putF (a := 186) (j := 66) (v := 220) (by decide) (by decide)
  refine e_aload_n (i := 0) rfl dX12_init_292 ?_
  refine e_sipush (v := 160) (by decide) dX12_init_293 ?_
  refine q_newa (nc := 10) (ns := 12764) hko 0 160 dX12_init_296 (Or.inl ⟨rfl, rfl⟩) ac_int (by decide) (by decide) (by decide) hz69 (by decide +kernel) (by decide +kernel) (by decide) rfl rfl ?_
  have hz70 := hz69.up
  refine q_putF 12 67 dX12_init_298 fl_RX12_118 (Or.inr ⟨rfl, rfl, fw_RX12_118⟩) rfl (by exact ⟨by decide +kernel, by decide, by decide⟩) ?_
  have hz71 := hz70.putF (a := 186) (j := 67) (v := 221) (by decide) (by decide)
  refine e_aload_n (i := 0) rfl dX12_init_301 ?_
  refine e_sipush (v := 160) (by decide) dX12_init_302 ?_
  refine q_newa (nc := 9) (ns := 12604) hko 0 160 dX12_init_305 (Or.inl ⟨rfl, rfl⟩) ac_int (by decide) (by decide) (by decide) hz71 (by decide +kernel) (by decide +kernel) (by decide) rfl rfl ?_
  have hz72 := hz71.up
  refine q_putF 12 68 dX12_init_307 fl_RX12_121 (Or.inr ⟨rfl, rfl, fw_RX12_121⟩) rfl (by exact ⟨by decide +kernel, by decide, by decide⟩) ?_
  have hz73 := hz72.putF (a := 186) (j := 68) (v := 222) (by decide) (by decide)
  refine e_aload_n (i := 0) rfl dX12_init_310 ?_
  refine e_sipush (v := 700) (by decide) dX12_init_311 ?_
  refine q_newa (nc := 8) (ns := 11904) hko 0 700 dX12_init_314 (Or.inl ⟨rfl, rfl⟩) ac_int (by decide) (by decide) (by decide) hz73 (by decide +kernel) (by decide +kernel) (by decide) rfl rfl ?_
  have hz74 := hz73.up
  refine q_putF 12 69 dX12_init_316 fl_RX12_124 (Or.inr ⟨rfl, rfl, fw_RX12_124⟩) rfl (by exact ⟨by decide +kernel, by decide, by decide⟩) ?_
  have hz75 := hz74.putF (a := 186) (j := 69) (v := 223) (by decide) (by decide)
  refine e_aload_n (i := 0) rfl dX12_init_319 ?_
  refine e_sipush (v := 700) (by decide) dX12_init_320 ?_
  refine q_newa (nc := 7) (ns := 11204) hko 0 700 dX12_init_323 (Or.inl ⟨rfl, rfl⟩) ac_int (by decide) (by decide) (by decide) hz75 (by decide +kernel) (by decide +kernel) (by decide) rfl rfl ?_
  have hz76 := hz75.up
  refine q_putF 12 70 dX12_init_325 fl_RX12_127 (Or.inr ⟨rfl, rfl, fw_RX12_127⟩) rfl (by exact ⟨by decide +kernel, by decide, by decide⟩) ?_
  have hz77 := hz76.putF (a := 186) (j := 70) (v := 224) (by decide) (by decide)
  refine e_aload_n (i := 0) rfl dX12_init_328 ?_
  refine e_sipush (v := 700) (by decide) dX12_init_329 ?_
  refine q_newa (nc := 6) (ns := 10504) hko 0 700 dX12_init_332 (Or.inl ⟨rfl, rfl⟩) ac_int (by decide) (by decide) (by decide) hz77 (by decide +kernel) (by decide +kernel) (by decide) rfl rfl ?_
  have hz78 := hz77.up
  refine q_putF 12 71 dX12_init_334 fl_RX12_130 (Or.inr ⟨rfl, rfl, fw_RX12_130⟩) rfl (by exact ⟨by decide +kernel, by decide, by decide⟩) ?_
  have hz79 := hz78.putF (a := 186) (j := 71) (v := 225) (by decide) (by decide)
  refine e_aload_n (i := 0) rfl dX12_init_337 ?_
  refine e_sipush (v := 700) (by decide) dX12_init_338 ?_
  refine q_newa (nc := 5) (ns := 9804) hko 1 700 dX12_init_341 (Or.inr (Or.inl ⟨rfl, rfl⟩)) ac_long (by decide) (by decide) (by decide) hz79 (by decide +kernel) (by decide +kernel) (by decide) rfl rfl ?_
  have hz80 := hz79.up
  refine q_putF 12 72 dX12_init_343 fl_RX12_133 (Or.inr ⟨rfl, rfl, fw_RX12_133⟩) rfl (by exact ⟨by decide +kernel, by decide, by decide⟩) ?_
  have hz81 := hz80.putF (a := 186) (j := 72) (v := 226) (by decide) (by decide)
  refine e_aload_n (i := 0) rfl dX12_init_346 ?_
  refine e_sipush (v := 200) (by decide) dX12_init_347 ?_
  refine q_newa (nc := 4) (ns := 9604) hko 0 200 dX12_init_350 (Or.inl ⟨rfl, rfl⟩) ac_int (by decide) (by decide) (by decide) hz81 (by decide +kernel) (by decide +kernel) (by decide) rfl rfl ?_
  have hz82 := hz81.up
  refine q_putF 12 73 dX12_init_352 fl_RX12_136 (Or.inr ⟨rfl, rfl, fw_RX12_136⟩) rfl (by exact ⟨by decide +kernel, by decide, by decide⟩) ?_
  have hz83 := hz82.putF (a := 186) (j := 73) (v := 227) (by decide) (by decide)
  refine e_aload_n (i := 0) rfl dX12_init_355 ?_
  refine e_sipush (v := 200) (by decide) dX12_init_356 ?_
  refine q_newa (nc := 3) (ns := 9404) hko 0 200 dX12_init_359 (Or.inl ⟨rfl, rfl⟩) ac_int (by decide) (by decide) (by decide) hz83 (by decide +kernel) (by decide +kernel) (by decide) rfl rfl ?_
  have hz84 := hz83.up
  refine q_putF 12 74 dX12_init_361 fl_RX12_139 (Or.inr ⟨rfl, rfl, fw_RX12_139⟩) rfl (by exact ⟨by decide +kernel, by decide, by decide⟩) ?_
  have hz85 := hz84.putF (a := 186) (j := 74) (v := 228) (by decide) (by decide)
  refine e_aload_n (i := 0) rfl dX12_init_364 ?_
  refine e_sipush (v := 1400) (by decide) dX12_init_365 ?_
  refine q_newa (nc := 2) (ns := 8004) hko 0 1400 dX12_init_368 (Or.inl ⟨rfl, rfl⟩) ac_int (by decide) (by decide) (by decide) hz85 (by decide +kernel) (by decide +kernel) (by decide) rfl rfl ?_
  have hz86 := hz85.up
  refine q_putF 12 75 dX12_init_370 fl_RX12_142 (Or.inr ⟨rfl, rfl, fw_RX12_142⟩) rfl (by exact ⟨by decide +kernel, by decide, by decide⟩) ?_
  have hz87 := hz86.putF (a := 186) (j := 75) (v := 229) (by decide) (by decide)
  refine e_aload_n (i := 0) rfl dX12_init_373 ?_
  refine e_iconst (v := 4) (by decide) dX12_init_374 ?_
  refine q_newa (nc := 1) (ns := 8000) hko 0 4 dX12_init_375 (Or.inl ⟨rfl, rfl⟩) ac_int (by decide) (by decide) (by decide) hz87 (by decide +kernel) (by decide +kernel) (by decide) rfl rfl ?_
  have hz88 := hz87.up
  refine q_putF 12 77 dX12_init_377 fl_RX12_145 (Or.inr ⟨rfl, rfl, fw_RX12_145⟩) rfl (by exact ⟨by decide +kernel, by decide, by decide⟩) ?_
  have hz89 := hz88.putF (a := 186) (j := 77) (v := 230) (by decide) (by decide)
  refine e_aload_n (i := 0) rfl dX12_init_380 ?_
  refine e_sipush (v := 8000) (by decide) dX12_init_381 ?_
  refine q_newa (nc := 0) (ns := 0) hko 0 8000 dX12_init_384 (Or.inl ⟨rfl, rfl⟩) ac_int (by decide) (by decide) (by decide) hz89 (by decide +kernel) (by decide +kernel) (by decide) rfl rfl ?_
  have hz90 := hz89.up
  refine q_putF 12 79 dX12_init_386 fl_RX12_148 (Or.inr ⟨rfl, rfl, fw_RX12_148⟩) rfl (by exact ⟨by decide +kernel, by decide, by decide⟩) ?_
  have hz91 := hz90.putF (a := 186) (j := 79) (v := 231) (by decide) (by decide)
  exact e_vret dX12_init_389 rfl ⟨rfl, rfl⟩
theorem add_frame {a : Nat} {I : iT} {x : Int32} {q : Int32 × iT} (h : mX4_add a I x = some q) : ∀ b, b ≠ a → b ≠ a + 1 → q.2 b = I b := by
  unfold mX4_add at h
  split at h
  · obtain ⟨-, h⟩ := gd_s h
    cases some_in h
    intro b h1 h2
    show a_u2 _ _ _ _ b = _
    rw [a_u2_r _ _ h1, a_u2_r _ _ h2]
  · cases some_in h
    intro b _ _
    rfl
theorem init62_frame : ∀ (n : Nat) (I : iT) (x1 x2 x3 : Int32) (I' : iT), mX2_init_62 n I x1 x2 x3 = some I' → ∀ b, b ≠ 7 → b ≠ 8 → I' b = I b := by
  intro n
  induction n with
  | zero => intro I x1 x2 x3 I' h; cases h
  | succ n ih =>
    intro I x1 x2 x3 I' h b h7 h8
    rw [mX2_init_62] at h
    split at h
    · cases some_in h; rfl
    · obtain ⟨-, h⟩ := gd_s h
      split at h
      · obtain ⟨q, hq1, h⟩ := ob_some h
        rw [ih _ _ _ _ _ h b h7 h8]
        exact add_frame hq1 b h7 h8
      · obtain ⟨-, h⟩ := gd_s h
        obtain ⟨q, hq1, h⟩ := ob_some h
        exact ih _ _ _ _ _ h b h7 h8
def Fn5_135 (F : fT) : fT := (a_u2 (a_u2 (a_u2 (a_u2 (a_u2 (a_u2 F 136 0 137) 135 0 136) 138 0 139) 135 1 138) 140 0 141) 135 2 140)
set_option maxRecDepth 100000 in
set_option maxHeartbeats 4000000 in
theorem zn5_135 {I : iT} {J : jT} {F : fT} (hz : ZR 135 I J F) : ZR 141 ((fillR (fillR (fillR I 136 0) 138 (-1)) 140 0)) J (Fn5_135 F) := by
  have hz1 := hz.up
  have hz2 := (hz1.up).putF (a := 136) (j := 0) (v := 137) (by decide) (by decide)
  have hz3 := hz2.putF (a := 135) (j := 0) (v := 136) (by decide) (by decide)
  have hz4 := hz3.up
  have hz5 := (hz4.up).putF (a := 138) (j := 0) (v := 139) (by decide) (by decide)
  have hz6 := hz5.putF (a := 135) (j := 1) (v := 138) (by decide) (by decide)
  have hz7 := hz6.up
  have hz8 := (hz7.up).putF (a := 140) (j := 0) (v := 141) (by decide) (by decide)
  have hz9 := hz8.putF (a := 135) (j := 2) (v := 140) (by decide) (by decide)
  have hz10 := hz9.putI (fillR_above (a := 136) (n := 141) (x := 0) (by decide))
  have hz11 := hz10.putI (fillR_above (a := 138) (n := 141) (x := (-1)) (by decide))
  have hz12 := hz11.putI (fillR_above (a := 140) (n := 141) (x := 0) (by decide))
  exact hz12
set_option maxRecDepth 100000 in
set_option maxHeartbeats 4000000 in
theorem n5_135 {l : Launch} {K : a_KT} {g : a_GT} (hko : a_kok K) {I : iT} {J : jT} {F : fT} (hz : ZR 135 I J F) : C l K g 2 6 1545 yX5_init cX5_init 1 none [.ref 135] (hq 135 I J F) (fun r h2 => r = none ∧ h2 = hq 141 ((fillR (fillR (fillR I 136 0) 138 (-1)) 140 0)) J (Fn5_135 F)) := by
  refine c_of [.ref 135] (by decide) (Nat.le_of_ble_eq_true rfl) rfl ?_
  refine e_aload_n (i := 0) rfl dX5_init_0 ?_
  refine e_objInit dX5_init_1 ol_RX5_3 oi_init oc_init (by decide) (by decide) (Nat.le_of_ble_eq_true rfl) ?_
  refine e_aload_n (i := 0) rfl dX5_init_4 ?_
  refine q_new (nc := 5) (ns := 1543) hko 4 2 rfl dX5_init_5 (by decide) nl_RX5_9 hz (by decide +kernel) (by decide +kernel) (by decide) rfl rfl ?_
  have hz1 := hz.up
  refine e_dup rfl dX5_init_8 ?_
  refine e_sipush (v := 765) (by decide) dX5_init_9 ?_
  refine q_cI (nc := 4) (ns := 778) [.int 765] hko dX5_init_12 ml_RX5_11 (by decide) rfl (by decide) (Nat.le_of_ble_eq_true rfl) rfl rfl (nRow (N := 765) hko hz1 (by exact ⟨by decide +kernel, by decide, by decide⟩) (by decide +kernel) (by decide +kernel) (by decide) (by decide) (by decide)) ?_
  have hz2 := (hz1.up).putF (a := 136) (j := 0) (v := 137) (by decide) (by decide)
  refine q_putF 5 0 dX5_init_15 fl_RX5_14 (Or.inr ⟨rfl, rfl, fw_RX5_14⟩) rfl (by exact ⟨by decide +kernel, by decide, by decide⟩) ?_
  have hz3 := hz2.putF (a := 135) (j := 0) (v := 136) (by decide) (by decide)
  refine e_aload_n (i := 0) rfl dX5_init_18 ?_
  refine q_new (nc := 3) (ns := 776) hko 4 2 rfl dX5_init_19 (by decide) nl_RX5_9 hz3 (by decide +kernel) (by decide +kernel) (by decide) rfl rfl ?_
  have hz4 := hz3.up
  refine e_dup rfl dX5_init_22 ?_
  refine e_sipush (v := 765) (by decide) dX5_init_23 ?_
  refine q_cI (nc := 2) (ns := 11) [.int 765] hko dX5_init_26 ml_RX5_11 (by decide) rfl (by decide) (Nat.le_of_ble_eq_true rfl) rfl rfl (nRow (N := 765) hko hz4 (by exact ⟨by decide +kernel, by decide, by decide⟩) (by decide +kernel) (by decide +kernel) (by decide) (by decide) (by decide)) ?_
  have hz5 := (hz4.up).putF (a := 138) (j := 0) (v := 139) (by decide) (by decide)
  refine q_putF 5 1 dX5_init_29 fl_RX5_20 (Or.inr ⟨rfl, rfl, fw_RX5_20⟩) rfl (by exact ⟨by decide +kernel, by decide, by decide⟩) ?_
  have hz6 := hz5.putF (a := 135) (j := 1) (v := 138) (by decide) (by decide)
  refine e_aload_n (i := 0) rfl dX5_init_32 ?_
  refine q_new (nc := 1) (ns := 9) hko 4 2 rfl dX5_init_33 (by decide) nl_RX5_9 hz6 (by decide +kernel) (by decide +kernel) (by decide) rfl rfl ?_
  have hz7 := hz6.up
  refine e_dup rfl dX5_init_36 ?_
  refine e_bipush (v := 9) (by decide) dX5_init_37 ?_
  refine q_cI (nc := 0) (ns := 0) [.int 9] hko dX5_init_39 ml_RX5_11 (by decide) rfl (by decide) (Nat.le_of_ble_eq_true rfl) rfl rfl (nRow (N := 9) hko hz7 (by exact ⟨by decide +kernel, by decide, by decide⟩) (by decide +kernel) (by decide +kernel) (by decide) (by decide) (by decide)) ?_
  have hz8 := (hz7.up).putF (a := 140) (j := 0) (v := 141) (by decide) (by decide)
  refine q_putF 5 2 dX5_init_42 fl_RX5_23 (Or.inr ⟨rfl, rfl, fw_RX5_23⟩) rfl (by exact ⟨by decide +kernel, by decide, by decide⟩) ?_
  have hz9 := hz8.putF (a := 135) (j := 2) (v := 140) (by decide) (by decide)
  refine e_aload_n (i := 0) rfl dX5_init_45 ?_
  refine q_getF 5 0 136 dX5_init_46 fl_RX5_14 rfl (by exact ⟨by decide +kernel, by decide, by decide⟩) rfl ?_
  refine e_iconst (v := 0) (by decide) dX5_init_49 ?_
  refine e_cV1 (c := 4) hko dX5_init_50 ml_RX5_26 (show iz 141 136 4 from ⟨by decide +kernel, by decide, by decide⟩) (by decide) rfl (d2 := 0) (by decide) (Nat.le_of_ble_eq_true rfl) (uX4_fill hko ⟨⟨by decide +kernel, by decide, by decide⟩, ⟨by decide +kernel, by decide, by decide⟩, rfl⟩ I _ trivial 0 _ (fill_eq (by decide +kernel))) ?_
  rintro _ _ ⟨rfl, rfl⟩
  have hz10 := hz9.putI (fillR_above (a := 136) (n := 141) (x := 0) (by decide))
  refine e_aload_n (i := 0) rfl dX5_init_53 ?_
  refine q_getF 5 1 138 dX5_init_54 fl_RX5_20 rfl (by exact ⟨by decide +kernel, by decide, by decide⟩) rfl ?_
  refine e_iconst (v := (-1)) (by decide) dX5_init_57 ?_
  refine e_cV1 (c := 4) hko dX5_init_58 ml_RX5_26 (show iz 141 138 4 from ⟨by decide +kernel, by decide, by decide⟩) (by decide) rfl (d2 := 0) (by decide) (Nat.le_of_ble_eq_true rfl) (uX4_fill hko ⟨⟨by decide +kernel, by decide, by decide⟩, ⟨by decide +kernel, by decide, by decide⟩, rfl⟩ (fillR I 136 0) _ trivial (-1) _ (fill_eq (by decide +kernel))) ?_
  rintro _ _ ⟨rfl, rfl⟩
  have hz11 := hz10.putI (fillR_above (a := 138) (n := 141) (x := (-1)) (by decide))
  refine e_aload_n (i := 0) rfl dX5_init_61 ?_
  refine q_getF 5 2 140 dX5_init_62 fl_RX5_23 rfl (by exact ⟨by decide +kernel, by decide, by decide⟩) rfl ?_
  refine e_iconst (v := 0) (by decide) dX5_init_65 ?_
  refine e_cV1 (c := 4) hko dX5_init_66 ml_RX5_26 (show iz 141 140 4 from ⟨by decide +kernel, by decide, by decide⟩) (by decide) rfl (d2 := 0) (by decide) (Nat.le_of_ble_eq_true rfl) (uX4_fill hko ⟨⟨by decide +kernel, by decide, by decide⟩, ⟨by decide +kernel, by decide, by decide⟩, rfl⟩ (fillR (fillR I 136 0) 138 (-1)) _ trivial 0 _ (fill_eq (by decide +kernel))) ?_
  rintro _ _ ⟨rfl, rfl⟩
  have hz12 := hz11.putI (fillR_above (a := 140) (n := 141) (x := 0) (by decide))
  exact e_vret dX5_init_69 rfl ⟨rfl, rfl⟩
def Fn2_6 (F : fT) : fT := (a_u2 (a_u2 (a_u2 (a_u2 (a_u2 F 7 0 8) 6 0 7) 6 1 9) 6 2 10) 6 3 11)
set_option maxRecDepth 100000 in
set_option maxHeartbeats 4000000 in
theorem zn2_6 {I : iT} {J : jT} {F : fT} {IC : iT} (hmC : mX2_init_62 LF (a_u2 (a_u2 I 6 6 260) 6 10 (-1)) 0 0 0 = some IC) (hz : ZR 6 I J F) : ZR 11 IC J (Fn2_6 F) := by
  have hz1 := hz.up
  have hz2 := (hz1.up).putF (a := 7) (j := 0) (v := 8) (by decide) (by decide)
  have hz3 := hz2.putF (a := 6) (j := 0) (v := 7) (by decide) (by decide)
  have hz4 := hz3.up
  have hz5 := hz4.putF (a := 6) (j := 1) (v := 9) (by decide) (by decide)
  have hz6 := hz5.up
  have hz7 := hz6.putF (a := 6) (j := 2) (v := 10) (by decide) (by decide)
  have hz8 := hz7.up
  have hz9 := hz8.putF (a := 6) (j := 3) (v := 11) (by decide) (by decide)
  have hz10 := hz9.put1 (a := 6) (j := 6) (v := 260) (by decide)
  have hz11 := hz10.put1 (a := 6) (j := 10) (v := (-1)) (by decide)
  have hzz := hz11.putI (I' := IC) (fun b hb => init62_frame _ _ _ _ _ _ hmC b (by omega) (by omega))
  exact hzz
set_option maxRecDepth 100000 in
set_option maxHeartbeats 4000000 in
theorem n2_6 {l : Launch} {K : a_KT} {g : a_GT} (hko : a_kok K) (hS : StrOK l K g) {I : iT} {J : jT} {F : fT} (hz : ZR 6 I J F) {IC : iT} (hmC : mX2_init_62 LF (a_u2 (a_u2 I 6 6 260) 6 10 (-1)) 0 0 0 = some IC) : C l K g 14 5 3022 yX2_init cX2_init 4 none [.ref 6] (hq 6 I J F) (fun r h2 => r = none ∧ h2 = hq 11 IC J (Fn2_6 F)) := by
  refine c_of [.ref 6, .null, .null, .null] (by decide) (Nat.le_of_ble_eq_true rfl) rfl ?_
  refine e_aload_n (i := 0) rfl dX2_init_0 ?_
  refine e_objInit dX2_init_1 ol_RX2_3 oi_init oc_init (by decide) (by decide) (Nat.le_of_ble_eq_true rfl) ?_
  refine e_aload_n (i := 0) rfl dX2_init_4 ?_
  refine q_new (nc := 4) (ns := 3020) hko 4 2 rfl dX2_init_5 (by decide) nl_RX2_9 hz (by decide +kernel) (by decide +kernel) (by decide) rfl rfl ?_
  have hz1 := hz.up
  refine e_dup rfl dX2_init_8 ?_
  refine e_bipush (v := 17) (by decide) dX2_init_9 ?_
  refine q_cI (nc := 3) (ns := 3003) [.int 17] hko dX2_init_11 ml_RX2_11 (by decide) rfl (by decide) (Nat.le_of_ble_eq_true rfl) rfl rfl (nRow (N := 17) hko hz1 (by exact ⟨by decide +kernel, by decide, by decide⟩) (by decide +kernel) (by decide +kernel) (by decide) (by decide) (by decide)) ?_
  have hz2 := (hz1.up).putF (a := 7) (j := 0) (v := 8) (by decide) (by decide)
  refine q_putF 2 0 dX2_init_14 fl_RX2_14 (Or.inr ⟨rfl, rfl, fw_RX2_14⟩) rfl (by exact ⟨by decide +kernel, by decide, by decide⟩) ?_
  have hz3 := hz2.putF (a := 6) (j := 0) (v := 7) (by decide) (by decide)
  refine e_aload_n (i := 0) rfl dX2_init_17 ?_
  refine e_sipush (v := 1001) (by decide) dX2_init_18 ?_
  refine q_newa (nc := 2) (ns := 2002) hko 0 1001 dX2_init_21 (Or.inl ⟨rfl, rfl⟩) ac_int (by decide) (by decide) (by decide) hz3 (by decide +kernel) (by decide +kernel) (by decide) rfl rfl ?_
  have hz4 := hz3.up
  refine q_putF 2 1 dX2_init_23 fl_RX2_20 (Or.inr ⟨rfl, rfl, fw_RX2_20⟩) rfl (by exact ⟨by decide +kernel, by decide, by decide⟩) ?_
  have hz5 := hz4.putF (a := 6) (j := 1) (v := 9) (by decide) (by decide)
  refine e_aload_n (i := 0) rfl dX2_init_26 ?_
  refine e_sipush (v := 1001) (by decide) dX2_init_27 ?_
  refine q_newa (nc := 1) (ns := 1001) hko 0 1001 dX2_init_30 (Or.inl ⟨rfl, rfl⟩) ac_int (by decide) (by decide) (by decide) hz5 (by decide +kernel) (by decide +kernel) (by decide) rfl rfl ?_
  have hz6 := hz5.up
  refine q_putF 2 2 dX2_init_32 fl_RX2_24 (Or.inr ⟨rfl, rfl, fw_RX2_24⟩) rfl (by exact ⟨by decide +kernel, by decide, by decide⟩) ?_
  have hz7 := hz6.putF (a := 6) (j := 2) (v := 10) (by decide) (by decide)
  refine e_aload_n (i := 0) rfl dX2_init_35 ?_
  refine e_sipush (v := 1001) (by decide) dX2_init_36 ?_
  refine q_newa (nc := 0) (ns := 0) hko 0 1001 dX2_init_39 (Or.inl ⟨rfl, rfl⟩) ac_int (by decide) (by decide) (by decide) hz7 (by decide +kernel) (by decide +kernel) (by decide) rfl rfl ?_
  have hz8 := hz7.up
  refine q_putF 2 3 dX2_init_41 fl_RX2_27 (Or.inr ⟨rfl, rfl, fw_RX2_27⟩) rfl (by exact ⟨by decide +kernel, by decide, by decide⟩) ?_
  have hz9 := hz8.putF (a := 6) (j := 3) (v := 11) (by decide) (by decide)
  refine e_aload_n (i := 0) rfl dX2_init_44 ?_
  refine e_sipush (v := 260) (by decide) dX2_init_45 ?_
  refine q_putI 2 6 dX2_init_48 fl_RX2_30 rfl rfl (by exact ⟨by decide +kernel, by decide, by decide⟩) ?_
  have hz10 := hz9.put1 (a := 6) (j := 6) (v := 260) (by decide)
  refine e_aload_n (i := 0) rfl dX2_init_51 ?_
  refine e_iconst (v := (-1)) (by decide) dX2_init_52 ?_
  refine q_putI 2 10 dX2_init_53 fl_RX2_34 rfl rfl (by exact ⟨by decide +kernel, by decide, by decide⟩) ?_
  have hz11 := hz10.put1 (a := 6) (j := 10) (v := (-1)) (by decide)
  refine e_iconst (v := 0) (by decide) dX2_init_56 ?_
  refine q_istore_n (i := 1) (by decide) rfl dX2_init_57 ?_
  refine e_iconst (v := 0) (by decide) dX2_init_58 ?_
  refine q_istore_n (i := 2) (by decide) rfl dX2_init_59 ?_
  refine e_iconst (v := 0) (by decide) dX2_init_60 ?_
  refine q_istore_n (i := 3) (by decide) rfl dX2_init_61 ?_
  refine e_weak [.ref 6, .int 0, .int 0, .int 0] ⟨rfl, ⟨rfl, ⟨rfl, ⟨rfl, trivial⟩⟩⟩⟩ ?_
  exact uX2_init_62 hko hS (by decide) rfl ⟨⟨by decide +kernel, by decide, by decide⟩, ⟨by decide +kernel, by decide, by decide⟩, rfl⟩ LF _ 0 0 0 trivial _ hmC
def Fn3_134 (F : fT) : fT := (a_u2 (Fn7_147 (a_u2 (Fn9_142 (a_u2 (a_u2 (a_u2 (Fn5_135 F) 134 1 135) 134 0 6) 134 4 73)) 134 2 142)) 134 3 147)
set_option maxRecDepth 100000 in
set_option maxHeartbeats 4000000 in
theorem zn3_134 {I : iT} {J : jT} {F : fT} (hz : ZR 134 I J F) : ZR 147 ((a_u2 (fillR (fillR (fillR I 136 0) 138 (-1)) 140 0) 134 6 (-1))) J (Fn3_134 F) := by
  have hz1 := hz.up
  have hz2 := zn5_135 hz1
  have hz3 := hz2.putF (a := 134) (j := 1) (v := 135) (by decide) (by decide)
  have hz4 := hz3.put1 (a := 134) (j := 6) (v := (-1)) (by decide)
  have hz5 := hz4.putF (a := 134) (j := 0) (v := 6) (by decide) (by decide)
  have hz6 := hz5.putF (a := 134) (j := 4) (v := 73) (by decide) (by decide)
  have hz7 := hz6.up
  have hz8 := zn9_142 hz7
  have hz9 := hz8.putF (a := 134) (j := 2) (v := 142) (by decide) (by decide)
  have hz10 := hz9.up
  have hz11 := zn7_147 hz10
  have hz12 := hz11.putF (a := 134) (j := 3) (v := 147) (by decide) (by decide)
  exact hz12
set_option maxRecDepth 100000 in
set_option maxHeartbeats 4000000 in
theorem n3_134 {l : Launch} {K : a_KT} {g : a_GT} (hko : a_kok K) {I : iT} {J : jT} {F : fT} (hz : ZR 134 I J F) (hb91 : F 73 1 = 91) : C l K g 3 13 1707 yX3_init cX3_init 3 none [.ref 134, .ref 6, .ref 73] (hq 134 I J F) (fun r h2 => r = none ∧ h2 = hq 147 ((a_u2 (fillR (fillR (fillR I 136 0) 138 (-1)) 140 0) 134 6 (-1))) J (Fn3_134 F)) := by
  refine c_of [.ref 134, .ref 6, .ref 73] (by decide) (Nat.le_of_ble_eq_true rfl) rfl ?_
  refine e_aload_n (i := 0) rfl dX3_init_0 ?_
  refine e_objInit dX3_init_1 ol_RX3_3 oi_init oc_init (by decide) (by decide) (Nat.le_of_ble_eq_true rfl) ?_
  refine e_aload_n (i := 0) rfl dX3_init_4 ?_
  refine q_new (nc := 12) (ns := 1703) hko 5 4 rfl dX3_init_5 (by decide) nl_RX3_9 hz (by decide +kernel) (by decide +kernel) (by decide) rfl rfl ?_
  have hz1 := hz.up
  refine e_dup rfl dX3_init_8 ?_
  refine q_cI (nc := 6) (ns := 158) [] hko dX3_init_9 ml_RX3_11 (by decide) rfl (by decide) (Nat.le_of_ble_eq_true rfl) rfl rfl (n5_135 hko hz1) ?_
  have hz2 := zn5_135 hz1
  refine q_putF 3 1 dX3_init_12 fl_RX3_12 (Or.inr ⟨rfl, rfl, fw_RX3_12⟩) rfl (by exact ⟨by decide +kernel, by decide, by decide⟩) ?_
  have hz3 := hz2.putF (a := 134) (j := 1) (v := 135) (by decide) (by decide)
  refine e_aload_n (i := 0) rfl dX3_init_15 ?_
  refine e_iconst (v := (-1)) (by decide) dX3_init_16 ?_
  refine q_putI 3 6 dX3_init_17 fl_RX3_18 rfl rfl (by exact ⟨by decide +kernel, by decide, by decide⟩) ?_
  have hz4 := hz3.put1 (a := 134) (j := 6) (v := (-1)) (by decide)
  refine e_aload_n (i := 0) rfl dX3_init_20 ?_
  refine e_aload_n (i := 1) rfl dX3_init_21 ?_
  refine q_putF 3 0 dX3_init_22 fl_RX3_22 (Or.inr ⟨rfl, rfl, fw_RX3_22⟩) rfl (by exact ⟨by decide +kernel, by decide, by decide⟩) ?_
  have hz5 := hz4.putF (a := 134) (j := 0) (v := 6) (by decide) (by decide)
  refine e_aload_n (i := 0) rfl dX3_init_25 ?_
  refine e_aload_n (i := 2) rfl dX3_init_26 ?_
  refine q_putF 3 4 dX3_init_27 fl_RX3_26 (Or.inl rfl) rfl (by exact ⟨by decide +kernel, by decide, by decide⟩) ?_
  have hz6 := hz5.putF (a := 134) (j := 4) (v := 73) (by decide) (by decide)
  refine e_aload_n (i := 0) rfl dX3_init_30 ?_
  refine q_new (nc := 5) (ns := 153) hko 9 5 rfl dX3_init_31 (by decide) nl_RX3_30 hz6 (by decide +kernel) (by decide +kernel) (by decide) rfl rfl ?_
  have hz7 := hz6.up
  refine e_dup rfl dX3_init_34 ?_
  refine e_aload_n (i := 1) rfl dX3_init_35 ?_
  refine e_aload_n (i := 2) rfl dX3_init_36 ?_
  refine q_cI (nc := 1) (ns := 3) [.ref 6, .ref 73] hko dX3_init_37 ml_RX3_32 (by decide) rfl (by decide) (Nat.le_of_ble_eq_true rfl) rfl rfl (n9_142 hko hz7) ?_
  have hz8 := zn9_142 hz7
  refine q_putF 3 2 dX3_init_40 fl_RX3_35 (Or.inr ⟨rfl, rfl, fw_RX3_35⟩) rfl (by exact ⟨by decide +kernel, by decide, by decide⟩) ?_
  have hz9 := hz8.putF (a := 134) (j := 2) (v := 142) (by decide) (by decide)
  refine e_aload_n (i := 0) rfl dX3_init_43 ?_
  refine q_new (nc := 0) (ns := 0) hko 7 3 rfl dX3_init_44 (by decide) nl_RX3_39 hz9 (by decide +kernel) (by decide +kernel) (by decide) rfl rfl ?_
  have hz10 := hz9.up
  refine e_dup rfl dX3_init_47 ?_
  refine e_aload_n (i := 1) rfl dX3_init_48 ?_
  refine e_aload_n (i := 0) rfl dX3_init_49 ?_
  refine q_getF 3 1 135 dX3_init_50 fl_RX3_12 rfl (by exact ⟨by decide +kernel, by decide, by decide⟩) rfl ?_
  refine e_aload_n (i := 2) rfl dX3_init_53 ?_
  refine q_getF 0 1 91 dX3_init_54 fl_RX3_41 rfl (by exact ⟨by decide +kernel, by decide, by decide⟩) (show F 73 1 = 91 from hb91) ?_
  refine q_cI (nc := 0) (ns := 0) [.ref 6, .ref 135, .ref 91] hko dX3_init_57 ml_RX3_47 (by decide) rfl (by decide) (Nat.le_of_ble_eq_true rfl) rfl rfl (n7_147 hko hz10) ?_
  have hz11 := zn7_147 hz10
  refine q_putF 3 3 dX3_init_60 fl_RX3_50 (Or.inr ⟨rfl, rfl, fw_RX3_50⟩) rfl (by exact ⟨by decide +kernel, by decide, by decide⟩) ?_
  have hz12 := hz11.putF (a := 134) (j := 3) (v := 147) (by decide) (by decide)
  exact e_vret dX3_init_63 rfl ⟨rfl, rfl⟩
def Fn6_148 (F : fT) : fT := (a_u2 (a_u2 (a_u2 (a_u2 (a_u2 (a_u2 (a_u2 (a_u2 (a_u2 (a_u2 (a_u2 (a_u2 (a_u2 (a_u2 (a_u2 (a_u2 (a_u2 (a_u2 (a_u2 (a_u2 (a_u2 (a_u2 (a_u2 (a_u2 (Fn1_149 F) 148 0 149) 164 0 165) 148 1 164) 166 0 167) 148 2 166) 168 0 169) 148 3 168) 170 0 171) 148 4 170) 172 0 173) 148 5 172) 174 0 175) 148 6 174) 176 0 177) 148 7 176) 178 0 179) 148 8 178) 180 0 181) 148 9 180) 182 0 183) 148 10 182) 184 0 185) 148 11 184) 148 12 12)
set_option maxRecDepth 100000 in
set_option maxHeartbeats 4000000 in
theorem zn6_148 {I : iT} {J : jT} {F : fT} (hz : ZR 148 I J F) : ZR 185 ((fillR I 176 0)) J (Fn6_148 F) := by
  have hz1 := hz.up
  have hz2 := zn1_149 hz1
  have hz3 := hz2.putF (a := 148) (j := 0) (v := 149) (by decide) (by decide)
  have hz4 := hz3.up
  have hz5 := (hz4.up).putF (a := 164) (j := 0) (v := 165) (by decide) (by decide)
  have hz6 := hz5.putF (a := 148) (j := 1) (v := 164) (by decide) (by decide)
  have hz7 := hz6.up
  have hz8 := (hz7.up).putF (a := 166) (j := 0) (v := 167) (by decide) (by decide)
  have hz9 := hz8.putF (a := 148) (j := 2) (v := 166) (by decide) (by decide)
  have hz10 := hz9.up
  have hz11 := (hz10.up).putF (a := 168) (j := 0) (v := 169) (by decide) (by decide)
  have hz12 := hz11.putF (a := 148) (j := 3) (v := 168) (by decide) (by decide)
  have hz13 := hz12.up
  have hz14 := (hz13.up).putF (a := 170) (j := 0) (v := 171) (by decide) (by decide)
  have hz15 := hz14.putF (a := 148) (j := 4) (v := 170) (by decide) (by decide)
  have hz16 := hz15.up
  have hz17 := (hz16.up).putF (a := 172) (j := 0) (v := 173) (by decide) (by decide)
  have hz18 := hz17.putF (a := 148) (j := 5) (v := 172) (by decide) (by decide)
  have hz19 := hz18.up
  have hz20 := (hz19.up).putF (a := 174) (j := 0) (v := 175) (by decide) (by decide)
  have hz21 := hz20.putF (a := 148) (j := 6) (v := 174) (by decide) (by decide)
  have hz22 := hz21.up
  have hz23 := (hz22.up).putF (a := 176) (j := 0) (v := 177) (by decide) (by decide)
  have hz24 := hz23.putF (a := 148) (j := 7) (v := 176) (by decide) (by decide)
  have hz25 := hz24.up
  have hz26 := (hz25.up).putF (a := 178) (j := 0) (v := 179) (by decide) (by decide)
  have hz27 := hz26.putF (a := 148) (j := 8) (v := 178) (by decide) (by decide)
  have hz28 := hz27.up
  have hz29 := (hz28.up).putF (a := 180) (j := 0) (v := 181) (by decide) (by decide)
  have hz30 := hz29.putF (a := 148) (j := 9) (v := 180) (by decide) (by decide)
  have hz31 := hz30.up
  have hz32 := (hz31.up).putF (a := 182) (j := 0) (v := 183) (by decide) (by decide)
  have hz33 := hz32.putF (a := 148) (j := 10) (v := 182) (by decide) (by decide)
  have hz34 := hz33.up
  have hz35 := (hz34.up).putF (a := 184) (j := 0) (v := 185) (by decide) (by decide)
  have hz36 := hz35.putF (a := 148) (j := 11) (v := 184) (by decide) (by decide)
  have hz37 := hz36.putF (a := 148) (j := 12) (v := 12) (by decide) (by decide)
  have hz38 := hz37.putI (fillR_above (a := 176) (n := 185) (x := 0) (by decide))
  exact hz38
set_option maxRecDepth 100000 in
set_option maxHeartbeats 4000000 in
theorem n6_148 {l : Launch} {K : a_KT} {g : a_GT} (hko : a_kok K) {I : iT} {J : jT} {F : fT} (hz : ZR 148 I J F) : C l K g 3 37 10167 yX6_init cX6_init 2 none [.ref 148, .ref 12] (hq 148 I J F) (fun r h2 => r = none ∧ h2 = hq 185 ((fillR I 176 0)) J (Fn6_148 F)) := by
  refine c_of [.ref 148, .ref 12] (by decide) (Nat.le_of_ble_eq_true rfl) rfl ?_
  refine e_aload_n (i := 0) rfl dX6_init_0 ?_
  refine e_objInit dX6_init_1 ol_RX6_3 oi_init oc_init (by decide) (by decide) (Nat.le_of_ble_eq_true rfl) ?_
  refine e_aload_n (i := 0) rfl dX6_init_4 ?_
  refine q_new (nc := 36) (ns := 10160) hko 1 7 rfl dX6_init_5 (by decide) nl_RX6_9 hz (by decide +kernel) (by decide +kernel) (by decide) rfl rfl ?_
  have hz1 := hz.up
  refine e_dup rfl dX6_init_8 ?_
  refine q_cI (nc := 22) (ns := 7786) [] hko dX6_init_9 ml_RX6_11 (by decide) rfl (by decide) (Nat.le_of_ble_eq_true rfl) rfl rfl (n1_149 hko hz1) ?_
  have hz2 := zn1_149 hz1
  refine q_putF 6 0 dX6_init_12 fl_RX6_12 (Or.inr ⟨rfl, rfl, fw_RX6_12⟩) rfl (by exact ⟨by decide +kernel, by decide, by decide⟩) ?_
  have hz3 := hz2.putF (a := 148) (j := 0) (v := 149) (by decide) (by decide)
  refine e_aload_n (i := 0) rfl dX6_init_15 ?_
  refine q_new (nc := 21) (ns := 7784) hko 4 2 rfl dX6_init_16 (by decide) nl_RX6_18 hz3 (by decide +kernel) (by decide +kernel) (by decide) rfl rfl ?_
  have hz4 := hz3.up
  refine e_dup rfl dX6_init_19 ?_
  refine e_bipush (v := 80) (by decide) dX6_init_20 ?_
  refine q_cI (nc := 20) (ns := 7704) [.int 80] hko dX6_init_22 ml_RX6_20 (by decide) rfl (by decide) (Nat.le_of_ble_eq_true rfl) rfl rfl (nRow (N := 80) hko hz4 (by exact ⟨by decide +kernel, by decide, by decide⟩) (by decide +kernel) (by decide +kernel) (by decide) (by decide) (by decide)) ?_
  have hz5 := (hz4.up).putF (a := 164) (j := 0) (v := 165) (by decide) (by decide)
  refine q_putF 6 1 dX6_init_25 fl_RX6_23 (Or.inr ⟨rfl, rfl, fw_RX6_23⟩) rfl (by exact ⟨by decide +kernel, by decide, by decide⟩) ?_
  have hz6 := hz5.putF (a := 148) (j := 1) (v := 164) (by decide) (by decide)
  refine e_aload_n (i := 0) rfl dX6_init_28 ?_
  refine q_new (nc := 19) (ns := 7702) hko 4 2 rfl dX6_init_29 (by decide) nl_RX6_18 hz6 (by decide +kernel) (by decide +kernel) (by decide) rfl rfl ?_
  have hz7 := hz6.up
  refine e_dup rfl dX6_init_32 ?_
  refine e_bipush (v := 80) (by decide) dX6_init_33 ?_
  refine q_cI (nc := 18) (ns := 7622) [.int 80] hko dX6_init_35 ml_RX6_20 (by decide) rfl (by decide) (Nat.le_of_ble_eq_true rfl) rfl rfl (nRow (N := 80) hko hz7 (by exact ⟨by decide +kernel, by decide, by decide⟩) (by decide +kernel) (by decide +kernel) (by decide) (by decide) (by decide)) ?_
  have hz8 := (hz7.up).putF (a := 166) (j := 0) (v := 167) (by decide) (by decide)
  refine q_putF 6 2 dX6_init_38 fl_RX6_27 (Or.inr ⟨rfl, rfl, fw_RX6_27⟩) rfl (by exact ⟨by decide +kernel, by decide, by decide⟩) ?_
  have hz9 := hz8.putF (a := 148) (j := 2) (v := 166) (by decide) (by decide)
  refine e_aload_n (i := 0) rfl dX6_init_41 ?_
  refine q_new (nc := 17) (ns := 7620) hko 4 2 rfl dX6_init_42 (by decide) nl_RX6_18 hz9 (by decide +kernel) (by decide +kernel) (by decide) rfl rfl ?_
  have hz10 := hz9.up
  refine e_dup rfl dX6_init_45 ?_
  refine e_bipush (v := 80) (by decide) dX6_init_46 ?_
  refine q_cI (nc := 16) (ns := 7540) [.int 80] hko dX6_init_48 ml_RX6_20 (by decide) rfl (by decide) (Nat.le_of_ble_eq_true rfl) rfl rfl (nRow (N := 80) hko hz10 (by exact ⟨by decide +kernel, by decide, by decide⟩) (by decide +kernel) (by decide +kernel) (by decide) (by decide) (by decide)) ?_
  have hz11 := (hz10.up).putF (a := 168) (j := 0) (v := 169) (by decide) (by decide)
  refine q_putF 6 3 dX6_init_51 fl_RX6_30 (Or.inr ⟨rfl, rfl, fw_RX6_30⟩) rfl (by exact ⟨by decide +kernel, by decide, by decide⟩) ?_
  have hz12 := hz11.putF (a := 148) (j := 3) (v := 168) (by decide) (by decide)
  refine e_aload_n (i := 0) rfl dX6_init_54 ?_
  refine q_new (nc := 15) (ns := 7538) hko 4 2 rfl dX6_init_55 (by decide) nl_RX6_18 hz12 (by decide +kernel) (by decide +kernel) (by decide) rfl rfl ?_
  have hz13 := hz12.up
  refine e_dup rfl dX6_init_58 ?_
  refine e_bipush (v := 80) (by decide) dX6_init_59 ?_
  refine q_cI (nc := 14) (ns := 7458) [.int 80] hko dX6_init_61 ml_RX6_20 (by decide) rfl (by decide) (Nat.le_of_ble_eq_true rfl) rfl rfl (nRow (N := 80) hko hz13 (by exact ⟨by decide +kernel, by decide, by decide⟩) (by decide +kernel) (by decide +kernel) (by decide) (by decide) (by decide)) ?_
  have hz14 := (hz13.up).putF (a := 170) (j := 0) (v := 171) (by decide) (by decide)
  refine q_putF 6 4 dX6_init_64 fl_RX6_33 (Or.inr ⟨rfl, rfl, fw_RX6_33⟩) rfl (by exact ⟨by decide +kernel, by decide, by decide⟩) ?_
  have hz15 := hz14.putF (a := 148) (j := 4) (v := 170) (by decide) (by decide)
  refine e_aload_n (i := 0) rfl dX6_init_67 ?_
  refine q_new (nc := 13) (ns := 7456) hko 4 2 rfl dX6_init_68 (by decide) nl_RX6_18 hz15 (by decide +kernel) (by decide +kernel) (by decide) rfl rfl ?_
  have hz16 := hz15.up
  refine e_dup rfl dX6_init_71 ?_
  refine e_bipush (v := 80) (by decide) dX6_init_72 ?_
  refine q_cI (nc := 12) (ns := 7376) [.int 80] hko dX6_init_74 ml_RX6_20 (by decide) rfl (by decide) (Nat.le_of_ble_eq_true rfl) rfl rfl (nRow (N := 80) hko hz16 (by exact ⟨by decide +kernel, by decide, by decide⟩) (by decide +kernel) (by decide +kernel) (by decide) (by decide) (by decide)) ?_
  have hz17 := (hz16.up).putF (a := 172) (j := 0) (v := 173) (by decide) (by decide)
  refine q_putF 6 5 dX6_init_77 fl_RX6_36 (Or.inr ⟨rfl, rfl, fw_RX6_36⟩) rfl (by exact ⟨by decide +kernel, by decide, by decide⟩) ?_
  have hz18 := hz17.putF (a := 148) (j := 5) (v := 172) (by decide) (by decide)
  refine e_aload_n (i := 0) rfl dX6_init_80 ?_
  refine q_new (nc := 11) (ns := 7374) hko 4 2 rfl dX6_init_81 (by decide) nl_RX6_18 hz18 (by decide +kernel) (by decide +kernel) (by decide) rfl rfl ?_
  have hz19 := hz18.up
  refine e_dup rfl dX6_init_84 ?_
  refine e_bipush (v := 80) (by decide) dX6_init_85 ?_
  refine q_cI (nc := 10) (ns := 7294) [.int 80] hko dX6_init_87 ml_RX6_20 (by decide) rfl (by decide) (Nat.le_of_ble_eq_true rfl) rfl rfl (nRow (N := 80) hko hz19 (by exact ⟨by decide +kernel, by decide, by decide⟩) (by decide +kernel) (by decide +kernel) (by decide) (by decide) (by decide)) ?_
  have hz20 := (hz19.up).putF (a := 174) (j := 0) (v := 175) (by decide) (by decide)
  refine q_putF 6 6 dX6_init_90 fl_RX6_39 (Or.inr ⟨rfl, rfl, fw_RX6_39⟩) rfl (by exact ⟨by decide +kernel, by decide, by decide⟩) ?_
  have hz21 := hz20.putF (a := 148) (j := 6) (v := 174) (by decide) (by decide)
  refine e_aload_n (i := 0) rfl dX6_init_93 ?_
  refine q_new (nc := 9) (ns := 7292) hko 4 2 rfl dX6_init_94 (by decide) nl_RX6_18 hz21 (by decide +kernel) (by decide +kernel) (by decide) rfl rfl ?_
  have hz22 := hz21.up
  refine e_dup rfl dX6_init_97 ?_
  refine e_sipush (v := 6800) (by decide) dX6_init_98 ?_
  refine q_cI (nc := 8) (ns := 492) [.int 6800] hko dX6_init_101 ml_RX6_20 (by decide) rfl (by decide) (Nat.le_of_ble_eq_true rfl) rfl rfl (nRow (N := 6800) hko hz22 (by exact ⟨by decide +kernel, by decide, by decide⟩) (by decide +kernel) (by decide +kernel) (by decide) (by decide) (by decide)) ?_
  have hz23 := (hz22.up).putF (a := 176) (j := 0) (v := 177) (by decide) (by decide)
  refine q_putF 6 7 dX6_init_104 fl_RX6_42 (Or.inr ⟨rfl, rfl, fw_RX6_42⟩) rfl (by exact ⟨by decide +kernel, by decide, by decide⟩) ?_
  have hz24 := hz23.putF (a := 148) (j := 7) (v := 176) (by decide) (by decide)
  refine e_aload_n (i := 0) rfl dX6_init_107 ?_
  refine q_new (nc := 7) (ns := 490) hko 4 2 rfl dX6_init_108 (by decide) nl_RX6_18 hz24 (by decide +kernel) (by decide +kernel) (by decide) rfl rfl ?_
  have hz25 := hz24.up
  refine e_dup rfl dX6_init_111 ?_
  refine e_iconst (v := 4) (by decide) dX6_init_112 ?_
  refine q_cI (nc := 6) (ns := 486) [.int 4] hko dX6_init_113 ml_RX6_20 (by decide) rfl (by decide) (Nat.le_of_ble_eq_true rfl) rfl rfl (nRow (N := 4) hko hz25 (by exact ⟨by decide +kernel, by decide, by decide⟩) (by decide +kernel) (by decide +kernel) (by decide) (by decide) (by decide)) ?_
  have hz26 := (hz25.up).putF (a := 178) (j := 0) (v := 179) (by decide) (by decide)
  refine q_putF 6 8 dX6_init_116 fl_RX6_45 (Or.inr ⟨rfl, rfl, fw_RX6_45⟩) rfl (by exact ⟨by decide +kernel, by decide, by decide⟩) ?_
  have hz27 := hz26.putF (a := 148) (j := 8) (v := 178) (by decide) (by decide)
  refine e_aload_n (i := 0) rfl dX6_init_119 ?_
  refine q_new (nc := 5) (ns := 484) hko 4 2 rfl dX6_init_120 (by decide) nl_RX6_18 hz27 (by decide +kernel) (by decide +kernel) (by decide) rfl rfl ?_
  have hz28 := hz27.up
  refine e_dup rfl dX6_init_123 ?_
  refine e_bipush (v := 80) (by decide) dX6_init_124 ?_
  refine q_cI (nc := 4) (ns := 404) [.int 80] hko dX6_init_126 ml_RX6_20 (by decide) rfl (by decide) (Nat.le_of_ble_eq_true rfl) rfl rfl (nRow (N := 80) hko hz28 (by exact ⟨by decide +kernel, by decide, by decide⟩) (by decide +kernel) (by decide +kernel) (by decide) (by decide) (by decide)) ?_
  have hz29 := (hz28.up).putF (a := 180) (j := 0) (v := 181) (by decide) (by decide)
  refine q_putF 6 9 dX6_init_129 fl_RX6_48 (Or.inr ⟨rfl, rfl, fw_RX6_48⟩) rfl (by exact ⟨by decide +kernel, by decide, by decide⟩) ?_
  have hz30 := hz29.putF (a := 148) (j := 9) (v := 180) (by decide) (by decide)
  refine e_aload_n (i := 0) rfl dX6_init_132 ?_
  refine q_new (nc := 3) (ns := 402) hko 4 2 rfl dX6_init_133 (by decide) nl_RX6_18 hz30 (by decide +kernel) (by decide +kernel) (by decide) rfl rfl ?_
  have hz31 := hz30.up
  refine e_dup rfl dX6_init_136 ?_
  refine e_sipush (v := 200) (by decide) dX6_init_137 ?_
  refine q_cI (nc := 2) (ns := 202) [.int 200] hko dX6_init_140 ml_RX6_20 (by decide) rfl (by decide) (Nat.le_of_ble_eq_true rfl) rfl rfl (nRow (N := 200) hko hz31 (by exact ⟨by decide +kernel, by decide, by decide⟩) (by decide +kernel) (by decide +kernel) (by decide) (by decide) (by decide)) ?_
  have hz32 := (hz31.up).putF (a := 182) (j := 0) (v := 183) (by decide) (by decide)
  refine q_putF 6 10 dX6_init_143 fl_RX6_51 (Or.inr ⟨rfl, rfl, fw_RX6_51⟩) rfl (by exact ⟨by decide +kernel, by decide, by decide⟩) ?_
  have hz33 := hz32.putF (a := 148) (j := 10) (v := 182) (by decide) (by decide)
  refine e_aload_n (i := 0) rfl dX6_init_146 ?_
  refine q_new (nc := 1) (ns := 200) hko 4 2 rfl dX6_init_147 (by decide) nl_RX6_18 hz33 (by decide +kernel) (by decide +kernel) (by decide) rfl rfl ?_
  have hz34 := hz33.up
  refine e_dup rfl dX6_init_150 ?_
  refine e_sipush (v := 200) (by decide) dX6_init_151 ?_
  refine q_cI (nc := 0) (ns := 0) [.int 200] hko dX6_init_154 ml_RX6_20 (by decide) rfl (by decide) (Nat.le_of_ble_eq_true rfl) rfl rfl (nRow (N := 200) hko hz34 (by exact ⟨by decide +kernel, by decide, by decide⟩) (by decide +kernel) (by decide +kernel) (by decide) (by decide) (by decide)) ?_
  have hz35 := (hz34.up).putF (a := 184) (j := 0) (v := 185) (by decide) (by decide)
  refine q_putF 6 11 dX6_init_157 fl_RX6_54 (Or.inr ⟨rfl, rfl, fw_RX6_54⟩) rfl (by exact ⟨by decide +kernel, by decide, by decide⟩) ?_
  have hz36 := hz35.putF (a := 148) (j := 11) (v := 184) (by decide) (by decide)
  refine e_aload_n (i := 0) rfl dX6_init_160 ?_
  refine e_aload_n (i := 1) rfl dX6_init_161 ?_
  refine q_putF 6 12 dX6_init_162 fl_RX6_57 (Or.inl rfl) rfl (by exact ⟨by decide +kernel, by decide, by decide⟩) ?_
  have hz37 := hz36.putF (a := 148) (j := 12) (v := 12) (by decide) (by decide)
  refine e_aload_n (i := 0) rfl dX6_init_165 ?_
  refine q_getF 6 7 176 dX6_init_166 fl_RX6_42 rfl (by exact ⟨by decide +kernel, by decide, by decide⟩) rfl ?_
  refine e_iconst (v := 0) (by decide) dX6_init_169 ?_
  refine e_cV1 (c := 4) hko dX6_init_170 ml_RX6_61 (show iz 185 176 4 from ⟨by decide +kernel, by decide, by decide⟩) (by decide) rfl (d2 := 0) (by decide) (Nat.le_of_ble_eq_true rfl) (uX4_fill hko ⟨⟨by decide +kernel, by decide, by decide⟩, ⟨by decide +kernel, by decide, by decide⟩, rfl⟩ I _ trivial 0 _ (fill_eq (by decide +kernel))) ?_
  rintro _ _ ⟨rfl, rfl⟩
  have hz38 := hz37.putI (fillR_above (a := 176) (n := 185) (x := 0) (by decide))
  exact e_vret dX6_init_173 rfl ⟨rfl, rfl⟩
def Fn11_1 (F : fT) : fT := (a_u2 (Fn6_148 (a_u2 (Fn3_134 (a_u2 (Fn0_73 (a_u2 (Fn0_12 (a_u2 (Fn2_6 (a_u2 (a_u2 (a_u2 (a_u2 F 2 0 3) 1 0 2) 4 0 5) 1 1 4)) 1 2 6)) 1 5 12)) 1 6 73)) 1 3 134)) 1 4 148)
set_option maxRecDepth 100000 in
set_option maxHeartbeats 4000000 in
theorem zn11_1 {I : iT} {J : jT} {F : fT} {IC : iT} (hmC : mX2_init_62 LF (a_u2 (a_u2 I 6 6 260) 6 10 (-1)) 0 0 0 = some IC) (hz : ZR 1 I J F) : ZR 185 ((fillR (a_u2 (fillR (fillR (fillR IC 136 0) 138 (-1)) 140 0) 134 6 (-1)) 176 0)) J (Fn11_1 F) := by
  have hz1 := hz.up
  have hz2 := (hz1.up).putF (a := 2) (j := 0) (v := 3) (by decide) (by decide)
  have hz3 := hz2.putF (a := 1) (j := 0) (v := 2) (by decide) (by decide)
  have hz4 := hz3.up
  have hz5 := (hz4.up).putF (a := 4) (j := 0) (v := 5) (by decide) (by decide)
  have hz6 := hz5.putF (a := 1) (j := 1) (v := 4) (by decide) (by decide)
  have hz7 := hz6.up
  have hz8 := zn2_6 hmC hz7
  have hz9 := hz8.putF (a := 1) (j := 2) (v := 6) (by decide) (by decide)
  have hz10 := hz9.up
  have hz11 := zn0_12 hz10
  have hz12 := hz11.putF (a := 1) (j := 5) (v := 12) (by decide) (by decide)
  have hz13 := hz12.up
  have hz14 := zn0_73 hz13
  have hz15 := hz14.putF (a := 1) (j := 6) (v := 73) (by decide) (by decide)
  have hz16 := hz15.up
  have hz17 := zn3_134 hz16
  have hz18 := hz17.putF (a := 1) (j := 3) (v := 134) (by decide) (by decide)
  have hz19 := hz18.up
  have hz20 := zn6_148 hz19
  have hz21 := hz20.putF (a := 1) (j := 4) (v := 148) (by decide) (by decide)
  exact hz21
set_option maxRecDepth 100000 in
set_option maxHeartbeats 4000000 in
theorem n11_1 {l : Launch} {K : a_KT} {g : a_GT} (hko : a_kok K) (hS : StrOK l K g) {I : iT} {J : jT} {F : fT} (hz : ZR 1 I J F) {IC : iT} (hmC : mX2_init_62 LF (a_u2 (a_u2 I 6 6 260) 6 10 (-1)) 0 0 0 = some IC) : C l K g 15 184 46204 yX11_init cX11_init 1 none [.ref 1] (hq 1 I J F) (fun r h2 => r = none ∧ h2 = hq 185 ((fillR (a_u2 (fillR (fillR (fillR IC 136 0) 138 (-1)) 140 0) 134 6 (-1)) 176 0)) J (Fn11_1 F)) := by
  refine c_of [.ref 1] (by decide) (Nat.le_of_ble_eq_true rfl) rfl ?_
  refine e_aload_n (i := 0) rfl dX11_init_0 ?_
  refine e_objInit dX11_init_1 ol_RX11_3 oi_init oc_init (by decide) (by decide) (Nat.le_of_ble_eq_true rfl) ?_
  refine e_aload_n (i := 0) rfl dX11_init_4 ?_
  refine q_new (nc := 183) (ns := 46202) hko 4 2 rfl dX11_init_5 (by decide) nl_RX11_9 hz (by decide +kernel) (by decide +kernel) (by decide) rfl rfl ?_
  have hz1 := hz.up
  refine e_dup rfl dX11_init_8 ?_
  refine e_sipush (v := 1000) (by decide) dX11_init_9 ?_
  refine q_cI (nc := 182) (ns := 45202) [.int 1000] hko dX11_init_12 ml_RX11_11 (by decide) rfl (by decide) (Nat.le_of_ble_eq_true rfl) rfl rfl (nRow (N := 1000) hko hz1 (by exact ⟨by decide +kernel, by decide, by decide⟩) (by decide +kernel) (by decide +kernel) (by decide) (by decide) (by decide)) ?_
  have hz2 := (hz1.up).putF (a := 2) (j := 0) (v := 3) (by decide) (by decide)
  refine q_putF 11 0 dX11_init_15 fl_RX11_14 (Or.inr ⟨rfl, rfl, fw_RX11_14⟩) rfl (by exact ⟨by decide +kernel, by decide, by decide⟩) ?_
  have hz3 := hz2.putF (a := 1) (j := 0) (v := 2) (by decide) (by decide)
  refine e_aload_n (i := 0) rfl dX11_init_18 ?_
  refine q_new (nc := 181) (ns := 45200) hko 4 2 rfl dX11_init_19 (by decide) nl_RX11_9 hz3 (by decide +kernel) (by decide +kernel) (by decide) rfl rfl ?_
  have hz4 := hz3.up
  refine e_dup rfl dX11_init_22 ?_
  refine e_sipush (v := 4000) (by decide) dX11_init_23 ?_
  refine q_cI (nc := 180) (ns := 41200) [.int 4000] hko dX11_init_26 ml_RX11_11 (by decide) rfl (by decide) (Nat.le_of_ble_eq_true rfl) rfl rfl (nRow (N := 4000) hko hz4 (by exact ⟨by decide +kernel, by decide, by decide⟩) (by decide +kernel) (by decide +kernel) (by decide) (by decide) (by decide)) ?_
  have hz5 := (hz4.up).putF (a := 4) (j := 0) (v := 5) (by decide) (by decide)
  refine q_putF 11 1 dX11_init_29 fl_RX11_18 (Or.inr ⟨rfl, rfl, fw_RX11_18⟩) rfl (by exact ⟨by decide +kernel, by decide, by decide⟩) ?_
  have hz6 := hz5.putF (a := 1) (j := 1) (v := 4) (by decide) (by decide)
  refine e_aload_n (i := 0) rfl dX11_init_32 ?_
  refine q_new (nc := 179) (ns := 41189) hko 2 11 rfl dX11_init_33 (by decide) nl_RX11_21 hz6 (by decide +kernel) (by decide +kernel) (by decide) rfl rfl ?_
  have hz7 := hz6.up
  refine e_dup rfl dX11_init_36 ?_
  refine q_cI (nc := 174) (ns := 38167) [] hko dX11_init_37 ml_RX11_23 (by decide) rfl (by decide) (Nat.le_of_ble_eq_true rfl) rfl rfl (n2_6 hko hS hz7 hmC) ?_
  have hz8 := zn2_6 hmC hz7
  refine q_putF 11 2 dX11_init_40 fl_RX11_24 (Or.inr ⟨rfl, rfl, fw_RX11_24⟩) rfl (by exact ⟨by decide +kernel, by decide, by decide⟩) ?_
  have hz9 := hz8.putF (a := 1) (j := 2) (v := 6) (by decide) (by decide)
  refine e_aload_n (i := 0) rfl dX11_init_43 ?_
  refine q_new (nc := 173) (ns := 38149) hko 0 18 rfl dX11_init_44 (by decide) nl_RX11_28 hz9 (by decide +kernel) (by decide +kernel) (by decide) rfl rfl ?_
  have hz10 := hz9.up
  refine e_dup rfl dX11_init_47 ?_
  refine q_cI (nc := 113) (ns := 25032) [] hko dX11_init_48 ml_RX11_30 (by decide) rfl (by decide) (Nat.le_of_ble_eq_true rfl) rfl rfl (n0_12 hko hz10) ?_
  have hz11 := zn0_12 hz10
  refine q_putF 11 5 dX11_init_51 fl_RX11_31 (Or.inl rfl) rfl (by exact ⟨by decide +kernel, by decide, by decide⟩) ?_
  have hz12 := hz11.putF (a := 1) (j := 5) (v := 12) (by decide) (by decide)
  refine e_aload_n (i := 0) rfl dX11_init_54 ?_
  refine q_new (nc := 112) (ns := 25014) hko 0 18 rfl dX11_init_55 (by decide) nl_RX11_28 hz12 (by decide +kernel) (by decide +kernel) (by decide) rfl rfl ?_
  have hz13 := hz12.up
  refine e_dup rfl dX11_init_58 ?_
  refine q_cI (nc := 52) (ns := 11897) [] hko dX11_init_59 ml_RX11_30 (by decide) rfl (by decide) (Nat.le_of_ble_eq_true rfl) rfl rfl (n0_73 hko hz13) ?_
  have hz14 := zn0_73 hz13
  refine q_putF 11 6 dX11_init_62 fl_RX11_35 (Or.inl rfl) rfl (by exact ⟨by decide +kernel, by decide, by decide⟩) ?_
  have hz15 := hz14.putF (a := 1) (j := 6) (v := 73) (by decide) (by decide)
  refine e_aload_n (i := 0) rfl dX11_init_65 ?_
  refine q_new (nc := 51) (ns := 11890) hko 3 7 rfl dX11_init_66 (by decide) nl_RX11_38 hz15 (by decide +kernel) (by decide +kernel) (by decide) rfl rfl ?_
  have hz16 := hz15.up
  refine e_dup rfl dX11_init_69 ?_
  refine e_aload_n (i := 0) rfl dX11_init_70 ?_
  refine q_getF 11 2 6 dX11_init_71 fl_RX11_24 rfl (by exact ⟨by decide +kernel, by decide, by decide⟩) rfl ?_
  refine e_aload_n (i := 0) rfl dX11_init_74 ?_
  refine q_getF 11 6 73 dX11_init_75 fl_RX11_35 rfl (by exact ⟨by decide +kernel, by decide, by decide⟩) rfl ?_
  refine q_cI (nc := 38) (ns := 10183) [.ref 6, .ref 73] hko dX11_init_78 ml_RX11_40 (by decide) rfl (by decide) (Nat.le_of_ble_eq_true rfl) rfl rfl (n3_134 hko hz16 rfl) ?_
  have hz17 := zn3_134 hz16
  refine q_putF 11 3 dX11_init_81 fl_RX11_43 (Or.inr ⟨rfl, rfl, fw_RX11_43⟩) rfl (by exact ⟨by decide +kernel, by decide, by decide⟩) ?_
  have hz18 := hz17.putF (a := 1) (j := 3) (v := 134) (by decide) (by decide)
  refine e_aload_n (i := 0) rfl dX11_init_84 ?_
  refine q_new (nc := 37) (ns := 10167) hko 6 16 rfl dX11_init_85 (by decide) nl_RX11_47 hz18 (by decide +kernel) (by decide +kernel) (by decide) rfl rfl ?_
  have hz19 := hz18.up
  refine e_dup rfl dX11_init_88 ?_
  refine e_aload_n (i := 0) rfl dX11_init_89 ?_
  refine q_getF 11 5 12 dX11_init_90 fl_RX11_31 rfl (by exact ⟨by decide +kernel, by decide, by decide⟩) rfl ?_
  refine q_cI (nc := 0) (ns := 0) [.ref 12] hko dX11_init_93 ml_RX11_49 (by decide) rfl (by decide) (Nat.le_of_ble_eq_true rfl) rfl rfl (n6_148 hko hz19) ?_
  have hz20 := zn6_148 hz19
  refine q_putF 11 4 dX11_init_96 fl_RX11_52 (Or.inr ⟨rfl, rfl, fw_RX11_52⟩) rfl (by exact ⟨by decide +kernel, by decide, by decide⟩) ?_
  have hz21 := hz20.putF (a := 1) (j := 4) (v := 148) (by decide) (by decide)
  exact e_vret dX11_init_99 rfl ⟨rfl, rfl⟩
