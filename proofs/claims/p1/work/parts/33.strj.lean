/-! STRINGS: the rules of StrOK out of the JDK's own code -/
theorem dJ0_length_8abf5_0 : decode cJ0_length_8abf5 0 = .ok (.aload_n 0, 1) := by decide +kernel
theorem dJ0_length_8abf5_1 : decode cJ0_length_8abf5 1 = .ok (.getfield 9, 3) := by decide +kernel
theorem dJ0_length_8abf5_4 : decode cJ0_length_8abf5 4 = .ok (.arraylength, 1) := by decide +kernel
theorem dJ0_length_8abf5_5 : decode cJ0_length_8abf5 5 = .ok (.aload_n 0, 1) := by decide +kernel
theorem dJ0_length_8abf5_6 : decode cJ0_length_8abf5 6 = .ok (.invokevirtual 335, 3) := by decide +kernel
theorem dJ0_length_8abf5_9 : decode cJ0_length_8abf5 9 = .ok (.ishr, 1) := by decide +kernel
theorem dJ0_length_8abf5_10 : decode cJ0_length_8abf5 10 = .ok (.ireturn, 1) := by decide +kernel
theorem dJ0_coder_7d493_0 : decode cJ0_coder_7d493 0 = .ok (.getstatic 38, 3) := by decide +kernel
theorem dJ0_coder_7d493_3 : decode cJ0_coder_7d493 3 = .ok (.ifCond .eq 10, 3) := by decide +kernel
theorem dJ0_coder_7d493_6 : decode cJ0_coder_7d493 6 = .ok (.aload_n 0, 1) := by decide +kernel
theorem dJ0_coder_7d493_7 : decode cJ0_coder_7d493 7 = .ok (.getfield 15, 3) := by decide +kernel
theorem dJ0_coder_7d493_10 : decode cJ0_coder_7d493 10 = .ok (.goto 4, 3) := by decide +kernel
theorem dJ0_coder_7d493_13 : decode cJ0_coder_7d493 13 = .ok (.iconst 1, 1) := by decide +kernel
theorem dJ0_coder_7d493_14 : decode cJ0_coder_7d493 14 = .ok (.ireturn, 1) := by decide +kernel
theorem dJ0_isLatin1_aae02_0 : decode cJ0_isLatin1_aae02 0 = .ok (.getstatic 38, 3) := by decide +kernel
theorem dJ0_isLatin1_aae02_3 : decode cJ0_isLatin1_aae02 3 = .ok (.ifCond .eq 14, 3) := by decide +kernel
theorem dJ0_isLatin1_aae02_6 : decode cJ0_isLatin1_aae02 6 = .ok (.aload_n 0, 1) := by decide +kernel
theorem dJ0_isLatin1_aae02_7 : decode cJ0_isLatin1_aae02 7 = .ok (.getfield 15, 3) := by decide +kernel
theorem dJ0_isLatin1_aae02_10 : decode cJ0_isLatin1_aae02 10 = .ok (.ifCond .ne 7, 3) := by decide +kernel
theorem dJ0_isLatin1_aae02_13 : decode cJ0_isLatin1_aae02 13 = .ok (.iconst 1, 1) := by decide +kernel
theorem dJ0_isLatin1_aae02_14 : decode cJ0_isLatin1_aae02 14 = .ok (.goto 4, 3) := by decide +kernel
theorem dJ0_isLatin1_aae02_17 : decode cJ0_isLatin1_aae02 17 = .ok (.iconst 0, 1) := by decide +kernel
theorem dJ0_isLatin1_aae02_18 : decode cJ0_isLatin1_aae02 18 = .ok (.ireturn, 1) := by decide +kernel
theorem dJ0_charAt_5068e_0 : decode cJ0_charAt_5068e 0 = .ok (.aload_n 0, 1) := by decide +kernel
theorem dJ0_charAt_5068e_1 : decode cJ0_charAt_5068e 1 = .ok (.invokevirtual 492, 3) := by decide +kernel
theorem dJ0_charAt_5068e_4 : decode cJ0_charAt_5068e 4 = .ok (.ifCond .eq 12, 3) := by decide +kernel
theorem dJ0_charAt_5068e_7 : decode cJ0_charAt_5068e 7 = .ok (.aload_n 0, 1) := by decide +kernel
theorem dJ0_charAt_5068e_8 : decode cJ0_charAt_5068e 8 = .ok (.getfield 9, 3) := by decide +kernel
theorem dJ0_charAt_5068e_11 : decode cJ0_charAt_5068e 11 = .ok (.iload_n 1, 1) := by decide +kernel
theorem dJ0_charAt_5068e_12 : decode cJ0_charAt_5068e 12 = .ok (.invokestatic 495, 3) := by decide +kernel
theorem dJ0_charAt_5068e_15 : decode cJ0_charAt_5068e 15 = .ok (.ireturn, 1) := by decide +kernel
theorem dJ0_charAt_5068e_16 : decode cJ0_charAt_5068e 16 = .ok (.aload_n 0, 1) := by decide +kernel
theorem dJ0_charAt_5068e_17 : decode cJ0_charAt_5068e 17 = .ok (.getfield 9, 3) := by decide +kernel
theorem dJ0_charAt_5068e_20 : decode cJ0_charAt_5068e 20 = .ok (.iload_n 1, 1) := by decide +kernel
theorem dJ0_charAt_5068e_21 : decode cJ0_charAt_5068e 21 = .ok (.invokestatic 498, 3) := by decide +kernel
theorem dJ0_charAt_5068e_24 : decode cJ0_charAt_5068e 24 = .ok (.ireturn, 1) := by decide +kernel
theorem dJ0_checkIndex_df160_0 : decode cJ0_checkIndex_df160 0 = .ok (.iload_n 0, 1) := by decide +kernel
theorem dJ0_checkIndex_df160_1 : decode cJ0_checkIndex_df160 1 = .ok (.iload_n 1, 1) := by decide +kernel
theorem dJ0_checkIndex_df160_2 : decode cJ0_checkIndex_df160 2 = .ok (.getstatic 1053, 3) := by decide +kernel
theorem dJ0_checkIndex_df160_5 : decode cJ0_checkIndex_df160 5 = .ok (.invokestatic 1059, 3) := by decide +kernel
theorem dJ0_checkIndex_df160_8 : decode cJ0_checkIndex_df160 8 = .ok (.pop, 1) := by decide +kernel
theorem dJ0_checkIndex_df160_9 : decode cJ0_checkIndex_df160 9 = .ok (.return_, 1) := by decide +kernel
theorem dJ3_checkIndex_8e157_0 : decode cJ3_checkIndex_8e157 0 = .ok (.iload_n 0, 1) := by decide +kernel
theorem dJ3_checkIndex_8e157_1 : decode cJ3_checkIndex_8e157 1 = .ok (.ifCond .lt 8, 3) := by decide +kernel
theorem dJ3_checkIndex_8e157_4 : decode cJ3_checkIndex_8e157 4 = .ok (.iload_n 0, 1) := by decide +kernel
theorem dJ3_checkIndex_8e157_5 : decode cJ3_checkIndex_8e157 5 = .ok (.iload_n 1, 1) := by decide +kernel
theorem dJ3_checkIndex_8e157_6 : decode cJ3_checkIndex_8e157 6 = .ok (.if_icmp .lt 10, 3) := by decide +kernel
theorem dJ3_checkIndex_8e157_9 : decode cJ3_checkIndex_8e157 9 = .ok (.aload_n 2, 1) := by decide +kernel
theorem dJ3_checkIndex_8e157_10 : decode cJ3_checkIndex_8e157 10 = .ok (.iload_n 0, 1) := by decide +kernel
theorem dJ3_checkIndex_8e157_11 : decode cJ3_checkIndex_8e157 11 = .ok (.iload_n 1, 1) := by decide +kernel
theorem dJ3_checkIndex_8e157_12 : decode cJ3_checkIndex_8e157 12 = .ok (.invokestatic 95, 3) := by decide +kernel
theorem dJ3_checkIndex_8e157_15 : decode cJ3_checkIndex_8e157 15 = .ok (.athrow, 1) := by decide +kernel
theorem dJ3_checkIndex_8e157_16 : decode cJ3_checkIndex_8e157 16 = .ok (.iload_n 0, 1) := by decide +kernel
theorem dJ3_checkIndex_8e157_17 : decode cJ3_checkIndex_8e157 17 = .ok (.ireturn, 1) := by decide +kernel
theorem dJ1_charAt_3b067_0 : decode cJ1_charAt_3b067 0 = .ok (.iload_n 1, 1) := by decide +kernel
theorem dJ1_charAt_3b067_1 : decode cJ1_charAt_3b067 1 = .ok (.aload_n 0, 1) := by decide +kernel
theorem dJ1_charAt_3b067_2 : decode cJ1_charAt_3b067 2 = .ok (.arraylength, 1) := by decide +kernel
theorem dJ1_charAt_3b067_3 : decode cJ1_charAt_3b067 3 = .ok (.invokestatic 9, 3) := by decide +kernel
theorem dJ1_charAt_3b067_6 : decode cJ1_charAt_3b067 6 = .ok (.aload_n 0, 1) := by decide +kernel
theorem dJ1_charAt_3b067_7 : decode cJ1_charAt_3b067 7 = .ok (.iload_n 1, 1) := by decide +kernel
theorem dJ1_charAt_3b067_8 : decode cJ1_charAt_3b067 8 = .ok (.baload, 1) := by decide +kernel
theorem dJ1_charAt_3b067_9 : decode cJ1_charAt_3b067 9 = .ok (.sipush 255, 3) := by decide +kernel
theorem dJ1_charAt_3b067_12 : decode cJ1_charAt_3b067 12 = .ok (.iand, 1) := by decide +kernel
theorem dJ1_charAt_3b067_13 : decode cJ1_charAt_3b067 13 = .ok (.i2c, 1) := by decide +kernel
theorem dJ1_charAt_3b067_14 : decode cJ1_charAt_3b067 14 = .ok (.ireturn, 1) := by decide +kernel
theorem dJ0_indexOf_0f7a4_0 : decode cJ0_indexOf_0f7a4 0 = .ok (.aload_n 0, 1) := by decide +kernel
theorem dJ0_indexOf_0f7a4_1 : decode cJ0_indexOf_0f7a4 1 = .ok (.iload_n 1, 1) := by decide +kernel
theorem dJ0_indexOf_0f7a4_2 : decode cJ0_indexOf_0f7a4 2 = .ok (.iconst 0, 1) := by decide +kernel
theorem dJ0_indexOf_0f7a4_3 : decode cJ0_indexOf_0f7a4 3 = .ok (.invokevirtual 633, 3) := by decide +kernel
theorem dJ0_indexOf_0f7a4_6 : decode cJ0_indexOf_0f7a4 6 = .ok (.ireturn, 1) := by decide +kernel
theorem dJ0_indexOf_7cf53_0 : decode cJ0_indexOf_7cf53 0 = .ok (.aload_n 0, 1) := by decide +kernel
theorem dJ0_indexOf_7cf53_1 : decode cJ0_indexOf_7cf53 1 = .ok (.invokevirtual 492, 3) := by decide +kernel
theorem dJ0_indexOf_7cf53_4 : decode cJ0_indexOf_7cf53 4 = .ok (.ifCond .eq 19, 3) := by decide +kernel
theorem dJ0_indexOf_7cf53_7 : decode cJ0_indexOf_7cf53 7 = .ok (.aload_n 0, 1) := by decide +kernel
theorem dJ0_indexOf_7cf53_8 : decode cJ0_indexOf_7cf53 8 = .ok (.getfield 9, 3) := by decide +kernel
theorem dJ0_indexOf_7cf53_11 : decode cJ0_indexOf_7cf53 11 = .ok (.iload_n 1, 1) := by decide +kernel
theorem dJ0_indexOf_7cf53_12 : decode cJ0_indexOf_7cf53 12 = .ok (.iload_n 2, 1) := by decide +kernel
theorem dJ0_indexOf_7cf53_13 : decode cJ0_indexOf_7cf53 13 = .ok (.aload_n 0, 1) := by decide +kernel
theorem dJ0_indexOf_7cf53_14 : decode cJ0_indexOf_7cf53 14 = .ok (.invokevirtual 505, 3) := by decide +kernel
theorem dJ0_indexOf_7cf53_17 : decode cJ0_indexOf_7cf53 17 = .ok (.invokestatic 637, 3) := by decide +kernel
theorem dJ0_indexOf_7cf53_20 : decode cJ0_indexOf_7cf53 20 = .ok (.goto 16, 3) := by decide +kernel
theorem dJ0_indexOf_7cf53_23 : decode cJ0_indexOf_7cf53 23 = .ok (.aload_n 0, 1) := by decide +kernel
theorem dJ0_indexOf_7cf53_24 : decode cJ0_indexOf_7cf53 24 = .ok (.getfield 9, 3) := by decide +kernel
theorem dJ0_indexOf_7cf53_27 : decode cJ0_indexOf_7cf53 27 = .ok (.iload_n 1, 1) := by decide +kernel
theorem dJ0_indexOf_7cf53_28 : decode cJ0_indexOf_7cf53 28 = .ok (.iload_n 2, 1) := by decide +kernel
theorem dJ0_indexOf_7cf53_29 : decode cJ0_indexOf_7cf53 29 = .ok (.aload_n 0, 1) := by decide +kernel
theorem dJ0_indexOf_7cf53_30 : decode cJ0_indexOf_7cf53 30 = .ok (.invokevirtual 505, 3) := by decide +kernel
theorem dJ0_indexOf_7cf53_33 : decode cJ0_indexOf_7cf53 33 = .ok (.invokestatic 640, 3) := by decide +kernel
theorem dJ0_indexOf_7cf53_36 : decode cJ0_indexOf_7cf53 36 = .ok (.ireturn, 1) := by decide +kernel
theorem dJ1_canEncode_9a6ad_0 : decode cJ1_canEncode_9a6ad 0 = .ok (.iload_n 0, 1) := by decide +kernel
theorem dJ1_canEncode_9a6ad_1 : decode cJ1_canEncode_9a6ad 1 = .ok (.ifCond .lt 14, 3) := by decide +kernel
theorem dJ1_canEncode_9a6ad_4 : decode cJ1_canEncode_9a6ad 4 = .ok (.iload_n 0, 1) := by decide +kernel
theorem dJ1_canEncode_9a6ad_5 : decode cJ1_canEncode_9a6ad 5 = .ok (.sipush 255, 3) := by decide +kernel
theorem dJ1_canEncode_9a6ad_8 : decode cJ1_canEncode_9a6ad 8 = .ok (.if_icmp .gt 7, 3) := by decide +kernel
theorem dJ1_canEncode_9a6ad_11 : decode cJ1_canEncode_9a6ad 11 = .ok (.iconst 1, 1) := by decide +kernel
theorem dJ1_canEncode_9a6ad_12 : decode cJ1_canEncode_9a6ad 12 = .ok (.goto 4, 3) := by decide +kernel
theorem dJ1_canEncode_9a6ad_15 : decode cJ1_canEncode_9a6ad 15 = .ok (.iconst 0, 1) := by decide +kernel
theorem dJ1_canEncode_9a6ad_16 : decode cJ1_canEncode_9a6ad 16 = .ok (.ireturn, 1) := by decide +kernel
theorem dJ1_indexOf_4cfef_0 : decode cJ1_indexOf_4cfef 0 = .ok (.iload_n 1, 1) := by decide +kernel
theorem dJ1_indexOf_4cfef_1 : decode cJ1_indexOf_4cfef 1 = .ok (.invokestatic 88, 3) := by decide +kernel
theorem dJ1_indexOf_4cfef_4 : decode cJ1_indexOf_4cfef 4 = .ok (.ifCond .ne 5, 3) := by decide +kernel
theorem dJ1_indexOf_4cfef_7 : decode cJ1_indexOf_4cfef 7 = .ok (.iconst (-1), 1) := by decide +kernel
theorem dJ1_indexOf_4cfef_8 : decode cJ1_indexOf_4cfef 8 = .ok (.ireturn, 1) := by decide +kernel
theorem dJ1_indexOf_4cfef_9 : decode cJ1_indexOf_4cfef 9 = .ok (.iload_n 2, 1) := by decide +kernel
theorem dJ1_indexOf_4cfef_10 : decode cJ1_indexOf_4cfef 10 = .ok (.iconst 0, 1) := by decide +kernel
theorem dJ1_indexOf_4cfef_11 : decode cJ1_indexOf_4cfef 11 = .ok (.invokestatic 92, 3) := by decide +kernel
theorem dJ1_indexOf_4cfef_14 : decode cJ1_indexOf_4cfef 14 = .ok (.istore_n 2, 1) := by decide +kernel
theorem dJ1_indexOf_4cfef_15 : decode cJ1_indexOf_4cfef 15 = .ok (.iload_n 3, 1) := by decide +kernel
theorem dJ1_indexOf_4cfef_16 : decode cJ1_indexOf_4cfef 16 = .ok (.aload_n 0, 1) := by decide +kernel
theorem dJ1_indexOf_4cfef_17 : decode cJ1_indexOf_4cfef 17 = .ok (.arraylength, 1) := by decide +kernel
theorem dJ1_indexOf_4cfef_18 : decode cJ1_indexOf_4cfef 18 = .ok (.invokestatic 38, 3) := by decide +kernel
theorem dJ1_indexOf_4cfef_21 : decode cJ1_indexOf_4cfef 21 = .ok (.istore_n 3, 1) := by decide +kernel
theorem dJ1_indexOf_4cfef_22 : decode cJ1_indexOf_4cfef 22 = .ok (.iload_n 2, 1) := by decide +kernel
theorem dJ1_indexOf_4cfef_23 : decode cJ1_indexOf_4cfef 23 = .ok (.iload_n 3, 1) := by decide +kernel
theorem dJ1_indexOf_4cfef_24 : decode cJ1_indexOf_4cfef 24 = .ok (.if_icmp .lt 5, 3) := by decide +kernel
theorem dJ1_indexOf_4cfef_27 : decode cJ1_indexOf_4cfef 27 = .ok (.iconst (-1), 1) := by decide +kernel
theorem dJ1_indexOf_4cfef_28 : decode cJ1_indexOf_4cfef 28 = .ok (.ireturn, 1) := by decide +kernel
theorem dJ1_indexOf_4cfef_29 : decode cJ1_indexOf_4cfef 29 = .ok (.aload_n 0, 1) := by decide +kernel
theorem dJ1_indexOf_4cfef_30 : decode cJ1_indexOf_4cfef 30 = .ok (.iload_n 1, 1) := by decide +kernel
theorem dJ1_indexOf_4cfef_31 : decode cJ1_indexOf_4cfef 31 = .ok (.iload_n 2, 1) := by decide +kernel
theorem dJ1_indexOf_4cfef_32 : decode cJ1_indexOf_4cfef 32 = .ok (.iload_n 3, 1) := by decide +kernel
theorem dJ1_indexOf_4cfef_33 : decode cJ1_indexOf_4cfef 33 = .ok (.invokestatic 95, 3) := by decide +kernel
theorem dJ1_indexOf_4cfef_36 : decode cJ1_indexOf_4cfef 36 = .ok (.ireturn, 1) := by decide +kernel
theorem dJ1_indexOfChar_4cfef_0 : decode cJ1_indexOfChar_4cfef 0 = .ok (.iload_n 1, 1) := by decide +kernel
theorem dJ1_indexOfChar_4cfef_1 : decode cJ1_indexOfChar_4cfef 1 = .ok (.i2b, 1) := by decide +kernel
theorem dJ1_indexOfChar_4cfef_2 : decode cJ1_indexOfChar_4cfef 2 = .ok (.istore 4, 2) := by decide +kernel
theorem dJ1_indexOfChar_4cfef_4 : decode cJ1_indexOfChar_4cfef 4 = .ok (.iload_n 2, 1) := by decide +kernel
theorem dJ1_indexOfChar_4cfef_5 : decode cJ1_indexOfChar_4cfef 5 = .ok (.istore 5, 2) := by decide +kernel
theorem dJ1_indexOfChar_4cfef_7 : decode cJ1_indexOfChar_4cfef 7 = .ok (.iload 5, 2) := by decide +kernel
theorem dJ1_indexOfChar_4cfef_9 : decode cJ1_indexOfChar_4cfef 9 = .ok (.iload_n 3, 1) := by decide +kernel
theorem dJ1_indexOfChar_4cfef_10 : decode cJ1_indexOfChar_4cfef 10 = .ok (.if_icmp .ge 21, 3) := by decide +kernel
theorem dJ1_indexOfChar_4cfef_13 : decode cJ1_indexOfChar_4cfef 13 = .ok (.aload_n 0, 1) := by decide +kernel
theorem dJ1_indexOfChar_4cfef_14 : decode cJ1_indexOfChar_4cfef 14 = .ok (.iload 5, 2) := by decide +kernel
theorem dJ1_indexOfChar_4cfef_16 : decode cJ1_indexOfChar_4cfef 16 = .ok (.baload, 1) := by decide +kernel
theorem dJ1_indexOfChar_4cfef_17 : decode cJ1_indexOfChar_4cfef 17 = .ok (.iload 4, 2) := by decide +kernel
theorem dJ1_indexOfChar_4cfef_19 : decode cJ1_indexOfChar_4cfef 19 = .ok (.if_icmp .ne 6, 3) := by decide +kernel
theorem dJ1_indexOfChar_4cfef_22 : decode cJ1_indexOfChar_4cfef 22 = .ok (.iload 5, 2) := by decide +kernel
theorem dJ1_indexOfChar_4cfef_24 : decode cJ1_indexOfChar_4cfef 24 = .ok (.ireturn, 1) := by decide +kernel
theorem dJ1_indexOfChar_4cfef_25 : decode cJ1_indexOfChar_4cfef 25 = .ok (.iinc 5 1, 3) := by decide +kernel
theorem dJ1_indexOfChar_4cfef_28 : decode cJ1_indexOfChar_4cfef 28 = .ok (.goto (-21), 3) := by decide +kernel
theorem dJ1_indexOfChar_4cfef_31 : decode cJ1_indexOfChar_4cfef 31 = .ok (.iconst (-1), 1) := by decide +kernel
theorem dJ1_indexOfChar_4cfef_32 : decode cJ1_indexOfChar_4cfef 32 = .ok (.ireturn, 1) := by decide +kernel
def SLEN : List Nat := STRB.map List.length
def STX : List String := ["type def end put get send take pick case new same go if else say close wait ", "(){},;:.=!?><+-*&|", " }", " { ", " , ", " : ", "end", " . "]
/-- what is known of the String constants -/
def KTs (s : State) (H : Heap) (A : Nat → Prop) (σ : Nat → Nat) : Prop := vk_S 8 SLEN STRB (fun i => σ (1000000 + i)) (fun i => σ (1000100 + i)) A s H ∧ va_Z "java/lang/String" "COMPACT_STRINGS" "Z" (.int 1) A s H ∧ (va_Z "jdk/internal/util/Preconditions" "SIOOBE_FORMATTER" "Ljava/util/function/BiFunction;" .null A s H ∨ va_Z "jdk/internal/util/Preconditions" "SIOOBE_FORMATTER" "Ljava/util/function/BiFunction;" (.ref (σ 1000300)) A s H) ∧ ∀ (k : Nat) (own : String) (idx : Nat), srk own idx = some k → vk_R own idx (STX.getD k "") (σ (1000000 + k)) s
def KT (K : a_KT) : Prop := ∀ (s : State) (A : Nat → Prop) (σ : Nat → Nat), K s s.heap A σ → KTs s s.heap A σ
theorem sf_9 : Cond.fieldLink RJ0 9 "java/lang/String" "value" "[B" ∈ WS := ws_t 1948 (by decide +kernel) rfl
theorem sf_15 : Cond.fieldLink RJ0 15 "java/lang/String" "coder" "B" ∈ WS := ws_t 1949 (by decide +kernel) rfl
theorem sf_38 : Cond.fieldLink RJ0 38 "java/lang/String" "COMPACT_STRINGS" "Z" ∈ WS := ws_t 62 (by decide +kernel) rfl
theorem sf_1053 : Cond.fieldLink RJ0 1053 "jdk/internal/util/Preconditions" "SIOOBE_FORMATTER" "Ljava/util/function/BiFunction;" ∈ WS := ws_t 78 (by decide +kernel) rfl
theorem slen_eq : ∀ k, k < 8 → SLEN.getD k 0 = (STRB.getD k []).length ∧ (STRB.getD k []).length < 100 := by decide +kernel
theorem sb_all : ∀ k, k < 8 → ∀ j, j < 100 → ((STRB.getD k []).getD j 0 &&& 255 = (STRB.getD k []).getD j 0 ∧ ((STRB.getD k []).getD j 0).toInt8.toInt32 = (STRB.getD k []).getD j 0) := by decide +kernel
section
variable {l : Launch} {K : a_KT} {g : a_GT} {d nc ns : Nat} {y : MethodName} {cc : ByteArray} {nL : Nat} {ret : Option FieldType} {pc : Nat} {ls st : List Value} {h : aH} {Q : Option Value → aH → Prop} {idx k : Nat}
theorem e_sgV (hT : KT K) (hk8 : k < 8) (hd : decode cc pc = .ok (.getfield idx, 3)) (hw : Cond.fieldLink y.cls idx "java/lang/String" "value" "[B" ∈ WS) (kk : E l K g d nc ns y cc nL ret (pc + 3) ls (.ref (1000100 + k) :: st) h Q) : E l K g d nc ns y cc nL ret pc ls (.ref (1000000 + k) :: st) h Q := by
  intro p e s m args below meth cd cx R hR1 hR2 σ A H locs lsA cells slots Qw hcl hs ha hl hk
  have k2 := kk p e s m args below meth cd cx R hR1 hR2 σ A H locs lsA cells slots Qw hcl hs ha hl hk
  rw [List.map_cons, a_cvr (by omega)] at k2 ⊢
  exact vk_getf cx.1 cx.2.1 ((hT s A σ ha.2.2.2.2).1.1 k hk8).2.2.1 ha.2.2.1 cx.2.2.2.2.1 (cx.2.2.2.2.2.1 _ hw) (fun _ z => z) hd k2
theorem e_sgC (hT : KT K) (hk8 : k < 8) (hd : decode cc pc = .ok (.getfield idx, 3)) (hw : Cond.fieldLink y.cls idx "java/lang/String" "coder" "B" ∈ WS) (kk : E l K g d nc ns y cc nL ret (pc + 3) ls (.int 0 :: st) h Q) : E l K g d nc ns y cc nL ret pc ls (.ref (1000000 + k) :: st) h Q := by
  intro p e s m args below meth cd cx R hR1 hR2 σ A H locs lsA cells slots Qw hcl hs ha hl hk
  have k2 := kk p e s m args below meth cd cx R hR1 hR2 σ A H locs lsA cells slots Qw hcl hs ha hl hk
  rw [List.map_cons, a_cvr (by omega)]
  exact vk_getf cx.1 cx.2.1 ((hT s A σ ha.2.2.2.2).1.1 k hk8).2.1 ha.2.2.1 cx.2.2.2.2.1 (cx.2.2.2.2.2.1 _ hw) (fun _ z => z) hd k2
theorem e_sal (hT : KT K) (hk8 : k < 8) (hd : decode cc pc = .ok (.arraylength, 1)) (kk : E l K g d nc ns y cc nL ret (pc + 1) ls (.int (nI (STRB.getD k []).length) :: st) h Q) : E l K g d nc ns y cc nL ret pc ls (.ref (1000100 + k) :: st) h Q := by
  intro p e s m args below meth cd cx R hR1 hR2 σ A H locs lsA cells slots Qw hcl hs ha hl hk
  have k2 := kk p e s m args below meth cd cx R hR1 hR2 σ A H locs lsA cells slots Qw hcl hs ha hl hk
  rw [List.map_cons, a_cvr (by omega)]
  exact va_tlen cx.1 cx.2.1 ((hT s A σ ha.2.2.2.2).1.1 k hk8).2.2.2 ha.2.2.1 (by rw [(slen_eq k hk8).1]; rfl) hd k2
theorem e_sbal (hT : KT K) (hk8 : k < 8) {i : Int32} (hd : decode cc pc = .ok (.baload, 1)) (hi : inb i (STRB.getD k []).length) (kk : E l K g d nc ns y cc nL ret (pc + 1) ls (.int ((STRB.getD k []).getD i.toNatClampNeg 0) :: st) h Q) : E l K g d nc ns y cc nL ret pc ls (.int i :: .ref (1000100 + k) :: st) h Q := by
  intro p e s m args below meth cd cx R hR1 hR2 σ A H locs lsA cells slots Qw hcl hs ha hl hk
  have k2 := kk p e s m args below meth cd cx R hR1 hR2 σ A H locs lsA cells slots Qw hcl hs ha hl hk
  have hm : (Value.int i :: Value.ref (1000100 + k) :: st).map (a_cv σ) = .int i :: .ref (σ (1000100 + k)) :: st.map (a_cv σ) := by rw [List.map_cons, List.map_cons, a_cvr (by omega)]; rfl
  rw [hm]
  exact va_tb cx.1 cx.2.1 ((hT s A σ ha.2.2.2.2).1.1 k hk8).2.2.2 ha.2.2.1 (by rw [(slen_eq k hk8).1]; exact hi) rfl hd k2
theorem e_sgs (hT : KT K) (hd : decode cc pc = .ok (.getstatic idx, 3)) (hw : Cond.fieldLink y.cls idx "java/lang/String" "COMPACT_STRINGS" "Z" ∈ WS) (kk : E l K g d nc ns y cc nL ret (pc + 3) ls (.int 1 :: st) h Q) : E l K g d nc ns y cc nL ret pc ls st h Q := by
  intro p e s m args below meth cd cx R hR1 hR2 σ A H locs lsA cells slots Qw hcl hs ha hl hk
  exact va_gets cx.1 cx.2.1 (hT s A σ ha.2.2.2.2).2.1 ha.2.2.1 cx.2.2.2.2.1 (cx.2.2.2.2.2.1 _ hw) (fun _ z => z) hd (kk p e s m args below meth cd cx R hR1 hR2 σ A H locs lsA cells slots Qw hcl hs ha hl hk)
theorem e_sgp (hT : KT K) (hd : decode cc pc = .ok (.getstatic idx, 3)) (hw : Cond.fieldLink y.cls idx "jdk/internal/util/Preconditions" "SIOOBE_FORMATTER" "Ljava/util/function/BiFunction;" ∈ WS) (kk : ∀ v, E l K g d nc ns y cc nL ret (pc + 3) ls (.ref v :: st) h Q) : E l K g d nc ns y cc nL ret pc ls st h Q := by
  intro p e s m args below meth cd cx R hR1 hR2 σ A H locs lsA cells slots Qw hcl hs ha hl hk
  rcases (hT s A σ ha.2.2.2.2).2.2.1 with hz | hz
  · have k2 := kk 0 p e s m args below meth cd cx R hR1 hR2 σ A H locs lsA cells slots Qw hcl hs ha hl hk
    exact va_gets cx.1 cx.2.1 hz ha.2.2.1 cx.2.2.2.2.1 (cx.2.2.2.2.2.1 _ hw) (fun _ z => z) hd k2
  · have k2 := kk 1000300 p e s m args below meth cd cx R hR1 hR2 σ A H locs lsA cells slots Qw hcl hs ha hl hk
    rw [List.map_cons, a_cvr (by omega)] at k2
    exact va_gets cx.1 cx.2.1 hz ha.2.2.1 cx.2.2.2.2.1 (cx.2.2.2.2.2.1 _ hw) (fun _ z => z) hd k2
theorem e_sldc (hT : KT K) (hk8 : srk y.cls idx = some k) (hd : decode cc pc = .ok (.ldc idx, 2)) (kk : E l K g d nc ns y cc nL ret (pc + 2) ls (.ref (1000000 + k) :: st) h Q) : E l K g d nc ns y cc nL ret pc ls st h Q := by
  intro p e s m args below meth cd cx R hR1 hR2 σ A H locs lsA cells slots Qw hcl hs ha hl hk
  have k2 := kk p e s m args below meth cd cx R hR1 hR2 σ A H locs lsA cells slots Qw hcl hs ha hl hk
  rw [List.map_cons, a_cvr (by omega)] at k2
  exact va_ldcS cx.1 cx.2.1 cx.2.2.2.2.1 ((hT s A σ ha.2.2.2.2).2.2.2 k y.cls idx hk8) hd k2
/-- a call of a method of String on a constant -/
theorem e_callSt (hko : a_kok K) (hT : KT K) (hk8 : k < 8) {n d2 : Nat} {y2 : MethodName} {cc2 : ByteArray} {nL2 : Nat} {ret2 : Option FieldType} {as : List Value} {Qy : Option Value → aH → Prop} (hd : decode cc pc = .ok (.invokevirtual idx, 3)) (hm : a_mv y.cls idx y2 cc2 nL2 ret2 n) (hrc : y2.cls = "java/lang/String") (hn : as.length = n) (hd2 : d2 + 1 ≤ d) (hst : (st.map fun v => v.category).sum ≤ 8)
    (hC : C l K g d2 0 0 y2 cc2 nL2 ret2 (.ref (1000000 + k) :: as) h Qy) (kk : ∀ (r : Option Value) (h' : aH), Qy r h' → E l K g d nc ns y cc nL ret (pc + 3) ls (r.toList ++ st) h' Q) : E l K g d nc ns y cc nL ret pc ls (as.reverse ++ .ref (1000000 + k) :: st) h Q := by
  intro p e s m args below meth cd cx R hR1 hR2 σ A H locs lsA cells slots Qw hcl hs ha hl hk
  obtain ⟨hmk, hin, hse⟩ := hm
  have hm0 : (as.reverse ++ .ref (1000000 + k) :: st).map (a_cv σ) = (as.map (a_cv σ)).reverse ++ .ref (σ (1000000 + k)) :: st.map (a_cv σ) := by rw [a_revmap, List.map_cons, a_cvr (by omega)]
  rw [hm0]
  have hrcv := vk_recv (H := H) (hT s A σ ha.2.2.2.2).1 hk8 ha.2.2.1
  rw [← hrc] at hrcv
  have hM := hC σ H.size
  rw [List.map_cons, a_cvr (by omega)] at hM
  have hp : PreV s H y2.cls (σ (1000000 + k)) (va_Pc (.ref (σ (1000000 + k)) :: as.map (a_cv σ)) (a_pre K g σ h H.size)) (as.map (a_cv σ)) := ⟨a_blind hko, hrcv, fun U hU hW => a_preOf hko cx ha U hU hW⟩
  have hroom : 2 * (F0 m pc lsA ((as.map (a_cv σ)).reverse ++ .ref (σ (1000000 + k)) :: st.map (a_cv σ))).monitorRoom + ((st.map (a_cv σ)).map fun v => v.category).sum ≤ 8 := lv_room (by rw [a_catsum]; exact hst)
  have hrun : va_Run p l e R s m args below meth cd H locs cells slots 0 0 (F0 m pc lsA ((as.map (a_cv σ)).reverse ++ .ref (σ (1000000 + k)) :: st.map (a_cv σ))) (st.map (a_cv σ)) (a_post g σ h H.size 0 Qy (Value.ref (σ (1000000 + k)) :: as.map (a_cv σ)).toArray) (va_A (a_w g σ h) H.size) := by
    rcases a_callB (d := d) cx hmk hd2 hR1 hR2 with hB | ⟨host, hB⟩
    · exact va_runV (a_fixOf cx) hM ⟨hB, cx.2.2.2.2.2.1 _ hin, cx.2.2.2.2.2.1 _ hse⟩ hp rfl (by rw [List.length_map]; exact hn) hl.1 rfl hroom hd ⟨by omega, by omega⟩
    · exact va_runVN (a_fixOf cx) hM ⟨hB, cx.2.2.2.2.2.1 _ hin, cx.2.2.2.2.2.1 _ hse⟩ hp rfl (by rw [List.length_map]; exact hn) hl.1 rfl hroom hd ⟨by omega, by omega⟩
  refine a_after hko hrun ha (fun r h' σ' H1 locs1 hq ha1 hext hσ => ?_)
  have e0 := hσ rfl
  subst e0
  rw [a_toList]
  exact kk r h' hq p e s m args below meth cd cx R hR1 hR2 σ' A H1 locs1 lsA cells slots Qw hcl hs ha1 hl (fun r2 h2 σ2 H2 locs2 ls2 pc2 c2 s2 q1 q2 q3 q4 q5 q6 q7 => hk r2 h2 σ2 H2 locs2 ls2 pc2 c2 s2 q1 q2 (hext.tr q3) q4 q5 q6 q7)
end
section
variable {l : Launch} {K : a_KT} {g : a_GT} {h : aH} {k : Nat}
theorem s_coder (hT : KT K) (hk : k < 8) : C l K g 0 0 0 yJ0_coder_7d493 cJ0_coder_7d493 1 (some .byte) [.ref (1000000 + k)] h (fun r h2 => r = some (.int 0) ∧ h2 = h) := by
  refine c_of [.ref (1000000 + k)] (by decide) (Nat.le_of_ble_eq_true rfl) rfl ?_
  refine e_sgs hT dJ0_coder_7d493_0 sf_38 ?_
  refine e_if_eq 13 dJ0_coder_7d493_3 (by decide) (fun c => absurd c (by decide)) (fun _ => ?_)
  refine e_aload_n (i := 0) rfl dJ0_coder_7d493_6 ?_
  refine e_sgC hT hk dJ0_coder_7d493_7 sf_15 ?_
  refine e_goto 14 dJ0_coder_7d493_10 (by decide) ?_
  exact e_zret dJ0_coder_7d493_14 rfl rfl ⟨rfl, rfl⟩
theorem s_isLatin1 (hT : KT K) (hk : k < 8) : C l K g 0 0 0 yJ0_isLatin1_aae02 cJ0_isLatin1_aae02 1 (some .boolean) [.ref (1000000 + k)] h (fun r h2 => r = some (.int 1) ∧ h2 = h) := by
  refine c_of [.ref (1000000 + k)] (by decide) (Nat.le_of_ble_eq_true rfl) rfl ?_
  refine e_sgs hT dJ0_isLatin1_aae02_0 sf_38 ?_
  refine e_if_eq 17 dJ0_isLatin1_aae02_3 (by decide) (fun c => absurd c (by decide)) (fun _ => ?_)
  refine e_aload_n (i := 0) rfl dJ0_isLatin1_aae02_6 ?_
  refine e_sgC hT hk dJ0_isLatin1_aae02_7 sf_15 ?_
  refine e_if_ne 17 dJ0_isLatin1_aae02_10 (by decide) (fun c => absurd rfl c) (fun _ => ?_)
  refine e_iconst (v := 1) (by decide) dJ0_isLatin1_aae02_13 ?_
  refine e_goto 18 dJ0_isLatin1_aae02_14 (by decide) ?_
  exact e_zret dJ0_isLatin1_aae02_18 rfl rfl ⟨rfl, rfl⟩
theorem s_length (hko : a_kok K) (hT : KT K) (hk : k < 8) : C l K g 1 0 0 yJ0_length_8abf5 cJ0_length_8abf5 1 (some .int) [.ref (1000000 + k)] h (fun r h2 => r = some (.int (nI (STRB.getD k []).length)) ∧ h2 = h) := by
  refine c_of [.ref (1000000 + k)] (by decide) (Nat.le_of_ble_eq_true rfl) rfl ?_
  refine e_aload_n (i := 0) rfl dJ0_length_8abf5_0 ?_
  refine e_sgV hT hk dJ0_length_8abf5_1 sf_9 ?_
  refine e_sal hT hk dJ0_length_8abf5_4 ?_
  refine e_aload_n (i := 0) rfl dJ0_length_8abf5_5 ?_
  refine e_callSt (as := []) hko hT hk dJ0_length_8abf5_6 ml_RJ0_335 rfl rfl (by decide) (Nat.le_of_ble_eq_true rfl) (s_coder hT hk) ?_
  rintro _ _ ⟨rfl, rfl⟩
  refine e_ishr dJ0_length_8abf5_9 ?_
  rw [sb_shr0]
  exact e_iret dJ0_length_8abf5_10 rfl ⟨rfl, rfl⟩
theorem s_check3 {i n : Int32} {v : Nat} (h0 : ¬ i < 0) (h1 : i < n) : C l K g 0 0 0 yJ3_checkIndex_8e157 cJ3_checkIndex_8e157 3 (some .int) [.int i, .int n, .ref v] h (fun r h2 => r = some (.int i) ∧ h2 = h) := by
  refine c_of [.int i, .int n, .ref v] (by decide) (Nat.le_of_ble_eq_true rfl) rfl ?_
  refine e_iload_n (i := 0) rfl dJ3_checkIndex_8e157_0 ?_
  refine e_if_lt 9 dJ3_checkIndex_8e157_1 (by decide) (fun c => absurd c h0) (fun _ => ?_)
  refine e_iload_n (i := 0) rfl dJ3_checkIndex_8e157_4 ?_
  refine e_iload_n (i := 1) rfl dJ3_checkIndex_8e157_5 ?_
  refine e_icmp_lt 16 dJ3_checkIndex_8e157_6 (by decide) (fun _ => ?_) (fun c => absurd h1 c)
  refine e_iload_n (i := 0) rfl dJ3_checkIndex_8e157_16 ?_
  exact e_iret dJ3_checkIndex_8e157_17 rfl ⟨rfl, rfl⟩
theorem s_check0 (hko : a_kok K) (hT : KT K) {i n : Int32} (h0 : ¬ i < 0) (h1 : i < n) : C l K g 1 0 0 yJ0_checkIndex_df160 cJ0_checkIndex_df160 2 none [.int i, .int n] h (fun r h2 => r = none ∧ h2 = h) := by
  refine c_of [.int i, .int n] (by decide) (Nat.le_of_ble_eq_true rfl) rfl ?_
  refine e_iload_n (i := 0) rfl dJ0_checkIndex_df160_0 ?_
  refine e_iload_n (i := 1) rfl dJ0_checkIndex_df160_1 ?_
  refine e_sgp hT dJ0_checkIndex_df160_2 sf_1053 (fun v => ?_)
  refine e_cS3 hko dJ0_checkIndex_df160_5 ml_RJ0_1059 (by decide) (Nat.le_of_ble_eq_true rfl) (s_check3 h0 h1) ?_
  rintro _ _ ⟨rfl, rfl⟩
  refine e_pop rfl dJ0_checkIndex_df160_8 ?_
  exact e_vret dJ0_checkIndex_df160_9 rfl ⟨rfl, rfl⟩
theorem inb_lt {i : Int32} {n : Nat} (hn : n < 2 ^ 31) (h : inb i n) : ¬ i < 0 ∧ i < nI n := by
  have h1 : 0 ≤ i.toInt ∧ i.toInt < n := vp_in_iff.mp h
  refine ⟨fun q => ?_, ?_⟩
  · rw [Int32.lt_iff_toInt_lt, Int32.toInt_zero] at q; omega
  · rw [Int32.lt_iff_toInt_lt, nI_toInt hn]; omega
theorem s_char1 (hko : a_kok K) (hT : KT K) (hk : k < 8) {i : Int32} (hi : inb i (STRB.getD k []).length) : C l K g 2 0 0 yJ1_charAt_3b067 cJ1_charAt_3b067 2 (some .char) [.ref (1000100 + k), .int i] h (fun r h2 => r = some (.int ((STRB.getD k []).getD i.toNatClampNeg 0)) ∧ h2 = h) := by
  have hl := (slen_eq k hk).2
  have hb := inb_lt (by omega) hi
  have hj : i.toNatClampNeg < 100 := by
    have : ¬ (STRB.getD k []).length ≤ i.toNatClampNeg := fun q => hi (Or.inr q)
    omega
  have hc := (sb_all k hk _ hj).1
  refine c_of [.ref (1000100 + k), .int i] (by decide) (Nat.le_of_ble_eq_true rfl) rfl ?_
  refine e_iload_n (i := 1) rfl dJ1_charAt_3b067_0 ?_
  refine e_aload_n (i := 0) rfl dJ1_charAt_3b067_1 ?_
  refine e_sal hT hk dJ1_charAt_3b067_2 ?_
  refine e_cS2 hko dJ1_charAt_3b067_3 ml_RJ1_9 (by decide) (Nat.le_of_ble_eq_true rfl) (s_check0 hko hT hb.1 hb.2) ?_
  rintro _ _ ⟨rfl, rfl⟩
  refine e_aload_n (i := 0) rfl dJ1_charAt_3b067_6 ?_
  refine e_iload_n (i := 1) rfl dJ1_charAt_3b067_7 ?_
  refine e_sbal hT hk dJ1_charAt_3b067_8 hi ?_
  refine e_sipush (v := 255) (by decide) dJ1_charAt_3b067_9 ?_
  refine e_iand dJ1_charAt_3b067_12 ?_
  refine e_i2c dJ1_charAt_3b067_13 ?_
  rw [sc_c2]
  refine e_zret dJ1_charAt_3b067_14 rfl (sc_nar _) ?_
  rw [hc]
  exact ⟨rfl, rfl⟩
theorem s_charAt (hko : a_kok K) (hT : KT K) (hk : k < 8) {i : Int32} (hi : inb i (STRB.getD k []).length) : C l K g 3 0 0 yJ0_charAt_5068e cJ0_charAt_5068e 2 (some .char) [.ref (1000000 + k), .int i] h (fun r h2 => r = some (.int ((STRB.getD k []).getD i.toNatClampNeg 0)) ∧ h2 = h) := by
  have hj : i.toNatClampNeg < 100 := by
    have h1 := (slen_eq k hk).2
    have : ¬ (STRB.getD k []).length ≤ i.toNatClampNeg := fun q => hi (Or.inr q)
    omega
  have hc := (sb_all k hk _ hj).1
  refine c_of [.ref (1000000 + k), .int i] (by decide) (Nat.le_of_ble_eq_true rfl) rfl ?_
  refine e_aload_n (i := 0) rfl dJ0_charAt_5068e_0 ?_
  refine e_callSt (as := []) hko hT hk dJ0_charAt_5068e_1 ml_RJ0_492 rfl rfl (d2 := 0) (by decide) (Nat.le_of_ble_eq_true rfl) (s_isLatin1 hT hk) ?_
  rintro _ _ ⟨rfl, rfl⟩
  refine e_if_eq 16 dJ0_charAt_5068e_4 (by decide) (fun c => absurd c (by decide)) (fun _ => ?_)
  refine e_aload_n (i := 0) rfl dJ0_charAt_5068e_7 ?_
  refine e_sgV hT hk dJ0_charAt_5068e_8 sf_9 ?_
  refine e_iload_n (i := 1) rfl dJ0_charAt_5068e_11 ?_
  refine e_cS2 hko dJ0_charAt_5068e_12 ml_RJ0_495 (by decide) (Nat.le_of_ble_eq_true rfl) (s_char1 hko hT hk hi) ?_
  rintro _ _ ⟨rfl, rfl⟩
  refine e_zret dJ0_charAt_5068e_15 rfl ?_ ⟨rfl, rfl⟩
  rw [← hc]
  exact sc_nar _
theorem s_can {c : Int32} : C l K g 0 0 0 yJ1_canEncode_9a6ad cJ1_canEncode_9a6ad 1 (some .boolean) [.int c] h (fun r h2 => r = some (.int (if c < 0 ∨ 255 < c then 0 else 1)) ∧ h2 = h) := by
  refine c_of [.int c] (by decide) (Nat.le_of_ble_eq_true rfl) rfl ?_
  refine e_iload_n (i := 0) rfl dJ1_canEncode_9a6ad_0 ?_
  refine e_if_lt 15 dJ1_canEncode_9a6ad_1 (by decide) (fun c1 => ?_) (fun c1 => ?_)
  · refine e_iconst (v := 0) (by decide) dJ1_canEncode_9a6ad_15 ?_
    exact e_zret dJ1_canEncode_9a6ad_16 rfl rfl ⟨by rw [if_pos (Or.inl c1)], rfl⟩
  · refine e_iload_n (i := 0) rfl dJ1_canEncode_9a6ad_4 ?_
    refine e_sipush (v := 255) (by decide) dJ1_canEncode_9a6ad_5 ?_
    refine e_icmp_gt 15 dJ1_canEncode_9a6ad_8 (by decide) (fun c2 => ?_) (fun c2 => ?_)
    · refine e_iconst (v := 0) (by decide) dJ1_canEncode_9a6ad_15 ?_
      exact e_zret dJ1_canEncode_9a6ad_16 rfl rfl ⟨by rw [if_pos (Or.inr c2)], rfl⟩
    · refine e_iconst (v := 1) (by decide) dJ1_canEncode_9a6ad_11 ?_
      refine e_goto 16 dJ1_canEncode_9a6ad_12 (by decide) ?_
      exact e_zret dJ1_canEncode_9a6ad_16 rfl rfl ⟨by rw [if_neg (fun q => q.elim c1 c2)], rfl⟩
theorem s_ixLoop (hT : KT K) (hk : k < 8) {c c8 : Int32} (hc : ∀ j, j < 100 → ((STRB.getD k []).getD j 0 = c8 ↔ (STRB.getD k []).getD j 0 = c)) : ∀ (t : List Int32) (j : Nat), (STRB.getD k []).drop j = t → j ≤ (STRB.getD k []).length → E l K g 0 0 0 yJ1_indexOfChar_4cfef cJ1_indexOfChar_4cfef 6 (some .int) 7 [.ref (1000100 + k), .int c, .int 0, .int (nI (STRB.getD k []).length), .int c8, .int (nI j)] [] h (fun r h2 => r = some (.int (strIxF c t j)) ∧ h2 = h) := by
  have hl := (slen_eq k hk).2
  intro t
  induction t with
  | nil =>
    intro j hd hj
    have hn : (STRB.getD k []).length ≤ j := List.drop_eq_nil_iff.mp hd
    refine e_iload (i := 5) rfl dJ1_indexOfChar_4cfef_7 ?_
    refine e_iload_n (i := 3) rfl dJ1_indexOfChar_4cfef_9 ?_
    refine e_icmp_ge 31 dJ1_indexOfChar_4cfef_10 (by decide) (fun _ => ?_) (fun q => absurd (nI_le hn (by omega)) q)
    refine e_iconst (v := (-1)) (by decide) dJ1_indexOfChar_4cfef_31 ?_
    exact e_iret dJ1_indexOfChar_4cfef_32 rfl ⟨rfl, rfl⟩
  | cons b t ih =>
    intro j hd hj
    obtain ⟨h1, h2, h3, -⟩ := sc_dropC hd
    refine e_iload (i := 5) rfl dJ1_indexOfChar_4cfef_7 ?_
    refine e_iload_n (i := 3) rfl dJ1_indexOfChar_4cfef_9 ?_
    refine e_icmp_ge 31 dJ1_indexOfChar_4cfef_10 (by decide) (fun q => absurd q (nI_ge h1 (by omega))) (fun _ => ?_)
    refine e_aload_n (i := 0) rfl dJ1_indexOfChar_4cfef_13 ?_
    refine e_iload (i := 5) rfl dJ1_indexOfChar_4cfef_14 ?_
    refine e_sbal hT hk dJ1_indexOfChar_4cfef_16 (vp_in_nI h1 (by omega)) ?_
    rw [nI_clamp (by omega)]
    refine e_iload (i := 4) rfl dJ1_indexOfChar_4cfef_17 ?_
    refine e_icmp_ne 25 dJ1_indexOfChar_4cfef_19 (by decide) (fun q => ?_) (fun q => ?_)
    · refine q_iinc (i := 5) (nI j + 1) rfl ic_1 rfl dJ1_indexOfChar_4cfef_25 ?_
      refine e_goto 7 dJ1_indexOfChar_4cfef_28 (by decide) ?_
      rw [nI_1]
      have hne : ¬ b = c := fun z => q ((hc j (by omega)).mpr (h2.trans z))
      rw [strIxF, if_neg hne]
      exact ih (j + 1) h3 (by omega)
    · refine e_iload (i := 5) rfl dJ1_indexOfChar_4cfef_22 ?_
      have heq : b = c := h2.symm.trans ((hc j (by omega)).mp q)
      refine e_iret dJ1_indexOfChar_4cfef_24 rfl ?_
      rw [strIxF, if_pos heq]
      exact ⟨rfl, rfl⟩
end
