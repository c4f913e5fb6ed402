/-! DECOMPILED: printed by wip/whole/gen_dec.py -/
theorem dX12_readSame_0 : decode cX12_readSame 0 = .ok (.aload_n 0, 1) := by decide +kernel
theorem dX12_readSame_1 : decode cX12_readSame 1 = .ok (.getfield 210, 3) := by decide +kernel
theorem dX12_readSame_4 : decode cX12_readSame 4 = .ok (.iconst 2, 1) := by decide +kernel
theorem dX12_readSame_5 : decode cX12_readSame 5 = .ok (.if_icmp .eq 13, 3) := by decide +kernel
theorem dX12_readSame_8 : decode cX12_readSame 8 = .ok (.aload_n 0, 1) := by decide +kernel
theorem dX12_readSame_9 : decode cX12_readSame 9 = .ok (.iconst 1, 1) := by decide +kernel
theorem dX12_readSame_10 : decode cX12_readSame 10 = .ok (.aload_n 0, 1) := by decide +kernel
theorem dX12_readSame_11 : decode cX12_readSame 11 = .ok (.getfield 207, 3) := by decide +kernel
theorem dX12_readSame_14 : decode cX12_readSame 14 = .ok (.invokevirtual 232, 3) := by decide +kernel
theorem dX12_readSame_17 : decode cX12_readSame 17 = .ok (.ireturn, 1) := by decide +kernel
theorem dX12_readSame_18 : decode cX12_readSame 18 = .ok (.aload_n 0, 1) := by decide +kernel
theorem dX12_readSame_19 : decode cX12_readSame 19 = .ok (.aload_n 0, 1) := by decide +kernel
theorem dX12_readSame_20 : decode cX12_readSame 20 = .ok (.getfield 162, 3) := by decide +kernel
theorem dX12_readSame_23 : decode cX12_readSame 23 = .ok (.invokevirtual 301, 3) := by decide +kernel
theorem dX12_readSame_26 : decode cX12_readSame 26 = .ok (.istore_n 2, 1) := by decide +kernel
theorem dX12_readSame_27 : decode cX12_readSame 27 = .ok (.iload_n 2, 1) := by decide +kernel
theorem dX12_readSame_28 : decode cX12_readSame 28 = .ok (.iconst (-1), 1) := by decide +kernel
theorem dX12_readSame_29 : decode cX12_readSame 29 = .ok (.if_icmp .eq 12, 3) := by decide +kernel
theorem dX12_readSame_32 : decode cX12_readSame 32 = .ok (.aload_n 0, 1) := by decide +kernel
theorem dX12_readSame_33 : decode cX12_readSame 33 = .ok (.getfield 78, 3) := by decide +kernel
theorem dX12_readSame_36 : decode cX12_readSame 36 = .ok (.iload_n 2, 1) := by decide +kernel
theorem dX12_readSame_37 : decode cX12_readSame 37 = .ok (.iaload, 1) := by decide +kernel
theorem dX12_readSame_38 : decode cX12_readSame 38 = .ok (.ifCond .ne 13, 3) := by decide +kernel
theorem dX12_readSame_41 : decode cX12_readSame 41 = .ok (.aload_n 0, 1) := by decide +kernel
theorem dX12_readSame_42 : decode cX12_readSame 42 = .ok (.iconst 2, 1) := by decide +kernel
theorem dX12_readSame_43 : decode cX12_readSame 43 = .ok (.aload_n 0, 1) := by decide +kernel
theorem dX12_readSame_44 : decode cX12_readSame 44 = .ok (.getfield 207, 3) := by decide +kernel
theorem dX12_readSame_47 : decode cX12_readSame 47 = .ok (.invokevirtual 232, 3) := by decide +kernel
theorem dX12_readSame_50 : decode cX12_readSame 50 = .ok (.ireturn, 1) := by decide +kernel
theorem dX12_readSame_51 : decode cX12_readSame 51 = .ok (.aload_n 0, 1) := by decide +kernel
theorem dX12_readSame_52 : decode cX12_readSame 52 = .ok (.getfield 78, 3) := by decide +kernel
theorem dX12_readSame_55 : decode cX12_readSame 55 = .ok (.iload_n 2, 1) := by decide +kernel
theorem dX12_readSame_56 : decode cX12_readSame 56 = .ok (.iaload, 1) := by decide +kernel
theorem dX12_readSame_57 : decode cX12_readSame 57 = .ok (.iconst 1, 1) := by decide +kernel
theorem dX12_readSame_58 : decode cX12_readSame 58 = .ok (.if_icmp .eq 13, 3) := by decide +kernel
theorem dX12_readSame_61 : decode cX12_readSame 61 = .ok (.aload_n 0, 1) := by decide +kernel
theorem dX12_readSame_62 : decode cX12_readSame 62 = .ok (.iconst 4, 1) := by decide +kernel
theorem dX12_readSame_63 : decode cX12_readSame 63 = .ok (.aload_n 0, 1) := by decide +kernel
theorem dX12_readSame_64 : decode cX12_readSame 64 = .ok (.getfield 207, 3) := by decide +kernel
theorem dX12_readSame_67 : decode cX12_readSame 67 = .ok (.invokevirtual 232, 3) := by decide +kernel
theorem dX12_readSame_70 : decode cX12_readSame 70 = .ok (.ireturn, 1) := by decide +kernel
theorem dX12_readSame_71 : decode cX12_readSame 71 = .ok (.aload_n 0, 1) := by decide +kernel
theorem dX12_readSame_72 : decode cX12_readSame 72 = .ok (.invokevirtual 236, 3) := by decide +kernel
theorem dX12_readSame_75 : decode cX12_readSame 75 = .ok (.aload_n 0, 1) := by decide +kernel
theorem dX12_readSame_76 : decode cX12_readSame 76 = .ok (.getfield 210, 3) := by decide +kernel
theorem dX12_readSame_79 : decode cX12_readSame 79 = .ok (.iconst 2, 1) := by decide +kernel
theorem dX12_readSame_80 : decode cX12_readSame 80 = .ok (.if_icmp .eq 13, 3) := by decide +kernel
theorem dX12_readSame_83 : decode cX12_readSame 83 = .ok (.aload_n 0, 1) := by decide +kernel
theorem dX12_readSame_84 : decode cX12_readSame 84 = .ok (.iconst 1, 1) := by decide +kernel
theorem dX12_readSame_85 : decode cX12_readSame 85 = .ok (.aload_n 0, 1) := by decide +kernel
theorem dX12_readSame_86 : decode cX12_readSame 86 = .ok (.getfield 207, 3) := by decide +kernel
theorem dX12_readSame_89 : decode cX12_readSame 89 = .ok (.invokevirtual 232, 3) := by decide +kernel
theorem dX12_readSame_92 : decode cX12_readSame 92 = .ok (.ireturn, 1) := by decide +kernel
theorem dX12_readSame_93 : decode cX12_readSame 93 = .ok (.aload_n 0, 1) := by decide +kernel
theorem dX12_readSame_94 : decode cX12_readSame 94 = .ok (.aload_n 0, 1) := by decide +kernel
theorem dX12_readSame_95 : decode cX12_readSame 95 = .ok (.getfield 162, 3) := by decide +kernel
theorem dX12_readSame_98 : decode cX12_readSame 98 = .ok (.invokevirtual 301, 3) := by decide +kernel
theorem dX12_readSame_101 : decode cX12_readSame 101 = .ok (.istore_n 3, 1) := by decide +kernel
theorem dX12_readSame_102 : decode cX12_readSame 102 = .ok (.iload_n 3, 1) := by decide +kernel
theorem dX12_readSame_103 : decode cX12_readSame 103 = .ok (.iconst (-1), 1) := by decide +kernel
theorem dX12_readSame_104 : decode cX12_readSame 104 = .ok (.if_icmp .eq 12, 3) := by decide +kernel
theorem dX12_readSame_107 : decode cX12_readSame 107 = .ok (.aload_n 0, 1) := by decide +kernel
theorem dX12_readSame_108 : decode cX12_readSame 108 = .ok (.getfield 78, 3) := by decide +kernel
theorem dX12_readSame_111 : decode cX12_readSame 111 = .ok (.iload_n 3, 1) := by decide +kernel
theorem dX12_readSame_112 : decode cX12_readSame 112 = .ok (.iaload, 1) := by decide +kernel
theorem dX12_readSame_113 : decode cX12_readSame 113 = .ok (.ifCond .ne 13, 3) := by decide +kernel
theorem dX12_readSame_116 : decode cX12_readSame 116 = .ok (.aload_n 0, 1) := by decide +kernel
theorem dX12_readSame_117 : decode cX12_readSame 117 = .ok (.iconst 2, 1) := by decide +kernel
theorem dX12_readSame_118 : decode cX12_readSame 118 = .ok (.aload_n 0, 1) := by decide +kernel
theorem dX12_readSame_119 : decode cX12_readSame 119 = .ok (.getfield 207, 3) := by decide +kernel
theorem dX12_readSame_122 : decode cX12_readSame 122 = .ok (.invokevirtual 232, 3) := by decide +kernel
theorem dX12_readSame_125 : decode cX12_readSame 125 = .ok (.ireturn, 1) := by decide +kernel
theorem dX12_readSame_126 : decode cX12_readSame 126 = .ok (.aload_n 0, 1) := by decide +kernel
theorem dX12_readSame_127 : decode cX12_readSame 127 = .ok (.getfield 78, 3) := by decide +kernel
theorem dX12_readSame_130 : decode cX12_readSame 130 = .ok (.iload_n 3, 1) := by decide +kernel
theorem dX12_readSame_131 : decode cX12_readSame 131 = .ok (.iaload, 1) := by decide +kernel
theorem dX12_readSame_132 : decode cX12_readSame 132 = .ok (.iconst 1, 1) := by decide +kernel
theorem dX12_readSame_133 : decode cX12_readSame 133 = .ok (.if_icmp .ne 13, 3) := by decide +kernel
theorem dX12_readSame_136 : decode cX12_readSame 136 = .ok (.aload_n 0, 1) := by decide +kernel
theorem dX12_readSame_137 : decode cX12_readSame 137 = .ok (.iconst 4, 1) := by decide +kernel
theorem dX12_readSame_138 : decode cX12_readSame 138 = .ok (.aload_n 0, 1) := by decide +kernel
theorem dX12_readSame_139 : decode cX12_readSame 139 = .ok (.getfield 207, 3) := by decide +kernel
theorem dX12_readSame_142 : decode cX12_readSame 142 = .ok (.invokevirtual 232, 3) := by decide +kernel
theorem dX12_readSame_145 : decode cX12_readSame 145 = .ok (.ireturn, 1) := by decide +kernel
theorem dX12_readSame_146 : decode cX12_readSame 146 = .ok (.aload_n 0, 1) := by decide +kernel
theorem dX12_readSame_147 : decode cX12_readSame 147 = .ok (.invokevirtual 236, 3) := by decide +kernel
theorem dX12_readSame_150 : decode cX12_readSame 150 = .ok (.aload_n 0, 1) := by decide +kernel
theorem dX12_readSame_151 : decode cX12_readSame 151 = .ok (.aload_n 0, 1) := by decide +kernel
theorem dX12_readSame_152 : decode cX12_readSame 152 = .ok (.getfield 81, 3) := by decide +kernel
theorem dX12_readSame_155 : decode cX12_readSame 155 = .ok (.iload_n 2, 1) := by decide +kernel
theorem dX12_readSame_156 : decode cX12_readSame 156 = .ok (.iaload, 1) := by decide +kernel
theorem dX12_readSame_157 : decode cX12_readSame 157 = .ok (.aload_n 0, 1) := by decide +kernel
theorem dX12_readSame_158 : decode cX12_readSame 158 = .ok (.getfield 81, 3) := by decide +kernel
theorem dX12_readSame_161 : decode cX12_readSame 161 = .ok (.iload_n 3, 1) := by decide +kernel
theorem dX12_readSame_162 : decode cX12_readSame 162 = .ok (.iaload, 1) := by decide +kernel
theorem dX12_readSame_163 : decode cX12_readSame 163 = .ok (.invokevirtual 289, 3) := by decide +kernel
theorem dX12_readSame_166 : decode cX12_readSame 166 = .ok (.ifCond .ne 10, 3) := by decide +kernel
theorem dX12_readSame_169 : decode cX12_readSame 169 = .ok (.aload_n 0, 1) := by decide +kernel
theorem dX12_readSame_170 : decode cX12_readSame 170 = .ok (.iconst 3, 1) := by decide +kernel
theorem dX12_readSame_171 : decode cX12_readSame 171 = .ok (.iload_n 1, 1) := by decide +kernel
theorem dX12_readSame_172 : decode cX12_readSame 172 = .ok (.invokevirtual 232, 3) := by decide +kernel
theorem dX12_readSame_175 : decode cX12_readSame 175 = .ok (.ireturn, 1) := by decide +kernel
theorem dX12_readSame_176 : decode cX12_readSame 176 = .ok (.aload_n 0, 1) := by decide +kernel
theorem dX12_readSame_177 : decode cX12_readSame 177 = .ok (.getfield 72, 3) := by decide +kernel
theorem dX12_readSame_180 : decode cX12_readSame 180 = .ok (.iload_n 3, 1) := by decide +kernel
theorem dX12_readSame_181 : decode cX12_readSame 181 = .ok (.lconst 0, 1) := by decide +kernel
theorem dX12_readSame_182 : decode cX12_readSame 182 = .ok (.lastore, 1) := by decide +kernel
theorem dX12_readSame_183 : decode cX12_readSame 183 = .ok (.aload_n 0, 1) := by decide +kernel
theorem dX12_readSame_184 : decode cX12_readSame 184 = .ok (.invokevirtual 322, 3) := by decide +kernel
theorem dX12_readSame_187 : decode cX12_readSame 187 = .ok (.ifCond .eq 10, 3) := by decide +kernel
theorem dX12_readSame_190 : decode cX12_readSame 190 = .ok (.aload_n 0, 1) := by decide +kernel
theorem dX12_readSame_191 : decode cX12_readSame 191 = .ok (.iconst 4, 1) := by decide +kernel
theorem dX12_readSame_192 : decode cX12_readSame 192 = .ok (.iload_n 1, 1) := by decide +kernel
theorem dX12_readSame_193 : decode cX12_readSame 193 = .ok (.invokevirtual 232, 3) := by decide +kernel
theorem dX12_readSame_196 : decode cX12_readSame 196 = .ok (.ireturn, 1) := by decide +kernel
theorem dX12_readSame_197 : decode cX12_readSame 197 = .ok (.aload_n 0, 1) := by decide +kernel
theorem dX12_readSame_198 : decode cX12_readSame 198 = .ok (.aload_n 0, 1) := by decide +kernel
theorem dX12_readSame_199 : decode cX12_readSame 199 = .ok (.bipush 50, 2) := by decide +kernel
theorem dX12_readSame_201 : decode cX12_readSame 201 = .ok (.iload_n 2, 1) := by decide +kernel
theorem dX12_readSame_202 : decode cX12_readSame 202 = .ok (.iload_n 3, 1) := by decide +kernel
theorem dX12_readSame_203 : decode cX12_readSame 203 = .ok (.lconst 0, 1) := by decide +kernel
theorem dX12_readSame_204 : decode cX12_readSame 204 = .ok (.invokevirtual 264, 3) := by decide +kernel
theorem dX12_readSame_207 : decode cX12_readSame 207 = .ok (.putfield 331, 3) := by decide +kernel
theorem dX12_readSame_210 : decode cX12_readSame 210 = .ok (.iconst 1, 1) := by decide +kernel
theorem dX12_readSame_211 : decode cX12_readSame 211 = .ok (.ireturn, 1) := by decide +kernel
def mX12_readSame_41 (I : iT) (J : jT) (x1 : Int32) (x2 : Int32) : Option (Int32 × iT × jT) := (mX12_bad I 2 (I 186 4)).bind fun q1 => if q1.1 = 0 ∨ q1.1 = 1 then some (q1.1, q1.2, J) else none
def mX12_readSame_116 (I : iT) (J : jT) (x1 : Int32) (x2 : Int32) (x3 : Int32) : Option (Int32 × iT × jT) := (mX12_bad I 2 (I 186 4)).bind fun q2 => if q2.1 = 0 ∨ q2.1 = 1 then some (q2.1, q2.2, J) else none
def mX12_readSame (I : iT) (J : jT) (x1 : Int32) : Option (Int32 × iT × jT) := if (I 186 3) = 2 then (mX12_slot I J (J 186 6)).bind fun q3 => if q3 = ((-1)) then mX12_readSame_41 I J x1 q3 else if inb q3 128 then if (I 208 q3.toNatClampNeg) = 0 then mX12_readSame_41 I J x1 q3 else if inb q3 128 then if (I 208 q3.toNatClampNeg) = 1 then (mX12_look0 I J).bind fun q4 => if (q4.1 186 3) = 2 then (mX12_slot q4.1 q4.2 (q4.2 186 6)).bind fun q5 => if q5 = ((-1)) then mX12_readSame_116 q4.1 q4.2 x1 q3 q5 else if inb q5 128 then if (q4.1 208 q5.toNatClampNeg) = 0 then mX12_readSame_116 q4.1 q4.2 x1 q3 q5 else if inb q5 128 then if (q4.1 208 q5.toNatClampNeg) = 1 then (mX12_bad q4.1 4 (q4.1 186 4)).bind fun q12 => if q12.1 = 0 ∨ q12.1 = 1 then some (q12.1, q12.2, q4.2) else none else (mX12_look0 q4.1 q4.2).bind fun q6 => if inb q3 128 then if inb q5 128 then (mX12_alike SF q6.1 q6.2 (q6.1 209 q3.toNatClampNeg) (q6.1 209 q5.toNatClampNeg)).bind fun q7 => if q7 = 0 then (mX12_bad q6.1 3 x1).bind fun q11 => if q11.1 = 0 ∨ q11.1 = 1 then some (q11.1, q11.2, q6.2) else none else if inb q5 128 then (mX12_has q6.1 (a_u2 q6.2 206 q5.toNatClampNeg 0)).bind fun q8 => if q8 = 0 then (mX12_node q6.1 (a_u2 q6.2 206 q5.toNatClampNeg 0) 50 q3 q5 0).bind fun q9 => some (1, a_u2 q9.2.1 186 49 q9.1, q9.2.2) else (mX12_bad q6.1 4 x1).bind fun q10 => if q10.1 = 0 ∨ q10.1 = 1 then some (q10.1, q10.2, a_u2 q6.2 206 q5.toNatClampNeg 0) else none else none else none else none else none else none else (mX12_bad q4.1 1 (q4.1 186 4)).bind fun q13 => if q13.1 = 0 ∨ q13.1 = 1 then some (q13.1, q13.2, q4.2) else none else (mX12_bad I 4 (I 186 4)).bind fun q14 => if q14.1 = 0 ∨ q14.1 = 1 then some (q14.1, q14.2, J) else none else none else none else (mX12_bad I 1 (I 186 4)).bind fun q15 => if q15.1 = 0 ∨ q15.1 = 1 then some (q15.1, q15.2, J) else none
set_option maxRecDepth 100000 in
set_option maxHeartbeats 4000000 in
theorem tX12_readSame_41 {l : Launch} {K : a_KT} {g : a_GT} {IA : iT} (hko : a_kok K) {F : fT} (I : iT) (J : jT) (x1 : Int32) (x2 : Int32) (hF : FOK F) (q : Int32 × iT × jT) (hm : mX12_readSame_41 I J x1 x2 = some q) : E l K g 451 0 0 yX12_readSame cX12_readSame 4 (some .boolean) 41 [.ref 186, .int x1, .int x2, .null] [] (hg IA I J F) (fun r2 h2 => r2 = some (.int q.1) ∧ h2 = hg IA q.2.1 q.2.2 F) := by
  unfold mX12_readSame_41 at hm
  refine e_aload_n (i := 0) rfl dX12_readSame_41 ?_
  refine e_iconst (v := 2) (by decide) dX12_readSame_42 ?_
  refine e_aload_n (i := 0) rfl dX12_readSame_43 ?_
  refine l_getI 12 4 dX12_readSame_44 fl_RX12_207 rfl iz_186 (by decide) ?_
  obtain ⟨q1, eq1, hm⟩ := ob_some hm
  refine e_cV2 hko dX12_readSame_47 ml_RX12_232 iz_186 (by decide) rfl (by omega) (Nat.le_of_ble_eq_true rfl) (tX12_bad hko I J F hF 2 (I 186 4) _ eq1) ?_
  rintro _ _ ⟨rfl, rfl⟩
  obtain ⟨c_50, hm⟩ := gd_s hm
  refine e_zret dX12_readSame_50 rfl (zz_nar c_50) ?_
  have hm := some_in hm
  subst hm
  exact ⟨rfl, rfl⟩
set_option maxRecDepth 100000 in
set_option maxHeartbeats 4000000 in
theorem tX12_readSame_116 {l : Launch} {K : a_KT} {g : a_GT} {IA : iT} (hko : a_kok K) {F : fT} (I : iT) (J : jT) (x1 : Int32) (x2 : Int32) (x3 : Int32) (hF : FOK F) (q : Int32 × iT × jT) (hm : mX12_readSame_116 I J x1 x2 x3 = some q) : E l K g 451 0 0 yX12_readSame cX12_readSame 4 (some .boolean) 116 [.ref 186, .int x1, .int x2, .int x3] [] (hg IA I J F) (fun r2 h2 => r2 = some (.int q.1) ∧ h2 = hg IA q.2.1 q.2.2 F) := by
  unfold mX12_readSame_116 at hm
  refine e_aload_n (i := 0) rfl dX12_readSame_116 ?_
  refine e_iconst (v := 2) (by decide) dX12_readSame_117 ?_
  refine e_aload_n (i := 0) rfl dX12_readSame_118 ?_
  refine l_getI 12 4 dX12_readSame_119 fl_RX12_207 rfl iz_186 (by decide) ?_
  obtain ⟨q2, eq2, hm⟩ := ob_some hm
  refine e_cV2 hko dX12_readSame_122 ml_RX12_232 iz_186 (by decide) rfl (by omega) (Nat.le_of_ble_eq_true rfl) (tX12_bad hko I J F hF 2 (I 186 4) _ eq2) ?_
  rintro _ _ ⟨rfl, rfl⟩
  obtain ⟨c_125, hm⟩ := gd_s hm
  refine e_zret dX12_readSame_125 rfl (zz_nar c_125) ?_
  have hm := some_in hm
  subst hm
  exact ⟨rfl, rfl⟩
set_option maxRecDepth 100000 in
set_option maxHeartbeats 4000000 in
theorem tX12_readSame {l : Launch} {K : a_KT} {g : a_GT} {IA : iT} (hko : a_kok K) (I : iT) (J : jT) (F : fT) (hF : FOK F) (x1 : Int32) (q : Int32 × iT × jT) (hm : mX12_readSame I J x1 = some q) : C l K g 451 0 0 yX12_readSame cX12_readSame 4 (some .boolean) [.ref 186, .int x1] (hg IA I J F) (fun r2 h2 => r2 = some (.int q.1) ∧ h2 = hg IA q.2.1 q.2.2 F) := by
  unfold mX12_readSame at hm
  refine c_of [.ref 186, .int x1, .null, .null] (by decide) (Nat.le_of_ble_eq_true rfl) rfl ?_
  refine e_aload_n (i := 0) rfl dX12_readSame_0 ?_
  refine l_getI 12 3 dX12_readSame_1 fl_RX12_210 rfl iz_186 (by decide) ?_
  refine e_iconst (v := 2) (by decide) dX12_readSame_4 ?_
  refine e_icmp_eq 18 dX12_readSame_5 (by decide) (fun c_5 => ?_) (fun c_5 => ?_)
  · have hm := it_p c_5 hm
    refine e_aload_n (i := 0) rfl dX12_readSame_18 ?_
    refine e_aload_n (i := 0) rfl dX12_readSame_19 ?_
    refine q_getJ 12 6 dX12_readSame_20 fl_RX12_162 rfl iz_186 ?_
    obtain ⟨q3, eq3, hm⟩ := ob_some hm
    refine e_cV1 hko dX12_readSame_23 ml_RX12_301 iz_186 (by decide) rfl (by omega) (Nat.le_of_ble_eq_true rfl) (tX12_slot hko I J F hF (J 186 6) _ eq3) ?_
    rintro _ _ ⟨rfl, rfl⟩
    refine q_istore_n (i := 2) (by decide) rfl dX12_readSame_26 ?_
    refine e_iload_n (i := 2) rfl dX12_readSame_27 ?_
    refine e_iconst (v := (-1)) (by decide) dX12_readSame_28 ?_
    refine e_icmp_eq 41 dX12_readSame_29 (by decide) (fun c_29 => ?_) (fun c_29 => ?_)
    · have hm := it_p c_29 hm
      refine e_weak [.ref 186, .int x1, .int q3, .null] ⟨rfl, ⟨rfl, ⟨rfl, ⟨trivial, trivial⟩⟩⟩⟩ ?_
      exact tX12_readSame_41 hko I J x1 q3 hF _ hm
    · have hm := it_n c_29 hm
      refine e_aload_n (i := 0) rfl dX12_readSame_32 ?_
      refine q_getF 12 39 208 dX12_readSame_33 fl_RX12_78 rfl iz_186 (fr_186_39 hF) ?_
      refine e_iload_n (i := 2) rfl dX12_readSame_36 ?_
      obtain ⟨c_37, hm⟩ := gd_s hm
      refine l_iald dX12_readSame_37 iz_208 (inb_in ln_208 c_37) (by decide) ?_
      refine e_if_ne 51 dX12_readSame_38 (by decide) (fun c_38 => ?_) (fun c_38 => ?_)
      · have hm := it_n c_38 hm
        refine e_aload_n (i := 0) rfl dX12_readSame_51 ?_
        refine q_getF 12 39 208 dX12_readSame_52 fl_RX12_78 rfl iz_186 (fr_186_39 hF) ?_
        refine e_iload_n (i := 2) rfl dX12_readSame_55 ?_
        obtain ⟨c_56, hm⟩ := gd_s hm
        refine l_iald dX12_readSame_56 iz_208 (inb_in ln_208 c_56) (by decide) ?_
        refine e_iconst (v := 1) (by decide) dX12_readSame_57 ?_
        refine e_icmp_eq 71 dX12_readSame_58 (by decide) (fun c_58 => ?_) (fun c_58 => ?_)
        · have hm := it_p c_58 hm
          refine e_aload_n (i := 0) rfl dX12_readSame_71 ?_
          obtain ⟨q4, eq4, hm⟩ := ob_some hm
          refine e_cV0 hko dX12_readSame_72 ml_RX12_236 iz_186 (by decide) rfl (by omega) (Nat.le_of_ble_eq_true rfl) (tX12_look0 hko I J F hF _ eq4) ?_
          rintro _ _ ⟨rfl, rfl⟩
          refine e_aload_n (i := 0) rfl dX12_readSame_75 ?_
          refine l_getI 12 3 dX12_readSame_76 fl_RX12_210 rfl iz_186 (by decide) ?_
          refine e_iconst (v := 2) (by decide) dX12_readSame_79 ?_
          refine e_icmp_eq 93 dX12_readSame_80 (by decide) (fun c_80 => ?_) (fun c_80 => ?_)
          · have hm := it_p c_80 hm
            refine e_aload_n (i := 0) rfl dX12_readSame_93 ?_
            refine e_aload_n (i := 0) rfl dX12_readSame_94 ?_
            refine q_getJ 12 6 dX12_readSame_95 fl_RX12_162 rfl iz_186 ?_
            obtain ⟨q5, eq5, hm⟩ := ob_some hm
            refine e_cV1 hko dX12_readSame_98 ml_RX12_301 iz_186 (by decide) rfl (by omega) (Nat.le_of_ble_eq_true rfl) (tX12_slot hko q4.1 q4.2 F hF (q4.2 186 6) _ eq5) ?_
            rintro _ _ ⟨rfl, rfl⟩
            refine q_istore_n (i := 3) (by decide) rfl dX12_readSame_101 ?_
            refine e_iload_n (i := 3) rfl dX12_readSame_102 ?_
            refine e_iconst (v := (-1)) (by decide) dX12_readSame_103 ?_
            refine e_icmp_eq 116 dX12_readSame_104 (by decide) (fun c_104 => ?_) (fun c_104 => ?_)
            · have hm := it_p c_104 hm
              refine e_weak [.ref 186, .int x1, .int q3, .int q5] ⟨rfl, ⟨rfl, ⟨rfl, ⟨rfl, trivial⟩⟩⟩⟩ ?_
              exact tX12_readSame_116 hko q4.1 q4.2 x1 q3 q5 hF _ hm
            · have hm := it_n c_104 hm
              refine e_aload_n (i := 0) rfl dX12_readSame_107 ?_
              refine q_getF 12 39 208 dX12_readSame_108 fl_RX12_78 rfl iz_186 (fr_186_39 hF) ?_
              refine e_iload_n (i := 3) rfl dX12_readSame_111 ?_
              obtain ⟨c_112, hm⟩ := gd_s hm
              refine l_iald dX12_readSame_112 iz_208 (inb_in ln_208 c_112) (by decide) ?_
              refine e_if_ne 126 dX12_readSame_113 (by decide) (fun c_113 => ?_) (fun c_113 => ?_)
              · have hm := it_n c_113 hm
                refine e_aload_n (i := 0) rfl dX12_readSame_126 ?_
                refine q_getF 12 39 208 dX12_readSame_127 fl_RX12_78 rfl iz_186 (fr_186_39 hF) ?_
                refine e_iload_n (i := 3) rfl dX12_readSame_130 ?_
                obtain ⟨c_131, hm⟩ := gd_s hm
                refine l_iald dX12_readSame_131 iz_208 (inb_in ln_208 c_131) (by decide) ?_
                refine e_iconst (v := 1) (by decide) dX12_readSame_132 ?_
                refine e_icmp_ne 146 dX12_readSame_133 (by decide) (fun c_133 => ?_) (fun c_133 => ?_)
                · have hm := it_n c_133 hm
                  refine e_aload_n (i := 0) rfl dX12_readSame_146 ?_
                  obtain ⟨q6, eq6, hm⟩ := ob_some hm
                  refine e_cV0 hko dX12_readSame_147 ml_RX12_236 iz_186 (by decide) rfl (by omega) (Nat.le_of_ble_eq_true rfl) (tX12_look0 hko q4.1 q4.2 F hF _ eq6) ?_
                  rintro _ _ ⟨rfl, rfl⟩
                  refine e_aload_n (i := 0) rfl dX12_readSame_150 ?_
                  refine e_aload_n (i := 0) rfl dX12_readSame_151 ?_
                  refine q_getF 12 40 209 dX12_readSame_152 fl_RX12_81 rfl iz_186 (fr_186_40 hF) ?_
                  refine e_iload_n (i := 2) rfl dX12_readSame_155 ?_
                  obtain ⟨c_156, hm⟩ := gd_s hm
                  refine l_iald dX12_readSame_156 iz_209 (inb_in ln_209 c_156) (by decide) ?_
                  refine e_aload_n (i := 0) rfl dX12_readSame_157 ?_
                  refine q_getF 12 40 209 dX12_readSame_158 fl_RX12_81 rfl iz_186 (fr_186_40 hF) ?_
                  refine e_iload_n (i := 3) rfl dX12_readSame_161 ?_
                  obtain ⟨c_162, hm⟩ := gd_s hm
                  refine l_iald dX12_readSame_162 iz_209 (inb_in ln_209 c_162) (by decide) ?_
                  obtain ⟨q7, eq7, hm⟩ := ob_some hm
                  refine e_cV2 hko dX12_readSame_163 ml_RX12_289 iz_186 (by decide) rfl (by omega) (Nat.le_of_ble_eq_true rfl) (tX12_alike hko q6.1 q6.2 F hF (q6.1 209 q3.toNatClampNeg) (q6.1 209 q5.toNatClampNeg) _ eq7) ?_
                  rintro _ _ ⟨rfl, rfl⟩
                  refine e_if_ne 176 dX12_readSame_166 (by decide) (fun c_166 => ?_) (fun c_166 => ?_)
                  · have hm := it_n c_166 hm
                    refine e_aload_n (i := 0) rfl dX12_readSame_176 ?_
                    refine q_getF 12 37 206 dX12_readSame_177 fl_RX12_72 rfl iz_186 (fr_186_37 hF) ?_
                    refine e_iload_n (i := 3) rfl dX12_readSame_180 ?_
                    refine e_lconst (v := 0) (by decide) dX12_readSame_181 ?_
                    obtain ⟨c_182, hm⟩ := gd_s hm
                    refine q_last dX12_readSame_182 iz_206 (inb_in ln_206 c_182) ?_
                    refine e_aload_n (i := 0) rfl dX12_readSame_183 ?_
                    obtain ⟨q8, eq8, hm⟩ := ob_some hm
                    refine e_cV0 hko dX12_readSame_184 ml_RX12_322 iz_186 (by decide) rfl (by omega) (Nat.le_of_ble_eq_true rfl) (tX12_has hko q6.1 (a_u2 q6.2 206 q5.toNatClampNeg 0) F hF _ eq8) ?_
                    rintro _ _ ⟨rfl, rfl⟩
                    refine e_if_eq 197 dX12_readSame_187 (by decide) (fun c_187 => ?_) (fun c_187 => ?_)
                    · have hm := it_p c_187 hm
                      refine e_aload_n (i := 0) rfl dX12_readSame_197 ?_
                      refine e_aload_n (i := 0) rfl dX12_readSame_198 ?_
                      refine e_bipush (v := 50) (by decide) dX12_readSame_199 ?_
                      refine e_iload_n (i := 2) rfl dX12_readSame_201 ?_
                      refine e_iload_n (i := 3) rfl dX12_readSame_202 ?_
                      refine e_lconst (v := 0) (by decide) dX12_readSame_203 ?_
                      obtain ⟨q9, eq9, hm⟩ := ob_some hm
                      refine e_cV4 hko dX12_readSame_204 ml_RX12_264 iz_186 (by decide) rfl (by omega) (Nat.le_of_ble_eq_true rfl) (tX12_node hko q6.1 (a_u2 q6.2 206 q5.toNatClampNeg 0) F hF 50 q3 q5 0 _ eq9) ?_
                      rintro _ _ ⟨rfl, rfl⟩
                      refine l_putI 12 49 dX12_readSame_207 fl_RX12_331 rfl rfl iz_186 (by decide) ?_
                      refine e_iconst (v := 1) (by decide) dX12_readSame_210 ?_
                      refine e_zret dX12_readSame_211 rfl rfl ?_
                      have hm := some_in hm
                      subst hm
                      exact ⟨rfl, rfl⟩
                    · have hm := it_n c_187 hm
                      refine e_aload_n (i := 0) rfl dX12_readSame_190 ?_
                      refine e_iconst (v := 4) (by decide) dX12_readSame_191 ?_
                      refine e_iload_n (i := 1) rfl dX12_readSame_192 ?_
                      obtain ⟨q10, eq10, hm⟩ := ob_some hm
                      refine e_cV2 hko dX12_readSame_193 ml_RX12_232 iz_186 (by decide) rfl (by omega) (Nat.le_of_ble_eq_true rfl) (tX12_bad hko q6.1 (a_u2 q6.2 206 q5.toNatClampNeg 0) F hF 4 x1 _ eq10) ?_
                      rintro _ _ ⟨rfl, rfl⟩
                      obtain ⟨c_196, hm⟩ := gd_s hm
                      refine e_zret dX12_readSame_196 rfl (zz_nar c_196) ?_
                      have hm := some_in hm
                      subst hm
                      exact ⟨rfl, rfl⟩
                  · have hm := it_p c_166 hm
                    refine e_aload_n (i := 0) rfl dX12_readSame_169 ?_
                    refine e_iconst (v := 3) (by decide) dX12_readSame_170 ?_
                    refine e_iload_n (i := 1) rfl dX12_readSame_171 ?_
                    obtain ⟨q11, eq11, hm⟩ := ob_some hm
                    refine e_cV2 hko dX12_readSame_172 ml_RX12_232 iz_186 (by decide) rfl (by omega) (Nat.le_of_ble_eq_true rfl) (tX12_bad hko q6.1 q6.2 F hF 3 x1 _ eq11) ?_
                    rintro _ _ ⟨rfl, rfl⟩
                    obtain ⟨c_175, hm⟩ := gd_s hm
                    refine e_zret dX12_readSame_175 rfl (zz_nar c_175) ?_
                    have hm := some_in hm
                    subst hm
                    exact ⟨rfl, rfl⟩
                · have hm := it_p c_133 hm
                  refine e_aload_n (i := 0) rfl dX12_readSame_136 ?_
                  refine e_iconst (v := 4) (by decide) dX12_readSame_137 ?_
                  refine e_aload_n (i := 0) rfl dX12_readSame_138 ?_
                  refine l_getI 12 4 dX12_readSame_139 fl_RX12_207 rfl iz_186 (by decide) ?_
                  obtain ⟨q12, eq12, hm⟩ := ob_some hm
                  refine e_cV2 hko dX12_readSame_142 ml_RX12_232 iz_186 (by decide) rfl (by omega) (Nat.le_of_ble_eq_true rfl) (tX12_bad hko q4.1 q4.2 F hF 4 (q4.1 186 4) _ eq12) ?_
                  rintro _ _ ⟨rfl, rfl⟩
                  obtain ⟨c_145, hm⟩ := gd_s hm
                  refine e_zret dX12_readSame_145 rfl (zz_nar c_145) ?_
                  have hm := some_in hm
                  subst hm
                  exact ⟨rfl, rfl⟩
              · have hm := it_p c_113 hm
                refine e_weak [.ref 186, .int x1, .int q3, .int q5] ⟨rfl, ⟨rfl, ⟨rfl, ⟨rfl, trivial⟩⟩⟩⟩ ?_
                exact tX12_readSame_116 hko q4.1 q4.2 x1 q3 q5 hF _ hm
          · have hm := it_n c_80 hm
            refine e_aload_n (i := 0) rfl dX12_readSame_83 ?_
            refine e_iconst (v := 1) (by decide) dX12_readSame_84 ?_
            refine e_aload_n (i := 0) rfl dX12_readSame_85 ?_
            refine l_getI 12 4 dX12_readSame_86 fl_RX12_207 rfl iz_186 (by decide) ?_
            obtain ⟨q13, eq13, hm⟩ := ob_some hm
            refine e_cV2 hko dX12_readSame_89 ml_RX12_232 iz_186 (by decide) rfl (by omega) (Nat.le_of_ble_eq_true rfl) (tX12_bad hko q4.1 q4.2 F hF 1 (q4.1 186 4) _ eq13) ?_
            rintro _ _ ⟨rfl, rfl⟩
            obtain ⟨c_92, hm⟩ := gd_s hm
            refine e_zret dX12_readSame_92 rfl (zz_nar c_92) ?_
            have hm := some_in hm
            subst hm
            exact ⟨rfl, rfl⟩
        · have hm := it_n c_58 hm
          refine e_aload_n (i := 0) rfl dX12_readSame_61 ?_
          refine e_iconst (v := 4) (by decide) dX12_readSame_62 ?_
          refine e_aload_n (i := 0) rfl dX12_readSame_63 ?_
          refine l_getI 12 4 dX12_readSame_64 fl_RX12_207 rfl iz_186 (by decide) ?_
          obtain ⟨q14, eq14, hm⟩ := ob_some hm
          refine e_cV2 hko dX12_readSame_67 ml_RX12_232 iz_186 (by decide) rfl (by omega) (Nat.le_of_ble_eq_true rfl) (tX12_bad hko I J F hF 4 (I 186 4) _ eq14) ?_
          rintro _ _ ⟨rfl, rfl⟩
          obtain ⟨c_70, hm⟩ := gd_s hm
          refine e_zret dX12_readSame_70 rfl (zz_nar c_70) ?_
          have hm := some_in hm
          subst hm
          exact ⟨rfl, rfl⟩
      · have hm := it_p c_38 hm
        refine e_weak [.ref 186, .int x1, .int q3, .null] ⟨rfl, ⟨rfl, ⟨rfl, ⟨trivial, trivial⟩⟩⟩⟩ ?_
        exact tX12_readSame_41 hko I J x1 q3 hF _ hm
  · have hm := it_n c_5 hm
    refine e_aload_n (i := 0) rfl dX12_readSame_8 ?_
    refine e_iconst (v := 1) (by decide) dX12_readSame_9 ?_
    refine e_aload_n (i := 0) rfl dX12_readSame_10 ?_
    refine l_getI 12 4 dX12_readSame_11 fl_RX12_207 rfl iz_186 (by decide) ?_
    obtain ⟨q15, eq15, hm⟩ := ob_some hm
    refine e_cV2 hko dX12_readSame_14 ml_RX12_232 iz_186 (by decide) rfl (by omega) (Nat.le_of_ble_eq_true rfl) (tX12_bad hko I J F hF 1 (I 186 4) _ eq15) ?_
    rintro _ _ ⟨rfl, rfl⟩
    obtain ⟨c_17, hm⟩ := gd_s hm
    refine e_zret dX12_readSame_17 rfl (zz_nar c_17) ?_
    have hm := some_in hm
    subst hm
    exact ⟨rfl, rfl⟩
theorem dX12_sends_0 : decode cX12_sends 0 = .ok (.aload_n 0, 1) := by decide +kernel
theorem dX12_sends_1 : decode cX12_sends 1 = .ok (.iconst 4, 1) := by decide +kernel
theorem dX12_sends_2 : decode cX12_sends 2 = .ok (.iconst 5, 1) := by decide +kernel
theorem dX12_sends_3 : decode cX12_sends 3 = .ok (.invokevirtual 343, 3) := by decide +kernel
theorem dX12_sends_6 : decode cX12_sends 6 = .ok (.ifCond .ne 5, 3) := by decide +kernel
theorem dX12_sends_9 : decode cX12_sends 9 = .ok (.iconst 0, 1) := by decide +kernel
theorem dX12_sends_10 : decode cX12_sends 10 = .ok (.ireturn, 1) := by decide +kernel
theorem dX12_sends_11 : decode cX12_sends 11 = .ok (.aload_n 0, 1) := by decide +kernel
theorem dX12_sends_12 : decode cX12_sends 12 = .ok (.getfield 319, 3) := by decide +kernel
theorem dX12_sends_15 : decode cX12_sends 15 = .ok (.istore_n 1, 1) := by decide +kernel
theorem dX12_sends_16 : decode cX12_sends 16 = .ok (.aload_n 0, 1) := by decide +kernel
theorem dX12_sends_17 : decode cX12_sends 17 = .ok (.getfield 210, 3) := by decide +kernel
theorem dX12_sends_20 : decode cX12_sends 20 = .ok (.iconst 2, 1) := by decide +kernel
theorem dX12_sends_21 : decode cX12_sends 21 = .ok (.if_icmp .eq 13, 3) := by decide +kernel
theorem dX12_sends_24 : decode cX12_sends 24 = .ok (.aload_n 0, 1) := by decide +kernel
theorem dX12_sends_25 : decode cX12_sends 25 = .ok (.iconst 1, 1) := by decide +kernel
theorem dX12_sends_26 : decode cX12_sends 26 = .ok (.aload_n 0, 1) := by decide +kernel
theorem dX12_sends_27 : decode cX12_sends 27 = .ok (.getfield 207, 3) := by decide +kernel
theorem dX12_sends_30 : decode cX12_sends 30 = .ok (.invokevirtual 232, 3) := by decide +kernel
theorem dX12_sends_33 : decode cX12_sends 33 = .ok (.ireturn, 1) := by decide +kernel
theorem dX12_sends_34 : decode cX12_sends 34 = .ok (.aload_n 0, 1) := by decide +kernel
theorem dX12_sends_35 : decode cX12_sends 35 = .ok (.aload_n 0, 1) := by decide +kernel
theorem dX12_sends_36 : decode cX12_sends 36 = .ok (.getfield 162, 3) := by decide +kernel
theorem dX12_sends_39 : decode cX12_sends 39 = .ok (.invokevirtual 301, 3) := by decide +kernel
theorem dX12_sends_42 : decode cX12_sends 42 = .ok (.istore_n 2, 1) := by decide +kernel
theorem dX12_sends_43 : decode cX12_sends 43 = .ok (.iload_n 2, 1) := by decide +kernel
theorem dX12_sends_44 : decode cX12_sends 44 = .ok (.iconst (-1), 1) := by decide +kernel
theorem dX12_sends_45 : decode cX12_sends 45 = .ok (.if_icmp .eq 12, 3) := by decide +kernel
theorem dX12_sends_48 : decode cX12_sends 48 = .ok (.aload_n 0, 1) := by decide +kernel
theorem dX12_sends_49 : decode cX12_sends 49 = .ok (.getfield 78, 3) := by decide +kernel
theorem dX12_sends_52 : decode cX12_sends 52 = .ok (.iload_n 2, 1) := by decide +kernel
theorem dX12_sends_53 : decode cX12_sends 53 = .ok (.iaload, 1) := by decide +kernel
theorem dX12_sends_54 : decode cX12_sends 54 = .ok (.ifCond .ne 13, 3) := by decide +kernel
theorem dX12_sends_57 : decode cX12_sends 57 = .ok (.aload_n 0, 1) := by decide +kernel
theorem dX12_sends_58 : decode cX12_sends 58 = .ok (.iconst 2, 1) := by decide +kernel
theorem dX12_sends_59 : decode cX12_sends 59 = .ok (.aload_n 0, 1) := by decide +kernel
theorem dX12_sends_60 : decode cX12_sends 60 = .ok (.getfield 207, 3) := by decide +kernel
theorem dX12_sends_63 : decode cX12_sends 63 = .ok (.invokevirtual 232, 3) := by decide +kernel
theorem dX12_sends_66 : decode cX12_sends 66 = .ok (.ireturn, 1) := by decide +kernel
theorem dX12_sends_67 : decode cX12_sends 67 = .ok (.aload_n 0, 1) := by decide +kernel
theorem dX12_sends_68 : decode cX12_sends 68 = .ok (.getfield 81, 3) := by decide +kernel
theorem dX12_sends_71 : decode cX12_sends 71 = .ok (.iload_n 1, 1) := by decide +kernel
theorem dX12_sends_72 : decode cX12_sends 72 = .ok (.iaload, 1) := by decide +kernel
theorem dX12_sends_73 : decode cX12_sends 73 = .ok (.istore_n 3, 1) := by decide +kernel
theorem dX12_sends_74 : decode cX12_sends 74 = .ok (.aload_n 0, 1) := by decide +kernel
theorem dX12_sends_75 : decode cX12_sends 75 = .ok (.aload_n 0, 1) := by decide +kernel
theorem dX12_sends_76 : decode cX12_sends 76 = .ok (.getfield 81, 3) := by decide +kernel
theorem dX12_sends_79 : decode cX12_sends 79 = .ok (.iload_n 2, 1) := by decide +kernel
theorem dX12_sends_80 : decode cX12_sends 80 = .ok (.iaload, 1) := by decide +kernel
theorem dX12_sends_81 : decode cX12_sends 81 = .ok (.aload_n 0, 1) := by decide +kernel
theorem dX12_sends_82 : decode cX12_sends 82 = .ok (.getfield 20, 3) := by decide +kernel
theorem dX12_sends_85 : decode cX12_sends 85 = .ok (.iload_n 3, 1) := by decide +kernel
theorem dX12_sends_86 : decode cX12_sends 86 = .ok (.iaload, 1) := by decide +kernel
theorem dX12_sends_87 : decode cX12_sends 87 = .ok (.invokevirtual 289, 3) := by decide +kernel
theorem dX12_sends_90 : decode cX12_sends 90 = .ok (.ifCond .ne 13, 3) := by decide +kernel
theorem dX12_sends_93 : decode cX12_sends 93 = .ok (.aload_n 0, 1) := by decide +kernel
theorem dX12_sends_94 : decode cX12_sends 94 = .ok (.iconst 3, 1) := by decide +kernel
theorem dX12_sends_95 : decode cX12_sends 95 = .ok (.aload_n 0, 1) := by decide +kernel
theorem dX12_sends_96 : decode cX12_sends 96 = .ok (.getfield 207, 3) := by decide +kernel
theorem dX12_sends_99 : decode cX12_sends 99 = .ok (.invokevirtual 232, 3) := by decide +kernel
theorem dX12_sends_102 : decode cX12_sends 102 = .ok (.ireturn, 1) := by decide +kernel
theorem dX12_sends_103 : decode cX12_sends 103 = .ok (.aload_n 0, 1) := by decide +kernel
theorem dX12_sends_104 : decode cX12_sends 104 = .ok (.getfield 78, 3) := by decide +kernel
theorem dX12_sends_107 : decode cX12_sends 107 = .ok (.iload_n 2, 1) := by decide +kernel
theorem dX12_sends_108 : decode cX12_sends 108 = .ok (.iaload, 1) := by decide +kernel
theorem dX12_sends_109 : decode cX12_sends 109 = .ok (.iconst 1, 1) := by decide +kernel
theorem dX12_sends_110 : decode cX12_sends 110 = .ok (.if_icmp .ne 13, 3) := by decide +kernel
theorem dX12_sends_113 : decode cX12_sends 113 = .ok (.aload_n 0, 1) := by decide +kernel
theorem dX12_sends_114 : decode cX12_sends 114 = .ok (.iconst 4, 1) := by decide +kernel
theorem dX12_sends_115 : decode cX12_sends 115 = .ok (.aload_n 0, 1) := by decide +kernel
theorem dX12_sends_116 : decode cX12_sends 116 = .ok (.getfield 207, 3) := by decide +kernel
theorem dX12_sends_119 : decode cX12_sends 119 = .ok (.invokevirtual 232, 3) := by decide +kernel
theorem dX12_sends_122 : decode cX12_sends 122 = .ok (.ireturn, 1) := by decide +kernel
theorem dX12_sends_123 : decode cX12_sends 123 = .ok (.aload_n 0, 1) := by decide +kernel
theorem dX12_sends_124 : decode cX12_sends 124 = .ok (.getfield 72, 3) := by decide +kernel
theorem dX12_sends_127 : decode cX12_sends 127 = .ok (.iload_n 2, 1) := by decide +kernel
theorem dX12_sends_128 : decode cX12_sends 128 = .ok (.lconst 0, 1) := by decide +kernel
theorem dX12_sends_129 : decode cX12_sends 129 = .ok (.lastore, 1) := by decide +kernel
theorem dX12_sends_130 : decode cX12_sends 130 = .ok (.aload_n 0, 1) := by decide +kernel
theorem dX12_sends_131 : decode cX12_sends 131 = .ok (.getfield 81, 3) := by decide +kernel
theorem dX12_sends_134 : decode cX12_sends 134 = .ok (.iload_n 1, 1) := by decide +kernel
theorem dX12_sends_135 : decode cX12_sends 135 = .ok (.aload_n 0, 1) := by decide +kernel
theorem dX12_sends_136 : decode cX12_sends 136 = .ok (.getfield 23, 3) := by decide +kernel
theorem dX12_sends_139 : decode cX12_sends 139 = .ok (.iload_n 3, 1) := by decide +kernel
theorem dX12_sends_140 : decode cX12_sends 140 = .ok (.iaload, 1) := by decide +kernel
theorem dX12_sends_141 : decode cX12_sends 141 = .ok (.iastore, 1) := by decide +kernel
theorem dX12_sends_142 : decode cX12_sends 142 = .ok (.aload_n 0, 1) := by decide +kernel
theorem dX12_sends_143 : decode cX12_sends 143 = .ok (.aload_n 0, 1) := by decide +kernel
theorem dX12_sends_144 : decode cX12_sends 144 = .ok (.bipush 44, 2) := by decide +kernel
theorem dX12_sends_146 : decode cX12_sends 146 = .ok (.iload_n 1, 1) := by decide +kernel
theorem dX12_sends_147 : decode cX12_sends 147 = .ok (.iload_n 2, 1) := by decide +kernel
theorem dX12_sends_148 : decode cX12_sends 148 = .ok (.lconst 0, 1) := by decide +kernel
theorem dX12_sends_149 : decode cX12_sends 149 = .ok (.invokevirtual 264, 3) := by decide +kernel
theorem dX12_sends_152 : decode cX12_sends 152 = .ok (.putfield 331, 3) := by decide +kernel
theorem dX12_sends_155 : decode cX12_sends 155 = .ok (.aload_n 0, 1) := by decide +kernel
theorem dX12_sends_156 : decode cX12_sends 156 = .ok (.invokevirtual 236, 3) := by decide +kernel
theorem dX12_sends_159 : decode cX12_sends 159 = .ok (.iconst 1, 1) := by decide +kernel
theorem dX12_sends_160 : decode cX12_sends 160 = .ok (.ireturn, 1) := by decide +kernel
def mX12_sends_57 (I : iT) (J : jT) (x1 : Int32) (x2 : Int32) : Option (Int32 × iT × jT) := (mX12_bad I 2 (I 186 4)).bind fun q1 => if q1.1 = 0 ∨ q1.1 = 1 then some (q1.1, q1.2, J) else none
def mX12_sends (I : iT) (J : jT) : Option (Int32 × iT × jT) := (mX12_aChannel I J 4 5).bind fun q2 => if q2.1 = 0 then some (0, q2.2.1, q2.2.2) else if (q2.2.1 186 3) = 2 then (mX12_slot q2.2.1 q2.2.2 (q2.2.2 186 6)).bind fun q3 => if q3 = ((-1)) then mX12_sends_57 q2.2.1 q2.2.2 (q2.2.1 186 48) q3 else if inb q3 128 then if (q2.2.1 208 q3.toNatClampNeg) = 0 then mX12_sends_57 q2.2.1 q2.2.2 (q2.2.1 186 48) q3 else if inb (q2.2.1 186 48) 128 then if inb q3 128 then if inb (q2.2.1 209 (q2.2.1 186 48).toNatClampNeg) 2800 then (mX12_alike SF q2.2.1 q2.2.2 (q2.2.1 209 q3.toNatClampNeg) (q2.2.1 189 (q2.2.1 209 (q2.2.1 186 48).toNatClampNeg).toNatClampNeg)).bind fun q4 => if q4 = 0 then (mX12_bad q2.2.1 3 (q2.2.1 186 4)).bind fun q8 => if q8.1 = 0 ∨ q8.1 = 1 then some (q8.1, q8.2, q2.2.2) else none else if inb q3 128 then if (q2.2.1 208 q3.toNatClampNeg) = 1 then (mX12_bad q2.2.1 4 (q2.2.1 186 4)).bind fun q7 => if q7.1 = 0 ∨ q7.1 = 1 then some (q7.1, q7.2, q2.2.2) else none else if inb q3 128 then if inb (q2.2.1 209 (q2.2.1 186 48).toNatClampNeg) 2800 then if inb (q2.2.1 186 48) 128 then (mX12_node (a_u2 q2.2.1 209 (q2.2.1 186 48).toNatClampNeg (q2.2.1 190 (q2.2.1 209 (q2.2.1 186 48).toNatClampNeg).toNatClampNeg)) (a_u2 q2.2.2 206 q3.toNatClampNeg 0) 44 (q2.2.1 186 48) q3 0).bind fun q5 => (mX12_look0 (a_u2 q5.2.1 186 49 q5.1) q5.2.2).bind fun q6 => some (1, q6.1, q6.2) else none else none else none else none else none else none else none else none else (mX12_bad q2.2.1 1 (q2.2.1 186 4)).bind fun q9 => if q9.1 = 0 ∨ q9.1 = 1 then some (q9.1, q9.2, q2.2.2) else none
set_option maxRecDepth 100000 in
set_option maxHeartbeats 4000000 in
theorem tX12_sends_57 {l : Launch} {K : a_KT} {g : a_GT} {IA : iT} (hko : a_kok K) {F : fT} (I : iT) (J : jT) (x1 : Int32) (x2 : Int32) (hF : FOK F) (q : Int32 × iT × jT) (hm : mX12_sends_57 I J x1 x2 = some q) : E l K g 451 0 0 yX12_sends cX12_sends 4 (some .boolean) 57 [.ref 186, .int x1, .int x2, .null] [] (hg IA I J F) (fun r2 h2 => r2 = some (.int q.1) ∧ h2 = hg IA q.2.1 q.2.2 F) := by
  unfold mX12_sends_57 at hm
  refine e_aload_n (i := 0) rfl dX12_sends_57 ?_
  refine e_iconst (v := 2) (by decide) dX12_sends_58 ?_
  refine e_aload_n (i := 0) rfl dX12_sends_59 ?_
  refine l_getI 12 4 dX12_sends_60 fl_RX12_207 rfl iz_186 (by decide) ?_
  obtain ⟨q1, eq1, hm⟩ := ob_some hm
  refine e_cV2 hko dX12_sends_63 ml_RX12_232 iz_186 (by decide) rfl (by omega) (Nat.le_of_ble_eq_true rfl) (tX12_bad hko I J F hF 2 (I 186 4) _ eq1) ?_
  rintro _ _ ⟨rfl, rfl⟩
  obtain ⟨c_66, hm⟩ := gd_s hm
  refine e_zret dX12_sends_66 rfl (zz_nar c_66) ?_
  have hm := some_in hm
  subst hm
  exact ⟨rfl, rfl⟩
set_option maxRecDepth 100000 in
set_option maxHeartbeats 4000000 in
theorem tX12_sends {l : Launch} {K : a_KT} {g : a_GT} {IA : iT} (hko : a_kok K) (I : iT) (J : jT) (F : fT) (hF : FOK F) (q : Int32 × iT × jT) (hm : mX12_sends I J = some q) : C l K g 451 0 0 yX12_sends cX12_sends 4 (some .boolean) [.ref 186] (hg IA I J F) (fun r2 h2 => r2 = some (.int q.1) ∧ h2 = hg IA q.2.1 q.2.2 F) := by
  unfold mX12_sends at hm
  refine c_of [.ref 186, .null, .null, .null] (by decide) (Nat.le_of_ble_eq_true rfl) rfl ?_
  refine e_aload_n (i := 0) rfl dX12_sends_0 ?_
  refine e_iconst (v := 4) (by decide) dX12_sends_1 ?_
  refine e_iconst (v := 5) (by decide) dX12_sends_2 ?_
  obtain ⟨q2, eq2, hm⟩ := ob_some hm
  refine e_cV2 hko dX12_sends_3 ml_RX12_343 iz_186 (by decide) rfl (by omega) (Nat.le_of_ble_eq_true rfl) (tX12_aChannel hko I J F hF 4 5 _ eq2) ?_
  rintro _ _ ⟨rfl, rfl⟩
  refine e_if_ne 11 dX12_sends_6 (by decide) (fun c_6 => ?_) (fun c_6 => ?_)
  · have hm := it_n c_6 hm
    refine e_aload_n (i := 0) rfl dX12_sends_11 ?_
    refine l_getI 12 48 dX12_sends_12 fl_RX12_319 rfl iz_186 (by decide) ?_
    refine q_istore_n (i := 1) (by decide) rfl dX12_sends_15 ?_
    refine e_aload_n (i := 0) rfl dX12_sends_16 ?_
    refine l_getI 12 3 dX12_sends_17 fl_RX12_210 rfl iz_186 (by decide) ?_
    refine e_iconst (v := 2) (by decide) dX12_sends_20 ?_
    refine e_icmp_eq 34 dX12_sends_21 (by decide) (fun c_21 => ?_) (fun c_21 => ?_)
    · have hm := it_p c_21 hm
      refine e_aload_n (i := 0) rfl dX12_sends_34 ?_
      refine e_aload_n (i := 0) rfl dX12_sends_35 ?_
      refine q_getJ 12 6 dX12_sends_36 fl_RX12_162 rfl iz_186 ?_
      obtain ⟨q3, eq3, hm⟩ := ob_some hm
      refine e_cV1 hko dX12_sends_39 ml_RX12_301 iz_186 (by decide) rfl (by omega) (Nat.le_of_ble_eq_true rfl) (tX12_slot hko q2.2.1 q2.2.2 F hF (q2.2.2 186 6) _ eq3) ?_
      rintro _ _ ⟨rfl, rfl⟩
      refine q_istore_n (i := 2) (by decide) rfl dX12_sends_42 ?_
      refine e_iload_n (i := 2) rfl dX12_sends_43 ?_
      refine e_iconst (v := (-1)) (by decide) dX12_sends_44 ?_
      refine e_icmp_eq 57 dX12_sends_45 (by decide) (fun c_45 => ?_) (fun c_45 => ?_)
      · have hm := it_p c_45 hm
        refine e_weak [.ref 186, .int (q2.2.1 186 48), .int q3, .null] ⟨rfl, ⟨rfl, ⟨rfl, ⟨trivial, trivial⟩⟩⟩⟩ ?_
        exact tX12_sends_57 hko q2.2.1 q2.2.2 (q2.2.1 186 48) q3 hF _ hm
      · have hm := it_n c_45 hm
        refine e_aload_n (i := 0) rfl dX12_sends_48 ?_
        refine q_getF 12 39 208 dX12_sends_49 fl_RX12_78 rfl iz_186 (fr_186_39 hF) ?_
        refine e_iload_n (i := 2) rfl dX12_sends_52 ?_
        obtain ⟨c_53, hm⟩ := gd_s hm
        refine l_iald dX12_sends_53 iz_208 (inb_in ln_208 c_53) (by decide) ?_
        refine e_if_ne 67 dX12_sends_54 (by decide) (fun c_54 => ?_) (fun c_54 => ?_)
        · have hm := it_n c_54 hm
          refine e_aload_n (i := 0) rfl dX12_sends_67 ?_
          refine q_getF 12 40 209 dX12_sends_68 fl_RX12_81 rfl iz_186 (fr_186_40 hF) ?_
          refine e_iload_n (i := 1) rfl dX12_sends_71 ?_
          obtain ⟨c_72, hm⟩ := gd_s hm
          refine l_iald dX12_sends_72 iz_209 (inb_in ln_209 c_72) (by decide) ?_
          refine q_istore_n (i := 3) (by decide) rfl dX12_sends_73 ?_
          refine e_aload_n (i := 0) rfl dX12_sends_74 ?_
          refine e_aload_n (i := 0) rfl dX12_sends_75 ?_
          refine q_getF 12 40 209 dX12_sends_76 fl_RX12_81 rfl iz_186 (fr_186_40 hF) ?_
          refine e_iload_n (i := 2) rfl dX12_sends_79 ?_
          obtain ⟨c_80, hm⟩ := gd_s hm
          refine l_iald dX12_sends_80 iz_209 (inb_in ln_209 c_80) (by decide) ?_
          refine e_aload_n (i := 0) rfl dX12_sends_81 ?_
          refine q_getF 12 12 189 dX12_sends_82 fl_RX12_20 rfl iz_186 (fr_186_12 hF) ?_
          refine e_iload_n (i := 3) rfl dX12_sends_85 ?_
          obtain ⟨c_86, hm⟩ := gd_s hm
          refine l_iald dX12_sends_86 iz_189 (inb_in ln_189 c_86) (by decide) ?_
          obtain ⟨q4, eq4, hm⟩ := ob_some hm
          refine e_cV2 hko dX12_sends_87 ml_RX12_289 iz_186 (by decide) rfl (by omega) (Nat.le_of_ble_eq_true rfl) (tX12_alike hko q2.2.1 q2.2.2 F hF (q2.2.1 209 q3.toNatClampNeg) (q2.2.1 189 (q2.2.1 209 (q2.2.1 186 48).toNatClampNeg).toNatClampNeg) _ eq4) ?_
          rintro _ _ ⟨rfl, rfl⟩
          refine e_if_ne 103 dX12_sends_90 (by decide) (fun c_90 => ?_) (fun c_90 => ?_)
          · have hm := it_n c_90 hm
            refine e_aload_n (i := 0) rfl dX12_sends_103 ?_
            refine q_getF 12 39 208 dX12_sends_104 fl_RX12_78 rfl iz_186 (fr_186_39 hF) ?_
            refine e_iload_n (i := 2) rfl dX12_sends_107 ?_
            obtain ⟨c_108, hm⟩ := gd_s hm
            refine l_iald dX12_sends_108 iz_208 (inb_in ln_208 c_108) (by decide) ?_
            refine e_iconst (v := 1) (by decide) dX12_sends_109 ?_
            refine e_icmp_ne 123 dX12_sends_110 (by decide) (fun c_110 => ?_) (fun c_110 => ?_)
            · have hm := it_n c_110 hm
              refine e_aload_n (i := 0) rfl dX12_sends_123 ?_
              refine q_getF 12 37 206 dX12_sends_124 fl_RX12_72 rfl iz_186 (fr_186_37 hF) ?_
              refine e_iload_n (i := 2) rfl dX12_sends_127 ?_
              refine e_lconst (v := 0) (by decide) dX12_sends_128 ?_
              obtain ⟨c_129, hm⟩ := gd_s hm
              refine q_last dX12_sends_129 iz_206 (inb_in ln_206 c_129) ?_
              refine e_aload_n (i := 0) rfl dX12_sends_130 ?_
              refine q_getF 12 40 209 dX12_sends_131 fl_RX12_81 rfl iz_186 (fr_186_40 hF) ?_
              refine e_iload_n (i := 1) rfl dX12_sends_134 ?_
              refine e_aload_n (i := 0) rfl dX12_sends_135 ?_
              refine q_getF 12 13 190 dX12_sends_136 fl_RX12_23 rfl iz_186 (fr_186_13 hF) ?_
              refine e_iload_n (i := 3) rfl dX12_sends_139 ?_
              obtain ⟨c_140, hm⟩ := gd_s hm
              refine l_iald dX12_sends_140 iz_190 (inb_in ln_190 c_140) (by decide) ?_
              obtain ⟨c_141, hm⟩ := gd_s hm
              refine l_iast dX12_sends_141 iz_209 (inb_in ln_209 c_141) (by decide) ?_
              refine e_aload_n (i := 0) rfl dX12_sends_142 ?_
              refine e_aload_n (i := 0) rfl dX12_sends_143 ?_
              refine e_bipush (v := 44) (by decide) dX12_sends_144 ?_
              refine e_iload_n (i := 1) rfl dX12_sends_146 ?_
              refine e_iload_n (i := 2) rfl dX12_sends_147 ?_
              refine e_lconst (v := 0) (by decide) dX12_sends_148 ?_
              obtain ⟨q5, eq5, hm⟩ := ob_some hm
              refine e_cV4 hko dX12_sends_149 ml_RX12_264 iz_186 (by decide) rfl (by omega) (Nat.le_of_ble_eq_true rfl) (tX12_node hko (a_u2 q2.2.1 209 (q2.2.1 186 48).toNatClampNeg (q2.2.1 190 (q2.2.1 209 (q2.2.1 186 48).toNatClampNeg).toNatClampNeg)) (a_u2 q2.2.2 206 q3.toNatClampNeg 0) F hF 44 (q2.2.1 186 48) q3 0 _ eq5) ?_
              rintro _ _ ⟨rfl, rfl⟩
              refine l_putI 12 49 dX12_sends_152 fl_RX12_331 rfl rfl iz_186 (by decide) ?_
              refine e_aload_n (i := 0) rfl dX12_sends_155 ?_
              obtain ⟨q6, eq6, hm⟩ := ob_some hm
              refine e_cV0 hko dX12_sends_156 ml_RX12_236 iz_186 (by decide) rfl (by omega) (Nat.le_of_ble_eq_true rfl) (tX12_look0 hko (a_u2 q5.2.1 186 49 q5.1) q5.2.2 F hF _ eq6) ?_
              rintro _ _ ⟨rfl, rfl⟩
              refine e_iconst (v := 1) (by decide) dX12_sends_159 ?_
              refine e_zret dX12_sends_160 rfl rfl ?_
              have hm := some_in hm
              subst hm
              exact ⟨rfl, rfl⟩
            · have hm := it_p c_110 hm
              refine e_aload_n (i := 0) rfl dX12_sends_113 ?_
              refine e_iconst (v := 4) (by decide) dX12_sends_114 ?_
              refine e_aload_n (i := 0) rfl dX12_sends_115 ?_
              refine l_getI 12 4 dX12_sends_116 fl_RX12_207 rfl iz_186 (by decide) ?_
              obtain ⟨q7, eq7, hm⟩ := ob_some hm
              refine e_cV2 hko dX12_sends_119 ml_RX12_232 iz_186 (by decide) rfl (by omega) (Nat.le_of_ble_eq_true rfl) (tX12_bad hko q2.2.1 q2.2.2 F hF 4 (q2.2.1 186 4) _ eq7) ?_
              rintro _ _ ⟨rfl, rfl⟩
              obtain ⟨c_122, hm⟩ := gd_s hm
              refine e_zret dX12_sends_122 rfl (zz_nar c_122) ?_
              have hm := some_in hm
              subst hm
              exact ⟨rfl, rfl⟩
          · have hm := it_p c_90 hm
            refine e_aload_n (i := 0) rfl dX12_sends_93 ?_
            refine e_iconst (v := 3) (by decide) dX12_sends_94 ?_
            refine e_aload_n (i := 0) rfl dX12_sends_95 ?_
            refine l_getI 12 4 dX12_sends_96 fl_RX12_207 rfl iz_186 (by decide) ?_
            obtain ⟨q8, eq8, hm⟩ := ob_some hm
            refine e_cV2 hko dX12_sends_99 ml_RX12_232 iz_186 (by decide) rfl (by omega) (Nat.le_of_ble_eq_true rfl) (tX12_bad hko q2.2.1 q2.2.2 F hF 3 (q2.2.1 186 4) _ eq8) ?_
            rintro _ _ ⟨rfl, rfl⟩
            obtain ⟨c_102, hm⟩ := gd_s hm
            refine e_zret dX12_sends_102 rfl (zz_nar c_102) ?_
            have hm := some_in hm
            subst hm
            exact ⟨rfl, rfl⟩
        · have hm := it_p c_54 hm
          refine e_weak [.ref 186, .int (q2.2.1 186 48), .int q3, .null] ⟨rfl, ⟨rfl, ⟨rfl, ⟨trivial, trivial⟩⟩⟩⟩ ?_
          exact tX12_sends_57 hko q2.2.1 q2.2.2 (q2.2.1 186 48) q3 hF _ hm
    · have hm := it_n c_21 hm
      refine e_aload_n (i := 0) rfl dX12_sends_24 ?_
      refine e_iconst (v := 1) (by decide) dX12_sends_25 ?_
      refine e_aload_n (i := 0) rfl dX12_sends_26 ?_
      refine l_getI 12 4 dX12_sends_27 fl_RX12_207 rfl iz_186 (by decide) ?_
      obtain ⟨q9, eq9, hm⟩ := ob_some hm
      refine e_cV2 hko dX12_sends_30 ml_RX12_232 iz_186 (by decide) rfl (by omega) (Nat.le_of_ble_eq_true rfl) (tX12_bad hko q2.2.1 q2.2.2 F hF 1 (q2.2.1 186 4) _ eq9) ?_
      rintro _ _ ⟨rfl, rfl⟩
      obtain ⟨c_33, hm⟩ := gd_s hm
      refine e_zret dX12_sends_33 rfl (zz_nar c_33) ?_
      have hm := some_in hm
      subst hm
      exact ⟨rfl, rfl⟩
  · have hm := it_p c_6 hm
    refine e_iconst (v := 0) (by decide) dX12_sends_9 ?_
    refine e_zret dX12_sends_10 rfl rfl ?_
    have hm := some_in hm
    subst hm
    exact ⟨rfl, rfl⟩
theorem dX12_act_0 : decode cX12_act 0 = .ok (.iload_n 1, 1) := by decide +kernel
theorem dX12_act_1 : decode cX12_act 1 = .ok (.bipush 108, 2) := by decide +kernel
theorem dX12_act_3 : decode cX12_act 3 = .ok (.if_icmp .eq 9, 3) := by decide +kernel
theorem dX12_act_6 : decode cX12_act 6 = .ok (.iload_n 1, 1) := by decide +kernel
theorem dX12_act_7 : decode cX12_act 7 = .ok (.bipush 112, 2) := by decide +kernel
theorem dX12_act_9 : decode cX12_act 9 = .ok (.if_icmp .ne 42, 3) := by decide +kernel
theorem dX12_act_12 : decode cX12_act 12 = .ok (.aload_n 0, 1) := by decide +kernel
theorem dX12_act_13 : decode cX12_act 13 = .ok (.invokevirtual 304, 3) := by decide +kernel
theorem dX12_act_16 : decode cX12_act 16 = .ok (.ifCond .ne 5, 3) := by decide +kernel
theorem dX12_act_19 : decode cX12_act 19 = .ok (.iconst 0, 1) := by decide +kernel
theorem dX12_act_20 : decode cX12_act 20 = .ok (.ireturn, 1) := by decide +kernel
theorem dX12_act_21 : decode cX12_act 21 = .ok (.iload_n 1, 1) := by decide +kernel
theorem dX12_act_22 : decode cX12_act 22 = .ok (.bipush 108, 2) := by decide +kernel
theorem dX12_act_24 : decode cX12_act 24 = .ok (.if_icmp .ne 10, 3) := by decide +kernel
theorem dX12_act_27 : decode cX12_act 27 = .ok (.aload_n 0, 1) := by decide +kernel
theorem dX12_act_28 : decode cX12_act 28 = .ok (.invokevirtual 334, 3) := by decide +kernel
theorem dX12_act_31 : decode cX12_act 31 = .ok (.goto 7, 3) := by decide +kernel
theorem dX12_act_34 : decode cX12_act 34 = .ok (.aload_n 0, 1) := by decide +kernel
theorem dX12_act_35 : decode cX12_act 35 = .ok (.invokevirtual 337, 3) := by decide +kernel
theorem dX12_act_38 : decode cX12_act 38 = .ok (.istore_n 2, 1) := by decide +kernel
theorem dX12_act_39 : decode cX12_act 39 = .ok (.aload_n 0, 1) := by decide +kernel
theorem dX12_act_40 : decode cX12_act 40 = .ok (.dup, 1) := by decide +kernel
theorem dX12_act_41 : decode cX12_act 41 = .ok (.getfield 295, 3) := by decide +kernel
theorem dX12_act_44 : decode cX12_act 44 = .ok (.iconst 1, 1) := by decide +kernel
theorem dX12_act_45 : decode cX12_act 45 = .ok (.isub, 1) := by decide +kernel
theorem dX12_act_46 : decode cX12_act 46 = .ok (.putfield 295, 3) := by decide +kernel
theorem dX12_act_49 : decode cX12_act 49 = .ok (.iload_n 2, 1) := by decide +kernel
theorem dX12_act_50 : decode cX12_act 50 = .ok (.ireturn, 1) := by decide +kernel
theorem dX12_act_51 : decode cX12_act 51 = .ok (.aload_n 0, 1) := by decide +kernel
theorem dX12_act_52 : decode cX12_act 52 = .ok (.getfield 207, 3) := by decide +kernel
theorem dX12_act_55 : decode cX12_act 55 = .ok (.istore_n 2, 1) := by decide +kernel
theorem dX12_act_56 : decode cX12_act 56 = .ok (.aload_n 0, 1) := by decide +kernel
theorem dX12_act_57 : decode cX12_act 57 = .ok (.invokevirtual 236, 3) := by decide +kernel
theorem dX12_act_60 : decode cX12_act 60 = .ok (.iload_n 1, 1) := by decide +kernel
theorem dX12_act_61 : decode cX12_act 61 = .ok (.tableswitch 475 103 116 #[138, 198, 270, 275, 354, 475, 458, 469, 463, 475, 475, 475, 71, 99], 71) := by decide +kernel
theorem dX12_act_132 : decode cX12_act 132 = .ok (.aload_n 0, 1) := by decide +kernel
theorem dX12_act_133 : decode cX12_act 133 = .ok (.iconst 1, 1) := by decide +kernel
theorem dX12_act_134 : decode cX12_act 134 = .ok (.invokevirtual 340, 3) := by decide +kernel
theorem dX12_act_137 : decode cX12_act 137 = .ok (.ifCond .ne 5, 3) := by decide +kernel
theorem dX12_act_140 : decode cX12_act 140 = .ok (.iconst 0, 1) := by decide +kernel
theorem dX12_act_141 : decode cX12_act 141 = .ok (.ireturn, 1) := by decide +kernel
theorem dX12_act_142 : decode cX12_act 142 = .ok (.aload_n 0, 1) := by decide +kernel
theorem dX12_act_143 : decode cX12_act 143 = .ok (.aload_n 0, 1) := by decide +kernel
theorem dX12_act_144 : decode cX12_act 144 = .ok (.bipush 40, 2) := by decide +kernel
theorem dX12_act_146 : decode cX12_act 146 = .ok (.aload_n 0, 1) := by decide +kernel
theorem dX12_act_147 : decode cX12_act 147 = .ok (.getfield 319, 3) := by decide +kernel
theorem dX12_act_150 : decode cX12_act 150 = .ok (.iconst (-1), 1) := by decide +kernel
theorem dX12_act_151 : decode cX12_act 151 = .ok (.lconst 0, 1) := by decide +kernel
theorem dX12_act_152 : decode cX12_act 152 = .ok (.invokevirtual 264, 3) := by decide +kernel
theorem dX12_act_155 : decode cX12_act 155 = .ok (.putfield 331, 3) := by decide +kernel
theorem dX12_act_158 : decode cX12_act 158 = .ok (.iconst 1, 1) := by decide +kernel
theorem dX12_act_159 : decode cX12_act 159 = .ok (.ireturn, 1) := by decide +kernel
theorem dX12_act_160 : decode cX12_act 160 = .ok (.aload_n 0, 1) := by decide +kernel
theorem dX12_act_161 : decode cX12_act 161 = .ok (.iconst (-1), 1) := by decide +kernel
theorem dX12_act_162 : decode cX12_act 162 = .ok (.iconst 1, 1) := by decide +kernel
theorem dX12_act_163 : decode cX12_act 163 = .ok (.invokevirtual 343, 3) := by decide +kernel
theorem dX12_act_166 : decode cX12_act 166 = .ok (.ifCond .ne 5, 3) := by decide +kernel
theorem dX12_act_169 : decode cX12_act 169 = .ok (.iconst 0, 1) := by decide +kernel
theorem dX12_act_170 : decode cX12_act 170 = .ok (.ireturn, 1) := by decide +kernel
theorem dX12_act_171 : decode cX12_act 171 = .ok (.aload_n 0, 1) := by decide +kernel
theorem dX12_act_172 : decode cX12_act 172 = .ok (.aload_n 0, 1) := by decide +kernel
theorem dX12_act_173 : decode cX12_act 173 = .ok (.bipush 41, 2) := by decide +kernel
theorem dX12_act_175 : decode cX12_act 175 = .ok (.aload_n 0, 1) := by decide +kernel
theorem dX12_act_176 : decode cX12_act 176 = .ok (.getfield 319, 3) := by decide +kernel
theorem dX12_act_179 : decode cX12_act 179 = .ok (.iconst (-1), 1) := by decide +kernel
theorem dX12_act_180 : decode cX12_act 180 = .ok (.lconst 0, 1) := by decide +kernel
theorem dX12_act_181 : decode cX12_act 181 = .ok (.invokevirtual 264, 3) := by decide +kernel
theorem dX12_act_184 : decode cX12_act 184 = .ok (.putfield 331, 3) := by decide +kernel
theorem dX12_act_187 : decode cX12_act 187 = .ok (.aload_n 0, 1) := by decide +kernel
theorem dX12_act_188 : decode cX12_act 188 = .ok (.getfield 72, 3) := by decide +kernel
theorem dX12_act_191 : decode cX12_act 191 = .ok (.aload_n 0, 1) := by decide +kernel
theorem dX12_act_192 : decode cX12_act 192 = .ok (.getfield 319, 3) := by decide +kernel
theorem dX12_act_195 : decode cX12_act 195 = .ok (.lconst 0, 1) := by decide +kernel
theorem dX12_act_196 : decode cX12_act 196 = .ok (.lastore, 1) := by decide +kernel
theorem dX12_act_197 : decode cX12_act 197 = .ok (.iconst 1, 1) := by decide +kernel
theorem dX12_act_198 : decode cX12_act 198 = .ok (.ireturn, 1) := by decide +kernel
theorem dX12_act_199 : decode cX12_act 199 = .ok (.aload_n 0, 1) := by decide +kernel
theorem dX12_act_200 : decode cX12_act 200 = .ok (.iconst 2, 1) := by decide +kernel
theorem dX12_act_201 : decode cX12_act 201 = .ok (.iconst 3, 1) := by decide +kernel
theorem dX12_act_202 : decode cX12_act 202 = .ok (.invokevirtual 343, 3) := by decide +kernel
theorem dX12_act_205 : decode cX12_act 205 = .ok (.ifCond .ne 5, 3) := by decide +kernel
theorem dX12_act_208 : decode cX12_act 208 = .ok (.iconst 0, 1) := by decide +kernel
theorem dX12_act_209 : decode cX12_act 209 = .ok (.ireturn, 1) := by decide +kernel
theorem dX12_act_210 : decode cX12_act 210 = .ok (.aload_n 0, 1) := by decide +kernel
theorem dX12_act_211 : decode cX12_act 211 = .ok (.getfield 319, 3) := by decide +kernel
theorem dX12_act_214 : decode cX12_act 214 = .ok (.istore_n 3, 1) := by decide +kernel
theorem dX12_act_215 : decode cX12_act 215 = .ok (.aload_n 0, 1) := by decide +kernel
theorem dX12_act_216 : decode cX12_act 216 = .ok (.invokevirtual 310, 3) := by decide +kernel
theorem dX12_act_219 : decode cX12_act 219 = .ok (.ifCond .ne 5, 3) := by decide +kernel
theorem dX12_act_222 : decode cX12_act 222 = .ok (.iconst 0, 1) := by decide +kernel
theorem dX12_act_223 : decode cX12_act 223 = .ok (.ireturn, 1) := by decide +kernel
theorem dX12_act_224 : decode cX12_act 224 = .ok (.aload_n 0, 1) := by decide +kernel
theorem dX12_act_225 : decode cX12_act 225 = .ok (.getfield 81, 3) := by decide +kernel
theorem dX12_act_228 : decode cX12_act 228 = .ok (.iload_n 3, 1) := by decide +kernel
theorem dX12_act_229 : decode cX12_act 229 = .ok (.aload_n 0, 1) := by decide +kernel
theorem dX12_act_230 : decode cX12_act 230 = .ok (.getfield 20, 3) := by decide +kernel
theorem dX12_act_233 : decode cX12_act 233 = .ok (.aload_n 0, 1) := by decide +kernel
theorem dX12_act_234 : decode cX12_act 234 = .ok (.getfield 81, 3) := by decide +kernel
theorem dX12_act_237 : decode cX12_act 237 = .ok (.iload_n 3, 1) := by decide +kernel
theorem dX12_act_238 : decode cX12_act 238 = .ok (.iaload, 1) := by decide +kernel
theorem dX12_act_239 : decode cX12_act 239 = .ok (.iaload, 1) := by decide +kernel
theorem dX12_act_240 : decode cX12_act 240 = .ok (.iastore, 1) := by decide +kernel
theorem dX12_act_241 : decode cX12_act 241 = .ok (.aload_n 0, 1) := by decide +kernel
theorem dX12_act_242 : decode cX12_act 242 = .ok (.aload_n 0, 1) := by decide +kernel
theorem dX12_act_243 : decode cX12_act 243 = .ok (.bipush 42, 2) := by decide +kernel
theorem dX12_act_245 : decode cX12_act 245 = .ok (.iload_n 3, 1) := by decide +kernel
theorem dX12_act_246 : decode cX12_act 246 = .ok (.aload_n 0, 1) := by decide +kernel
theorem dX12_act_247 : decode cX12_act 247 = .ok (.getfield 298, 3) := by decide +kernel
theorem dX12_act_250 : decode cX12_act 250 = .ok (.lconst 0, 1) := by decide +kernel
theorem dX12_act_251 : decode cX12_act 251 = .ok (.invokevirtual 264, 3) := by decide +kernel
theorem dX12_act_254 : decode cX12_act 254 = .ok (.putfield 331, 3) := by decide +kernel
theorem dX12_act_257 : decode cX12_act 257 = .ok (.iconst 1, 1) := by decide +kernel
theorem dX12_act_258 : decode cX12_act 258 = .ok (.ireturn, 1) := by decide +kernel
theorem dX12_act_259 : decode cX12_act 259 = .ok (.aload_n 0, 1) := by decide +kernel
theorem dX12_act_260 : decode cX12_act 260 = .ok (.iconst 3, 1) := by decide +kernel
theorem dX12_act_261 : decode cX12_act 261 = .ok (.iconst 2, 1) := by decide +kernel
theorem dX12_act_262 : decode cX12_act 262 = .ok (.invokevirtual 343, 3) := by decide +kernel
theorem dX12_act_265 : decode cX12_act 265 = .ok (.ifCond .eq 10, 3) := by decide +kernel
theorem dX12_act_268 : decode cX12_act 268 = .ok (.aload_n 0, 1) := by decide +kernel
theorem dX12_act_269 : decode cX12_act 269 = .ok (.invokevirtual 346, 3) := by decide +kernel
theorem dX12_act_272 : decode cX12_act 272 = .ok (.ifCond .ne 5, 3) := by decide +kernel
theorem dX12_act_275 : decode cX12_act 275 = .ok (.iconst 0, 1) := by decide +kernel
theorem dX12_act_276 : decode cX12_act 276 = .ok (.ireturn, 1) := by decide +kernel
theorem dX12_act_277 : decode cX12_act 277 = .ok (.aload_n 0, 1) := by decide +kernel
theorem dX12_act_278 : decode cX12_act 278 = .ok (.getfield 81, 3) := by decide +kernel
theorem dX12_act_281 : decode cX12_act 281 = .ok (.aload_n 0, 1) := by decide +kernel
theorem dX12_act_282 : decode cX12_act 282 = .ok (.getfield 319, 3) := by decide +kernel
theorem dX12_act_285 : decode cX12_act 285 = .ok (.aload_n 0, 1) := by decide +kernel
theorem dX12_act_286 : decode cX12_act 286 = .ok (.getfield 20, 3) := by decide +kernel
theorem dX12_act_289 : decode cX12_act 289 = .ok (.aload_n 0, 1) := by decide +kernel
theorem dX12_act_290 : decode cX12_act 290 = .ok (.getfield 81, 3) := by decide +kernel
theorem dX12_act_293 : decode cX12_act 293 = .ok (.aload_n 0, 1) := by decide +kernel
theorem dX12_act_294 : decode cX12_act 294 = .ok (.getfield 319, 3) := by decide +kernel
theorem dX12_act_297 : decode cX12_act 297 = .ok (.iaload, 1) := by decide +kernel
theorem dX12_act_298 : decode cX12_act 298 = .ok (.iaload, 1) := by decide +kernel
theorem dX12_act_299 : decode cX12_act 299 = .ok (.iastore, 1) := by decide +kernel
theorem dX12_act_300 : decode cX12_act 300 = .ok (.aload_n 0, 1) := by decide +kernel
theorem dX12_act_301 : decode cX12_act 301 = .ok (.aload_n 0, 1) := by decide +kernel
theorem dX12_act_302 : decode cX12_act 302 = .ok (.bipush 43, 2) := by decide +kernel
theorem dX12_act_304 : decode cX12_act 304 = .ok (.aload_n 0, 1) := by decide +kernel
theorem dX12_act_305 : decode cX12_act 305 = .ok (.getfield 319, 3) := by decide +kernel
theorem dX12_act_308 : decode cX12_act 308 = .ok (.aload_n 0, 1) := by decide +kernel
theorem dX12_act_309 : decode cX12_act 309 = .ok (.aload_n 0, 1) := by decide +kernel
theorem dX12_act_310 : decode cX12_act 310 = .ok (.getfield 162, 3) := by decide +kernel
theorem dX12_act_313 : decode cX12_act 313 = .ok (.iconst 0, 1) := by decide +kernel
theorem dX12_act_314 : decode cX12_act 314 = .ok (.iconst (-1), 1) := by decide +kernel
theorem dX12_act_315 : decode cX12_act 315 = .ok (.invokevirtual 349, 3) := by decide +kernel
theorem dX12_act_318 : decode cX12_act 318 = .ok (.lconst 0, 1) := by decide +kernel
theorem dX12_act_319 : decode cX12_act 319 = .ok (.invokevirtual 264, 3) := by decide +kernel
theorem dX12_act_322 : decode cX12_act 322 = .ok (.putfield 331, 3) := by decide +kernel
theorem dX12_act_325 : decode cX12_act 325 = .ok (.aload_n 0, 1) := by decide +kernel
theorem dX12_act_326 : decode cX12_act 326 = .ok (.invokevirtual 236, 3) := by decide +kernel
theorem dX12_act_329 : decode cX12_act 329 = .ok (.iconst 1, 1) := by decide +kernel
theorem dX12_act_330 : decode cX12_act 330 = .ok (.ireturn, 1) := by decide +kernel
theorem dX12_act_331 : decode cX12_act 331 = .ok (.aload_n 0, 1) := by decide +kernel
theorem dX12_act_332 : decode cX12_act 332 = .ok (.invokevirtual 353, 3) := by decide +kernel
theorem dX12_act_335 : decode cX12_act 335 = .ok (.ireturn, 1) := by decide +kernel
theorem dX12_act_336 : decode cX12_act 336 = .ok (.aload_n 0, 1) := by decide +kernel
theorem dX12_act_337 : decode cX12_act 337 = .ok (.iconst 5, 1) := by decide +kernel
theorem dX12_act_338 : decode cX12_act 338 = .ok (.iconst 4, 1) := by decide +kernel
theorem dX12_act_339 : decode cX12_act 339 = .ok (.invokevirtual 343, 3) := by decide +kernel
theorem dX12_act_342 : decode cX12_act 342 = .ok (.ifCond .eq 10, 3) := by decide +kernel
theorem dX12_act_345 : decode cX12_act 345 = .ok (.aload_n 0, 1) := by decide +kernel
theorem dX12_act_346 : decode cX12_act 346 = .ok (.invokevirtual 346, 3) := by decide +kernel
theorem dX12_act_349 : decode cX12_act 349 = .ok (.ifCond .ne 5, 3) := by decide +kernel
theorem dX12_act_352 : decode cX12_act 352 = .ok (.iconst 0, 1) := by decide +kernel
theorem dX12_act_353 : decode cX12_act 353 = .ok (.ireturn, 1) := by decide +kernel
theorem dX12_act_354 : decode cX12_act 354 = .ok (.aload_n 0, 1) := by decide +kernel
theorem dX12_act_355 : decode cX12_act 355 = .ok (.getfield 81, 3) := by decide +kernel
theorem dX12_act_358 : decode cX12_act 358 = .ok (.aload_n 0, 1) := by decide +kernel
theorem dX12_act_359 : decode cX12_act 359 = .ok (.getfield 319, 3) := by decide +kernel
theorem dX12_act_362 : decode cX12_act 362 = .ok (.iaload, 1) := by decide +kernel
theorem dX12_act_363 : decode cX12_act 363 = .ok (.istore_n 3, 1) := by decide +kernel
theorem dX12_act_364 : decode cX12_act 364 = .ok (.aload_n 0, 1) := by decide +kernel
theorem dX12_act_365 : decode cX12_act 365 = .ok (.getfield 81, 3) := by decide +kernel
theorem dX12_act_368 : decode cX12_act 368 = .ok (.aload_n 0, 1) := by decide +kernel
theorem dX12_act_369 : decode cX12_act 369 = .ok (.getfield 319, 3) := by decide +kernel
theorem dX12_act_372 : decode cX12_act 372 = .ok (.aload_n 0, 1) := by decide +kernel
theorem dX12_act_373 : decode cX12_act 373 = .ok (.getfield 23, 3) := by decide +kernel
theorem dX12_act_376 : decode cX12_act 376 = .ok (.iload_n 3, 1) := by decide +kernel
theorem dX12_act_377 : decode cX12_act 377 = .ok (.iaload, 1) := by decide +kernel
theorem dX12_act_378 : decode cX12_act 378 = .ok (.iastore, 1) := by decide +kernel
theorem dX12_act_379 : decode cX12_act 379 = .ok (.aload_n 0, 1) := by decide +kernel
theorem dX12_act_380 : decode cX12_act 380 = .ok (.aload_n 0, 1) := by decide +kernel
theorem dX12_act_381 : decode cX12_act 381 = .ok (.bipush 45, 2) := by decide +kernel
theorem dX12_act_383 : decode cX12_act 383 = .ok (.aload_n 0, 1) := by decide +kernel
theorem dX12_act_384 : decode cX12_act 384 = .ok (.getfield 319, 3) := by decide +kernel
theorem dX12_act_387 : decode cX12_act 387 = .ok (.aload_n 0, 1) := by decide +kernel
theorem dX12_act_388 : decode cX12_act 388 = .ok (.aload_n 0, 1) := by decide +kernel
theorem dX12_act_389 : decode cX12_act 389 = .ok (.getfield 162, 3) := by decide +kernel
theorem dX12_act_392 : decode cX12_act 392 = .ok (.iconst 2, 1) := by decide +kernel
theorem dX12_act_393 : decode cX12_act 393 = .ok (.aload_n 0, 1) := by decide +kernel
theorem dX12_act_394 : decode cX12_act 394 = .ok (.getfield 20, 3) := by decide +kernel
theorem dX12_act_397 : decode cX12_act 397 = .ok (.iload_n 3, 1) := by decide +kernel
theorem dX12_act_398 : decode cX12_act 398 = .ok (.iaload, 1) := by decide +kernel
theorem dX12_act_399 : decode cX12_act 399 = .ok (.invokevirtual 349, 3) := by decide +kernel
theorem dX12_act_402 : decode cX12_act 402 = .ok (.lconst 0, 1) := by decide +kernel
theorem dX12_act_403 : decode cX12_act 403 = .ok (.invokevirtual 264, 3) := by decide +kernel
theorem dX12_act_406 : decode cX12_act 406 = .ok (.putfield 331, 3) := by decide +kernel
theorem dX12_act_409 : decode cX12_act 409 = .ok (.aload_n 0, 1) := by decide +kernel
theorem dX12_act_410 : decode cX12_act 410 = .ok (.invokevirtual 236, 3) := by decide +kernel
theorem dX12_act_413 : decode cX12_act 413 = .ok (.iconst 1, 1) := by decide +kernel
theorem dX12_act_414 : decode cX12_act 414 = .ok (.ireturn, 1) := by decide +kernel
theorem dX12_act_415 : decode cX12_act 415 = .ok (.aload_n 0, 1) := by decide +kernel
theorem dX12_act_416 : decode cX12_act 416 = .ok (.bipush 6, 2) := by decide +kernel
theorem dX12_act_418 : decode cX12_act 418 = .ok (.bipush 7, 2) := by decide +kernel
theorem dX12_act_420 : decode cX12_act 420 = .ok (.invokevirtual 343, 3) := by decide +kernel
theorem dX12_act_423 : decode cX12_act 423 = .ok (.ifCond .ne 5, 3) := by decide +kernel
theorem dX12_act_426 : decode cX12_act 426 = .ok (.iconst 0, 1) := by decide +kernel
theorem dX12_act_427 : decode cX12_act 427 = .ok (.ireturn, 1) := by decide +kernel
theorem dX12_act_428 : decode cX12_act 428 = .ok (.aload_n 0, 1) := by decide +kernel
theorem dX12_act_429 : decode cX12_act 429 = .ok (.getfield 210, 3) := by decide +kernel
theorem dX12_act_432 : decode cX12_act 432 = .ok (.iconst 2, 1) := by decide +kernel
theorem dX12_act_433 : decode cX12_act 433 = .ok (.if_icmp .eq 13, 3) := by decide +kernel
theorem dX12_act_436 : decode cX12_act 436 = .ok (.aload_n 0, 1) := by decide +kernel
theorem dX12_act_437 : decode cX12_act 437 = .ok (.iconst 1, 1) := by decide +kernel
theorem dX12_act_438 : decode cX12_act 438 = .ok (.aload_n 0, 1) := by decide +kernel
theorem dX12_act_439 : decode cX12_act 439 = .ok (.getfield 207, 3) := by decide +kernel
theorem dX12_act_442 : decode cX12_act 442 = .ok (.invokevirtual 232, 3) := by decide +kernel
theorem dX12_act_445 : decode cX12_act 445 = .ok (.ireturn, 1) := by decide +kernel
theorem dX12_act_446 : decode cX12_act 446 = .ok (.aload_n 0, 1) := by decide +kernel
theorem dX12_act_447 : decode cX12_act 447 = .ok (.aload_n 0, 1) := by decide +kernel
theorem dX12_act_448 : decode cX12_act 448 = .ok (.getfield 81, 3) := by decide +kernel
theorem dX12_act_451 : decode cX12_act 451 = .ok (.aload_n 0, 1) := by decide +kernel
theorem dX12_act_452 : decode cX12_act 452 = .ok (.getfield 319, 3) := by decide +kernel
theorem dX12_act_455 : decode cX12_act 455 = .ok (.iaload, 1) := by decide +kernel
theorem dX12_act_456 : decode cX12_act 456 = .ok (.aload_n 0, 1) := by decide +kernel
theorem dX12_act_457 : decode cX12_act 457 = .ok (.getfield 162, 3) := by decide +kernel
theorem dX12_act_460 : decode cX12_act 460 = .ok (.invokevirtual 281, 3) := by decide +kernel
theorem dX12_act_463 : decode cX12_act 463 = .ok (.istore_n 3, 1) := by decide +kernel
theorem dX12_act_464 : decode cX12_act 464 = .ok (.iload_n 3, 1) := by decide +kernel
theorem dX12_act_465 : decode cX12_act 465 = .ok (.iconst (-1), 1) := by decide +kernel
theorem dX12_act_466 : decode cX12_act 466 = .ok (.if_icmp .ne 13, 3) := by decide +kernel
theorem dX12_act_469 : decode cX12_act 469 = .ok (.aload_n 0, 1) := by decide +kernel
theorem dX12_act_470 : decode cX12_act 470 = .ok (.iconst 3, 1) := by decide +kernel
theorem dX12_act_471 : decode cX12_act 471 = .ok (.aload_n 0, 1) := by decide +kernel
theorem dX12_act_472 : decode cX12_act 472 = .ok (.getfield 207, 3) := by decide +kernel
theorem dX12_act_475 : decode cX12_act 475 = .ok (.invokevirtual 232, 3) := by decide +kernel
theorem dX12_act_478 : decode cX12_act 478 = .ok (.ireturn, 1) := by decide +kernel
theorem dX12_act_479 : decode cX12_act 479 = .ok (.aload_n 0, 1) := by decide +kernel
theorem dX12_act_480 : decode cX12_act 480 = .ok (.getfield 81, 3) := by decide +kernel
theorem dX12_act_483 : decode cX12_act 483 = .ok (.aload_n 0, 1) := by decide +kernel
theorem dX12_act_484 : decode cX12_act 484 = .ok (.getfield 319, 3) := by decide +kernel
theorem dX12_act_487 : decode cX12_act 487 = .ok (.aload_n 0, 1) := by decide +kernel
theorem dX12_act_488 : decode cX12_act 488 = .ok (.getfield 20, 3) := by decide +kernel
theorem dX12_act_491 : decode cX12_act 491 = .ok (.iload_n 3, 1) := by decide +kernel
theorem dX12_act_492 : decode cX12_act 492 = .ok (.iaload, 1) := by decide +kernel
theorem dX12_act_493 : decode cX12_act 493 = .ok (.iastore, 1) := by decide +kernel
theorem dX12_act_494 : decode cX12_act 494 = .ok (.aload_n 0, 1) := by decide +kernel
theorem dX12_act_495 : decode cX12_act 495 = .ok (.aload_n 0, 1) := by decide +kernel
theorem dX12_act_496 : decode cX12_act 496 = .ok (.bipush 46, 2) := by decide +kernel
theorem dX12_act_498 : decode cX12_act 498 = .ok (.aload_n 0, 1) := by decide +kernel
theorem dX12_act_499 : decode cX12_act 499 = .ok (.getfield 319, 3) := by decide +kernel
theorem dX12_act_502 : decode cX12_act 502 = .ok (.iconst (-1), 1) := by decide +kernel
theorem dX12_act_503 : decode cX12_act 503 = .ok (.aload_n 0, 1) := by decide +kernel
theorem dX12_act_504 : decode cX12_act 504 = .ok (.getfield 162, 3) := by decide +kernel
theorem dX12_act_507 : decode cX12_act 507 = .ok (.invokevirtual 264, 3) := by decide +kernel
theorem dX12_act_510 : decode cX12_act 510 = .ok (.putfield 331, 3) := by decide +kernel
theorem dX12_act_513 : decode cX12_act 513 = .ok (.aload_n 0, 1) := by decide +kernel
theorem dX12_act_514 : decode cX12_act 514 = .ok (.invokevirtual 236, 3) := by decide +kernel
theorem dX12_act_517 : decode cX12_act 517 = .ok (.iconst 1, 1) := by decide +kernel
theorem dX12_act_518 : decode cX12_act 518 = .ok (.ireturn, 1) := by decide +kernel
theorem dX12_act_519 : decode cX12_act 519 = .ok (.aload_n 0, 1) := by decide +kernel
theorem dX12_act_520 : decode cX12_act 520 = .ok (.invokevirtual 356, 3) := by decide +kernel
theorem dX12_act_523 : decode cX12_act 523 = .ok (.ireturn, 1) := by decide +kernel
theorem dX12_act_524 : decode cX12_act 524 = .ok (.aload_n 0, 1) := by decide +kernel
theorem dX12_act_525 : decode cX12_act 525 = .ok (.iload_n 2, 1) := by decide +kernel
theorem dX12_act_526 : decode cX12_act 526 = .ok (.invokevirtual 359, 3) := by decide +kernel
theorem dX12_act_529 : decode cX12_act 529 = .ok (.ireturn, 1) := by decide +kernel
theorem dX12_act_530 : decode cX12_act 530 = .ok (.aload_n 0, 1) := by decide +kernel
theorem dX12_act_531 : decode cX12_act 531 = .ok (.iload_n 2, 1) := by decide +kernel
theorem dX12_act_532 : decode cX12_act 532 = .ok (.invokevirtual 362, 3) := by decide +kernel
theorem dX12_act_535 : decode cX12_act 535 = .ok (.ireturn, 1) := by decide +kernel
theorem dX12_act_536 : decode cX12_act 536 = .ok (.aload_n 0, 1) := by decide +kernel
theorem dX12_act_537 : decode cX12_act 537 = .ok (.invokevirtual 310, 3) := by decide +kernel
theorem dX12_act_540 : decode cX12_act 540 = .ok (.ifCond .ne 5, 3) := by decide +kernel
theorem dX12_act_543 : decode cX12_act 543 = .ok (.iconst 0, 1) := by decide +kernel
theorem dX12_act_544 : decode cX12_act 544 = .ok (.ireturn, 1) := by decide +kernel
theorem dX12_act_545 : decode cX12_act 545 = .ok (.aload_n 0, 1) := by decide +kernel
theorem dX12_act_546 : decode cX12_act 546 = .ok (.aload_n 0, 1) := by decide +kernel
theorem dX12_act_547 : decode cX12_act 547 = .ok (.bipush 51, 2) := by decide +kernel
theorem dX12_act_549 : decode cX12_act 549 = .ok (.aload_n 0, 1) := by decide +kernel
theorem dX12_act_550 : decode cX12_act 550 = .ok (.getfield 298, 3) := by decide +kernel
theorem dX12_act_553 : decode cX12_act 553 = .ok (.iconst (-1), 1) := by decide +kernel
theorem dX12_act_554 : decode cX12_act 554 = .ok (.lconst 0, 1) := by decide +kernel
theorem dX12_act_555 : decode cX12_act 555 = .ok (.invokevirtual 264, 3) := by decide +kernel
theorem dX12_act_558 : decode cX12_act 558 = .ok (.putfield 331, 3) := by decide +kernel
theorem dX12_act_561 : decode cX12_act 561 = .ok (.iconst 1, 1) := by decide +kernel
theorem dX12_act_562 : decode cX12_act 562 = .ok (.ireturn, 1) := by decide +kernel
theorem dX12_asks_0 : decode cX12_asks 0 = .ok (.aload_n 0, 1) := by decide +kernel
theorem dX12_asks_1 : decode cX12_asks 1 = .ok (.invokevirtual 310, 3) := by decide +kernel
theorem dX12_asks_4 : decode cX12_asks 4 = .ok (.ifCond .eq 12, 3) := by decide +kernel
theorem dX12_asks_7 : decode cX12_asks 7 = .ok (.aload_n 0, 1) := by decide +kernel
theorem dX12_asks_8 : decode cX12_asks 8 = .ok (.bipush 123, 2) := by decide +kernel
theorem dX12_asks_10 : decode cX12_asks 10 = .ok (.invokevirtual 278, 3) := by decide +kernel
theorem dX12_asks_13 : decode cX12_asks 13 = .ok (.ifCond .ne 5, 3) := by decide +kernel
theorem dX12_asks_16 : decode cX12_asks 16 = .ok (.iconst 0, 1) := by decide +kernel
theorem dX12_asks_17 : decode cX12_asks 17 = .ok (.ireturn, 1) := by decide +kernel
theorem dX12_asks_18 : decode cX12_asks 18 = .ok (.aload_n 0, 1) := by decide +kernel
theorem dX12_asks_19 : decode cX12_asks 19 = .ok (.getfield 298, 3) := by decide +kernel
theorem dX12_asks_22 : decode cX12_asks 22 = .ok (.istore_n 1, 1) := by decide +kernel
theorem dX12_asks_23 : decode cX12_asks 23 = .ok (.aload_n 0, 1) := by decide +kernel
theorem dX12_asks_24 : decode cX12_asks 24 = .ok (.getfield 295, 3) := by decide +kernel
theorem dX12_asks_27 : decode cX12_asks 27 = .ok (.istore_n 2, 1) := by decide +kernel
theorem dX12_asks_28 : decode cX12_asks 28 = .ok (.aload_n 0, 1) := by decide +kernel
theorem dX12_asks_29 : decode cX12_asks 29 = .ok (.getfield 292, 3) := by decide +kernel
theorem dX12_asks_32 : decode cX12_asks 32 = .ok (.istore_n 3, 1) := by decide +kernel
theorem dX12_asks_33 : decode cX12_asks 33 = .ok (.aload_n 0, 1) := by decide +kernel
theorem dX12_asks_34 : decode cX12_asks 34 = .ok (.iload_n 2, 1) := by decide +kernel
theorem dX12_asks_35 : decode cX12_asks 35 = .ok (.invokevirtual 380, 3) := by decide +kernel
theorem dX12_asks_38 : decode cX12_asks 38 = .ok (.aload_n 0, 1) := by decide +kernel
theorem dX12_asks_39 : decode cX12_asks 39 = .ok (.invokevirtual 384, 3) := by decide +kernel
theorem dX12_asks_42 : decode cX12_asks 42 = .ok (.ifCond .eq 30, 3) := by decide +kernel
theorem dX12_asks_45 : decode cX12_asks 45 = .ok (.aload_n 0, 1) := by decide +kernel
theorem dX12_asks_46 : decode cX12_asks 46 = .ok (.bipush 125, 2) := by decide +kernel
theorem dX12_asks_48 : decode cX12_asks 48 = .ok (.invokevirtual 278, 3) := by decide +kernel
theorem dX12_asks_51 : decode cX12_asks 51 = .ok (.ifCond .eq 21, 3) := by decide +kernel
theorem dX12_asks_54 : decode cX12_asks 54 = .ok (.aload_n 0, 1) := by decide +kernel
theorem dX12_asks_55 : decode cX12_asks 55 = .ok (.bipush 113, 2) := by decide +kernel
theorem dX12_asks_57 : decode cX12_asks 57 = .ok (.invokevirtual 387, 3) := by decide +kernel
theorem dX12_asks_60 : decode cX12_asks 60 = .ok (.ifCond .eq 12, 3) := by decide +kernel
theorem dX12_asks_63 : decode cX12_asks 63 = .ok (.aload_n 0, 1) := by decide +kernel
theorem dX12_asks_64 : decode cX12_asks 64 = .ok (.bipush 123, 2) := by decide +kernel
theorem dX12_asks_66 : decode cX12_asks 66 = .ok (.invokevirtual 278, 3) := by decide +kernel
theorem dX12_asks_69 : decode cX12_asks 69 = .ok (.ifCond .ne 5, 3) := by decide +kernel
theorem dX12_asks_72 : decode cX12_asks 72 = .ok (.iconst 0, 1) := by decide +kernel
theorem dX12_asks_73 : decode cX12_asks 73 = .ok (.ireturn, 1) := by decide +kernel
theorem dX12_asks_74 : decode cX12_asks 74 = .ok (.aload_n 0, 1) := by decide +kernel
theorem dX12_asks_75 : decode cX12_asks 75 = .ok (.getfield 331, 3) := by decide +kernel
theorem dX12_asks_78 : decode cX12_asks 78 = .ok (.istore 4, 2) := by decide +kernel
theorem dX12_asks_80 : decode cX12_asks 80 = .ok (.aload_n 0, 1) := by decide +kernel
theorem dX12_asks_81 : decode cX12_asks 81 = .ok (.iload_n 3, 1) := by decide +kernel
theorem dX12_asks_82 : decode cX12_asks 82 = .ok (.putfield 292, 3) := by decide +kernel
theorem dX12_asks_85 : decode cX12_asks 85 = .ok (.aload_n 0, 1) := by decide +kernel
theorem dX12_asks_86 : decode cX12_asks 86 = .ok (.iload_n 2, 1) := by decide +kernel
theorem dX12_asks_87 : decode cX12_asks 87 = .ok (.invokevirtual 390, 3) := by decide +kernel
theorem dX12_asks_90 : decode cX12_asks 90 = .ok (.aload_n 0, 1) := by decide +kernel
theorem dX12_asks_91 : decode cX12_asks 91 = .ok (.invokevirtual 384, 3) := by decide +kernel
theorem dX12_asks_94 : decode cX12_asks 94 = .ok (.ifCond .eq 12, 3) := by decide +kernel
theorem dX12_asks_97 : decode cX12_asks 97 = .ok (.aload_n 0, 1) := by decide +kernel
theorem dX12_asks_98 : decode cX12_asks 98 = .ok (.bipush 125, 2) := by decide +kernel
theorem dX12_asks_100 : decode cX12_asks 100 = .ok (.invokevirtual 278, 3) := by decide +kernel
theorem dX12_asks_103 : decode cX12_asks 103 = .ok (.ifCond .ne 5, 3) := by decide +kernel
theorem dX12_asks_106 : decode cX12_asks 106 = .ok (.iconst 0, 1) := by decide +kernel
theorem dX12_asks_107 : decode cX12_asks 107 = .ok (.ireturn, 1) := by decide +kernel
theorem dX12_asks_108 : decode cX12_asks 108 = .ok (.aload_n 0, 1) := by decide +kernel
theorem dX12_asks_109 : decode cX12_asks 109 = .ok (.aload_n 0, 1) := by decide +kernel
theorem dX12_asks_110 : decode cX12_asks 110 = .ok (.bipush 52, 2) := by decide +kernel
theorem dX12_asks_112 : decode cX12_asks 112 = .ok (.iload_n 1, 1) := by decide +kernel
theorem dX12_asks_113 : decode cX12_asks 113 = .ok (.iload 4, 2) := by decide +kernel
theorem dX12_asks_115 : decode cX12_asks 115 = .ok (.aload_n 0, 1) := by decide +kernel
theorem dX12_asks_116 : decode cX12_asks 116 = .ok (.getfield 331, 3) := by decide +kernel
theorem dX12_asks_119 : decode cX12_asks 119 = .ok (.i2l, 1) := by decide +kernel
theorem dX12_asks_120 : decode cX12_asks 120 = .ok (.invokevirtual 264, 3) := by decide +kernel
theorem dX12_asks_123 : decode cX12_asks 123 = .ok (.putfield 331, 3) := by decide +kernel
theorem dX12_asks_126 : decode cX12_asks 126 = .ok (.iconst 1, 1) := by decide +kernel
theorem dX12_asks_127 : decode cX12_asks 127 = .ok (.ireturn, 1) := by decide +kernel
theorem dX12_cases_0 : decode cX12_cases 0 = .ok (.aload_n 0, 1) := by decide +kernel
theorem dX12_cases_1 : decode cX12_cases 1 = .ok (.bipush 7, 2) := by decide +kernel
theorem dX12_cases_3 : decode cX12_cases 3 = .ok (.bipush 6, 2) := by decide +kernel
theorem dX12_cases_5 : decode cX12_cases 5 = .ok (.invokevirtual 343, 3) := by decide +kernel
theorem dX12_cases_8 : decode cX12_cases 8 = .ok (.ifCond .ne 5, 3) := by decide +kernel
theorem dX12_cases_11 : decode cX12_cases 11 = .ok (.iconst 0, 1) := by decide +kernel
theorem dX12_cases_12 : decode cX12_cases 12 = .ok (.ireturn, 1) := by decide +kernel
theorem dX12_cases_13 : decode cX12_cases 13 = .ok (.aload_n 0, 1) := by decide +kernel
theorem dX12_cases_14 : decode cX12_cases 14 = .ok (.getfield 319, 3) := by decide +kernel
theorem dX12_cases_17 : decode cX12_cases 17 = .ok (.istore_n 1, 1) := by decide +kernel
theorem dX12_cases_18 : decode cX12_cases 18 = .ok (.aload_n 0, 1) := by decide +kernel
theorem dX12_cases_19 : decode cX12_cases 19 = .ok (.getfield 81, 3) := by decide +kernel
theorem dX12_cases_22 : decode cX12_cases 22 = .ok (.iload_n 1, 1) := by decide +kernel
theorem dX12_cases_23 : decode cX12_cases 23 = .ok (.iaload, 1) := by decide +kernel
theorem dX12_cases_24 : decode cX12_cases 24 = .ok (.istore_n 2, 1) := by decide +kernel
theorem dX12_cases_25 : decode cX12_cases 25 = .ok (.aload_n 0, 1) := by decide +kernel
theorem dX12_cases_26 : decode cX12_cases 26 = .ok (.bipush 123, 2) := by decide +kernel
theorem dX12_cases_28 : decode cX12_cases 28 = .ok (.invokevirtual 278, 3) := by decide +kernel
theorem dX12_cases_31 : decode cX12_cases 31 = .ok (.ifCond .ne 5, 3) := by decide +kernel
theorem dX12_cases_34 : decode cX12_cases 34 = .ok (.iconst 0, 1) := by decide +kernel
theorem dX12_cases_35 : decode cX12_cases 35 = .ok (.ireturn, 1) := by decide +kernel
theorem dX12_cases_36 : decode cX12_cases 36 = .ok (.aload_n 0, 1) := by decide +kernel
theorem dX12_cases_37 : decode cX12_cases 37 = .ok (.bipush 47, 2) := by decide +kernel
theorem dX12_cases_39 : decode cX12_cases 39 = .ok (.iload_n 1, 1) := by decide +kernel
theorem dX12_cases_40 : decode cX12_cases 40 = .ok (.iconst (-1), 1) := by decide +kernel
theorem dX12_cases_41 : decode cX12_cases 41 = .ok (.lconst 0, 1) := by decide +kernel
theorem dX12_cases_42 : decode cX12_cases 42 = .ok (.invokevirtual 264, 3) := by decide +kernel
theorem dX12_cases_45 : decode cX12_cases 45 = .ok (.istore_n 3, 1) := by decide +kernel
theorem dX12_cases_46 : decode cX12_cases 46 = .ok (.aload_n 0, 1) := by decide +kernel
theorem dX12_cases_47 : decode cX12_cases 47 = .ok (.getfield 295, 3) := by decide +kernel
theorem dX12_cases_50 : decode cX12_cases 50 = .ok (.istore 4, 2) := by decide +kernel
theorem dX12_cases_52 : decode cX12_cases 52 = .ok (.aload_n 0, 1) := by decide +kernel
theorem dX12_cases_53 : decode cX12_cases 53 = .ok (.getfield 292, 3) := by decide +kernel
theorem dX12_cases_56 : decode cX12_cases 56 = .ok (.istore 5, 2) := by decide +kernel
theorem dX12_cases_58 : decode cX12_cases 58 = .ok (.aload_n 0, 1) := by decide +kernel
theorem dX12_cases_59 : decode cX12_cases 59 = .ok (.iload 4, 2) := by decide +kernel
theorem dX12_cases_61 : decode cX12_cases 61 = .ok (.invokevirtual 380, 3) := by decide +kernel
theorem dX12_cases_64 : decode cX12_cases 64 = .ok (.iconst (-1), 1) := by decide +kernel
theorem dX12_cases_65 : decode cX12_cases 65 = .ok (.istore 6, 2) := by decide +kernel
theorem dX12_cases_67 : decode cX12_cases 67 = .ok (.iload 6, 2) := by decide +kernel
theorem dX12_cases_69 : decode cX12_cases 69 = .ok (.iconst (-1), 1) := by decide +kernel
theorem dX12_cases_70 : decode cX12_cases 70 = .ok (.if_icmp .eq 7, 3) := by decide +kernel
theorem dX12_cases_73 : decode cX12_cases 73 = .ok (.aload_n 0, 1) := by decide +kernel
theorem dX12_cases_74 : decode cX12_cases 74 = .ok (.invokevirtual 236, 3) := by decide +kernel
theorem dX12_cases_77 : decode cX12_cases 77 = .ok (.aload_n 0, 1) := by decide +kernel
theorem dX12_cases_78 : decode cX12_cases 78 = .ok (.getfield 210, 3) := by decide +kernel
theorem dX12_cases_81 : decode cX12_cases 81 = .ok (.iconst 2, 1) := by decide +kernel
theorem dX12_cases_82 : decode cX12_cases 82 = .ok (.if_icmp .eq 13, 3) := by decide +kernel
theorem dX12_cases_85 : decode cX12_cases 85 = .ok (.aload_n 0, 1) := by decide +kernel
theorem dX12_cases_86 : decode cX12_cases 86 = .ok (.iconst 1, 1) := by decide +kernel
theorem dX12_cases_87 : decode cX12_cases 87 = .ok (.aload_n 0, 1) := by decide +kernel
theorem dX12_cases_88 : decode cX12_cases 88 = .ok (.getfield 207, 3) := by decide +kernel
theorem dX12_cases_91 : decode cX12_cases 91 = .ok (.invokevirtual 232, 3) := by decide +kernel
theorem dX12_cases_94 : decode cX12_cases 94 = .ok (.ireturn, 1) := by decide +kernel
theorem dX12_cases_95 : decode cX12_cases 95 = .ok (.aload_n 0, 1) := by decide +kernel
theorem dX12_cases_96 : decode cX12_cases 96 = .ok (.getfield 23, 3) := by decide +kernel
theorem dX12_cases_99 : decode cX12_cases 99 = .ok (.iload_n 3, 1) := by decide +kernel
theorem dX12_cases_100 : decode cX12_cases 100 = .ok (.iaload, 1) := by decide +kernel
theorem dX12_cases_101 : decode cX12_cases 101 = .ok (.istore 7, 2) := by decide +kernel
theorem dX12_cases_103 : decode cX12_cases 103 = .ok (.iload 7, 2) := by decide +kernel
theorem dX12_cases_105 : decode cX12_cases 105 = .ok (.iconst (-1), 1) := by decide +kernel
theorem dX12_cases_106 : decode cX12_cases 106 = .ok (.if_icmp .eq 40, 3) := by decide +kernel
theorem dX12_cases_109 : decode cX12_cases 109 = .ok (.aload_n 0, 1) := by decide +kernel
theorem dX12_cases_110 : decode cX12_cases 110 = .ok (.getfield 29, 3) := by decide +kernel
theorem dX12_cases_113 : decode cX12_cases 113 = .ok (.iload 7, 2) := by decide +kernel
theorem dX12_cases_115 : decode cX12_cases 115 = .ok (.laload, 1) := by decide +kernel
theorem dX12_cases_116 : decode cX12_cases 116 = .ok (.aload_n 0, 1) := by decide +kernel
theorem dX12_cases_117 : decode cX12_cases 117 = .ok (.getfield 162, 3) := by decide +kernel
theorem dX12_cases_120 : decode cX12_cases 120 = .ok (.lcmp, 1) := by decide +kernel
theorem dX12_cases_121 : decode cX12_cases 121 = .ok (.ifCond .ne 13, 3) := by decide +kernel
theorem dX12_cases_124 : decode cX12_cases 124 = .ok (.aload_n 0, 1) := by decide +kernel
theorem dX12_cases_125 : decode cX12_cases 125 = .ok (.iconst 2, 1) := by decide +kernel
theorem dX12_cases_126 : decode cX12_cases 126 = .ok (.aload_n 0, 1) := by decide +kernel
theorem dX12_cases_127 : decode cX12_cases 127 = .ok (.getfield 207, 3) := by decide +kernel
theorem dX12_cases_130 : decode cX12_cases 130 = .ok (.invokevirtual 232, 3) := by decide +kernel
theorem dX12_cases_133 : decode cX12_cases 133 = .ok (.ireturn, 1) := by decide +kernel
theorem dX12_cases_134 : decode cX12_cases 134 = .ok (.aload_n 0, 1) := by decide +kernel
theorem dX12_cases_135 : decode cX12_cases 135 = .ok (.getfield 26, 3) := by decide +kernel
theorem dX12_cases_138 : decode cX12_cases 138 = .ok (.iload 7, 2) := by decide +kernel
theorem dX12_cases_140 : decode cX12_cases 140 = .ok (.iaload, 1) := by decide +kernel
theorem dX12_cases_141 : decode cX12_cases 141 = .ok (.istore 7, 2) := by decide +kernel
theorem dX12_cases_143 : decode cX12_cases 143 = .ok (.goto (-40), 3) := by decide +kernel
theorem dX12_cases_146 : decode cX12_cases 146 = .ok (.aload_n 0, 1) := by decide +kernel
theorem dX12_cases_147 : decode cX12_cases 147 = .ok (.iload_n 2, 1) := by decide +kernel
theorem dX12_cases_148 : decode cX12_cases 148 = .ok (.aload_n 0, 1) := by decide +kernel
theorem dX12_cases_149 : decode cX12_cases 149 = .ok (.getfield 162, 3) := by decide +kernel
theorem dX12_cases_152 : decode cX12_cases 152 = .ok (.invokevirtual 281, 3) := by decide +kernel
theorem dX12_cases_155 : decode cX12_cases 155 = .ok (.istore 7, 2) := by decide +kernel
theorem dX12_cases_157 : decode cX12_cases 157 = .ok (.iload 7, 2) := by decide +kernel
theorem dX12_cases_159 : decode cX12_cases 159 = .ok (.iconst (-1), 1) := by decide +kernel
theorem dX12_cases_160 : decode cX12_cases 160 = .ok (.if_icmp .ne 13, 3) := by decide +kernel
theorem dX12_cases_163 : decode cX12_cases 163 = .ok (.aload_n 0, 1) := by decide +kernel
theorem dX12_cases_164 : decode cX12_cases 164 = .ok (.iconst 3, 1) := by decide +kernel
theorem dX12_cases_165 : decode cX12_cases 165 = .ok (.aload_n 0, 1) := by decide +kernel
theorem dX12_cases_166 : decode cX12_cases 166 = .ok (.getfield 207, 3) := by decide +kernel
theorem dX12_cases_169 : decode cX12_cases 169 = .ok (.invokevirtual 232, 3) := by decide +kernel
theorem dX12_cases_172 : decode cX12_cases 172 = .ok (.ireturn, 1) := by decide +kernel
theorem dX12_cases_173 : decode cX12_cases 173 = .ok (.aload_n 0, 1) := by decide +kernel
theorem dX12_cases_174 : decode cX12_cases 174 = .ok (.bipush 53, 2) := by decide +kernel
theorem dX12_cases_176 : decode cX12_cases 176 = .ok (.iconst (-1), 1) := by decide +kernel
theorem dX12_cases_177 : decode cX12_cases 177 = .ok (.iconst (-1), 1) := by decide +kernel
theorem dX12_cases_178 : decode cX12_cases 178 = .ok (.aload_n 0, 1) := by decide +kernel
theorem dX12_cases_179 : decode cX12_cases 179 = .ok (.getfield 162, 3) := by decide +kernel
theorem dX12_cases_182 : decode cX12_cases 182 = .ok (.invokevirtual 264, 3) := by decide +kernel
theorem dX12_cases_185 : decode cX12_cases 185 = .ok (.istore 8, 2) := by decide +kernel
theorem dX12_cases_187 : decode cX12_cases 187 = .ok (.aload_n 0, 1) := by decide +kernel
theorem dX12_cases_188 : decode cX12_cases 188 = .ok (.invokevirtual 236, 3) := by decide +kernel
theorem dX12_cases_191 : decode cX12_cases 191 = .ok (.aload_n 0, 1) := by decide +kernel
theorem dX12_cases_192 : decode cX12_cases 192 = .ok (.bipush 58, 2) := by decide +kernel
theorem dX12_cases_194 : decode cX12_cases 194 = .ok (.invokevirtual 278, 3) := by decide +kernel
theorem dX12_cases_197 : decode cX12_cases 197 = .ok (.ifCond .ne 5, 3) := by decide +kernel
theorem dX12_cases_200 : decode cX12_cases 200 = .ok (.iconst 0, 1) := by decide +kernel
theorem dX12_cases_201 : decode cX12_cases 201 = .ok (.ireturn, 1) := by decide +kernel
theorem dX12_cases_202 : decode cX12_cases 202 = .ok (.aload_n 0, 1) := by decide +kernel
theorem dX12_cases_203 : decode cX12_cases 203 = .ok (.iload 5, 2) := by decide +kernel
theorem dX12_cases_205 : decode cX12_cases 205 = .ok (.putfield 292, 3) := by decide +kernel
theorem dX12_cases_208 : decode cX12_cases 208 = .ok (.aload_n 0, 1) := by decide +kernel
theorem dX12_cases_209 : decode cX12_cases 209 = .ok (.iload 4, 2) := by decide +kernel
theorem dX12_cases_211 : decode cX12_cases 211 = .ok (.invokevirtual 390, 3) := by decide +kernel
theorem dX12_cases_214 : decode cX12_cases 214 = .ok (.aload_n 0, 1) := by decide +kernel
theorem dX12_cases_215 : decode cX12_cases 215 = .ok (.getfield 81, 3) := by decide +kernel
theorem dX12_cases_218 : decode cX12_cases 218 = .ok (.iload_n 1, 1) := by decide +kernel
theorem dX12_cases_219 : decode cX12_cases 219 = .ok (.aload_n 0, 1) := by decide +kernel
theorem dX12_cases_220 : decode cX12_cases 220 = .ok (.getfield 20, 3) := by decide +kernel
theorem dX12_cases_223 : decode cX12_cases 223 = .ok (.iload 7, 2) := by decide +kernel
theorem dX12_cases_225 : decode cX12_cases 225 = .ok (.iaload, 1) := by decide +kernel
theorem dX12_cases_226 : decode cX12_cases 226 = .ok (.iastore, 1) := by decide +kernel
theorem dX12_cases_227 : decode cX12_cases 227 = .ok (.aload_n 0, 1) := by decide +kernel
theorem dX12_cases_228 : decode cX12_cases 228 = .ok (.invokevirtual 384, 3) := by decide +kernel
theorem dX12_cases_231 : decode cX12_cases 231 = .ok (.ifCond .ne 5, 3) := by decide +kernel
theorem dX12_cases_234 : decode cX12_cases 234 = .ok (.iconst 0, 1) := by decide +kernel
theorem dX12_cases_235 : decode cX12_cases 235 = .ok (.ireturn, 1) := by decide +kernel
theorem dX12_cases_236 : decode cX12_cases 236 = .ok (.aload_n 0, 1) := by decide +kernel
theorem dX12_cases_237 : decode cX12_cases 237 = .ok (.getfield 20, 3) := by decide +kernel
theorem dX12_cases_240 : decode cX12_cases 240 = .ok (.iload 8, 2) := by decide +kernel
theorem dX12_cases_242 : decode cX12_cases 242 = .ok (.aload_n 0, 1) := by decide +kernel
theorem dX12_cases_243 : decode cX12_cases 243 = .ok (.getfield 331, 3) := by decide +kernel
theorem dX12_cases_246 : decode cX12_cases 246 = .ok (.iastore, 1) := by decide +kernel
theorem dX12_cases_247 : decode cX12_cases 247 = .ok (.iload 6, 2) := by decide +kernel
theorem dX12_cases_249 : decode cX12_cases 249 = .ok (.iconst (-1), 1) := by decide +kernel
theorem dX12_cases_250 : decode cX12_cases 250 = .ok (.if_icmp .ne 14, 3) := by decide +kernel
theorem dX12_cases_253 : decode cX12_cases 253 = .ok (.aload_n 0, 1) := by decide +kernel
theorem dX12_cases_254 : decode cX12_cases 254 = .ok (.getfield 23, 3) := by decide +kernel
theorem dX12_cases_257 : decode cX12_cases 257 = .ok (.iload_n 3, 1) := by decide +kernel
theorem dX12_cases_258 : decode cX12_cases 258 = .ok (.iload 8, 2) := by decide +kernel
theorem dX12_cases_260 : decode cX12_cases 260 = .ok (.iastore, 1) := by decide +kernel
theorem dX12_cases_261 : decode cX12_cases 261 = .ok (.goto 12, 3) := by decide +kernel
theorem dX12_cases_264 : decode cX12_cases 264 = .ok (.aload_n 0, 1) := by decide +kernel
theorem dX12_cases_265 : decode cX12_cases 265 = .ok (.getfield 26, 3) := by decide +kernel
theorem dX12_cases_268 : decode cX12_cases 268 = .ok (.iload 6, 2) := by decide +kernel
theorem dX12_cases_270 : decode cX12_cases 270 = .ok (.iload 8, 2) := by decide +kernel
theorem dX12_cases_272 : decode cX12_cases 272 = .ok (.iastore, 1) := by decide +kernel
theorem dX12_cases_273 : decode cX12_cases 273 = .ok (.iload 8, 2) := by decide +kernel
theorem dX12_cases_275 : decode cX12_cases 275 = .ok (.istore 6, 2) := by decide +kernel
theorem dX12_cases_277 : decode cX12_cases 277 = .ok (.aload_n 0, 1) := by decide +kernel
theorem dX12_cases_278 : decode cX12_cases 278 = .ok (.bipush 124, 2) := by decide +kernel
theorem dX12_cases_280 : decode cX12_cases 280 = .ok (.invokevirtual 229, 3) := by decide +kernel
theorem dX12_cases_283 : decode cX12_cases 283 = .ok (.ifCond .ne (-216), 3) := by decide +kernel
theorem dX12_cases_286 : decode cX12_cases 286 = .ok (.aload_n 0, 1) := by decide +kernel
theorem dX12_cases_287 : decode cX12_cases 287 = .ok (.bipush 125, 2) := by decide +kernel
theorem dX12_cases_289 : decode cX12_cases 289 = .ok (.invokevirtual 229, 3) := by decide +kernel
theorem dX12_cases_292 : decode cX12_cases 292 = .ok (.ifCond .ne 13, 3) := by decide +kernel
theorem dX12_cases_295 : decode cX12_cases 295 = .ok (.aload_n 0, 1) := by decide +kernel
theorem dX12_cases_296 : decode cX12_cases 296 = .ok (.iconst 1, 1) := by decide +kernel
theorem dX12_cases_297 : decode cX12_cases 297 = .ok (.aload_n 0, 1) := by decide +kernel
theorem dX12_cases_298 : decode cX12_cases 298 = .ok (.getfield 207, 3) := by decide +kernel
theorem dX12_cases_301 : decode cX12_cases 301 = .ok (.invokevirtual 232, 3) := by decide +kernel
theorem dX12_cases_304 : decode cX12_cases 304 = .ok (.ireturn, 1) := by decide +kernel
theorem dX12_cases_305 : decode cX12_cases 305 = .ok (.iconst 0, 1) := by decide +kernel
theorem dX12_cases_306 : decode cX12_cases 306 = .ok (.istore 7, 2) := by decide +kernel
theorem dX12_cases_308 : decode cX12_cases 308 = .ok (.aload_n 0, 1) := by decide +kernel
theorem dX12_cases_309 : decode cX12_cases 309 = .ok (.getfield 23, 3) := by decide +kernel
theorem dX12_cases_312 : decode cX12_cases 312 = .ok (.iload_n 3, 1) := by decide +kernel
theorem dX12_cases_313 : decode cX12_cases 313 = .ok (.iaload, 1) := by decide +kernel
theorem dX12_cases_314 : decode cX12_cases 314 = .ok (.istore 8, 2) := by decide +kernel
theorem dX12_cases_316 : decode cX12_cases 316 = .ok (.iload 8, 2) := by decide +kernel
theorem dX12_cases_318 : decode cX12_cases 318 = .ok (.iconst (-1), 1) := by decide +kernel
theorem dX12_cases_319 : decode cX12_cases 319 = .ok (.if_icmp .eq 18, 3) := by decide +kernel
theorem dX12_cases_322 : decode cX12_cases 322 = .ok (.iinc 7 1, 3) := by decide +kernel
theorem dX12_cases_325 : decode cX12_cases 325 = .ok (.aload_n 0, 1) := by decide +kernel
theorem dX12_cases_326 : decode cX12_cases 326 = .ok (.getfield 26, 3) := by decide +kernel
theorem dX12_cases_329 : decode cX12_cases 329 = .ok (.iload 8, 2) := by decide +kernel
theorem dX12_cases_331 : decode cX12_cases 331 = .ok (.iaload, 1) := by decide +kernel
theorem dX12_cases_332 : decode cX12_cases 332 = .ok (.istore 8, 2) := by decide +kernel
theorem dX12_cases_334 : decode cX12_cases 334 = .ok (.goto (-18), 3) := by decide +kernel
theorem dX12_cases_337 : decode cX12_cases 337 = .ok (.aload_n 0, 1) := by decide +kernel
theorem dX12_cases_338 : decode cX12_cases 338 = .ok (.getfield 20, 3) := by decide +kernel
theorem dX12_cases_341 : decode cX12_cases 341 = .ok (.iload_n 2, 1) := by decide +kernel
theorem dX12_cases_342 : decode cX12_cases 342 = .ok (.iaload, 1) := by decide +kernel
theorem dX12_cases_343 : decode cX12_cases 343 = .ok (.istore 8, 2) := by decide +kernel
theorem dX12_cases_345 : decode cX12_cases 345 = .ok (.iload 8, 2) := by decide +kernel
theorem dX12_cases_347 : decode cX12_cases 347 = .ok (.iconst (-1), 1) := by decide +kernel
theorem dX12_cases_348 : decode cX12_cases 348 = .ok (.if_icmp .eq 18, 3) := by decide +kernel
theorem dX12_cases_351 : decode cX12_cases 351 = .ok (.iinc 7 (-1), 3) := by decide +kernel
theorem dX12_cases_354 : decode cX12_cases 354 = .ok (.aload_n 0, 1) := by decide +kernel
theorem dX12_cases_355 : decode cX12_cases 355 = .ok (.getfield 26, 3) := by decide +kernel
theorem dX12_cases_358 : decode cX12_cases 358 = .ok (.iload 8, 2) := by decide +kernel
theorem dX12_cases_360 : decode cX12_cases 360 = .ok (.iaload, 1) := by decide +kernel
theorem dX12_cases_361 : decode cX12_cases 361 = .ok (.istore 8, 2) := by decide +kernel
theorem dX12_cases_363 : decode cX12_cases 363 = .ok (.goto (-18), 3) := by decide +kernel
theorem dX12_cases_366 : decode cX12_cases 366 = .ok (.iload 7, 2) := by decide +kernel
theorem dX12_cases_368 : decode cX12_cases 368 = .ok (.ifCond .ge 13, 3) := by decide +kernel
theorem dX12_cases_371 : decode cX12_cases 371 = .ok (.aload_n 0, 1) := by decide +kernel
theorem dX12_cases_372 : decode cX12_cases 372 = .ok (.iconst 3, 1) := by decide +kernel
theorem dX12_cases_373 : decode cX12_cases 373 = .ok (.aload_n 0, 1) := by decide +kernel
theorem dX12_cases_374 : decode cX12_cases 374 = .ok (.getfield 207, 3) := by decide +kernel
theorem dX12_cases_377 : decode cX12_cases 377 = .ok (.invokevirtual 232, 3) := by decide +kernel
theorem dX12_cases_380 : decode cX12_cases 380 = .ok (.ireturn, 1) := by decide +kernel
theorem dX12_cases_381 : decode cX12_cases 381 = .ok (.aload_n 0, 1) := by decide +kernel
theorem dX12_cases_382 : decode cX12_cases 382 = .ok (.invokevirtual 236, 3) := by decide +kernel
theorem dX12_cases_385 : decode cX12_cases 385 = .ok (.aload_n 0, 1) := by decide +kernel
theorem dX12_cases_386 : decode cX12_cases 386 = .ok (.iload_n 3, 1) := by decide +kernel
theorem dX12_cases_387 : decode cX12_cases 387 = .ok (.putfield 331, 3) := by decide +kernel
theorem dX12_cases_390 : decode cX12_cases 390 = .ok (.iconst 1, 1) := by decide +kernel
theorem dX12_cases_391 : decode cX12_cases 391 = .ok (.ireturn, 1) := by decide +kernel
theorem dX12_readProcess_0 : decode cX12_readProcess 0 = .ok (.iconst (-1), 1) := by decide +kernel
theorem dX12_readProcess_1 : decode cX12_readProcess 1 = .ok (.istore_n 1, 1) := by decide +kernel
theorem dX12_readProcess_2 : decode cX12_readProcess 2 = .ok (.iconst (-1), 1) := by decide +kernel
theorem dX12_readProcess_3 : decode cX12_readProcess 3 = .ok (.istore_n 2, 1) := by decide +kernel
theorem dX12_readProcess_4 : decode cX12_readProcess 4 = .ok (.iconst 0, 1) := by decide +kernel
theorem dX12_readProcess_5 : decode cX12_readProcess 5 = .ok (.istore_n 3, 1) := by decide +kernel
theorem dX12_readProcess_6 : decode cX12_readProcess 6 = .ok (.iload_n 3, 1) := by decide +kernel
theorem dX12_readProcess_7 : decode cX12_readProcess 7 = .ok (.ifCond .ne 210, 3) := by decide +kernel
theorem dX12_readProcess_10 : decode cX12_readProcess 10 = .ok (.aload_n 0, 1) := by decide +kernel
theorem dX12_readProcess_11 : decode cX12_readProcess 11 = .ok (.getfield 210, 3) := by decide +kernel
theorem dX12_readProcess_14 : decode cX12_readProcess 14 = .ok (.istore 4, 2) := by decide +kernel
theorem dX12_readProcess_16 : decode cX12_readProcess 16 = .ok (.iload 4, 2) := by decide +kernel
theorem dX12_readProcess_18 : decode cX12_readProcess 18 = .ok (.bipush 103, 2) := by decide +kernel
theorem dX12_readProcess_20 : decode cX12_readProcess 20 = .ok (.bipush 112, 2) := by decide +kernel
theorem dX12_readProcess_22 : decode cX12_readProcess 22 = .ok (.invokestatic 154, 3) := by decide +kernel
theorem dX12_readProcess_25 : decode cX12_readProcess 25 = .ok (.ifCond .ne 34, 3) := by decide +kernel
theorem dX12_readProcess_28 : decode cX12_readProcess 28 = .ok (.iload 4, 2) := by decide +kernel
theorem dX12_readProcess_30 : decode cX12_readProcess 30 = .ok (.bipush 114, 2) := by decide +kernel
theorem dX12_readProcess_32 : decode cX12_readProcess 32 = .ok (.if_icmp .eq 27, 3) := by decide +kernel
theorem dX12_readProcess_35 : decode cX12_readProcess 35 = .ok (.iload 4, 2) := by decide +kernel
theorem dX12_readProcess_37 : decode cX12_readProcess 37 = .ok (.bipush 115, 2) := by decide +kernel
theorem dX12_readProcess_39 : decode cX12_readProcess 39 = .ok (.if_icmp .eq 20, 3) := by decide +kernel
theorem dX12_readProcess_42 : decode cX12_readProcess 42 = .ok (.iload 4, 2) := by decide +kernel
theorem dX12_readProcess_44 : decode cX12_readProcess 44 = .ok (.bipush 116, 2) := by decide +kernel
theorem dX12_readProcess_46 : decode cX12_readProcess 46 = .ok (.if_icmp .eq 13, 3) := by decide +kernel
theorem dX12_readProcess_49 : decode cX12_readProcess 49 = .ok (.aload_n 0, 1) := by decide +kernel
theorem dX12_readProcess_50 : decode cX12_readProcess 50 = .ok (.iconst 1, 1) := by decide +kernel
theorem dX12_readProcess_51 : decode cX12_readProcess 51 = .ok (.aload_n 0, 1) := by decide +kernel
theorem dX12_readProcess_52 : decode cX12_readProcess 52 = .ok (.getfield 207, 3) := by decide +kernel
theorem dX12_readProcess_55 : decode cX12_readProcess 55 = .ok (.invokevirtual 232, 3) := by decide +kernel
theorem dX12_readProcess_58 : decode cX12_readProcess 58 = .ok (.ireturn, 1) := by decide +kernel
theorem dX12_readProcess_59 : decode cX12_readProcess 59 = .ok (.iload 4, 2) := by decide +kernel
theorem dX12_readProcess_61 : decode cX12_readProcess 61 = .ok (.bipush 115, 2) := by decide +kernel
theorem dX12_readProcess_63 : decode cX12_readProcess 63 = .ok (.if_icmp .ne 20, 3) := by decide +kernel
theorem dX12_readProcess_66 : decode cX12_readProcess 66 = .ok (.aload_n 0, 1) := by decide +kernel
theorem dX12_readProcess_67 : decode cX12_readProcess 67 = .ok (.invokevirtual 322, 3) := by decide +kernel
theorem dX12_readProcess_70 : decode cX12_readProcess 70 = .ok (.ifCond .eq 13, 3) := by decide +kernel
theorem dX12_readProcess_73 : decode cX12_readProcess 73 = .ok (.aload_n 0, 1) := by decide +kernel
theorem dX12_readProcess_74 : decode cX12_readProcess 74 = .ok (.iconst 4, 1) := by decide +kernel
theorem dX12_readProcess_75 : decode cX12_readProcess 75 = .ok (.aload_n 0, 1) := by decide +kernel
theorem dX12_readProcess_76 : decode cX12_readProcess 76 = .ok (.getfield 207, 3) := by decide +kernel
theorem dX12_readProcess_79 : decode cX12_readProcess 79 = .ok (.invokevirtual 232, 3) := by decide +kernel
theorem dX12_readProcess_82 : decode cX12_readProcess 82 = .ok (.ireturn, 1) := by decide +kernel
theorem dX12_readProcess_83 : decode cX12_readProcess 83 = .ok (.iload 4, 2) := by decide +kernel
theorem dX12_readProcess_85 : decode cX12_readProcess 85 = .ok (.bipush 112, 2) := by decide +kernel
theorem dX12_readProcess_87 : decode cX12_readProcess 87 = .ok (.if_icmp .eq 32, 3) := by decide +kernel
theorem dX12_readProcess_90 : decode cX12_readProcess 90 = .ok (.aload_n 0, 1) := by decide +kernel
theorem dX12_readProcess_91 : decode cX12_readProcess 91 = .ok (.getfield 325, 3) := by decide +kernel
theorem dX12_readProcess_94 : decode cX12_readProcess 94 = .ok (.bipush 80, 2) := by decide +kernel
theorem dX12_readProcess_96 : decode cX12_readProcess 96 = .ok (.if_icmp .ne 13, 3) := by decide +kernel
theorem dX12_readProcess_99 : decode cX12_readProcess 99 = .ok (.aload_n 0, 1) := by decide +kernel
theorem dX12_readProcess_100 : decode cX12_readProcess 100 = .ok (.iconst 5, 1) := by decide +kernel
theorem dX12_readProcess_101 : decode cX12_readProcess 101 = .ok (.aload_n 0, 1) := by decide +kernel
theorem dX12_readProcess_102 : decode cX12_readProcess 102 = .ok (.getfield 207, 3) := by decide +kernel
theorem dX12_readProcess_105 : decode cX12_readProcess 105 = .ok (.invokevirtual 232, 3) := by decide +kernel
theorem dX12_readProcess_108 : decode cX12_readProcess 108 = .ok (.ireturn, 1) := by decide +kernel
theorem dX12_readProcess_109 : decode cX12_readProcess 109 = .ok (.aload_n 0, 1) := by decide +kernel
theorem dX12_readProcess_110 : decode cX12_readProcess 110 = .ok (.dup, 1) := by decide +kernel
theorem dX12_readProcess_111 : decode cX12_readProcess 111 = .ok (.getfield 325, 3) := by decide +kernel
theorem dX12_readProcess_114 : decode cX12_readProcess 114 = .ok (.iconst 1, 1) := by decide +kernel
theorem dX12_readProcess_115 : decode cX12_readProcess 115 = .ok (.iadd, 1) := by decide +kernel
theorem dX12_readProcess_116 : decode cX12_readProcess 116 = .ok (.putfield 325, 3) := by decide +kernel
theorem dX12_readProcess_119 : decode cX12_readProcess 119 = .ok (.aload_n 0, 1) := by decide +kernel
theorem dX12_readProcess_120 : decode cX12_readProcess 120 = .ok (.iload 4, 2) := by decide +kernel
theorem dX12_readProcess_122 : decode cX12_readProcess 122 = .ok (.invokevirtual 328, 3) := by decide +kernel
theorem dX12_readProcess_125 : decode cX12_readProcess 125 = .ok (.ifCond .ne 5, 3) := by decide +kernel
theorem dX12_readProcess_128 : decode cX12_readProcess 128 = .ok (.iconst 0, 1) := by decide +kernel
theorem dX12_readProcess_129 : decode cX12_readProcess 129 = .ok (.ireturn, 1) := by decide +kernel
theorem dX12_readProcess_130 : decode cX12_readProcess 130 = .ok (.iload_n 1, 1) := by decide +kernel
theorem dX12_readProcess_131 : decode cX12_readProcess 131 = .ok (.iconst (-1), 1) := by decide +kernel
theorem dX12_readProcess_132 : decode cX12_readProcess 132 = .ok (.if_icmp .ne 11, 3) := by decide +kernel
theorem dX12_readProcess_135 : decode cX12_readProcess 135 = .ok (.aload_n 0, 1) := by decide +kernel
theorem dX12_readProcess_136 : decode cX12_readProcess 136 = .ok (.getfield 331, 3) := by decide +kernel
theorem dX12_readProcess_139 : decode cX12_readProcess 139 = .ok (.istore_n 1, 1) := by decide +kernel
theorem dX12_readProcess_140 : decode cX12_readProcess 140 = .ok (.goto 13, 3) := by decide +kernel
theorem dX12_readProcess_143 : decode cX12_readProcess 143 = .ok (.aload_n 0, 1) := by decide +kernel
theorem dX12_readProcess_144 : decode cX12_readProcess 144 = .ok (.getfield 26, 3) := by decide +kernel
theorem dX12_readProcess_147 : decode cX12_readProcess 147 = .ok (.iload_n 2, 1) := by decide +kernel
theorem dX12_readProcess_148 : decode cX12_readProcess 148 = .ok (.aload_n 0, 1) := by decide +kernel
theorem dX12_readProcess_149 : decode cX12_readProcess 149 = .ok (.getfield 331, 3) := by decide +kernel
theorem dX12_readProcess_152 : decode cX12_readProcess 152 = .ok (.iastore, 1) := by decide +kernel
theorem dX12_readProcess_153 : decode cX12_readProcess 153 = .ok (.aload_n 0, 1) := by decide +kernel
theorem dX12_readProcess_154 : decode cX12_readProcess 154 = .ok (.getfield 331, 3) := by decide +kernel
theorem dX12_readProcess_157 : decode cX12_readProcess 157 = .ok (.istore_n 2, 1) := by decide +kernel
theorem dX12_readProcess_158 : decode cX12_readProcess 158 = .ok (.iload 4, 2) := by decide +kernel
theorem dX12_readProcess_160 : decode cX12_readProcess 160 = .ok (.bipush 115, 2) := by decide +kernel
theorem dX12_readProcess_162 : decode cX12_readProcess 162 = .ok (.if_icmp .eq 31, 3) := by decide +kernel
theorem dX12_readProcess_165 : decode cX12_readProcess 165 = .ok (.iload 4, 2) := by decide +kernel
theorem dX12_readProcess_167 : decode cX12_readProcess 167 = .ok (.bipush 108, 2) := by decide +kernel
theorem dX12_readProcess_169 : decode cX12_readProcess 169 = .ok (.if_icmp .eq 24, 3) := by decide +kernel
theorem dX12_readProcess_172 : decode cX12_readProcess 172 = .ok (.iload 4, 2) := by decide +kernel
theorem dX12_readProcess_174 : decode cX12_readProcess 174 = .ok (.bipush 111, 2) := by decide +kernel
theorem dX12_readProcess_176 : decode cX12_readProcess 176 = .ok (.if_icmp .eq 17, 3) := by decide +kernel
theorem dX12_readProcess_179 : decode cX12_readProcess 179 = .ok (.iload 4, 2) := by decide +kernel
theorem dX12_readProcess_181 : decode cX12_readProcess 181 = .ok (.bipush 110, 2) := by decide +kernel
theorem dX12_readProcess_183 : decode cX12_readProcess 183 = .ok (.if_icmp .eq 10, 3) := by decide +kernel
theorem dX12_readProcess_186 : decode cX12_readProcess 186 = .ok (.iload 4, 2) := by decide +kernel
theorem dX12_readProcess_188 : decode cX12_readProcess 188 = .ok (.bipush 112, 2) := by decide +kernel
theorem dX12_readProcess_190 : decode cX12_readProcess 190 = .ok (.if_icmp .ne 7, 3) := by decide +kernel
theorem dX12_readProcess_193 : decode cX12_readProcess 193 = .ok (.iconst 1, 1) := by decide +kernel
theorem dX12_readProcess_194 : decode cX12_readProcess 194 = .ok (.goto 4, 3) := by decide +kernel
theorem dX12_readProcess_197 : decode cX12_readProcess 197 = .ok (.iconst 0, 1) := by decide +kernel
theorem dX12_readProcess_198 : decode cX12_readProcess 198 = .ok (.istore_n 3, 1) := by decide +kernel
theorem dX12_readProcess_199 : decode cX12_readProcess 199 = .ok (.iload_n 3, 1) := by decide +kernel
theorem dX12_readProcess_200 : decode cX12_readProcess 200 = .ok (.ifCond .ne 14, 3) := by decide +kernel
theorem dX12_readProcess_203 : decode cX12_readProcess 203 = .ok (.aload_n 0, 1) := by decide +kernel
theorem dX12_readProcess_204 : decode cX12_readProcess 204 = .ok (.bipush 59, 2) := by decide +kernel
theorem dX12_readProcess_206 : decode cX12_readProcess 206 = .ok (.invokevirtual 278, 3) := by decide +kernel
theorem dX12_readProcess_209 : decode cX12_readProcess 209 = .ok (.ifCond .ne 5, 3) := by decide +kernel
theorem dX12_readProcess_212 : decode cX12_readProcess 212 = .ok (.iconst 0, 1) := by decide +kernel
theorem dX12_readProcess_213 : decode cX12_readProcess 213 = .ok (.ireturn, 1) := by decide +kernel
theorem dX12_readProcess_214 : decode cX12_readProcess 214 = .ok (.goto (-208), 3) := by decide +kernel
theorem dX12_readProcess_217 : decode cX12_readProcess 217 = .ok (.aload_n 0, 1) := by decide +kernel
theorem dX12_readProcess_218 : decode cX12_readProcess 218 = .ok (.iload_n 1, 1) := by decide +kernel
theorem dX12_readProcess_219 : decode cX12_readProcess 219 = .ok (.putfield 331, 3) := by decide +kernel
theorem dX12_readProcess_222 : decode cX12_readProcess 222 = .ok (.iconst 1, 1) := by decide +kernel
theorem dX12_readProcess_223 : decode cX12_readProcess 223 = .ok (.ireturn, 1) := by decide +kernel
abbrev sc_12actT : Type := (iT → jT → Int32 → Option (Int32 × iT × jT)) × (iT → jT → Option (Int32 × iT × jT)) × (iT → jT → Option (Int32 × iT × jT)) × (iT → jT → Option (Int32 × iT × jT))
def sc_12act_ok (l : Launch) (K : a_KT) (g : a_GT) (D0 : Nat) (R : sc_12actT) : Prop := (∀ {IA : iT} (I : iT) (J : jT) (F : fT) (x1 : Int32), FOK F → ∀ q : Int32 × iT × jT, R.1 I J x1 = some q → C l K g D0 0 0 yX12_act cX12_act 4 (some .boolean) [.ref 186, .int x1] (hg IA I J F) (fun r2 h2 => r2 = some (.int q.1) ∧ h2 = hg IA q.2.1 q.2.2 F)) ∧ (∀ {IA : iT} (I : iT) (J : jT) (F : fT), FOK F → ∀ q : Int32 × iT × jT, R.2.1 I J = some q → C l K g D0 0 0 yX12_asks cX12_asks 5 (some .boolean) [.ref 186] (hg IA I J F) (fun r2 h2 => r2 = some (.int q.1) ∧ h2 = hg IA q.2.1 q.2.2 F)) ∧ (∀ {IA : iT} (I : iT) (J : jT) (F : fT), FOK F → ∀ q : Int32 × iT × jT, R.2.2.1 I J = some q → C l K g D0 0 0 yX12_cases cX12_cases 9 (some .boolean) [.ref 186] (hg IA I J F) (fun r2 h2 => r2 = some (.int q.1) ∧ h2 = hg IA q.2.1 q.2.2 F)) ∧ (∀ {IA : iT} (I : iT) (J : jT) (F : fT), FOK F → ∀ q : Int32 × iT × jT, R.2.2.2 I J = some q → C l K g D0 0 0 yX12_readProcess cX12_readProcess 5 (some .boolean) [.ref 186] (hg IA I J F) (fun r2 h2 => r2 = some (.int q.1) ∧ h2 = hg IA q.2.1 q.2.2 F))
def mX12_act_38 (R : sc_12actT) (I : iT) (J : jT) (x1 : Int32) (s0 : Int32) : Option (Int32 × iT × jT) := if s0 = 0 ∨ s0 = 1 then some (s0, a_u2 I 186 45 ((I 186 45) - 1), J) else none
def mX12_act_12 (R : sc_12actT) (I : iT) (J : jT) (x1 : Int32) : Option (Int32 × iT × jT) := (mX12_opens I J).bind fun q1 => if q1.1 = 0 then some (0, q1.2.1, q1.2.2) else if x1 = 108 then (R.2.2.1 q1.2.1 q1.2.2).bind fun q3 => mX12_act_38 R q3.2.1 q3.2.2 x1 q3.1 else (R.2.1 q1.2.1 q1.2.2).bind fun q2 => mX12_act_38 R q2.2.1 q2.2.2 x1 q2.1
def bX12_act (R : sc_12actT) (I : iT) (J : jT) (x1 : Int32) : Option (Int32 × iT × jT) := if x1 = 108 then mX12_act_12 R I J x1 else if x1 = 112 then mX12_act_12 R I J x1 else (mX12_look0 I J).bind fun q4 => if x1 = 103 then (mX12_aChannel q4.1 q4.2 2 3).bind fun q5 => if q5.1 = 0 then some (0, q5.2.1, q5.2.2) else (mX12_expression SF q5.2.1 q5.2.2).bind fun q6 => if q6.1 = 0 then some (0, q6.2.1, q6.2.2) else if inb (q5.2.1 186 48) 128 then if inb (q6.2.1 209 (q5.2.1 186 48).toNatClampNeg) 2800 then if inb (q5.2.1 186 48) 128 then (mX12_node (a_u2 q6.2.1 209 (q5.2.1 186 48).toNatClampNeg (q6.2.1 189 (q6.2.1 209 (q5.2.1 186 48).toNatClampNeg).toNatClampNeg)) q6.2.2 42 (q5.2.1 186 48) ((a_u2 q6.2.1 209 (q5.2.1 186 48).toNatClampNeg (q6.2.1 189 (q6.2.1 209 (q5.2.1 186 48).toNatClampNeg).toNatClampNeg)) 186 47) 0).bind fun q7 => some (1, a_u2 q7.2.1 186 49 q7.1, q7.2.2) else none else none else none else if x1 = 104 then (mX12_aChannel q4.1 q4.2 3 2).bind fun q8 => if q8.1 = 0 then some (0, q8.2.1, q8.2.2) else (mX12_isFree q8.2.1 q8.2.2).bind fun q9 => if q9.1 = 0 then some (0, q9.2, q8.2.2) else if inb (q9.2 186 48) 128 then if inb (q9.2 209 (q9.2 186 48).toNatClampNeg) 2800 then if inb (q9.2 186 48) 128 then (mX12_newSlot (a_u2 q9.2 209 (q9.2 186 48).toNatClampNeg (q9.2 189 (q9.2 209 (q9.2 186 48).toNatClampNeg).toNatClampNeg)) q8.2.2 (q8.2.2 186 6) 0 ((-1))).bind fun q10 => (mX12_node q10.2.1 q10.2.2 43 ((a_u2 q9.2 209 (q9.2 186 48).toNatClampNeg (q9.2 189 (q9.2 209 (q9.2 186 48).toNatClampNeg).toNatClampNeg)) 186 48) q10.1 0).bind fun q11 => (mX12_look0 (a_u2 q11.2.1 186 49 q11.1) q11.2.2).bind fun q12 => some (1, q12.1, q12.2) else none else none else none else if x1 = 105 then (mX12_sends q4.1 q4.2).bind fun q13 => if q13.1 = 0 ∨ q13.1 = 1 then some (q13.1, q13.2.1, q13.2.2) else none else if x1 = 106 then (mX12_aChannel q4.1 q4.2 5 4).bind fun q14 => if q14.1 = 0 then some (0, q14.2.1, q14.2.2) else (mX12_isFree q14.2.1 q14.2.2).bind fun q15 => if q15.1 = 0 then some (0, q15.2, q14.2.2) else if inb (q15.2 186 48) 128 then if inb (q15.2 209 (q15.2 186 48).toNatClampNeg) 2800 then if inb (q15.2 186 48) 128 then if inb (q15.2 209 (q15.2 186 48).toNatClampNeg) 2800 then (mX12_newSlot (a_u2 q15.2 209 (q15.2 186 48).toNatClampNeg (q15.2 190 (q15.2 209 (q15.2 186 48).toNatClampNeg).toNatClampNeg)) q14.2.2 (q14.2.2 186 6) 2 ((a_u2 q15.2 209 (q15.2 186 48).toNatClampNeg (q15.2 190 (q15.2 209 (q15.2 186 48).toNatClampNeg).toNatClampNeg)) 189 (q15.2 209 (q15.2 186 48).toNatClampNeg).toNatClampNeg)).bind fun q16 => (mX12_node q16.2.1 q16.2.2 45 ((a_u2 q15.2 209 (q15.2 186 48).toNatClampNeg (q15.2 190 (q15.2 209 (q15.2 186 48).toNatClampNeg).toNatClampNeg)) 186 48) q16.1 0).bind fun q17 => (mX12_look0 (a_u2 q17.2.1 186 49 q17.1) q17.2.2).bind fun q18 => some (1, q18.1, q18.2) else none else none else none else none else if x1 = 107 then (mX12_aChannel q4.1 q4.2 6 7).bind fun q19 => if q19.1 = 0 then some (0, q19.2.1, q19.2.2) else if (q19.2.1 186 3) = 2 then if inb (q19.2.1 186 48) 128 then (mX12_branch q19.2.1 q19.2.2 (q19.2.1 209 (q19.2.1 186 48).toNatClampNeg) (q19.2.2 186 6)).bind fun q20 => if q20 = ((-1)) then (mX12_bad q19.2.1 3 (q19.2.1 186 4)).bind fun q23 => if q23.1 = 0 ∨ q23.1 = 1 then some (q23.1, q23.2, q19.2.2) else none else if inb q20 2800 then if inb (q19.2.1 186 48) 128 then (mX12_node (a_u2 q19.2.1 209 (q19.2.1 186 48).toNatClampNeg (q19.2.1 189 q20.toNatClampNeg)) q19.2.2 46 ((a_u2 q19.2.1 209 (q19.2.1 186 48).toNatClampNeg (q19.2.1 189 q20.toNatClampNeg)) 186 48) ((-1)) (q19.2.2 186 6)).bind fun q21 => (mX12_look0 (a_u2 q21.2.1 186 49 q21.1) q21.2.2).bind fun q22 => some (1, q22.1, q22.2) else none else none else none else (mX12_bad q19.2.1 1 (q19.2.1 186 4)).bind fun q24 => if q24.1 = 0 ∨ q24.1 = 1 then some (q24.1, q24.2, q19.2.2) else none else if x1 = 108 then (mX12_expression SF q4.1 q4.2).bind fun q25 => if q25.1 = 0 then some (0, q25.2.1, q25.2.2) else (mX12_node q25.2.1 q25.2.2 51 (q25.2.1 186 47) ((-1)) 0).bind fun q26 => some (1, a_u2 q26.2.1 186 49 q26.1, q26.2.2) else if x1 = 109 then (mX12_news q4.1 q4.2).bind fun q27 => if q27.1 = 0 ∨ q27.1 = 1 then some (q27.1, q27.2.1, q27.2.2) else none else if x1 = 110 then (mX12_readSame q4.1 q4.2 (I 186 4)).bind fun q28 => if q28.1 = 0 ∨ q28.1 = 1 then some (q28.1, q28.2.1, q28.2.2) else none else if x1 = 111 then (mX12_goes q4.1 q4.2 (I 186 4)).bind fun q29 => if q29.1 = 0 ∨ q29.1 = 1 then some (q29.1, q29.2.1, q29.2.2) else none else if x1 = 112 then (mX12_expression SF q4.1 q4.2).bind fun q30 => if q30.1 = 0 then some (0, q30.2.1, q30.2.2) else (mX12_node q30.2.1 q30.2.2 51 (q30.2.1 186 47) ((-1)) 0).bind fun q31 => some (1, a_u2 q31.2.1 186 49 q31.1, q31.2.2) else if x1 = 113 then (mX12_expression SF q4.1 q4.2).bind fun q32 => if q32.1 = 0 then some (0, q32.2.1, q32.2.2) else (mX12_node q32.2.1 q32.2.2 51 (q32.2.1 186 47) ((-1)) 0).bind fun q33 => some (1, a_u2 q33.2.1 186 49 q33.1, q33.2.2) else if x1 = 114 then (mX12_expression SF q4.1 q4.2).bind fun q34 => if q34.1 = 0 then some (0, q34.2.1, q34.2.2) else (mX12_node q34.2.1 q34.2.2 51 (q34.2.1 186 47) ((-1)) 0).bind fun q35 => some (1, a_u2 q35.2.1 186 49 q35.1, q35.2.2) else if x1 = 115 then (mX12_aGiven q4.1 q4.2 1).bind fun q36 => if q36.1 = 0 then some (0, q36.2.1, q36.2.2) else (mX12_node q36.2.1 q36.2.2 40 (q36.2.1 186 48) ((-1)) 0).bind fun q37 => some (1, a_u2 q37.2.1 186 49 q37.1, q37.2.2) else if x1 = 116 then (mX12_aChannel q4.1 q4.2 ((-1)) 1).bind fun q38 => if q38.1 = 0 then some (0, q38.2.1, q38.2.2) else (mX12_node q38.2.1 q38.2.2 41 (q38.2.1 186 48) ((-1)) 0).bind fun q39 => if inb ((a_u2 q39.2.1 186 49 q39.1) 186 48) 128 then some (1, a_u2 q39.2.1 186 49 q39.1, a_u2 q39.2.2 206 ((a_u2 q39.2.1 186 49 q39.1) 186 48).toNatClampNeg 0) else none else (mX12_expression SF q4.1 q4.2).bind fun q40 => if q40.1 = 0 then some (0, q40.2.1, q40.2.2) else (mX12_node q40.2.1 q40.2.2 51 (q40.2.1 186 47) ((-1)) 0).bind fun q41 => some (1, a_u2 q41.2.1 186 49 q41.1, q41.2.2)
def bX12_asks (R : sc_12actT) (I : iT) (J : jT) : Option (Int32 × iT × jT) := (mX12_expression SF I J).bind fun q1 => if q1.1 = 0 then some (0, q1.2.1, q1.2.2) else (mX12_need q1.2.1 q1.2.2 123).bind fun q2 => if q2.1 = 0 then some (0, q2.2.1, q2.2.2) else (mX12_save q2.2.1 q2.2.2 (q2.2.1 186 45)).bind fun q3 => (R.2.2.2 q3.1 q3.2).bind fun q4 => if q4.1 = 0 then some (0, q4.2.1, q4.2.2) else (mX12_need q4.2.1 q4.2.2 125).bind fun q5 => if q5.1 = 0 then some (0, q5.2.1, q5.2.2) else (mX12_needWord q5.2.1 q5.2.2 113).bind fun q6 => if q6.1 = 0 then some (0, q6.2.1, q6.2.2) else (mX12_need q6.2.1 q6.2.2 123).bind fun q7 => if q7.1 = 0 then some (0, q7.2.1, q7.2.2) else (mX12_back (a_u2 q7.2.1 186 43 (q2.2.1 186 43)) q7.2.2 (q2.2.1 186 45)).bind fun q8 => (R.2.2.2 q8.1 q8.2).bind fun q9 => if q9.1 = 0 then some (0, q9.2.1, q9.2.2) else (mX12_need q9.2.1 q9.2.2 125).bind fun q10 => if q10.1 = 0 then some (0, q10.2.1, q10.2.2) else (mX12_node q10.2.1 q10.2.2 52 (q2.2.1 186 47) (q7.2.1 186 49) ((q10.2.1 186 49).toInt64)).bind fun q11 => some (1, a_u2 q11.2.1 186 49 q11.1, q11.2.2)
def mX12_cases_345 (R : sc_12actT) : Nat → iT → jT → Int32 → Int32 → Int32 → Int32 → Int32 → Int32 → Int32 → Int32 → Option (Int32 × iT × jT)
  | 0, _, _, _, _, _, _, _, _, _, _ => none
  | n + 1, I, J, x1, x2, x3, x4, x5, x6, x7, x8 => if x8 = ((-1)) then if 0 ≤ x7 then (mX12_look0 I J).bind fun q1 => some (1, a_u2 q1.1 186 49 x3, q1.2) else (mX12_bad I 3 (I 186 4)).bind fun q2 => if q2.1 = 0 ∨ q2.1 = 1 then some (q2.1, q2.2, J) else none else if inb x8 2800 then mX12_cases_345 R n I J x1 x2 x3 x4 x5 x6 (x7 + (-1)) (I 191 x8.toNatClampNeg) else none
def mX12_cases_316 (R : sc_12actT) : Nat → iT → jT → Int32 → Int32 → Int32 → Int32 → Int32 → Int32 → Int32 → Int32 → Option (Int32 × iT × jT)
  | 0, _, _, _, _, _, _, _, _, _, _ => none
  | n + 1, I, J, x1, x2, x3, x4, x5, x6, x7, x8 => if x8 = ((-1)) then if inb x2 2800 then mX12_cases_345 R LF I J x1 x2 x3 x4 x5 x6 x7 (I 189 x2.toNatClampNeg) else none else if inb x8 2800 then mX12_cases_316 R n I J x1 x2 x3 x4 x5 x6 (x7 + 1) (I 191 x8.toNatClampNeg) else none
def mX12_cases_273 (R : sc_12actT) (k67 : iT → jT → Int32 → Int32 → Int32 → Int32 → Int32 → Int32 → Option (Int32 × iT × jT)) (I : iT) (J : jT) (x1 : Int32) (x2 : Int32) (x3 : Int32) (x4 : Int32) (x5 : Int32) (x6 : Int32) (x7 : Int32) (x8 : Int32) : Option (Int32 × iT × jT) := (mX12_isSign I 124).bind fun q3 => if q3 = 0 then (mX12_isSign I 125).bind fun q4 => if q4 = 0 then (mX12_bad I 1 (I 186 4)).bind fun q5 => if q5.1 = 0 ∨ q5.1 = 1 then some (q5.1, q5.2, J) else none else if inb x3 2800 then mX12_cases_316 R LF I J x1 x2 x3 x4 x5 x8 0 (I 190 x3.toNatClampNeg) else none else k67 I J x1 x2 x3 x4 x5 x8
def mX12_cases_103 (R : sc_12actT) (k67 : iT → jT → Int32 → Int32 → Int32 → Int32 → Int32 → Int32 → Option (Int32 × iT × jT)) : Nat → iT → jT → Int32 → Int32 → Int32 → Int32 → Int32 → Int32 → Int32 → Option (Int32 × iT × jT)
  | 0, _, _, _, _, _, _, _, _, _ => none
  | n + 1, I, J, x1, x2, x3, x4, x5, x6, x7 => if x7 = ((-1)) then (mX12_branch I J x2 (J 186 6)).bind fun q6 => if q6 = ((-1)) then (mX12_bad I 3 (I 186 4)).bind fun q12 => if q12.1 = 0 ∨ q12.1 = 1 then some (q12.1, q12.2, J) else none else (mX12_node I J 53 ((-1)) ((-1)) (J 186 6)).bind fun q7 => (mX12_look0 q7.2.1 q7.2.2).bind fun q8 => (mX12_need q8.1 q8.2 58).bind fun q9 => if q9.1 = 0 then some (0, q9.2.1, q9.2.2) else (mX12_back (a_u2 q9.2.1 186 43 x5) q9.2.2 x4).bind fun q10 => if inb q6 2800 then if inb x1 128 then (R.2.2.2 (a_u2 q10.1 209 x1.toNatClampNeg (q10.1 189 q6.toNatClampNeg)) q10.2).bind fun q11 => if q11.1 = 0 then some (0, q11.2.1, q11.2.2) else if inb q7.1 2800 then if x6 = ((-1)) then if inb x3 2800 then mX12_cases_273 R (k67) (a_u2 (a_u2 q11.2.1 189 q7.1.toNatClampNeg (q11.2.1 186 49)) 190 x3.toNatClampNeg q7.1) q11.2.2 x1 x2 x3 x4 x5 x6 q6 q7.1 else none else if inb x6 2800 then mX12_cases_273 R (k67) (a_u2 (a_u2 q11.2.1 189 q7.1.toNatClampNeg (q11.2.1 186 49)) 191 x6.toNatClampNeg q7.1) q11.2.2 x1 x2 x3 x4 x5 x6 q6 q7.1 else none else none else none else none else if inb x7 2800 then if (lg_cmp (J 192 x7.toNatClampNeg) (J 186 6)) = 0 then (mX12_bad I 2 (I 186 4)).bind fun q13 => if q13.1 = 0 ∨ q13.1 = 1 then some (q13.1, q13.2, J) else none else if inb x7 2800 then mX12_cases_103 R k67 n I J x1 x2 x3 x4 x5 x6 (I 191 x7.toNatClampNeg) else none else none
def mX12_cases_77 (R : sc_12actT) (k67 : iT → jT → Int32 → Int32 → Int32 → Int32 → Int32 → Int32 → Option (Int32 × iT × jT)) (I : iT) (J : jT) (x1 : Int32) (x2 : Int32) (x3 : Int32) (x4 : Int32) (x5 : Int32) (x6 : Int32) : Option (Int32 × iT × jT) := if (I 186 3) = 2 then if inb x3 2800 then mX12_cases_103 R (k67) LF I J x1 x2 x3 x4 x5 x6 (I 190 x3.toNatClampNeg) else none else (mX12_bad I 1 (I 186 4)).bind fun q14 => if q14.1 = 0 ∨ q14.1 = 1 then some (q14.1, q14.2, J) else none
def mX12_cases_67 (R : sc_12actT) : Nat → iT → jT → Int32 → Int32 → Int32 → Int32 → Int32 → Int32 → Option (Int32 × iT × jT)
  | 0, _, _, _, _, _, _, _, _ => none
  | n + 1, I, J, x1, x2, x3, x4, x5, x6 => if x6 = ((-1)) then mX12_cases_77 R (mX12_cases_67 R n) I J x1 x2 x3 x4 x5 x6 else (mX12_look0 I J).bind fun q15 => mX12_cases_77 R (mX12_cases_67 R n) q15.1 q15.2 x1 x2 x3 x4 x5 x6
def bX12_cases (R : sc_12actT) (I : iT) (J : jT) : Option (Int32 × iT × jT) := (mX12_aChannel I J 7 6).bind fun q16 => if q16.1 = 0 then some (0, q16.2.1, q16.2.2) else if inb (q16.2.1 186 48) 128 then (mX12_need q16.2.1 q16.2.2 123).bind fun q17 => if q17.1 = 0 then some (0, q17.2.1, q17.2.2) else (mX12_node q17.2.1 q17.2.2 47 (q16.2.1 186 48) ((-1)) 0).bind fun q18 => (mX12_save q18.2.1 q18.2.2 (q18.2.1 186 45)).bind fun q19 => mX12_cases_67 R LF q19.1 q19.2 (q16.2.1 186 48) (q16.2.1 209 (q16.2.1 186 48).toNatClampNeg) q18.1 (q18.2.1 186 45) (q18.2.1 186 43) ((-1)) else none
def mX12_readProcess_214 (R : sc_12actT) (k6 : iT → jT → Int32 → Int32 → Int32 → Option (Int32 × iT × jT)) (I : iT) (J : jT) (x1 : Int32) (x2 : Int32) (x3 : Int32) (x4 : Int32) : Option (Int32 × iT × jT) := k6 I J x1 x2 x3
def mX12_readProcess_198 (R : sc_12actT) (k6 : iT → jT → Int32 → Int32 → Int32 → Option (Int32 × iT × jT)) (I : iT) (J : jT) (x1 : Int32) (x2 : Int32) (x3 : Int32) (x4 : Int32) (s0 : Int32) : Option (Int32 × iT × jT) := if s0 = 0 then (mX12_need I J 59).bind fun q1 => if q1.1 = 0 then some (0, q1.2.1, q1.2.2) else mX12_readProcess_214 R (k6) q1.2.1 q1.2.2 x1 x2 s0 x4 else mX12_readProcess_214 R (k6) I J x1 x2 s0 x4
def mX12_readProcess_193 (R : sc_12actT) (k6 : iT → jT → Int32 → Int32 → Int32 → Option (Int32 × iT × jT)) (I : iT) (J : jT) (x1 : Int32) (x2 : Int32) (x3 : Int32) (x4 : Int32) : Option (Int32 × iT × jT) := mX12_readProcess_198 R (k6) I J x1 x2 x3 x4 1
def mX12_readProcess_153 (R : sc_12actT) (k6 : iT → jT → Int32 → Int32 → Int32 → Option (Int32 × iT × jT)) (I : iT) (J : jT) (x1 : Int32) (x2 : Int32) (x3 : Int32) (x4 : Int32) : Option (Int32 × iT × jT) := if x4 = 115 then mX12_readProcess_193 R (k6) I J x1 (I 186 49) x3 x4 else if x4 = 108 then mX12_readProcess_193 R (k6) I J x1 (I 186 49) x3 x4 else if x4 = 111 then mX12_readProcess_193 R (k6) I J x1 (I 186 49) x3 x4 else if x4 = 110 then mX12_readProcess_193 R (k6) I J x1 (I 186 49) x3 x4 else if x4 = 112 then mX12_readProcess_193 R (k6) I J x1 (I 186 49) x3 x4 else mX12_readProcess_198 R (k6) I J x1 (I 186 49) x3 x4 0
def mX12_readProcess_119 (R : sc_12actT) (k6 : iT → jT → Int32 → Int32 → Int32 → Option (Int32 × iT × jT)) (I : iT) (J : jT) (x1 : Int32) (x2 : Int32) (x3 : Int32) (x4 : Int32) : Option (Int32 × iT × jT) := (R.1 I J x4).bind fun q2 => if q2.1 = 0 then some (0, q2.2.1, q2.2.2) else if x1 = ((-1)) then mX12_readProcess_153 R (k6) q2.2.1 q2.2.2 (q2.2.1 186 49) x2 x3 x4 else if inb x2 2800 then mX12_readProcess_153 R (k6) (a_u2 q2.2.1 191 x2.toNatClampNeg (q2.2.1 186 49)) q2.2.2 x1 x2 x3 x4 else none
def mX12_readProcess_83 (R : sc_12actT) (k6 : iT → jT → Int32 → Int32 → Int32 → Option (Int32 × iT × jT)) (I : iT) (J : jT) (x1 : Int32) (x2 : Int32) (x3 : Int32) (x4 : Int32) : Option (Int32 × iT × jT) := if x4 = 112 then mX12_readProcess_119 R (k6) I J x1 x2 x3 x4 else if (I 186 44) = 80 then (mX12_bad I 5 (I 186 4)).bind fun q3 => if q3.1 = 0 ∨ q3.1 = 1 then some (q3.1, q3.2, J) else none else mX12_readProcess_119 R (k6) (a_u2 I 186 44 ((I 186 44) + 1)) J x1 x2 x3 x4
def mX12_readProcess_59 (R : sc_12actT) (k6 : iT → jT → Int32 → Int32 → Int32 → Option (Int32 × iT × jT)) (I : iT) (J : jT) (x1 : Int32) (x2 : Int32) (x3 : Int32) (x4 : Int32) : Option (Int32 × iT × jT) := if x4 = 115 then (mX12_has I J).bind fun q4 => if q4 = 0 then mX12_readProcess_83 R (k6) I J x1 x2 x3 x4 else (mX12_bad I 4 (I 186 4)).bind fun q5 => if q5.1 = 0 ∨ q5.1 = 1 then some (q5.1, q5.2, J) else none else mX12_readProcess_83 R (k6) I J x1 x2 x3 x4
def mX12_readProcess_6 (R : sc_12actT) : Nat → iT → jT → Int32 → Int32 → Int32 → Option (Int32 × iT × jT)
  | 0, _, _, _, _, _ => none
  | n + 1, I, J, x1, x2, x3 => if x3 = 0 then (mX12_isIn (I 186 3) 103 112).bind fun q6 => if q6 = 0 then if (I 186 3) = 114 then mX12_readProcess_59 R (mX12_readProcess_6 R n) I J x1 x2 x3 (I 186 3) else if (I 186 3) = 115 then mX12_readProcess_59 R (mX12_readProcess_6 R n) I J x1 x2 x3 (I 186 3) else if (I 186 3) = 116 then mX12_readProcess_59 R (mX12_readProcess_6 R n) I J x1 x2 x3 (I 186 3) else (mX12_bad I 1 (I 186 4)).bind fun q7 => if q7.1 = 0 ∨ q7.1 = 1 then some (q7.1, q7.2, J) else none else mX12_readProcess_59 R (mX12_readProcess_6 R n) I J x1 x2 x3 (I 186 3) else some (1, a_u2 I 186 49 x1, J)
def bX12_readProcess (R : sc_12actT) (I : iT) (J : jT) : Option (Int32 × iT × jT) := mX12_readProcess_6 R LF I J ((-1)) ((-1)) 0
def sc_12act : Nat → sc_12actT
  | 0 => (fun _ _ _ => none, fun _ _ => none, fun _ _ => none, fun _ _ => none)
  | n + 1 => (bX12_act (sc_12act n), bX12_asks (sc_12act n), bX12_cases (sc_12act n), bX12_readProcess (sc_12act n))
def mX12_act (n : Nat) : iT → jT → Int32 → Option (Int32 × iT × jT) := (sc_12act n).1
def mX12_asks (n : Nat) : iT → jT → Option (Int32 × iT × jT) := (sc_12act n).2.1
def mX12_cases (n : Nat) : iT → jT → Option (Int32 × iT × jT) := (sc_12act n).2.2.1
def mX12_readProcess (n : Nat) : iT → jT → Option (Int32 × iT × jT) := (sc_12act n).2.2.2
set_option maxRecDepth 100000 in
set_option maxHeartbeats 4000000 in
theorem tX12_act_38 {l : Launch} {K : a_KT} {g : a_GT} {IA : iT} {D0 : Nat} {R : sc_12actT} (hko : a_kok K) (hB : 458 ≤ D0 + 1) (hR : sc_12act_ok l K g D0 R) {F : fT} (I : iT) (J : jT) (x1 : Int32) (s0 : Int32) (hF : FOK F) (q : Int32 × iT × jT) (hm : mX12_act_38 R I J x1 s0 = some q) : E l K g (D0 + 1) 0 0 yX12_act cX12_act 4 (some .boolean) 38 [.ref 186, .int x1, .null, .null] [.int s0] (hg IA I J F) (fun r2 h2 => r2 = some (.int q.1) ∧ h2 = hg IA q.2.1 q.2.2 F) := by
  unfold mX12_act_38 at hm
  refine q_istore_n (i := 2) (by decide) rfl dX12_act_38 ?_
  refine e_aload_n (i := 0) rfl dX12_act_39 ?_
  refine e_dup rfl dX12_act_40 ?_
  refine l_getI 12 45 dX12_act_41 fl_RX12_295 rfl iz_186 (by decide) ?_
  refine e_iconst (v := 1) (by decide) dX12_act_44 ?_
  refine e_isub dX12_act_45 ?_
  refine l_putI 12 45 dX12_act_46 fl_RX12_295 rfl rfl iz_186 (by decide) ?_
  refine e_iload_n (i := 2) rfl dX12_act_49 ?_
  obtain ⟨c_50, hm⟩ := gd_s hm
  refine e_zret dX12_act_50 rfl (zz_nar c_50) ?_
  have hm := some_in hm
  subst hm
  exact ⟨rfl, rfl⟩
set_option maxRecDepth 100000 in
set_option maxHeartbeats 4000000 in
theorem tX12_act_12 {l : Launch} {K : a_KT} {g : a_GT} {IA : iT} {D0 : Nat} {R : sc_12actT} (hko : a_kok K) (hB : 458 ≤ D0 + 1) (hR : sc_12act_ok l K g D0 R) {F : fT} (I : iT) (J : jT) (x1 : Int32) (hF : FOK F) (q : Int32 × iT × jT) (hm : mX12_act_12 R I J x1 = some q) : E l K g (D0 + 1) 0 0 yX12_act cX12_act 4 (some .boolean) 12 [.ref 186, .int x1, .null, .null] [] (hg IA I J F) (fun r2 h2 => r2 = some (.int q.1) ∧ h2 = hg IA q.2.1 q.2.2 F) := by
  unfold mX12_act_12 at hm
  refine e_aload_n (i := 0) rfl dX12_act_12 ?_
  obtain ⟨q1, eq1, hm⟩ := ob_some hm
  refine e_cV0 hko dX12_act_13 ml_RX12_304 iz_186 (by decide) rfl (by omega) (Nat.le_of_ble_eq_true rfl) (tX12_opens hko I J F hF _ eq1) ?_
  rintro _ _ ⟨rfl, rfl⟩
  refine e_if_ne 21 dX12_act_16 (by decide) (fun c_16 => ?_) (fun c_16 => ?_)
  · have hm := it_n c_16 hm
    refine e_iload_n (i := 1) rfl dX12_act_21 ?_
    refine e_bipush (v := 108) (by decide) dX12_act_22 ?_
    refine e_icmp_ne 34 dX12_act_24 (by decide) (fun c_24 => ?_) (fun c_24 => ?_)
    · have hm := it_n c_24 hm
      refine e_aload_n (i := 0) rfl dX12_act_34 ?_
      obtain ⟨q2, eq2, hm⟩ := ob_some hm
      refine e_cV0 hko dX12_act_35 ml_RX12_337 iz_186 (by decide) rfl (by omega) (Nat.le_of_ble_eq_true rfl) (hR.2.1 q1.2.1 q1.2.2 F hF q2 eq2) ?_
      rintro _ _ ⟨rfl, rfl⟩
      refine e_weak [.ref 186, .int x1, .null, .null] ⟨rfl, ⟨rfl, ⟨trivial, ⟨trivial, trivial⟩⟩⟩⟩ ?_
      exact tX12_act_38 hko hB hR q2.2.1 q2.2.2 x1 q2.1 hF _ hm
    · have hm := it_p c_24 hm
      refine e_aload_n (i := 0) rfl dX12_act_27 ?_
      obtain ⟨q3, eq3, hm⟩ := ob_some hm
      refine e_cV0 hko dX12_act_28 ml_RX12_334 iz_186 (by decide) rfl (by omega) (Nat.le_of_ble_eq_true rfl) (hR.2.2.1 q1.2.1 q1.2.2 F hF q3 eq3) ?_
      rintro _ _ ⟨rfl, rfl⟩
      refine e_goto 38 dX12_act_31 (by decide) ?_
      refine e_weak [.ref 186, .int x1, .null, .null] ⟨rfl, ⟨rfl, ⟨trivial, ⟨trivial, trivial⟩⟩⟩⟩ ?_
      exact tX12_act_38 hko hB hR q3.2.1 q3.2.2 x1 q3.1 hF _ hm
  · have hm := it_p c_16 hm
    refine e_iconst (v := 0) (by decide) dX12_act_19 ?_
    refine e_zret dX12_act_20 rfl rfl ?_
    have hm := some_in hm
    subst hm
    exact ⟨rfl, rfl⟩
set_option maxRecDepth 100000 in
set_option maxHeartbeats 4000000 in
theorem tbX12_act {l : Launch} {K : a_KT} {g : a_GT} {IA : iT} {D0 : Nat} {R : sc_12actT} (hko : a_kok K) (hB : 458 ≤ D0 + 1) (hR : sc_12act_ok l K g D0 R) (I : iT) (J : jT) (F : fT) (hF : FOK F) (x1 : Int32) (q : Int32 × iT × jT) (hm : bX12_act R I J x1 = some q) : C l K g (D0 + 1) 0 0 yX12_act cX12_act 4 (some .boolean) [.ref 186, .int x1] (hg IA I J F) (fun r2 h2 => r2 = some (.int q.1) ∧ h2 = hg IA q.2.1 q.2.2 F) := by
  unfold bX12_act at hm
  refine c_of [.ref 186, .int x1, .null, .null] (by decide) (Nat.le_of_ble_eq_true rfl) rfl ?_
  refine e_iload_n (i := 1) rfl dX12_act_0 ?_
  refine e_bipush (v := 108) (by decide) dX12_act_1 ?_
  refine e_icmp_eq 12 dX12_act_3 (by decide) (fun c_3 => ?_) (fun c_3 => ?_)
  · have hm := it_p c_3 hm
    refine e_weak [.ref 186, .int x1, .null, .null] ⟨rfl, ⟨rfl, ⟨trivial, ⟨trivial, trivial⟩⟩⟩⟩ ?_
    exact tX12_act_12 hko hB hR I J x1 hF _ hm
  · have hm := it_n c_3 hm
    refine e_iload_n (i := 1) rfl dX12_act_6 ?_
    refine e_bipush (v := 112) (by decide) dX12_act_7 ?_
    refine e_icmp_ne 51 dX12_act_9 (by decide) (fun c_9 => ?_) (fun c_9 => ?_)
    · have hm := it_n c_9 hm
      refine e_aload_n (i := 0) rfl dX12_act_51 ?_
      refine l_getI 12 4 dX12_act_52 fl_RX12_207 rfl iz_186 (by decide) ?_
      refine q_istore_n (i := 2) (by decide) rfl dX12_act_55 ?_
      refine e_aload_n (i := 0) rfl dX12_act_56 ?_
      obtain ⟨q4, eq4, hm⟩ := ob_some hm
      refine e_cV0 hko dX12_act_57 ml_RX12_236 iz_186 (by decide) rfl (by omega) (Nat.le_of_ble_eq_true rfl) (tX12_look0 hko I J F hF _ eq4) ?_
      rintro _ _ ⟨rfl, rfl⟩
      refine e_iload_n (i := 1) rfl dX12_act_60 ?_
      by_cases c_61_0 : x1 = 103
      · have hm := it_p c_61_0 hm
        refine e_tableIn 199 dX12_act_61 (by rw [c_61_0]; decide) (by rw [c_61_0]; decide) (off := 138) (by rw [c_61_0]; decide) (by decide) ?_
        refine e_aload_n (i := 0) rfl dX12_act_199 ?_
        refine e_iconst (v := 2) (by decide) dX12_act_200 ?_
        refine e_iconst (v := 3) (by decide) dX12_act_201 ?_
        obtain ⟨q5, eq5, hm⟩ := ob_some hm
        refine e_cV2 hko dX12_act_202 ml_RX12_343 iz_186 (by decide) rfl (by omega) (Nat.le_of_ble_eq_true rfl) (tX12_aChannel hko q4.1 q4.2 F hF 2 3 _ eq5) ?_
        rintro _ _ ⟨rfl, rfl⟩
        refine e_if_ne 210 dX12_act_205 (by decide) (fun c_205 => ?_) (fun c_205 => ?_)
        · have hm := it_n c_205 hm
          refine e_aload_n (i := 0) rfl dX12_act_210 ?_
          refine l_getI 12 48 dX12_act_211 fl_RX12_319 rfl iz_186 (by decide) ?_
          refine q_istore_n (i := 3) (by decide) rfl dX12_act_214 ?_
          refine e_aload_n (i := 0) rfl dX12_act_215 ?_
          obtain ⟨q6, eq6, hm⟩ := ob_some hm
          refine e_cV0 hko dX12_act_216 ml_RX12_310 iz_186 (by decide) rfl (by omega) (Nat.le_of_ble_eq_true rfl) (tX12_expression hko q5.2.1 q5.2.2 F hF _ eq6) ?_
          rintro _ _ ⟨rfl, rfl⟩
          refine e_if_ne 224 dX12_act_219 (by decide) (fun c_219 => ?_) (fun c_219 => ?_)
          · have hm := it_n c_219 hm
            refine e_aload_n (i := 0) rfl dX12_act_224 ?_
            refine q_getF 12 40 209 dX12_act_225 fl_RX12_81 rfl iz_186 (fr_186_40 hF) ?_
            refine e_iload_n (i := 3) rfl dX12_act_228 ?_
            refine e_aload_n (i := 0) rfl dX12_act_229 ?_
            refine q_getF 12 12 189 dX12_act_230 fl_RX12_20 rfl iz_186 (fr_186_12 hF) ?_
            refine e_aload_n (i := 0) rfl dX12_act_233 ?_
            refine q_getF 12 40 209 dX12_act_234 fl_RX12_81 rfl iz_186 (fr_186_40 hF) ?_
            refine e_iload_n (i := 3) rfl dX12_act_237 ?_
            obtain ⟨c_238, hm⟩ := gd_s hm
            refine l_iald dX12_act_238 iz_209 (inb_in ln_209 c_238) (by decide) ?_
            obtain ⟨c_239, hm⟩ := gd_s hm
            refine l_iald dX12_act_239 iz_189 (inb_in ln_189 c_239) (by decide) ?_
            obtain ⟨c_240, hm⟩ := gd_s hm
            refine l_iast dX12_act_240 iz_209 (inb_in ln_209 c_240) (by decide) ?_
            refine e_aload_n (i := 0) rfl dX12_act_241 ?_
            refine e_aload_n (i := 0) rfl dX12_act_242 ?_
            refine e_bipush (v := 42) (by decide) dX12_act_243 ?_
            refine e_iload_n (i := 3) rfl dX12_act_245 ?_
            refine e_aload_n (i := 0) rfl dX12_act_246 ?_
            refine l_getI 12 47 dX12_act_247 fl_RX12_298 rfl iz_186 (by decide) ?_
            refine e_lconst (v := 0) (by decide) dX12_act_250 ?_
            obtain ⟨q7, eq7, hm⟩ := ob_some hm
            refine e_cV4 hko dX12_act_251 ml_RX12_264 iz_186 (by decide) rfl (by omega) (Nat.le_of_ble_eq_true rfl) (tX12_node hko (a_u2 q6.2.1 209 (q5.2.1 186 48).toNatClampNeg (q6.2.1 189 (q6.2.1 209 (q5.2.1 186 48).toNatClampNeg).toNatClampNeg)) q6.2.2 F hF 42 (q5.2.1 186 48) ((a_u2 q6.2.1 209 (q5.2.1 186 48).toNatClampNeg (q6.2.1 189 (q6.2.1 209 (q5.2.1 186 48).toNatClampNeg).toNatClampNeg)) 186 47) 0 _ eq7) ?_
            rintro _ _ ⟨rfl, rfl⟩
            refine l_putI 12 49 dX12_act_254 fl_RX12_331 rfl rfl iz_186 (by decide) ?_
            refine e_iconst (v := 1) (by decide) dX12_act_257 ?_
            refine e_zret dX12_act_258 rfl rfl ?_
            have hm := some_in hm
            subst hm
            exact ⟨rfl, rfl⟩
          · have hm := it_p c_219 hm
            refine e_iconst (v := 0) (by decide) dX12_act_222 ?_
            refine e_zret dX12_act_223 rfl rfl ?_
            have hm := some_in hm
            subst hm
            exact ⟨rfl, rfl⟩
        · have hm := it_p c_205 hm
          refine e_iconst (v := 0) (by decide) dX12_act_208 ?_
          refine e_zret dX12_act_209 rfl rfl ?_
          have hm := some_in hm
          subst hm
          exact ⟨rfl, rfl⟩
      have hm := it_n c_61_0 hm
      by_cases c_61_1 : x1 = 104
      · have hm := it_p c_61_1 hm
        refine e_tableIn 259 dX12_act_61 (by rw [c_61_1]; decide) (by rw [c_61_1]; decide) (off := 198) (by rw [c_61_1]; decide) (by decide) ?_
        refine e_aload_n (i := 0) rfl dX12_act_259 ?_
        refine e_iconst (v := 3) (by decide) dX12_act_260 ?_
        refine e_iconst (v := 2) (by decide) dX12_act_261 ?_
        obtain ⟨q8, eq8, hm⟩ := ob_some hm
        refine e_cV2 hko dX12_act_262 ml_RX12_343 iz_186 (by decide) rfl (by omega) (Nat.le_of_ble_eq_true rfl) (tX12_aChannel hko q4.1 q4.2 F hF 3 2 _ eq8) ?_
        rintro _ _ ⟨rfl, rfl⟩
        refine e_if_eq 275 dX12_act_265 (by decide) (fun c_265 => ?_) (fun c_265 => ?_)
        · have hm := it_p c_265 hm
          refine e_iconst (v := 0) (by decide) dX12_act_275 ?_
          refine e_zret dX12_act_276 rfl rfl ?_
          have hm := some_in hm
          subst hm
          exact ⟨rfl, rfl⟩
        · have hm := it_n c_265 hm
          refine e_aload_n (i := 0) rfl dX12_act_268 ?_
          obtain ⟨q9, eq9, hm⟩ := ob_some hm
          refine e_cV0 hko dX12_act_269 ml_RX12_346 iz_186 (by decide) rfl (by omega) (Nat.le_of_ble_eq_true rfl) (tX12_isFree hko q8.2.1 q8.2.2 F hF _ eq9) ?_
          rintro _ _ ⟨rfl, rfl⟩
          refine e_if_ne 277 dX12_act_272 (by decide) (fun c_272 => ?_) (fun c_272 => ?_)
          · have hm := it_n c_272 hm
            refine e_aload_n (i := 0) rfl dX12_act_277 ?_
            refine q_getF 12 40 209 dX12_act_278 fl_RX12_81 rfl iz_186 (fr_186_40 hF) ?_
            refine e_aload_n (i := 0) rfl dX12_act_281 ?_
            refine l_getI 12 48 dX12_act_282 fl_RX12_319 rfl iz_186 (by decide) ?_
            refine e_aload_n (i := 0) rfl dX12_act_285 ?_
            refine q_getF 12 12 189 dX12_act_286 fl_RX12_20 rfl iz_186 (fr_186_12 hF) ?_
            refine e_aload_n (i := 0) rfl dX12_act_289 ?_
            refine q_getF 12 40 209 dX12_act_290 fl_RX12_81 rfl iz_186 (fr_186_40 hF) ?_
            refine e_aload_n (i := 0) rfl dX12_act_293 ?_
            refine l_getI 12 48 dX12_act_294 fl_RX12_319 rfl iz_186 (by decide) ?_
            obtain ⟨c_297, hm⟩ := gd_s hm
            refine l_iald dX12_act_297 iz_209 (inb_in ln_209 c_297) (by decide) ?_
            obtain ⟨c_298, hm⟩ := gd_s hm
            refine l_iald dX12_act_298 iz_189 (inb_in ln_189 c_298) (by decide) ?_
            obtain ⟨c_299, hm⟩ := gd_s hm
            refine l_iast dX12_act_299 iz_209 (inb_in ln_209 c_299) (by decide) ?_
            refine e_aload_n (i := 0) rfl dX12_act_300 ?_
            refine e_aload_n (i := 0) rfl dX12_act_301 ?_
            refine e_bipush (v := 43) (by decide) dX12_act_302 ?_
            refine e_aload_n (i := 0) rfl dX12_act_304 ?_
            refine l_getI 12 48 dX12_act_305 fl_RX12_319 rfl iz_186 (by decide) ?_
            refine e_aload_n (i := 0) rfl dX12_act_308 ?_
            refine e_aload_n (i := 0) rfl dX12_act_309 ?_
            refine q_getJ 12 6 dX12_act_310 fl_RX12_162 rfl iz_186 ?_
            refine e_iconst (v := 0) (by decide) dX12_act_313 ?_
            refine e_iconst (v := (-1)) (by decide) dX12_act_314 ?_
            obtain ⟨q10, eq10, hm⟩ := ob_some hm
            refine e_cV3 hko dX12_act_315 ml_RX12_349 iz_186 (by decide) rfl (by omega) (Nat.le_of_ble_eq_true rfl) (tX12_newSlot hko (a_u2 q9.2 209 (q9.2 186 48).toNatClampNeg (q9.2 189 (q9.2 209 (q9.2 186 48).toNatClampNeg).toNatClampNeg)) q8.2.2 F hF (q8.2.2 186 6) 0 ((-1)) _ eq10) ?_
            rintro _ _ ⟨rfl, rfl⟩
            refine e_lconst (v := 0) (by decide) dX12_act_318 ?_
            obtain ⟨q11, eq11, hm⟩ := ob_some hm
            refine e_cV4 hko dX12_act_319 ml_RX12_264 iz_186 (by decide) rfl (by omega) (Nat.le_of_ble_eq_true rfl) (tX12_node hko q10.2.1 q10.2.2 F hF 43 ((a_u2 q9.2 209 (q9.2 186 48).toNatClampNeg (q9.2 189 (q9.2 209 (q9.2 186 48).toNatClampNeg).toNatClampNeg)) 186 48) q10.1 0 _ eq11) ?_
            rintro _ _ ⟨rfl, rfl⟩
            refine l_putI 12 49 dX12_act_322 fl_RX12_331 rfl rfl iz_186 (by decide) ?_
            refine e_aload_n (i := 0) rfl dX12_act_325 ?_
            obtain ⟨q12, eq12, hm⟩ := ob_some hm
            refine e_cV0 hko dX12_act_326 ml_RX12_236 iz_186 (by decide) rfl (by omega) (Nat.le_of_ble_eq_true rfl) (tX12_look0 hko (a_u2 q11.2.1 186 49 q11.1) q11.2.2 F hF _ eq12) ?_
            rintro _ _ ⟨rfl, rfl⟩
            refine e_iconst (v := 1) (by decide) dX12_act_329 ?_
            refine e_zret dX12_act_330 rfl rfl ?_
            have hm := some_in hm
            subst hm
            exact ⟨rfl, rfl⟩
          · have hm := it_p c_272 hm
            refine e_iconst (v := 0) (by decide) dX12_act_275 ?_
            refine e_zret dX12_act_276 rfl rfl ?_
            have hm := some_in hm
            subst hm
            exact ⟨rfl, rfl⟩
      have hm := it_n c_61_1 hm
      by_cases c_61_2 : x1 = 105
      · have hm := it_p c_61_2 hm
        refine e_tableIn 331 dX12_act_61 (by rw [c_61_2]; decide) (by rw [c_61_2]; decide) (off := 270) (by rw [c_61_2]; decide) (by decide) ?_
        refine e_aload_n (i := 0) rfl dX12_act_331 ?_
        obtain ⟨q13, eq13, hm⟩ := ob_some hm
        refine e_cV0 hko dX12_act_332 ml_RX12_353 iz_186 (by decide) rfl (by omega) (Nat.le_of_ble_eq_true rfl) (tX12_sends hko q4.1 q4.2 F hF _ eq13) ?_
        rintro _ _ ⟨rfl, rfl⟩
        obtain ⟨c_335, hm⟩ := gd_s hm
        refine e_zret dX12_act_335 rfl (zz_nar c_335) ?_
        have hm := some_in hm
        subst hm
        exact ⟨rfl, rfl⟩
      have hm := it_n c_61_2 hm
      by_cases c_61_3 : x1 = 106
      · have hm := it_p c_61_3 hm
        refine e_tableIn 336 dX12_act_61 (by rw [c_61_3]; decide) (by rw [c_61_3]; decide) (off := 275) (by rw [c_61_3]; decide) (by decide) ?_
        refine e_aload_n (i := 0) rfl dX12_act_336 ?_
        refine e_iconst (v := 5) (by decide) dX12_act_337 ?_
        refine e_iconst (v := 4) (by decide) dX12_act_338 ?_
        obtain ⟨q14, eq14, hm⟩ := ob_some hm
        refine e_cV2 hko dX12_act_339 ml_RX12_343 iz_186 (by decide) rfl (by omega) (Nat.le_of_ble_eq_true rfl) (tX12_aChannel hko q4.1 q4.2 F hF 5 4 _ eq14) ?_
        rintro _ _ ⟨rfl, rfl⟩
        refine e_if_eq 352 dX12_act_342 (by decide) (fun c_342 => ?_) (fun c_342 => ?_)
        · have hm := it_p c_342 hm
          refine e_iconst (v := 0) (by decide) dX12_act_352 ?_
          refine e_zret dX12_act_353 rfl rfl ?_
          have hm := some_in hm
          subst hm
          exact ⟨rfl, rfl⟩
        · have hm := it_n c_342 hm
          refine e_aload_n (i := 0) rfl dX12_act_345 ?_
          obtain ⟨q15, eq15, hm⟩ := ob_some hm
          refine e_cV0 hko dX12_act_346 ml_RX12_346 iz_186 (by decide) rfl (by omega) (Nat.le_of_ble_eq_true rfl) (tX12_isFree hko q14.2.1 q14.2.2 F hF _ eq15) ?_
          rintro _ _ ⟨rfl, rfl⟩
          refine e_if_ne 354 dX12_act_349 (by decide) (fun c_349 => ?_) (fun c_349 => ?_)
          · have hm := it_n c_349 hm
            refine e_aload_n (i := 0) rfl dX12_act_354 ?_
            refine q_getF 12 40 209 dX12_act_355 fl_RX12_81 rfl iz_186 (fr_186_40 hF) ?_
            refine e_aload_n (i := 0) rfl dX12_act_358 ?_
            refine l_getI 12 48 dX12_act_359 fl_RX12_319 rfl iz_186 (by decide) ?_
            obtain ⟨c_362, hm⟩ := gd_s hm
            refine l_iald dX12_act_362 iz_209 (inb_in ln_209 c_362) (by decide) ?_
            refine q_istore_n (i := 3) (by decide) rfl dX12_act_363 ?_
            refine e_aload_n (i := 0) rfl dX12_act_364 ?_
            refine q_getF 12 40 209 dX12_act_365 fl_RX12_81 rfl iz_186 (fr_186_40 hF) ?_
            refine e_aload_n (i := 0) rfl dX12_act_368 ?_
            refine l_getI 12 48 dX12_act_369 fl_RX12_319 rfl iz_186 (by decide) ?_
            refine e_aload_n (i := 0) rfl dX12_act_372 ?_
            refine q_getF 12 13 190 dX12_act_373 fl_RX12_23 rfl iz_186 (fr_186_13 hF) ?_
            refine e_iload_n (i := 3) rfl dX12_act_376 ?_
            obtain ⟨c_377, hm⟩ := gd_s hm
            refine l_iald dX12_act_377 iz_190 (inb_in ln_190 c_377) (by decide) ?_
            obtain ⟨c_378, hm⟩ := gd_s hm
            refine l_iast dX12_act_378 iz_209 (inb_in ln_209 c_378) (by decide) ?_
            refine e_aload_n (i := 0) rfl dX12_act_379 ?_
            refine e_aload_n (i := 0) rfl dX12_act_380 ?_
            refine e_bipush (v := 45) (by decide) dX12_act_381 ?_
            refine e_aload_n (i := 0) rfl dX12_act_383 ?_
            refine l_getI 12 48 dX12_act_384 fl_RX12_319 rfl iz_186 (by decide) ?_
            refine e_aload_n (i := 0) rfl dX12_act_387 ?_
            refine e_aload_n (i := 0) rfl dX12_act_388 ?_
            refine q_getJ 12 6 dX12_act_389 fl_RX12_162 rfl iz_186 ?_
            refine e_iconst (v := 2) (by decide) dX12_act_392 ?_
            refine e_aload_n (i := 0) rfl dX12_act_393 ?_
            refine q_getF 12 12 189 dX12_act_394 fl_RX12_20 rfl iz_186 (fr_186_12 hF) ?_
            refine e_iload_n (i := 3) rfl dX12_act_397 ?_
            obtain ⟨c_398, hm⟩ := gd_s hm
            refine l_iald dX12_act_398 iz_189 (inb_in ln_189 c_398) (by decide) ?_
            obtain ⟨q16, eq16, hm⟩ := ob_some hm
            refine e_cV3 hko dX12_act_399 ml_RX12_349 iz_186 (by decide) rfl (by omega) (Nat.le_of_ble_eq_true rfl) (tX12_newSlot hko (a_u2 q15.2 209 (q15.2 186 48).toNatClampNeg (q15.2 190 (q15.2 209 (q15.2 186 48).toNatClampNeg).toNatClampNeg)) q14.2.2 F hF (q14.2.2 186 6) 2 ((a_u2 q15.2 209 (q15.2 186 48).toNatClampNeg (q15.2 190 (q15.2 209 (q15.2 186 48).toNatClampNeg).toNatClampNeg)) 189 (q15.2 209 (q15.2 186 48).toNatClampNeg).toNatClampNeg) _ eq16) ?_
            rintro _ _ ⟨rfl, rfl⟩
            refine e_lconst (v := 0) (by decide) dX12_act_402 ?_
            obtain ⟨q17, eq17, hm⟩ := ob_some hm
            refine e_cV4 hko dX12_act_403 ml_RX12_264 iz_186 (by decide) rfl (by omega) (Nat.le_of_ble_eq_true rfl) (tX12_node hko q16.2.1 q16.2.2 F hF 45 ((a_u2 q15.2 209 (q15.2 186 48).toNatClampNeg (q15.2 190 (q15.2 209 (q15.2 186 48).toNatClampNeg).toNatClampNeg)) 186 48) q16.1 0 _ eq17) ?_
            rintro _ _ ⟨rfl, rfl⟩
            refine l_putI 12 49 dX12_act_406 fl_RX12_331 rfl rfl iz_186 (by decide) ?_
            refine e_aload_n (i := 0) rfl dX12_act_409 ?_
            obtain ⟨q18, eq18, hm⟩ := ob_some hm
            refine e_cV0 hko dX12_act_410 ml_RX12_236 iz_186 (by decide) rfl (by omega) (Nat.le_of_ble_eq_true rfl) (tX12_look0 hko (a_u2 q17.2.1 186 49 q17.1) q17.2.2 F hF _ eq18) ?_
            rintro _ _ ⟨rfl, rfl⟩
            refine e_iconst (v := 1) (by decide) dX12_act_413 ?_
            refine e_zret dX12_act_414 rfl rfl ?_
            have hm := some_in hm
            subst hm
            exact ⟨rfl, rfl⟩
          · have hm := it_p c_349 hm
            refine e_iconst (v := 0) (by decide) dX12_act_352 ?_
            refine e_zret dX12_act_353 rfl rfl ?_
            have hm := some_in hm
            subst hm
            exact ⟨rfl, rfl⟩
      have hm := it_n c_61_3 hm
      by_cases c_61_4 : x1 = 107
      · have hm := it_p c_61_4 hm
        refine e_tableIn 415 dX12_act_61 (by rw [c_61_4]; decide) (by rw [c_61_4]; decide) (off := 354) (by rw [c_61_4]; decide) (by decide) ?_
        refine e_aload_n (i := 0) rfl dX12_act_415 ?_
        refine e_bipush (v := 6) (by decide) dX12_act_416 ?_
        refine e_bipush (v := 7) (by decide) dX12_act_418 ?_
        obtain ⟨q19, eq19, hm⟩ := ob_some hm
        refine e_cV2 hko dX12_act_420 ml_RX12_343 iz_186 (by decide) rfl (by omega) (Nat.le_of_ble_eq_true rfl) (tX12_aChannel hko q4.1 q4.2 F hF 6 7 _ eq19) ?_
        rintro _ _ ⟨rfl, rfl⟩
        refine e_if_ne 428 dX12_act_423 (by decide) (fun c_423 => ?_) (fun c_423 => ?_)
        · have hm := it_n c_423 hm
          refine e_aload_n (i := 0) rfl dX12_act_428 ?_
          refine l_getI 12 3 dX12_act_429 fl_RX12_210 rfl iz_186 (by decide) ?_
          refine e_iconst (v := 2) (by decide) dX12_act_432 ?_
          refine e_icmp_eq 446 dX12_act_433 (by decide) (fun c_433 => ?_) (fun c_433 => ?_)
          · have hm := it_p c_433 hm
            refine e_aload_n (i := 0) rfl dX12_act_446 ?_
            refine e_aload_n (i := 0) rfl dX12_act_447 ?_
            refine q_getF 12 40 209 dX12_act_448 fl_RX12_81 rfl iz_186 (fr_186_40 hF) ?_
            refine e_aload_n (i := 0) rfl dX12_act_451 ?_
            refine l_getI 12 48 dX12_act_452 fl_RX12_319 rfl iz_186 (by decide) ?_
            obtain ⟨c_455, hm⟩ := gd_s hm
            refine l_iald dX12_act_455 iz_209 (inb_in ln_209 c_455) (by decide) ?_
            refine e_aload_n (i := 0) rfl dX12_act_456 ?_
            refine q_getJ 12 6 dX12_act_457 fl_RX12_162 rfl iz_186 ?_
            obtain ⟨q20, eq20, hm⟩ := ob_some hm
            refine e_cV2 hko dX12_act_460 ml_RX12_281 iz_186 (by decide) rfl (by omega) (Nat.le_of_ble_eq_true rfl) (tX12_branch hko q19.2.1 q19.2.2 F hF (q19.2.1 209 (q19.2.1 186 48).toNatClampNeg) (q19.2.2 186 6) _ eq20) ?_
            rintro _ _ ⟨rfl, rfl⟩
            refine q_istore_n (i := 3) (by decide) rfl dX12_act_463 ?_
            refine e_iload_n (i := 3) rfl dX12_act_464 ?_
            refine e_iconst (v := (-1)) (by decide) dX12_act_465 ?_
            refine e_icmp_ne 479 dX12_act_466 (by decide) (fun c_466 => ?_) (fun c_466 => ?_)
            · have hm := it_n c_466 hm
              refine e_aload_n (i := 0) rfl dX12_act_479 ?_
              refine q_getF 12 40 209 dX12_act_480 fl_RX12_81 rfl iz_186 (fr_186_40 hF) ?_
              refine e_aload_n (i := 0) rfl dX12_act_483 ?_
              refine l_getI 12 48 dX12_act_484 fl_RX12_319 rfl iz_186 (by decide) ?_
              refine e_aload_n (i := 0) rfl dX12_act_487 ?_
              refine q_getF 12 12 189 dX12_act_488 fl_RX12_20 rfl iz_186 (fr_186_12 hF) ?_
              refine e_iload_n (i := 3) rfl dX12_act_491 ?_
              obtain ⟨c_492, hm⟩ := gd_s hm
              refine l_iald dX12_act_492 iz_189 (inb_in ln_189 c_492) (by decide) ?_
              obtain ⟨c_493, hm⟩ := gd_s hm
              refine l_iast dX12_act_493 iz_209 (inb_in ln_209 c_493) (by decide) ?_
              refine e_aload_n (i := 0) rfl dX12_act_494 ?_
              refine e_aload_n (i := 0) rfl dX12_act_495 ?_
              refine e_bipush (v := 46) (by decide) dX12_act_496 ?_
              refine e_aload_n (i := 0) rfl dX12_act_498 ?_
              refine l_getI 12 48 dX12_act_499 fl_RX12_319 rfl iz_186 (by decide) ?_
              refine e_iconst (v := (-1)) (by decide) dX12_act_502 ?_
              refine e_aload_n (i := 0) rfl dX12_act_503 ?_
              refine q_getJ 12 6 dX12_act_504 fl_RX12_162 rfl iz_186 ?_
              obtain ⟨q21, eq21, hm⟩ := ob_some hm
              refine e_cV4 hko dX12_act_507 ml_RX12_264 iz_186 (by decide) rfl (by omega) (Nat.le_of_ble_eq_true rfl) (tX12_node hko (a_u2 q19.2.1 209 (q19.2.1 186 48).toNatClampNeg (q19.2.1 189 q20.toNatClampNeg)) q19.2.2 F hF 46 ((a_u2 q19.2.1 209 (q19.2.1 186 48).toNatClampNeg (q19.2.1 189 q20.toNatClampNeg)) 186 48) ((-1)) (q19.2.2 186 6) _ eq21) ?_
              rintro _ _ ⟨rfl, rfl⟩
              refine l_putI 12 49 dX12_act_510 fl_RX12_331 rfl rfl iz_186 (by decide) ?_
              refine e_aload_n (i := 0) rfl dX12_act_513 ?_
              obtain ⟨q22, eq22, hm⟩ := ob_some hm
              refine e_cV0 hko dX12_act_514 ml_RX12_236 iz_186 (by decide) rfl (by omega) (Nat.le_of_ble_eq_true rfl) (tX12_look0 hko (a_u2 q21.2.1 186 49 q21.1) q21.2.2 F hF _ eq22) ?_
              rintro _ _ ⟨rfl, rfl⟩
              refine e_iconst (v := 1) (by decide) dX12_act_517 ?_
              refine e_zret dX12_act_518 rfl rfl ?_
              have hm := some_in hm
              subst hm
              exact ⟨rfl, rfl⟩
            · have hm := it_p c_466 hm
              refine e_aload_n (i := 0) rfl dX12_act_469 ?_
              refine e_iconst (v := 3) (by decide) dX12_act_470 ?_
              refine e_aload_n (i := 0) rfl dX12_act_471 ?_
              refine l_getI 12 4 dX12_act_472 fl_RX12_207 rfl iz_186 (by decide) ?_
              obtain ⟨q23, eq23, hm⟩ := ob_some hm
              refine e_cV2 hko dX12_act_475 ml_RX12_232 iz_186 (by decide) rfl (by omega) (Nat.le_of_ble_eq_true rfl) (tX12_bad hko q19.2.1 q19.2.2 F hF 3 (q19.2.1 186 4) _ eq23) ?_
              rintro _ _ ⟨rfl, rfl⟩
              obtain ⟨c_478, hm⟩ := gd_s hm
              refine e_zret dX12_act_478 rfl (zz_nar c_478) ?_
              have hm := some_in hm
              subst hm
              exact ⟨rfl, rfl⟩
          · have hm := it_n c_433 hm
            refine e_aload_n (i := 0) rfl dX12_act_436 ?_
            refine e_iconst (v := 1) (by decide) dX12_act_437 ?_
            refine e_aload_n (i := 0) rfl dX12_act_438 ?_
            refine l_getI 12 4 dX12_act_439 fl_RX12_207 rfl iz_186 (by decide) ?_
            obtain ⟨q24, eq24, hm⟩ := ob_some hm
            refine e_cV2 hko dX12_act_442 ml_RX12_232 iz_186 (by decide) rfl (by omega) (Nat.le_of_ble_eq_true rfl) (tX12_bad hko q19.2.1 q19.2.2 F hF 1 (q19.2.1 186 4) _ eq24) ?_
            rintro _ _ ⟨rfl, rfl⟩
            obtain ⟨c_445, hm⟩ := gd_s hm
            refine e_zret dX12_act_445 rfl (zz_nar c_445) ?_
            have hm := some_in hm
            subst hm
            exact ⟨rfl, rfl⟩
        · have hm := it_p c_423 hm
          refine e_iconst (v := 0) (by decide) dX12_act_426 ?_
          refine e_zret dX12_act_427 rfl rfl ?_
          have hm := some_in hm
          subst hm
          exact ⟨rfl, rfl⟩
      have hm := it_n c_61_4 hm
      by_cases c_61_5 : x1 = 108
      · have hm := it_p c_61_5 hm
        refine e_tableIn 536 dX12_act_61 (by rw [c_61_5]; decide) (by rw [c_61_5]; decide) (off := 475) (by rw [c_61_5]; decide) (by decide) ?_
        refine e_aload_n (i := 0) rfl dX12_act_536 ?_
        obtain ⟨q25, eq25, hm⟩ := ob_some hm
        refine e_cV0 hko dX12_act_537 ml_RX12_310 iz_186 (by decide) rfl (by omega) (Nat.le_of_ble_eq_true rfl) (tX12_expression hko q4.1 q4.2 F hF _ eq25) ?_
        rintro _ _ ⟨rfl, rfl⟩
        refine e_if_ne 545 dX12_act_540 (by decide) (fun c_540 => ?_) (fun c_540 => ?_)
        · have hm := it_n c_540 hm
          refine e_aload_n (i := 0) rfl dX12_act_545 ?_
          refine e_aload_n (i := 0) rfl dX12_act_546 ?_
          refine e_bipush (v := 51) (by decide) dX12_act_547 ?_
          refine e_aload_n (i := 0) rfl dX12_act_549 ?_
          refine l_getI 12 47 dX12_act_550 fl_RX12_298 rfl iz_186 (by decide) ?_
          refine e_iconst (v := (-1)) (by decide) dX12_act_553 ?_
          refine e_lconst (v := 0) (by decide) dX12_act_554 ?_
          obtain ⟨q26, eq26, hm⟩ := ob_some hm
          refine e_cV4 hko dX12_act_555 ml_RX12_264 iz_186 (by decide) rfl (by omega) (Nat.le_of_ble_eq_true rfl) (tX12_node hko q25.2.1 q25.2.2 F hF 51 (q25.2.1 186 47) ((-1)) 0 _ eq26) ?_
          rintro _ _ ⟨rfl, rfl⟩
          refine l_putI 12 49 dX12_act_558 fl_RX12_331 rfl rfl iz_186 (by decide) ?_
          refine e_iconst (v := 1) (by decide) dX12_act_561 ?_
          refine e_zret dX12_act_562 rfl rfl ?_
          have hm := some_in hm
          subst hm
          exact ⟨rfl, rfl⟩
        · have hm := it_p c_540 hm
          refine e_iconst (v := 0) (by decide) dX12_act_543 ?_
          refine e_zret dX12_act_544 rfl rfl ?_
          have hm := some_in hm
          subst hm
          exact ⟨rfl, rfl⟩
      have hm := it_n c_61_5 hm
      by_cases c_61_6 : x1 = 109
      · have hm := it_p c_61_6 hm
        refine e_tableIn 519 dX12_act_61 (by rw [c_61_6]; decide) (by rw [c_61_6]; decide) (off := 458) (by rw [c_61_6]; decide) (by decide) ?_
        refine e_aload_n (i := 0) rfl dX12_act_519 ?_
        obtain ⟨q27, eq27, hm⟩ := ob_some hm
        refine e_cV0 hko dX12_act_520 ml_RX12_356 iz_186 (by decide) rfl (by omega) (Nat.le_of_ble_eq_true rfl) (tX12_news hko q4.1 q4.2 F hF _ eq27) ?_
        rintro _ _ ⟨rfl, rfl⟩
        obtain ⟨c_523, hm⟩ := gd_s hm
        refine e_zret dX12_act_523 rfl (zz_nar c_523) ?_
        have hm := some_in hm
        subst hm
        exact ⟨rfl, rfl⟩
      have hm := it_n c_61_6 hm
      by_cases c_61_7 : x1 = 110
      · have hm := it_p c_61_7 hm
        refine e_tableIn 530 dX12_act_61 (by rw [c_61_7]; decide) (by rw [c_61_7]; decide) (off := 469) (by rw [c_61_7]; decide) (by decide) ?_
        refine e_aload_n (i := 0) rfl dX12_act_530 ?_
        refine e_iload_n (i := 2) rfl dX12_act_531 ?_
        obtain ⟨q28, eq28, hm⟩ := ob_some hm
        refine e_cV1 hko dX12_act_532 ml_RX12_362 iz_186 (by decide) rfl (by omega) (Nat.le_of_ble_eq_true rfl) (tX12_readSame hko q4.1 q4.2 F hF (I 186 4) _ eq28) ?_
        rintro _ _ ⟨rfl, rfl⟩
        obtain ⟨c_535, hm⟩ := gd_s hm
        refine e_zret dX12_act_535 rfl (zz_nar c_535) ?_
        have hm := some_in hm
        subst hm
        exact ⟨rfl, rfl⟩
      have hm := it_n c_61_7 hm
      by_cases c_61_8 : x1 = 111
      · have hm := it_p c_61_8 hm
        refine e_tableIn 524 dX12_act_61 (by rw [c_61_8]; decide) (by rw [c_61_8]; decide) (off := 463) (by rw [c_61_8]; decide) (by decide) ?_
        refine e_aload_n (i := 0) rfl dX12_act_524 ?_
        refine e_iload_n (i := 2) rfl dX12_act_525 ?_
        obtain ⟨q29, eq29, hm⟩ := ob_some hm
        refine e_cV1 hko dX12_act_526 ml_RX12_359 iz_186 (by decide) rfl (by omega) (Nat.le_of_ble_eq_true rfl) (tX12_goes hko q4.1 q4.2 F hF (I 186 4) _ eq29) ?_
        rintro _ _ ⟨rfl, rfl⟩
        obtain ⟨c_529, hm⟩ := gd_s hm
        refine e_zret dX12_act_529 rfl (zz_nar c_529) ?_
        have hm := some_in hm
        subst hm
        exact ⟨rfl, rfl⟩
      have hm := it_n c_61_8 hm
      by_cases c_61_9 : x1 = 112
      · have hm := it_p c_61_9 hm
        refine e_tableIn 536 dX12_act_61 (by rw [c_61_9]; decide) (by rw [c_61_9]; decide) (off := 475) (by rw [c_61_9]; decide) (by decide) ?_
        refine e_aload_n (i := 0) rfl dX12_act_536 ?_
        obtain ⟨q30, eq30, hm⟩ := ob_some hm
        refine e_cV0 hko dX12_act_537 ml_RX12_310 iz_186 (by decide) rfl (by omega) (Nat.le_of_ble_eq_true rfl) (tX12_expression hko q4.1 q4.2 F hF _ eq30) ?_
        rintro _ _ ⟨rfl, rfl⟩
        refine e_if_ne 545 dX12_act_540 (by decide) (fun c_540 => ?_) (fun c_540 => ?_)
        · have hm := it_n c_540 hm
          refine e_aload_n (i := 0) rfl dX12_act_545 ?_
          refine e_aload_n (i := 0) rfl dX12_act_546 ?_
          refine e_bipush (v := 51) (by decide) dX12_act_547 ?_
          refine e_aload_n (i := 0) rfl dX12_act_549 ?_
          refine l_getI 12 47 dX12_act_550 fl_RX12_298 rfl iz_186 (by decide) ?_
          refine e_iconst (v := (-1)) (by decide) dX12_act_553 ?_
          refine e_lconst (v := 0) (by decide) dX12_act_554 ?_
          obtain ⟨q31, eq31, hm⟩ := ob_some hm
          refine e_cV4 hko dX12_act_555 ml_RX12_264 iz_186 (by decide) rfl (by omega) (Nat.le_of_ble_eq_true rfl) (tX12_node hko q30.2.1 q30.2.2 F hF 51 (q30.2.1 186 47) ((-1)) 0 _ eq31) ?_
          rintro _ _ ⟨rfl, rfl⟩
          refine l_putI 12 49 dX12_act_558 fl_RX12_331 rfl rfl iz_186 (by decide) ?_
          refine e_iconst (v := 1) (by decide) dX12_act_561 ?_
          refine e_zret dX12_act_562 rfl rfl ?_
          have hm := some_in hm
          subst hm
          exact ⟨rfl, rfl⟩
        · have hm := it_p c_540 hm
          refine e_iconst (v := 0) (by decide) dX12_act_543 ?_
          refine e_zret dX12_act_544 rfl rfl ?_
          have hm := some_in hm
          subst hm
          exact ⟨rfl, rfl⟩
      have hm := it_n c_61_9 hm
      by_cases c_61_10 : x1 = 113
      · have hm := it_p c_61_10 hm
        refine e_tableIn 536 dX12_act_61 (by rw [c_61_10]; decide) (by rw [c_61_10]; decide) (off := 475) (by rw [c_61_10]; decide) (by decide) ?_
        refine e_aload_n (i := 0) rfl dX12_act_536 ?_
        obtain ⟨q32, eq32, hm⟩ := ob_some hm
        refine e_cV0 hko dX12_act_537 ml_RX12_310 iz_186 (by decide) rfl (by omega) (Nat.le_of_ble_eq_true rfl) (tX12_expression hko q4.1 q4.2 F hF _ eq32) ?_
        rintro _ _ ⟨rfl, rfl⟩
        refine e_if_ne 545 dX12_act_540 (by decide) (fun c_540 => ?_) (fun c_540 => ?_)
        · have hm := it_n c_540 hm
          refine e_aload_n (i := 0) rfl dX12_act_545 ?_
          refine e_aload_n (i := 0) rfl dX12_act_546 ?_
          refine e_bipush (v := 51) (by decide) dX12_act_547 ?_
          refine e_aload_n (i := 0) rfl dX12_act_549 ?_
          refine l_getI 12 47 dX12_act_550 fl_RX12_298 rfl iz_186 (by decide) ?_
          refine e_iconst (v := (-1)) (by decide) dX12_act_553 ?_
          refine e_lconst (v := 0) (by decide) dX12_act_554 ?_
          obtain ⟨q33, eq33, hm⟩ := ob_some hm
          refine e_cV4 hko dX12_act_555 ml_RX12_264 iz_186 (by decide) rfl (by omega) (Nat.le_of_ble_eq_true rfl) (tX12_node hko q32.2.1 q32.2.2 F hF 51 (q32.2.1 186 47) ((-1)) 0 _ eq33) ?_
          rintro _ _ ⟨rfl, rfl⟩
          refine l_putI 12 49 dX12_act_558 fl_RX12_331 rfl rfl iz_186 (by decide) ?_
          refine e_iconst (v := 1) (by decide) dX12_act_561 ?_
          refine e_zret dX12_act_562 rfl rfl ?_
          have hm := some_in hm
          subst hm
          exact ⟨rfl, rfl⟩
        · have hm := it_p c_540 hm
          refine e_iconst (v := 0) (by decide) dX12_act_543 ?_
          refine e_zret dX12_act_544 rfl rfl ?_
          have hm := some_in hm
          subst hm
          exact ⟨rfl, rfl⟩
      have hm := it_n c_61_10 hm
      by_cases c_61_11 : x1 = 114
      · have hm := it_p c_61_11 hm
        refine e_tableIn 536 dX12_act_61 (by rw [c_61_11]; decide) (by rw [c_61_11]; decide) (off := 475) (by rw [c_61_11]; decide) (by decide) ?_
        refine e_aload_n (i := 0) rfl dX12_act_536 ?_
        obtain ⟨q34, eq34, hm⟩ := ob_some hm
        refine e_cV0 hko dX12_act_537 ml_RX12_310 iz_186 (by decide) rfl (by omega) (Nat.le_of_ble_eq_true rfl) (tX12_expression hko q4.1 q4.2 F hF _ eq34) ?_
        rintro _ _ ⟨rfl, rfl⟩
        refine e_if_ne 545 dX12_act_540 (by decide) (fun c_540 => ?_) (fun c_540 => ?_)
        · have hm := it_n c_540 hm
          refine e_aload_n (i := 0) rfl dX12_act_545 ?_
          refine e_aload_n (i := 0) rfl dX12_act_546 ?_
          refine e_bipush (v := 51) (by decide) dX12_act_547 ?_
          refine e_aload_n (i := 0) rfl dX12_act_549 ?_
          refine l_getI 12 47 dX12_act_550 fl_RX12_298 rfl iz_186 (by decide) ?_
          refine e_iconst (v := (-1)) (by decide) dX12_act_553 ?_
          refine e_lconst (v := 0) (by decide) dX12_act_554 ?_
          obtain ⟨q35, eq35, hm⟩ := ob_some hm
          refine e_cV4 hko dX12_act_555 ml_RX12_264 iz_186 (by decide) rfl (by omega) (Nat.le_of_ble_eq_true rfl) (tX12_node hko q34.2.1 q34.2.2 F hF 51 (q34.2.1 186 47) ((-1)) 0 _ eq35) ?_
          rintro _ _ ⟨rfl, rfl⟩
          refine l_putI 12 49 dX12_act_558 fl_RX12_331 rfl rfl iz_186 (by decide) ?_
          refine e_iconst (v := 1) (by decide) dX12_act_561 ?_
          refine e_zret dX12_act_562 rfl rfl ?_
          have hm := some_in hm
          subst hm
          exact ⟨rfl, rfl⟩
        · have hm := it_p c_540 hm
          refine e_iconst (v := 0) (by decide) dX12_act_543 ?_
          refine e_zret dX12_act_544 rfl rfl ?_
          have hm := some_in hm
          subst hm
          exact ⟨rfl, rfl⟩
      have hm := it_n c_61_11 hm
      by_cases c_61_12 : x1 = 115
      · have hm := it_p c_61_12 hm
        refine e_tableIn 132 dX12_act_61 (by rw [c_61_12]; decide) (by rw [c_61_12]; decide) (off := 71) (by rw [c_61_12]; decide) (by decide) ?_
        refine e_aload_n (i := 0) rfl dX12_act_132 ?_
        refine e_iconst (v := 1) (by decide) dX12_act_133 ?_
        obtain ⟨q36, eq36, hm⟩ := ob_some hm
        refine e_cV1 hko dX12_act_134 ml_RX12_340 iz_186 (by decide) rfl (by omega) (Nat.le_of_ble_eq_true rfl) (tX12_aGiven hko q4.1 q4.2 F hF 1 _ eq36) ?_
        rintro _ _ ⟨rfl, rfl⟩
        refine e_if_ne 142 dX12_act_137 (by decide) (fun c_137 => ?_) (fun c_137 => ?_)
        · have hm := it_n c_137 hm
          refine e_aload_n (i := 0) rfl dX12_act_142 ?_
          refine e_aload_n (i := 0) rfl dX12_act_143 ?_
          refine e_bipush (v := 40) (by decide) dX12_act_144 ?_
          refine e_aload_n (i := 0) rfl dX12_act_146 ?_
          refine l_getI 12 48 dX12_act_147 fl_RX12_319 rfl iz_186 (by decide) ?_
          refine e_iconst (v := (-1)) (by decide) dX12_act_150 ?_
          refine e_lconst (v := 0) (by decide) dX12_act_151 ?_
          obtain ⟨q37, eq37, hm⟩ := ob_some hm
          refine e_cV4 hko dX12_act_152 ml_RX12_264 iz_186 (by decide) rfl (by omega) (Nat.le_of_ble_eq_true rfl) (tX12_node hko q36.2.1 q36.2.2 F hF 40 (q36.2.1 186 48) ((-1)) 0 _ eq37) ?_
          rintro _ _ ⟨rfl, rfl⟩
          refine l_putI 12 49 dX12_act_155 fl_RX12_331 rfl rfl iz_186 (by decide) ?_
          refine e_iconst (v := 1) (by decide) dX12_act_158 ?_
          refine e_zret dX12_act_159 rfl rfl ?_
          have hm := some_in hm
          subst hm
          exact ⟨rfl, rfl⟩
        · have hm := it_p c_137 hm
          refine e_iconst (v := 0) (by decide) dX12_act_140 ?_
          refine e_zret dX12_act_141 rfl rfl ?_
          have hm := some_in hm
          subst hm
          exact ⟨rfl, rfl⟩
      have hm := it_n c_61_12 hm
      by_cases c_61_13 : x1 = 116
      · have hm := it_p c_61_13 hm
        refine e_tableIn 160 dX12_act_61 (by rw [c_61_13]; decide) (by rw [c_61_13]; decide) (off := 99) (by rw [c_61_13]; decide) (by decide) ?_
        refine e_aload_n (i := 0) rfl dX12_act_160 ?_
        refine e_iconst (v := (-1)) (by decide) dX12_act_161 ?_
        refine e_iconst (v := 1) (by decide) dX12_act_162 ?_
        obtain ⟨q38, eq38, hm⟩ := ob_some hm
        refine e_cV2 hko dX12_act_163 ml_RX12_343 iz_186 (by decide) rfl (by omega) (Nat.le_of_ble_eq_true rfl) (tX12_aChannel hko q4.1 q4.2 F hF ((-1)) 1 _ eq38) ?_
        rintro _ _ ⟨rfl, rfl⟩
        refine e_if_ne 171 dX12_act_166 (by decide) (fun c_166 => ?_) (fun c_166 => ?_)
        · have hm := it_n c_166 hm
          refine e_aload_n (i := 0) rfl dX12_act_171 ?_
          refine e_aload_n (i := 0) rfl dX12_act_172 ?_
          refine e_bipush (v := 41) (by decide) dX12_act_173 ?_
          refine e_aload_n (i := 0) rfl dX12_act_175 ?_
          refine l_getI 12 48 dX12_act_176 fl_RX12_319 rfl iz_186 (by decide) ?_
          refine e_iconst (v := (-1)) (by decide) dX12_act_179 ?_
          refine e_lconst (v := 0) (by decide) dX12_act_180 ?_
          obtain ⟨q39, eq39, hm⟩ := ob_some hm
          refine e_cV4 hko dX12_act_181 ml_RX12_264 iz_186 (by decide) rfl (by omega) (Nat.le_of_ble_eq_true rfl) (tX12_node hko q38.2.1 q38.2.2 F hF 41 (q38.2.1 186 48) ((-1)) 0 _ eq39) ?_
          rintro _ _ ⟨rfl, rfl⟩
          refine l_putI 12 49 dX12_act_184 fl_RX12_331 rfl rfl iz_186 (by decide) ?_
          refine e_aload_n (i := 0) rfl dX12_act_187 ?_
          refine q_getF 12 37 206 dX12_act_188 fl_RX12_72 rfl iz_186 (fr_186_37 hF) ?_
          refine e_aload_n (i := 0) rfl dX12_act_191 ?_
          refine l_getI 12 48 dX12_act_192 fl_RX12_319 rfl iz_186 (by decide) ?_
          refine e_lconst (v := 0) (by decide) dX12_act_195 ?_
          obtain ⟨c_196, hm⟩ := gd_s hm
          refine q_last dX12_act_196 iz_206 (inb_in ln_206 c_196) ?_
          refine e_iconst (v := 1) (by decide) dX12_act_197 ?_
          refine e_zret dX12_act_198 rfl rfl ?_
          have hm := some_in hm
          subst hm
          exact ⟨rfl, rfl⟩
        · have hm := it_p c_166 hm
          refine e_iconst (v := 0) (by decide) dX12_act_169 ?_
          refine e_zret dX12_act_170 rfl rfl ?_
          have hm := some_in hm
          subst hm
          exact ⟨rfl, rfl⟩
      have hm := it_n c_61_13 hm
      have n_61_0 := lv_neT (a := 103) c_61_0 (by decide)
      have n_61_1 := lv_neT (a := 104) c_61_1 (by decide)
      have n_61_2 := lv_neT (a := 105) c_61_2 (by decide)
      have n_61_3 := lv_neT (a := 106) c_61_3 (by decide)
      have n_61_4 := lv_neT (a := 107) c_61_4 (by decide)
      have n_61_5 := lv_neT (a := 108) c_61_5 (by decide)
      have n_61_6 := lv_neT (a := 109) c_61_6 (by decide)
      have n_61_7 := lv_neT (a := 110) c_61_7 (by decide)
      have n_61_8 := lv_neT (a := 111) c_61_8 (by decide)
      have n_61_9 := lv_neT (a := 112) c_61_9 (by decide)
      have n_61_10 := lv_neT (a := 113) c_61_10 (by decide)
      have n_61_11 := lv_neT (a := 114) c_61_11 (by decide)
      have n_61_12 := lv_neT (a := 115) c_61_12 (by decide)
      have n_61_13 := lv_neT (a := 116) c_61_13 (by decide)
      refine e_tableOut 536 dX12_act_61 (by omega) (by decide) ?_
      refine e_aload_n (i := 0) rfl dX12_act_536 ?_
      obtain ⟨q40, eq40, hm⟩ := ob_some hm
      refine e_cV0 hko dX12_act_537 ml_RX12_310 iz_186 (by decide) rfl (by omega) (Nat.le_of_ble_eq_true rfl) (tX12_expression hko q4.1 q4.2 F hF _ eq40) ?_
      rintro _ _ ⟨rfl, rfl⟩
      refine e_if_ne 545 dX12_act_540 (by decide) (fun c_540 => ?_) (fun c_540 => ?_)
      · have hm := it_n c_540 hm
        refine e_aload_n (i := 0) rfl dX12_act_545 ?_
        refine e_aload_n (i := 0) rfl dX12_act_546 ?_
        refine e_bipush (v := 51) (by decide) dX12_act_547 ?_
        refine e_aload_n (i := 0) rfl dX12_act_549 ?_
        refine l_getI 12 47 dX12_act_550 fl_RX12_298 rfl iz_186 (by decide) ?_
        refine e_iconst (v := (-1)) (by decide) dX12_act_553 ?_
        refine e_lconst (v := 0) (by decide) dX12_act_554 ?_
        obtain ⟨q41, eq41, hm⟩ := ob_some hm
        refine e_cV4 hko dX12_act_555 ml_RX12_264 iz_186 (by decide) rfl (by omega) (Nat.le_of_ble_eq_true rfl) (tX12_node hko q40.2.1 q40.2.2 F hF 51 (q40.2.1 186 47) ((-1)) 0 _ eq41) ?_
        rintro _ _ ⟨rfl, rfl⟩
        refine l_putI 12 49 dX12_act_558 fl_RX12_331 rfl rfl iz_186 (by decide) ?_
        refine e_iconst (v := 1) (by decide) dX12_act_561 ?_
        refine e_zret dX12_act_562 rfl rfl ?_
        have hm := some_in hm
        subst hm
        exact ⟨rfl, rfl⟩
      · have hm := it_p c_540 hm
        refine e_iconst (v := 0) (by decide) dX12_act_543 ?_
        refine e_zret dX12_act_544 rfl rfl ?_
        have hm := some_in hm
        subst hm
        exact ⟨rfl, rfl⟩
    · have hm := it_p c_9 hm
      refine e_weak [.ref 186, .int x1, .null, .null] ⟨rfl, ⟨rfl, ⟨trivial, ⟨trivial, trivial⟩⟩⟩⟩ ?_
      exact tX12_act_12 hko hB hR I J x1 hF _ hm
set_option maxRecDepth 100000 in
set_option maxHeartbeats 4000000 in
theorem tbX12_asks {l : Launch} {K : a_KT} {g : a_GT} {IA : iT} {D0 : Nat} {R : sc_12actT} (hko : a_kok K) (hB : 458 ≤ D0 + 1) (hR : sc_12act_ok l K g D0 R) (I : iT) (J : jT) (F : fT) (hF : FOK F) (q : Int32 × iT × jT) (hm : bX12_asks R I J = some q) : C l K g (D0 + 1) 0 0 yX12_asks cX12_asks 5 (some .boolean) [.ref 186] (hg IA I J F) (fun r2 h2 => r2 = some (.int q.1) ∧ h2 = hg IA q.2.1 q.2.2 F) := by
  unfold bX12_asks at hm
  refine c_of [.ref 186, .null, .null, .null, .null] (by decide) (Nat.le_of_ble_eq_true rfl) rfl ?_
  refine e_aload_n (i := 0) rfl dX12_asks_0 ?_
  obtain ⟨q1, eq1, hm⟩ := ob_some hm
  refine e_cV0 hko dX12_asks_1 ml_RX12_310 iz_186 (by decide) rfl (by omega) (Nat.le_of_ble_eq_true rfl) (tX12_expression hko I J F hF _ eq1) ?_
  rintro _ _ ⟨rfl, rfl⟩
  refine e_if_eq 16 dX12_asks_4 (by decide) (fun c_4 => ?_) (fun c_4 => ?_)
  · have hm := it_p c_4 hm
    refine e_iconst (v := 0) (by decide) dX12_asks_16 ?_
    refine e_zret dX12_asks_17 rfl rfl ?_
    have hm := some_in hm
    subst hm
    exact ⟨rfl, rfl⟩
  · have hm := it_n c_4 hm
    refine e_aload_n (i := 0) rfl dX12_asks_7 ?_
    refine e_bipush (v := 123) (by decide) dX12_asks_8 ?_
    obtain ⟨q2, eq2, hm⟩ := ob_some hm
    refine e_cV1 hko dX12_asks_10 ml_RX12_278 iz_186 (by decide) rfl (by omega) (Nat.le_of_ble_eq_true rfl) (tX12_need hko q1.2.1 q1.2.2 F hF 123 _ eq2) ?_
    rintro _ _ ⟨rfl, rfl⟩
    refine e_if_ne 18 dX12_asks_13 (by decide) (fun c_13 => ?_) (fun c_13 => ?_)
    · have hm := it_n c_13 hm
      refine e_aload_n (i := 0) rfl dX12_asks_18 ?_
      refine l_getI 12 47 dX12_asks_19 fl_RX12_298 rfl iz_186 (by decide) ?_
      refine q_istore_n (i := 1) (by decide) rfl dX12_asks_22 ?_
      refine e_aload_n (i := 0) rfl dX12_asks_23 ?_
      refine l_getI 12 45 dX12_asks_24 fl_RX12_295 rfl iz_186 (by decide) ?_
      refine q_istore_n (i := 2) (by decide) rfl dX12_asks_27 ?_
      refine e_aload_n (i := 0) rfl dX12_asks_28 ?_
      refine l_getI 12 43 dX12_asks_29 fl_RX12_292 rfl iz_186 (by decide) ?_
      refine q_istore_n (i := 3) (by decide) rfl dX12_asks_32 ?_
      refine e_aload_n (i := 0) rfl dX12_asks_33 ?_
      refine e_iload_n (i := 2) rfl dX12_asks_34 ?_
      obtain ⟨q3, eq3, hm⟩ := ob_some hm
      refine e_cV1 hko dX12_asks_35 ml_RX12_380 iz_186 (by decide) rfl (by omega) (Nat.le_of_ble_eq_true rfl) (tX12_save hko q2.2.1 q2.2.2 F hF (q2.2.1 186 45) _ eq3) ?_
      rintro _ _ ⟨rfl, rfl⟩
      refine e_aload_n (i := 0) rfl dX12_asks_38 ?_
      obtain ⟨q4, eq4, hm⟩ := ob_some hm
      refine e_cV0 hko dX12_asks_39 ml_RX12_384 iz_186 (by decide) rfl (by omega) (Nat.le_of_ble_eq_true rfl) (hR.2.2.2 q3.1 q3.2 F hF q4 eq4) ?_
      rintro _ _ ⟨rfl, rfl⟩
      refine e_if_eq 72 dX12_asks_42 (by decide) (fun c_42 => ?_) (fun c_42 => ?_)
      · have hm := it_p c_42 hm
        refine e_iconst (v := 0) (by decide) dX12_asks_72 ?_
        refine e_zret dX12_asks_73 rfl rfl ?_
        have hm := some_in hm
        subst hm
        exact ⟨rfl, rfl⟩
      · have hm := it_n c_42 hm
        refine e_aload_n (i := 0) rfl dX12_asks_45 ?_
        refine e_bipush (v := 125) (by decide) dX12_asks_46 ?_
        obtain ⟨q5, eq5, hm⟩ := ob_some hm
        refine e_cV1 hko dX12_asks_48 ml_RX12_278 iz_186 (by decide) rfl (by omega) (Nat.le_of_ble_eq_true rfl) (tX12_need hko q4.2.1 q4.2.2 F hF 125 _ eq5) ?_
        rintro _ _ ⟨rfl, rfl⟩
        refine e_if_eq 72 dX12_asks_51 (by decide) (fun c_51 => ?_) (fun c_51 => ?_)
        · have hm := it_p c_51 hm
          refine e_iconst (v := 0) (by decide) dX12_asks_72 ?_
          refine e_zret dX12_asks_73 rfl rfl ?_
          have hm := some_in hm
          subst hm
          exact ⟨rfl, rfl⟩
        · have hm := it_n c_51 hm
          refine e_aload_n (i := 0) rfl dX12_asks_54 ?_
          refine e_bipush (v := 113) (by decide) dX12_asks_55 ?_
          obtain ⟨q6, eq6, hm⟩ := ob_some hm
          refine e_cV1 hko dX12_asks_57 ml_RX12_387 iz_186 (by decide) rfl (by omega) (Nat.le_of_ble_eq_true rfl) (tX12_needWord hko q5.2.1 q5.2.2 F hF 113 _ eq6) ?_
          rintro _ _ ⟨rfl, rfl⟩
          refine e_if_eq 72 dX12_asks_60 (by decide) (fun c_60 => ?_) (fun c_60 => ?_)
          · have hm := it_p c_60 hm
            refine e_iconst (v := 0) (by decide) dX12_asks_72 ?_
            refine e_zret dX12_asks_73 rfl rfl ?_
            have hm := some_in hm
            subst hm
            exact ⟨rfl, rfl⟩
          · have hm := it_n c_60 hm
            refine e_aload_n (i := 0) rfl dX12_asks_63 ?_
            refine e_bipush (v := 123) (by decide) dX12_asks_64 ?_
            obtain ⟨q7, eq7, hm⟩ := ob_some hm
            refine e_cV1 hko dX12_asks_66 ml_RX12_278 iz_186 (by decide) rfl (by omega) (Nat.le_of_ble_eq_true rfl) (tX12_need hko q6.2.1 q6.2.2 F hF 123 _ eq7) ?_
            rintro _ _ ⟨rfl, rfl⟩
            refine e_if_ne 74 dX12_asks_69 (by decide) (fun c_69 => ?_) (fun c_69 => ?_)
            · have hm := it_n c_69 hm
              refine e_aload_n (i := 0) rfl dX12_asks_74 ?_
              refine l_getI 12 49 dX12_asks_75 fl_RX12_331 rfl iz_186 (by decide) ?_
              refine q_istore (i := 4) (by decide) rfl dX12_asks_78 ?_
              refine e_aload_n (i := 0) rfl dX12_asks_80 ?_
              refine e_iload_n (i := 3) rfl dX12_asks_81 ?_
              refine l_putI 12 43 dX12_asks_82 fl_RX12_292 rfl rfl iz_186 (by decide) ?_
              refine e_aload_n (i := 0) rfl dX12_asks_85 ?_
              refine e_iload_n (i := 2) rfl dX12_asks_86 ?_
              obtain ⟨q8, eq8, hm⟩ := ob_some hm
              refine e_cV1 hko dX12_asks_87 ml_RX12_390 iz_186 (by decide) rfl (by omega) (Nat.le_of_ble_eq_true rfl) (tX12_back hko (a_u2 q7.2.1 186 43 (q2.2.1 186 43)) q7.2.2 F hF (q2.2.1 186 45) _ eq8) ?_
              rintro _ _ ⟨rfl, rfl⟩
              refine e_aload_n (i := 0) rfl dX12_asks_90 ?_
              obtain ⟨q9, eq9, hm⟩ := ob_some hm
              refine e_cV0 hko dX12_asks_91 ml_RX12_384 iz_186 (by decide) rfl (by omega) (Nat.le_of_ble_eq_true rfl) (hR.2.2.2 q8.1 q8.2 F hF q9 eq9) ?_
              rintro _ _ ⟨rfl, rfl⟩
              refine e_if_eq 106 dX12_asks_94 (by decide) (fun c_94 => ?_) (fun c_94 => ?_)
              · have hm := it_p c_94 hm
                refine e_iconst (v := 0) (by decide) dX12_asks_106 ?_
                refine e_zret dX12_asks_107 rfl rfl ?_
                have hm := some_in hm
                subst hm
                exact ⟨rfl, rfl⟩
              · have hm := it_n c_94 hm
                refine e_aload_n (i := 0) rfl dX12_asks_97 ?_
                refine e_bipush (v := 125) (by decide) dX12_asks_98 ?_
                obtain ⟨q10, eq10, hm⟩ := ob_some hm
                refine e_cV1 hko dX12_asks_100 ml_RX12_278 iz_186 (by decide) rfl (by omega) (Nat.le_of_ble_eq_true rfl) (tX12_need hko q9.2.1 q9.2.2 F hF 125 _ eq10) ?_
                rintro _ _ ⟨rfl, rfl⟩
                refine e_if_ne 108 dX12_asks_103 (by decide) (fun c_103 => ?_) (fun c_103 => ?_)
                · have hm := it_n c_103 hm
                  refine e_aload_n (i := 0) rfl dX12_asks_108 ?_
                  refine e_aload_n (i := 0) rfl dX12_asks_109 ?_
                  refine e_bipush (v := 52) (by decide) dX12_asks_110 ?_
                  refine e_iload_n (i := 1) rfl dX12_asks_112 ?_
                  refine e_iload (i := 4) rfl dX12_asks_113 ?_
                  refine e_aload_n (i := 0) rfl dX12_asks_115 ?_
                  refine l_getI 12 49 dX12_asks_116 fl_RX12_331 rfl iz_186 (by decide) ?_
                  refine e_i2l dX12_asks_119 ?_
                  obtain ⟨q11, eq11, hm⟩ := ob_some hm
                  refine e_cV4 hko dX12_asks_120 ml_RX12_264 iz_186 (by decide) rfl (by omega) (Nat.le_of_ble_eq_true rfl) (tX12_node hko q10.2.1 q10.2.2 F hF 52 (q2.2.1 186 47) (q7.2.1 186 49) ((q10.2.1 186 49).toInt64) _ eq11) ?_
                  rintro _ _ ⟨rfl, rfl⟩
                  refine l_putI 12 49 dX12_asks_123 fl_RX12_331 rfl rfl iz_186 (by decide) ?_
                  refine e_iconst (v := 1) (by decide) dX12_asks_126 ?_
                  refine e_zret dX12_asks_127 rfl rfl ?_
                  have hm := some_in hm
                  subst hm
                  exact ⟨rfl, rfl⟩
                · have hm := it_p c_103 hm
                  refine e_iconst (v := 0) (by decide) dX12_asks_106 ?_
                  refine e_zret dX12_asks_107 rfl rfl ?_
                  have hm := some_in hm
                  subst hm
                  exact ⟨rfl, rfl⟩
            · have hm := it_p c_69 hm
              refine e_iconst (v := 0) (by decide) dX12_asks_72 ?_
              refine e_zret dX12_asks_73 rfl rfl ?_
              have hm := some_in hm
              subst hm
              exact ⟨rfl, rfl⟩
    · have hm := it_p c_13 hm
      refine e_iconst (v := 0) (by decide) dX12_asks_16 ?_
      refine e_zret dX12_asks_17 rfl rfl ?_
      have hm := some_in hm
      subst hm
      exact ⟨rfl, rfl⟩
set_option maxRecDepth 100000 in
set_option maxHeartbeats 4000000 in
theorem tX12_cases_345 {l : Launch} {K : a_KT} {g : a_GT} {IA : iT} {D0 : Nat} {R : sc_12actT} (hko : a_kok K) (hB : 458 ≤ D0 + 1) (hR : sc_12act_ok l K g D0 R) {F : fT} : ∀ (n : Nat) (I : iT) (J : jT) (x1 : Int32) (x2 : Int32) (x3 : Int32) (x4 : Int32) (x5 : Int32) (x6 : Int32) (x7 : Int32) (x8 : Int32) (hF : FOK F) (q : Int32 × iT × jT), mX12_cases_345 R n I J x1 x2 x3 x4 x5 x6 x7 x8 = some q → E l K g (D0 + 1) 0 0 yX12_cases cX12_cases 9 (some .boolean) 345 [.ref 186, .int x1, .int x2, .int x3, .int x4, .int x5, .int x6, .int x7, .int x8] [] (hg IA I J F) (fun r2 h2 => r2 = some (.int q.1) ∧ h2 = hg IA q.2.1 q.2.2 F) := by
  intro n
  induction n with
  | zero => intro I J x1 x2 x3 x4 x5 x6 x7 x8 hF q hm; cases hm
  | succ n ih =>
    intro I J x1 x2 x3 x4 x5 x6 x7 x8 hF q hm
    rw [mX12_cases_345] at hm
    refine e_iload (i := 8) rfl dX12_cases_345 ?_
    refine e_iconst (v := (-1)) (by decide) dX12_cases_347 ?_
    refine e_icmp_eq 366 dX12_cases_348 (by decide) (fun c_348 => ?_) (fun c_348 => ?_)
    · have hm := it_p c_348 hm
      refine e_iload (i := 7) rfl dX12_cases_366 ?_
      refine e_if_ge 381 dX12_cases_368 (by decide) (fun c_368 => ?_) (fun c_368 => ?_)
      · have hm := it_p c_368 hm
        refine e_aload_n (i := 0) rfl dX12_cases_381 ?_
        obtain ⟨q1, eq1, hm⟩ := ob_some hm
        refine e_cV0 hko dX12_cases_382 ml_RX12_236 iz_186 (by decide) rfl (by omega) (Nat.le_of_ble_eq_true rfl) (tX12_look0 hko I J F hF _ eq1) ?_
        rintro _ _ ⟨rfl, rfl⟩
        refine e_aload_n (i := 0) rfl dX12_cases_385 ?_
        refine e_iload_n (i := 3) rfl dX12_cases_386 ?_
        refine l_putI 12 49 dX12_cases_387 fl_RX12_331 rfl rfl iz_186 (by decide) ?_
        refine e_iconst (v := 1) (by decide) dX12_cases_390 ?_
        refine e_zret dX12_cases_391 rfl rfl ?_
        have hm := some_in hm
        subst hm
        exact ⟨rfl, rfl⟩
      · have hm := it_n c_368 hm
        refine e_aload_n (i := 0) rfl dX12_cases_371 ?_
        refine e_iconst (v := 3) (by decide) dX12_cases_372 ?_
        refine e_aload_n (i := 0) rfl dX12_cases_373 ?_
        refine l_getI 12 4 dX12_cases_374 fl_RX12_207 rfl iz_186 (by decide) ?_
        obtain ⟨q2, eq2, hm⟩ := ob_some hm
        refine e_cV2 hko dX12_cases_377 ml_RX12_232 iz_186 (by decide) rfl (by omega) (Nat.le_of_ble_eq_true rfl) (tX12_bad hko I J F hF 3 (I 186 4) _ eq2) ?_
        rintro _ _ ⟨rfl, rfl⟩
        obtain ⟨c_380, hm⟩ := gd_s hm
        refine e_zret dX12_cases_380 rfl (zz_nar c_380) ?_
        have hm := some_in hm
        subst hm
        exact ⟨rfl, rfl⟩
    · have hm := it_n c_348 hm
      refine q_iinc (i := 7) (x7 + (-1)) rfl ic_m1 rfl dX12_cases_351 ?_
      refine e_aload_n (i := 0) rfl dX12_cases_354 ?_
      refine q_getF 12 14 191 dX12_cases_355 fl_RX12_26 rfl iz_186 (fr_186_14 hF) ?_
      refine e_iload (i := 8) rfl dX12_cases_358 ?_
      obtain ⟨c_360, hm⟩ := gd_s hm
      refine l_iald dX12_cases_360 iz_191 (inb_in ln_191 c_360) (by decide) ?_
      refine q_istore (i := 8) (by decide) rfl dX12_cases_361 ?_
      refine e_goto 345 dX12_cases_363 (by decide) ?_
      refine e_weak [.ref 186, .int x1, .int x2, .int x3, .int x4, .int x5, .int x6, .int (x7 + (-1)), .int (I 191 x8.toNatClampNeg)] ⟨rfl, ⟨rfl, ⟨rfl, ⟨rfl, ⟨rfl, ⟨rfl, ⟨rfl, ⟨rfl, ⟨rfl, trivial⟩⟩⟩⟩⟩⟩⟩⟩⟩ ?_
      exact ih I J x1 x2 x3 x4 x5 x6 (x7 + (-1)) (I 191 x8.toNatClampNeg) hF _ hm
set_option maxRecDepth 100000 in
set_option maxHeartbeats 4000000 in
theorem tX12_cases_316 {l : Launch} {K : a_KT} {g : a_GT} {IA : iT} {D0 : Nat} {R : sc_12actT} (hko : a_kok K) (hB : 458 ≤ D0 + 1) (hR : sc_12act_ok l K g D0 R) {F : fT} : ∀ (n : Nat) (I : iT) (J : jT) (x1 : Int32) (x2 : Int32) (x3 : Int32) (x4 : Int32) (x5 : Int32) (x6 : Int32) (x7 : Int32) (x8 : Int32) (hF : FOK F) (q : Int32 × iT × jT), mX12_cases_316 R n I J x1 x2 x3 x4 x5 x6 x7 x8 = some q → E l K g (D0 + 1) 0 0 yX12_cases cX12_cases 9 (some .boolean) 316 [.ref 186, .int x1, .int x2, .int x3, .int x4, .int x5, .int x6, .int x7, .int x8] [] (hg IA I J F) (fun r2 h2 => r2 = some (.int q.1) ∧ h2 = hg IA q.2.1 q.2.2 F) := by
  intro n
  induction n with
  | zero => intro I J x1 x2 x3 x4 x5 x6 x7 x8 hF q hm; cases hm
  | succ n ih =>
    intro I J x1 x2 x3 x4 x5 x6 x7 x8 hF q hm
    rw [mX12_cases_316] at hm
    refine e_iload (i := 8) rfl dX12_cases_316 ?_
    refine e_iconst (v := (-1)) (by decide) dX12_cases_318 ?_
    refine e_icmp_eq 337 dX12_cases_319 (by decide) (fun c_319 => ?_) (fun c_319 => ?_)
    · have hm := it_p c_319 hm
      refine e_aload_n (i := 0) rfl dX12_cases_337 ?_
      refine q_getF 12 12 189 dX12_cases_338 fl_RX12_20 rfl iz_186 (fr_186_12 hF) ?_
      refine e_iload_n (i := 2) rfl dX12_cases_341 ?_
      obtain ⟨c_342, hm⟩ := gd_s hm
      refine l_iald dX12_cases_342 iz_189 (inb_in ln_189 c_342) (by decide) ?_
      refine q_istore (i := 8) (by decide) rfl dX12_cases_343 ?_
      refine e_weak [.ref 186, .int x1, .int x2, .int x3, .int x4, .int x5, .int x6, .int x7, .int (I 189 x2.toNatClampNeg)] ⟨rfl, ⟨rfl, ⟨rfl, ⟨rfl, ⟨rfl, ⟨rfl, ⟨rfl, ⟨rfl, ⟨rfl, trivial⟩⟩⟩⟩⟩⟩⟩⟩⟩ ?_
      exact tX12_cases_345 hko hB hR LF I J x1 x2 x3 x4 x5 x6 x7 (I 189 x2.toNatClampNeg) hF _ hm
    · have hm := it_n c_319 hm
      refine q_iinc (i := 7) (x7 + 1) rfl ic_1 rfl dX12_cases_322 ?_
      refine e_aload_n (i := 0) rfl dX12_cases_325 ?_
      refine q_getF 12 14 191 dX12_cases_326 fl_RX12_26 rfl iz_186 (fr_186_14 hF) ?_
      refine e_iload (i := 8) rfl dX12_cases_329 ?_
      obtain ⟨c_331, hm⟩ := gd_s hm
      refine l_iald dX12_cases_331 iz_191 (inb_in ln_191 c_331) (by decide) ?_
      refine q_istore (i := 8) (by decide) rfl dX12_cases_332 ?_
      refine e_goto 316 dX12_cases_334 (by decide) ?_
      refine e_weak [.ref 186, .int x1, .int x2, .int x3, .int x4, .int x5, .int x6, .int (x7 + 1), .int (I 191 x8.toNatClampNeg)] ⟨rfl, ⟨rfl, ⟨rfl, ⟨rfl, ⟨rfl, ⟨rfl, ⟨rfl, ⟨rfl, ⟨rfl, trivial⟩⟩⟩⟩⟩⟩⟩⟩⟩ ?_
      exact ih I J x1 x2 x3 x4 x5 x6 (x7 + 1) (I 191 x8.toNatClampNeg) hF _ hm
set_option maxRecDepth 100000 in
set_option maxHeartbeats 4000000 in
theorem tX12_cases_273 {l : Launch} {K : a_KT} {g : a_GT} {IA : iT} {D0 : Nat} {R : sc_12actT} (hko : a_kok K) (hB : 458 ≤ D0 + 1) (hR : sc_12act_ok l K g D0 R) {F : fT} {k67 : iT → jT → Int32 → Int32 → Int32 → Int32 → Int32 → Int32 → Option (Int32 × iT × jT)} (hk67 : ∀ (I : iT) (J : jT) (x1 : Int32) (x2 : Int32) (x3 : Int32) (x4 : Int32) (x5 : Int32) (x6 : Int32) (_ : FOK F) (q : Int32 × iT × jT), k67 I J x1 x2 x3 x4 x5 x6 = some q → E l K g (D0 + 1) 0 0 yX12_cases cX12_cases 9 (some .boolean) 67 [.ref 186, .int x1, .int x2, .int x3, .int x4, .int x5, .int x6, .null, .null] [] (hg IA I J F) (fun r2 h2 => r2 = some (.int q.1) ∧ h2 = hg IA q.2.1 q.2.2 F)) (I : iT) (J : jT) (x1 : Int32) (x2 : Int32) (x3 : Int32) (x4 : Int32) (x5 : Int32) (x6 : Int32) (x7 : Int32) (x8 : Int32) (hF : FOK F) (q : Int32 × iT × jT) (hm : mX12_cases_273 R k67 I J x1 x2 x3 x4 x5 x6 x7 x8 = some q) : E l K g (D0 + 1) 0 0 yX12_cases cX12_cases 9 (some .boolean) 273 [.ref 186, .int x1, .int x2, .int x3, .int x4, .int x5, .int x6, .int x7, .int x8] [] (hg IA I J F) (fun r2 h2 => r2 = some (.int q.1) ∧ h2 = hg IA q.2.1 q.2.2 F) := by
  unfold mX12_cases_273 at hm
  refine e_iload (i := 8) rfl dX12_cases_273 ?_
  refine q_istore (i := 6) (by decide) rfl dX12_cases_275 ?_
  refine e_aload_n (i := 0) rfl dX12_cases_277 ?_
  refine e_bipush (v := 124) (by decide) dX12_cases_278 ?_
  obtain ⟨q3, eq3, hm⟩ := ob_some hm
  refine e_cV1 hko dX12_cases_280 ml_RX12_229 iz_186 (by decide) rfl (by omega) (Nat.le_of_ble_eq_true rfl) (tX12_isSign hko I J F hF 124 _ eq3) ?_
  rintro _ _ ⟨rfl, rfl⟩
  refine e_if_ne 67 dX12_cases_283 (by decide) (fun c_283 => ?_) (fun c_283 => ?_)
  · have hm := it_n c_283 hm
    refine e_weak [.ref 186, .int x1, .int x2, .int x3, .int x4, .int x5, .int x8, .null, .null] ⟨rfl, ⟨rfl, ⟨rfl, ⟨rfl, ⟨rfl, ⟨rfl, ⟨rfl, ⟨trivial, ⟨trivial, trivial⟩⟩⟩⟩⟩⟩⟩⟩⟩ ?_
    exact hk67 I J x1 x2 x3 x4 x5 x8 hF _ hm
  · have hm := it_p c_283 hm
    refine e_aload_n (i := 0) rfl dX12_cases_286 ?_
    refine e_bipush (v := 125) (by decide) dX12_cases_287 ?_
    obtain ⟨q4, eq4, hm⟩ := ob_some hm
    refine e_cV1 hko dX12_cases_289 ml_RX12_229 iz_186 (by decide) rfl (by omega) (Nat.le_of_ble_eq_true rfl) (tX12_isSign hko I J F hF 125 _ eq4) ?_
    rintro _ _ ⟨rfl, rfl⟩
    refine e_if_ne 305 dX12_cases_292 (by decide) (fun c_292 => ?_) (fun c_292 => ?_)
    · have hm := it_n c_292 hm
      refine e_iconst (v := 0) (by decide) dX12_cases_305 ?_
      refine q_istore (i := 7) (by decide) rfl dX12_cases_306 ?_
      refine e_aload_n (i := 0) rfl dX12_cases_308 ?_
      refine q_getF 12 13 190 dX12_cases_309 fl_RX12_23 rfl iz_186 (fr_186_13 hF) ?_
      refine e_iload_n (i := 3) rfl dX12_cases_312 ?_
      obtain ⟨c_313, hm⟩ := gd_s hm
      refine l_iald dX12_cases_313 iz_190 (inb_in ln_190 c_313) (by decide) ?_
      refine q_istore (i := 8) (by decide) rfl dX12_cases_314 ?_
      refine e_weak [.ref 186, .int x1, .int x2, .int x3, .int x4, .int x5, .int x8, .int 0, .int (I 190 x3.toNatClampNeg)] ⟨rfl, ⟨rfl, ⟨rfl, ⟨rfl, ⟨rfl, ⟨rfl, ⟨rfl, ⟨rfl, ⟨rfl, trivial⟩⟩⟩⟩⟩⟩⟩⟩⟩ ?_
      exact tX12_cases_316 hko hB hR LF I J x1 x2 x3 x4 x5 x8 0 (I 190 x3.toNatClampNeg) hF _ hm
    · have hm := it_p c_292 hm
      refine e_aload_n (i := 0) rfl dX12_cases_295 ?_
      refine e_iconst (v := 1) (by decide) dX12_cases_296 ?_
      refine e_aload_n (i := 0) rfl dX12_cases_297 ?_
      refine l_getI 12 4 dX12_cases_298 fl_RX12_207 rfl iz_186 (by decide) ?_
      obtain ⟨q5, eq5, hm⟩ := ob_some hm
      refine e_cV2 hko dX12_cases_301 ml_RX12_232 iz_186 (by decide) rfl (by omega) (Nat.le_of_ble_eq_true rfl) (tX12_bad hko I J F hF 1 (I 186 4) _ eq5) ?_
      rintro _ _ ⟨rfl, rfl⟩
      obtain ⟨c_304, hm⟩ := gd_s hm
      refine e_zret dX12_cases_304 rfl (zz_nar c_304) ?_
      have hm := some_in hm
      subst hm
      exact ⟨rfl, rfl⟩
set_option maxRecDepth 100000 in
set_option maxHeartbeats 4000000 in
theorem tX12_cases_103 {l : Launch} {K : a_KT} {g : a_GT} {IA : iT} {D0 : Nat} {R : sc_12actT} (hko : a_kok K) (hB : 458 ≤ D0 + 1) (hR : sc_12act_ok l K g D0 R) {F : fT} {k67 : iT → jT → Int32 → Int32 → Int32 → Int32 → Int32 → Int32 → Option (Int32 × iT × jT)} (hk67 : ∀ (I : iT) (J : jT) (x1 : Int32) (x2 : Int32) (x3 : Int32) (x4 : Int32) (x5 : Int32) (x6 : Int32) (_ : FOK F) (q : Int32 × iT × jT), k67 I J x1 x2 x3 x4 x5 x6 = some q → E l K g (D0 + 1) 0 0 yX12_cases cX12_cases 9 (some .boolean) 67 [.ref 186, .int x1, .int x2, .int x3, .int x4, .int x5, .int x6, .null, .null] [] (hg IA I J F) (fun r2 h2 => r2 = some (.int q.1) ∧ h2 = hg IA q.2.1 q.2.2 F)) : ∀ (n : Nat) (I : iT) (J : jT) (x1 : Int32) (x2 : Int32) (x3 : Int32) (x4 : Int32) (x5 : Int32) (x6 : Int32) (x7 : Int32) (hF : FOK F) (q : Int32 × iT × jT), mX12_cases_103 R k67 n I J x1 x2 x3 x4 x5 x6 x7 = some q → E l K g (D0 + 1) 0 0 yX12_cases cX12_cases 9 (some .boolean) 103 [.ref 186, .int x1, .int x2, .int x3, .int x4, .int x5, .int x6, .int x7, .null] [] (hg IA I J F) (fun r2 h2 => r2 = some (.int q.1) ∧ h2 = hg IA q.2.1 q.2.2 F) := by
  intro n
  induction n with
  | zero => intro I J x1 x2 x3 x4 x5 x6 x7 hF q hm; cases hm
  | succ n ih =>
    intro I J x1 x2 x3 x4 x5 x6 x7 hF q hm
    rw [mX12_cases_103] at hm
    refine e_iload (i := 7) rfl dX12_cases_103 ?_
    refine e_iconst (v := (-1)) (by decide) dX12_cases_105 ?_
    refine e_icmp_eq 146 dX12_cases_106 (by decide) (fun c_106 => ?_) (fun c_106 => ?_)
    · have hm := it_p c_106 hm
      refine e_aload_n (i := 0) rfl dX12_cases_146 ?_
      refine e_iload_n (i := 2) rfl dX12_cases_147 ?_
      refine e_aload_n (i := 0) rfl dX12_cases_148 ?_
      refine q_getJ 12 6 dX12_cases_149 fl_RX12_162 rfl iz_186 ?_
      obtain ⟨q6, eq6, hm⟩ := ob_some hm
      refine e_cV2 hko dX12_cases_152 ml_RX12_281 iz_186 (by decide) rfl (by omega) (Nat.le_of_ble_eq_true rfl) (tX12_branch hko I J F hF x2 (J 186 6) _ eq6) ?_
      rintro _ _ ⟨rfl, rfl⟩
      refine q_istore (i := 7) (by decide) rfl dX12_cases_155 ?_
      refine e_iload (i := 7) rfl dX12_cases_157 ?_
      refine e_iconst (v := (-1)) (by decide) dX12_cases_159 ?_
      refine e_icmp_ne 173 dX12_cases_160 (by decide) (fun c_160 => ?_) (fun c_160 => ?_)
      · have hm := it_n c_160 hm
        refine e_aload_n (i := 0) rfl dX12_cases_173 ?_
        refine e_bipush (v := 53) (by decide) dX12_cases_174 ?_
        refine e_iconst (v := (-1)) (by decide) dX12_cases_176 ?_
        refine e_iconst (v := (-1)) (by decide) dX12_cases_177 ?_
        refine e_aload_n (i := 0) rfl dX12_cases_178 ?_
        refine q_getJ 12 6 dX12_cases_179 fl_RX12_162 rfl iz_186 ?_
        obtain ⟨q7, eq7, hm⟩ := ob_some hm
        refine e_cV4 hko dX12_cases_182 ml_RX12_264 iz_186 (by decide) rfl (by omega) (Nat.le_of_ble_eq_true rfl) (tX12_node hko I J F hF 53 ((-1)) ((-1)) (J 186 6) _ eq7) ?_
        rintro _ _ ⟨rfl, rfl⟩
        refine q_istore (i := 8) (by decide) rfl dX12_cases_185 ?_
        refine e_aload_n (i := 0) rfl dX12_cases_187 ?_
        obtain ⟨q8, eq8, hm⟩ := ob_some hm
        refine e_cV0 hko dX12_cases_188 ml_RX12_236 iz_186 (by decide) rfl (by omega) (Nat.le_of_ble_eq_true rfl) (tX12_look0 hko q7.2.1 q7.2.2 F hF _ eq8) ?_
        rintro _ _ ⟨rfl, rfl⟩
        refine e_aload_n (i := 0) rfl dX12_cases_191 ?_
        refine e_bipush (v := 58) (by decide) dX12_cases_192 ?_
        obtain ⟨q9, eq9, hm⟩ := ob_some hm
        refine e_cV1 hko dX12_cases_194 ml_RX12_278 iz_186 (by decide) rfl (by omega) (Nat.le_of_ble_eq_true rfl) (tX12_need hko q8.1 q8.2 F hF 58 _ eq9) ?_
        rintro _ _ ⟨rfl, rfl⟩
        refine e_if_ne 202 dX12_cases_197 (by decide) (fun c_197 => ?_) (fun c_197 => ?_)
        · have hm := it_n c_197 hm
          refine e_aload_n (i := 0) rfl dX12_cases_202 ?_
          refine e_iload (i := 5) rfl dX12_cases_203 ?_
          refine l_putI 12 43 dX12_cases_205 fl_RX12_292 rfl rfl iz_186 (by decide) ?_
          refine e_aload_n (i := 0) rfl dX12_cases_208 ?_
          refine e_iload (i := 4) rfl dX12_cases_209 ?_
          obtain ⟨q10, eq10, hm⟩ := ob_some hm
          refine e_cV1 hko dX12_cases_211 ml_RX12_390 iz_186 (by decide) rfl (by omega) (Nat.le_of_ble_eq_true rfl) (tX12_back hko (a_u2 q9.2.1 186 43 x5) q9.2.2 F hF x4 _ eq10) ?_
          rintro _ _ ⟨rfl, rfl⟩
          refine e_aload_n (i := 0) rfl dX12_cases_214 ?_
          refine q_getF 12 40 209 dX12_cases_215 fl_RX12_81 rfl iz_186 (fr_186_40 hF) ?_
          refine e_iload_n (i := 1) rfl dX12_cases_218 ?_
          refine e_aload_n (i := 0) rfl dX12_cases_219 ?_
          refine q_getF 12 12 189 dX12_cases_220 fl_RX12_20 rfl iz_186 (fr_186_12 hF) ?_
          refine e_iload (i := 7) rfl dX12_cases_223 ?_
          obtain ⟨c_225, hm⟩ := gd_s hm
          refine l_iald dX12_cases_225 iz_189 (inb_in ln_189 c_225) (by decide) ?_
          obtain ⟨c_226, hm⟩ := gd_s hm
          refine l_iast dX12_cases_226 iz_209 (inb_in ln_209 c_226) (by decide) ?_
          refine e_aload_n (i := 0) rfl dX12_cases_227 ?_
          obtain ⟨q11, eq11, hm⟩ := ob_some hm
          refine e_cV0 hko dX12_cases_228 ml_RX12_384 iz_186 (by decide) rfl (by omega) (Nat.le_of_ble_eq_true rfl) (hR.2.2.2 (a_u2 q10.1 209 x1.toNatClampNeg (q10.1 189 q6.toNatClampNeg)) q10.2 F hF q11 eq11) ?_
          rintro _ _ ⟨rfl, rfl⟩
          refine e_if_ne 236 dX12_cases_231 (by decide) (fun c_231 => ?_) (fun c_231 => ?_)
          · have hm := it_n c_231 hm
            refine e_aload_n (i := 0) rfl dX12_cases_236 ?_
            refine q_getF 12 12 189 dX12_cases_237 fl_RX12_20 rfl iz_186 (fr_186_12 hF) ?_
            refine e_iload (i := 8) rfl dX12_cases_240 ?_
            refine e_aload_n (i := 0) rfl dX12_cases_242 ?_
            refine l_getI 12 49 dX12_cases_243 fl_RX12_331 rfl iz_186 (by decide) ?_
            obtain ⟨c_246, hm⟩ := gd_s hm
            refine l_iast dX12_cases_246 iz_189 (inb_in ln_189 c_246) (by decide) ?_
            refine e_iload (i := 6) rfl dX12_cases_247 ?_
            refine e_iconst (v := (-1)) (by decide) dX12_cases_249 ?_
            refine e_icmp_ne 264 dX12_cases_250 (by decide) (fun c_250 => ?_) (fun c_250 => ?_)
            · have hm := it_n c_250 hm
              refine e_aload_n (i := 0) rfl dX12_cases_264 ?_
              refine q_getF 12 14 191 dX12_cases_265 fl_RX12_26 rfl iz_186 (fr_186_14 hF) ?_
              refine e_iload (i := 6) rfl dX12_cases_268 ?_
              refine e_iload (i := 8) rfl dX12_cases_270 ?_
              obtain ⟨c_272, hm⟩ := gd_s hm
              refine l_iast dX12_cases_272 iz_191 (inb_in ln_191 c_272) (by decide) ?_
              refine e_weak [.ref 186, .int x1, .int x2, .int x3, .int x4, .int x5, .int x6, .int q6, .int q7.1] ⟨rfl, ⟨rfl, ⟨rfl, ⟨rfl, ⟨rfl, ⟨rfl, ⟨rfl, ⟨rfl, ⟨rfl, trivial⟩⟩⟩⟩⟩⟩⟩⟩⟩ ?_
              exact tX12_cases_273 hko hB hR (hk67) (a_u2 (a_u2 q11.2.1 189 q7.1.toNatClampNeg (q11.2.1 186 49)) 191 x6.toNatClampNeg q7.1) q11.2.2 x1 x2 x3 x4 x5 x6 q6 q7.1 hF _ hm
            · have hm := it_p c_250 hm
              refine e_aload_n (i := 0) rfl dX12_cases_253 ?_
              refine q_getF 12 13 190 dX12_cases_254 fl_RX12_23 rfl iz_186 (fr_186_13 hF) ?_
              refine e_iload_n (i := 3) rfl dX12_cases_257 ?_
              refine e_iload (i := 8) rfl dX12_cases_258 ?_
              obtain ⟨c_260, hm⟩ := gd_s hm
              refine l_iast dX12_cases_260 iz_190 (inb_in ln_190 c_260) (by decide) ?_
              refine e_goto 273 dX12_cases_261 (by decide) ?_
              refine e_weak [.ref 186, .int x1, .int x2, .int x3, .int x4, .int x5, .int x6, .int q6, .int q7.1] ⟨rfl, ⟨rfl, ⟨rfl, ⟨rfl, ⟨rfl, ⟨rfl, ⟨rfl, ⟨rfl, ⟨rfl, trivial⟩⟩⟩⟩⟩⟩⟩⟩⟩ ?_
              exact tX12_cases_273 hko hB hR (hk67) (a_u2 (a_u2 q11.2.1 189 q7.1.toNatClampNeg (q11.2.1 186 49)) 190 x3.toNatClampNeg q7.1) q11.2.2 x1 x2 x3 x4 x5 x6 q6 q7.1 hF _ hm
          · have hm := it_p c_231 hm
            refine e_iconst (v := 0) (by decide) dX12_cases_234 ?_
            refine e_zret dX12_cases_235 rfl rfl ?_
            have hm := some_in hm
            subst hm
            exact ⟨rfl, rfl⟩
        · have hm := it_p c_197 hm
          refine e_iconst (v := 0) (by decide) dX12_cases_200 ?_
          refine e_zret dX12_cases_201 rfl rfl ?_
          have hm := some_in hm
          subst hm
          exact ⟨rfl, rfl⟩
      · have hm := it_p c_160 hm
        refine e_aload_n (i := 0) rfl dX12_cases_163 ?_
        refine e_iconst (v := 3) (by decide) dX12_cases_164 ?_
        refine e_aload_n (i := 0) rfl dX12_cases_165 ?_
        refine l_getI 12 4 dX12_cases_166 fl_RX12_207 rfl iz_186 (by decide) ?_
        obtain ⟨q12, eq12, hm⟩ := ob_some hm
        refine e_cV2 hko dX12_cases_169 ml_RX12_232 iz_186 (by decide) rfl (by omega) (Nat.le_of_ble_eq_true rfl) (tX12_bad hko I J F hF 3 (I 186 4) _ eq12) ?_
        rintro _ _ ⟨rfl, rfl⟩
        obtain ⟨c_172, hm⟩ := gd_s hm
        refine e_zret dX12_cases_172 rfl (zz_nar c_172) ?_
        have hm := some_in hm
        subst hm
        exact ⟨rfl, rfl⟩
    · have hm := it_n c_106 hm
      refine e_aload_n (i := 0) rfl dX12_cases_109 ?_
      refine q_getF 12 15 192 dX12_cases_110 fl_RX12_29 rfl iz_186 (fr_186_15 hF) ?_
      refine e_iload (i := 7) rfl dX12_cases_113 ?_
      obtain ⟨c_115, hm⟩ := gd_s hm
      refine q_lald dX12_cases_115 iz_192 (inb_in ln_192 c_115) ?_
      refine e_aload_n (i := 0) rfl dX12_cases_116 ?_
      refine q_getJ 12 6 dX12_cases_117 fl_RX12_162 rfl iz_186 ?_
      refine e_lcmp dX12_cases_120 ?_
      refine e_if_ne 134 dX12_cases_121 (by decide) (fun c_121 => ?_) (fun c_121 => ?_)
      · have hm := it_n c_121 hm
        refine e_aload_n (i := 0) rfl dX12_cases_134 ?_
        refine q_getF 12 14 191 dX12_cases_135 fl_RX12_26 rfl iz_186 (fr_186_14 hF) ?_
        refine e_iload (i := 7) rfl dX12_cases_138 ?_
        obtain ⟨c_140, hm⟩ := gd_s hm
        refine l_iald dX12_cases_140 iz_191 (inb_in ln_191 c_140) (by decide) ?_
        refine q_istore (i := 7) (by decide) rfl dX12_cases_141 ?_
        refine e_goto 103 dX12_cases_143 (by decide) ?_
        refine e_weak [.ref 186, .int x1, .int x2, .int x3, .int x4, .int x5, .int x6, .int (I 191 x7.toNatClampNeg), .null] ⟨rfl, ⟨rfl, ⟨rfl, ⟨rfl, ⟨rfl, ⟨rfl, ⟨rfl, ⟨rfl, ⟨trivial, trivial⟩⟩⟩⟩⟩⟩⟩⟩⟩ ?_
        exact ih I J x1 x2 x3 x4 x5 x6 (I 191 x7.toNatClampNeg) hF _ hm
      · have hm := it_p c_121 hm
        refine e_aload_n (i := 0) rfl dX12_cases_124 ?_
        refine e_iconst (v := 2) (by decide) dX12_cases_125 ?_
        refine e_aload_n (i := 0) rfl dX12_cases_126 ?_
        refine l_getI 12 4 dX12_cases_127 fl_RX12_207 rfl iz_186 (by decide) ?_
        obtain ⟨q13, eq13, hm⟩ := ob_some hm
        refine e_cV2 hko dX12_cases_130 ml_RX12_232 iz_186 (by decide) rfl (by omega) (Nat.le_of_ble_eq_true rfl) (tX12_bad hko I J F hF 2 (I 186 4) _ eq13) ?_
        rintro _ _ ⟨rfl, rfl⟩
        obtain ⟨c_133, hm⟩ := gd_s hm
        refine e_zret dX12_cases_133 rfl (zz_nar c_133) ?_
        have hm := some_in hm
        subst hm
        exact ⟨rfl, rfl⟩
set_option maxRecDepth 100000 in
set_option maxHeartbeats 4000000 in
theorem tX12_cases_77 {l : Launch} {K : a_KT} {g : a_GT} {IA : iT} {D0 : Nat} {R : sc_12actT} (hko : a_kok K) (hB : 458 ≤ D0 + 1) (hR : sc_12act_ok l K g D0 R) {F : fT} {k67 : iT → jT → Int32 → Int32 → Int32 → Int32 → Int32 → Int32 → Option (Int32 × iT × jT)} (hk67 : ∀ (I : iT) (J : jT) (x1 : Int32) (x2 : Int32) (x3 : Int32) (x4 : Int32) (x5 : Int32) (x6 : Int32) (_ : FOK F) (q : Int32 × iT × jT), k67 I J x1 x2 x3 x4 x5 x6 = some q → E l K g (D0 + 1) 0 0 yX12_cases cX12_cases 9 (some .boolean) 67 [.ref 186, .int x1, .int x2, .int x3, .int x4, .int x5, .int x6, .null, .null] [] (hg IA I J F) (fun r2 h2 => r2 = some (.int q.1) ∧ h2 = hg IA q.2.1 q.2.2 F)) (I : iT) (J : jT) (x1 : Int32) (x2 : Int32) (x3 : Int32) (x4 : Int32) (x5 : Int32) (x6 : Int32) (hF : FOK F) (q : Int32 × iT × jT) (hm : mX12_cases_77 R k67 I J x1 x2 x3 x4 x5 x6 = some q) : E l K g (D0 + 1) 0 0 yX12_cases cX12_cases 9 (some .boolean) 77 [.ref 186, .int x1, .int x2, .int x3, .int x4, .int x5, .int x6, .null, .null] [] (hg IA I J F) (fun r2 h2 => r2 = some (.int q.1) ∧ h2 = hg IA q.2.1 q.2.2 F) := by
  unfold mX12_cases_77 at hm
  refine e_aload_n (i := 0) rfl dX12_cases_77 ?_
  refine l_getI 12 3 dX12_cases_78 fl_RX12_210 rfl iz_186 (by decide) ?_
  refine e_iconst (v := 2) (by decide) dX12_cases_81 ?_
  refine e_icmp_eq 95 dX12_cases_82 (by decide) (fun c_82 => ?_) (fun c_82 => ?_)
  · have hm := it_p c_82 hm
    refine e_aload_n (i := 0) rfl dX12_cases_95 ?_
    refine q_getF 12 13 190 dX12_cases_96 fl_RX12_23 rfl iz_186 (fr_186_13 hF) ?_
    refine e_iload_n (i := 3) rfl dX12_cases_99 ?_
    obtain ⟨c_100, hm⟩ := gd_s hm
    refine l_iald dX12_cases_100 iz_190 (inb_in ln_190 c_100) (by decide) ?_
    refine q_istore (i := 7) (by decide) rfl dX12_cases_101 ?_
    refine e_weak [.ref 186, .int x1, .int x2, .int x3, .int x4, .int x5, .int x6, .int (I 190 x3.toNatClampNeg), .null] ⟨rfl, ⟨rfl, ⟨rfl, ⟨rfl, ⟨rfl, ⟨rfl, ⟨rfl, ⟨rfl, ⟨trivial, trivial⟩⟩⟩⟩⟩⟩⟩⟩⟩ ?_
    exact tX12_cases_103 hko hB hR (hk67) LF I J x1 x2 x3 x4 x5 x6 (I 190 x3.toNatClampNeg) hF _ hm
  · have hm := it_n c_82 hm
    refine e_aload_n (i := 0) rfl dX12_cases_85 ?_
    refine e_iconst (v := 1) (by decide) dX12_cases_86 ?_
    refine e_aload_n (i := 0) rfl dX12_cases_87 ?_
    refine l_getI 12 4 dX12_cases_88 fl_RX12_207 rfl iz_186 (by decide) ?_
    obtain ⟨q14, eq14, hm⟩ := ob_some hm
    refine e_cV2 hko dX12_cases_91 ml_RX12_232 iz_186 (by decide) rfl (by omega) (Nat.le_of_ble_eq_true rfl) (tX12_bad hko I J F hF 1 (I 186 4) _ eq14) ?_
    rintro _ _ ⟨rfl, rfl⟩
    obtain ⟨c_94, hm⟩ := gd_s hm
    refine e_zret dX12_cases_94 rfl (zz_nar c_94) ?_
    have hm := some_in hm
    subst hm
    exact ⟨rfl, rfl⟩
set_option maxRecDepth 100000 in
set_option maxHeartbeats 4000000 in
theorem tX12_cases_67 {l : Launch} {K : a_KT} {g : a_GT} {IA : iT} {D0 : Nat} {R : sc_12actT} (hko : a_kok K) (hB : 458 ≤ D0 + 1) (hR : sc_12act_ok l K g D0 R) {F : fT} : ∀ (n : Nat) (I : iT) (J : jT) (x1 : Int32) (x2 : Int32) (x3 : Int32) (x4 : Int32) (x5 : Int32) (x6 : Int32) (hF : FOK F) (q : Int32 × iT × jT), mX12_cases_67 R n I J x1 x2 x3 x4 x5 x6 = some q → E l K g (D0 + 1) 0 0 yX12_cases cX12_cases 9 (some .boolean) 67 [.ref 186, .int x1, .int x2, .int x3, .int x4, .int x5, .int x6, .null, .null] [] (hg IA I J F) (fun r2 h2 => r2 = some (.int q.1) ∧ h2 = hg IA q.2.1 q.2.2 F) := by
  intro n
  induction n with
  | zero => intro I J x1 x2 x3 x4 x5 x6 hF q hm; cases hm
  | succ n ih =>
    intro I J x1 x2 x3 x4 x5 x6 hF q hm
    rw [mX12_cases_67] at hm
    refine e_iload (i := 6) rfl dX12_cases_67 ?_
    refine e_iconst (v := (-1)) (by decide) dX12_cases_69 ?_
    refine e_icmp_eq 77 dX12_cases_70 (by decide) (fun c_70 => ?_) (fun c_70 => ?_)
    · have hm := it_p c_70 hm
      refine e_weak [.ref 186, .int x1, .int x2, .int x3, .int x4, .int x5, .int x6, .null, .null] ⟨rfl, ⟨rfl, ⟨rfl, ⟨rfl, ⟨rfl, ⟨rfl, ⟨rfl, ⟨trivial, ⟨trivial, trivial⟩⟩⟩⟩⟩⟩⟩⟩⟩ ?_
      exact tX12_cases_77 hko hB hR (ih) I J x1 x2 x3 x4 x5 x6 hF _ hm
    · have hm := it_n c_70 hm
      refine e_aload_n (i := 0) rfl dX12_cases_73 ?_
      obtain ⟨q15, eq15, hm⟩ := ob_some hm
      refine e_cV0 hko dX12_cases_74 ml_RX12_236 iz_186 (by decide) rfl (by omega) (Nat.le_of_ble_eq_true rfl) (tX12_look0 hko I J F hF _ eq15) ?_
      rintro _ _ ⟨rfl, rfl⟩
      refine e_weak [.ref 186, .int x1, .int x2, .int x3, .int x4, .int x5, .int x6, .null, .null] ⟨rfl, ⟨rfl, ⟨rfl, ⟨rfl, ⟨rfl, ⟨rfl, ⟨rfl, ⟨trivial, ⟨trivial, trivial⟩⟩⟩⟩⟩⟩⟩⟩⟩ ?_
      exact tX12_cases_77 hko hB hR (ih) q15.1 q15.2 x1 x2 x3 x4 x5 x6 hF _ hm
set_option maxRecDepth 100000 in
set_option maxHeartbeats 4000000 in
theorem tbX12_cases {l : Launch} {K : a_KT} {g : a_GT} {IA : iT} {D0 : Nat} {R : sc_12actT} (hko : a_kok K) (hB : 458 ≤ D0 + 1) (hR : sc_12act_ok l K g D0 R) (I : iT) (J : jT) (F : fT) (hF : FOK F) (q : Int32 × iT × jT) (hm : bX12_cases R I J = some q) : C l K g (D0 + 1) 0 0 yX12_cases cX12_cases 9 (some .boolean) [.ref 186] (hg IA I J F) (fun r2 h2 => r2 = some (.int q.1) ∧ h2 = hg IA q.2.1 q.2.2 F) := by
  unfold bX12_cases at hm
  refine c_of [.ref 186, .null, .null, .null, .null, .null, .null, .null, .null] (by decide) (Nat.le_of_ble_eq_true rfl) rfl ?_
  refine e_aload_n (i := 0) rfl dX12_cases_0 ?_
  refine e_bipush (v := 7) (by decide) dX12_cases_1 ?_
  refine e_bipush (v := 6) (by decide) dX12_cases_3 ?_
  obtain ⟨q16, eq16, hm⟩ := ob_some hm
  refine e_cV2 hko dX12_cases_5 ml_RX12_343 iz_186 (by decide) rfl (by omega) (Nat.le_of_ble_eq_true rfl) (tX12_aChannel hko I J F hF 7 6 _ eq16) ?_
  rintro _ _ ⟨rfl, rfl⟩
  refine e_if_ne 13 dX12_cases_8 (by decide) (fun c_8 => ?_) (fun c_8 => ?_)
  · have hm := it_n c_8 hm
    refine e_aload_n (i := 0) rfl dX12_cases_13 ?_
    refine l_getI 12 48 dX12_cases_14 fl_RX12_319 rfl iz_186 (by decide) ?_
    refine q_istore_n (i := 1) (by decide) rfl dX12_cases_17 ?_
    refine e_aload_n (i := 0) rfl dX12_cases_18 ?_
    refine q_getF 12 40 209 dX12_cases_19 fl_RX12_81 rfl iz_186 (fr_186_40 hF) ?_
    refine e_iload_n (i := 1) rfl dX12_cases_22 ?_
    obtain ⟨c_23, hm⟩ := gd_s hm
    refine l_iald dX12_cases_23 iz_209 (inb_in ln_209 c_23) (by decide) ?_
    refine q_istore_n (i := 2) (by decide) rfl dX12_cases_24 ?_
    refine e_aload_n (i := 0) rfl dX12_cases_25 ?_
    refine e_bipush (v := 123) (by decide) dX12_cases_26 ?_
    obtain ⟨q17, eq17, hm⟩ := ob_some hm
    refine e_cV1 hko dX12_cases_28 ml_RX12_278 iz_186 (by decide) rfl (by omega) (Nat.le_of_ble_eq_true rfl) (tX12_need hko q16.2.1 q16.2.2 F hF 123 _ eq17) ?_
    rintro _ _ ⟨rfl, rfl⟩
    refine e_if_ne 36 dX12_cases_31 (by decide) (fun c_31 => ?_) (fun c_31 => ?_)
    · have hm := it_n c_31 hm
      refine e_aload_n (i := 0) rfl dX12_cases_36 ?_
      refine e_bipush (v := 47) (by decide) dX12_cases_37 ?_
      refine e_iload_n (i := 1) rfl dX12_cases_39 ?_
      refine e_iconst (v := (-1)) (by decide) dX12_cases_40 ?_
      refine e_lconst (v := 0) (by decide) dX12_cases_41 ?_
      obtain ⟨q18, eq18, hm⟩ := ob_some hm
      refine e_cV4 hko dX12_cases_42 ml_RX12_264 iz_186 (by decide) rfl (by omega) (Nat.le_of_ble_eq_true rfl) (tX12_node hko q17.2.1 q17.2.2 F hF 47 (q16.2.1 186 48) ((-1)) 0 _ eq18) ?_
      rintro _ _ ⟨rfl, rfl⟩
      refine q_istore_n (i := 3) (by decide) rfl dX12_cases_45 ?_
      refine e_aload_n (i := 0) rfl dX12_cases_46 ?_
      refine l_getI 12 45 dX12_cases_47 fl_RX12_295 rfl iz_186 (by decide) ?_
      refine q_istore (i := 4) (by decide) rfl dX12_cases_50 ?_
      refine e_aload_n (i := 0) rfl dX12_cases_52 ?_
      refine l_getI 12 43 dX12_cases_53 fl_RX12_292 rfl iz_186 (by decide) ?_
      refine q_istore (i := 5) (by decide) rfl dX12_cases_56 ?_
      refine e_aload_n (i := 0) rfl dX12_cases_58 ?_
      refine e_iload (i := 4) rfl dX12_cases_59 ?_
      obtain ⟨q19, eq19, hm⟩ := ob_some hm
      refine e_cV1 hko dX12_cases_61 ml_RX12_380 iz_186 (by decide) rfl (by omega) (Nat.le_of_ble_eq_true rfl) (tX12_save hko q18.2.1 q18.2.2 F hF (q18.2.1 186 45) _ eq19) ?_
      rintro _ _ ⟨rfl, rfl⟩
      refine e_iconst (v := (-1)) (by decide) dX12_cases_64 ?_
      refine q_istore (i := 6) (by decide) rfl dX12_cases_65 ?_
      refine e_weak [.ref 186, .int (q16.2.1 186 48), .int (q16.2.1 209 (q16.2.1 186 48).toNatClampNeg), .int q18.1, .int (q18.2.1 186 45), .int (q18.2.1 186 43), .int ((-1)), .null, .null] ⟨rfl, ⟨rfl, ⟨rfl, ⟨rfl, ⟨rfl, ⟨rfl, ⟨rfl, ⟨trivial, ⟨trivial, trivial⟩⟩⟩⟩⟩⟩⟩⟩⟩ ?_
      exact tX12_cases_67 hko hB hR LF q19.1 q19.2 (q16.2.1 186 48) (q16.2.1 209 (q16.2.1 186 48).toNatClampNeg) q18.1 (q18.2.1 186 45) (q18.2.1 186 43) ((-1)) hF _ hm
    · have hm := it_p c_31 hm
      refine e_iconst (v := 0) (by decide) dX12_cases_34 ?_
      refine e_zret dX12_cases_35 rfl rfl ?_
      have hm := some_in hm
      subst hm
      exact ⟨rfl, rfl⟩
  · have hm := it_p c_8 hm
    refine e_iconst (v := 0) (by decide) dX12_cases_11 ?_
    refine e_zret dX12_cases_12 rfl rfl ?_
    have hm := some_in hm
    subst hm
    exact ⟨rfl, rfl⟩
set_option maxRecDepth 100000 in
set_option maxHeartbeats 4000000 in
theorem tX12_readProcess_214 {l : Launch} {K : a_KT} {g : a_GT} {IA : iT} {D0 : Nat} {R : sc_12actT} (hko : a_kok K) (hB : 458 ≤ D0 + 1) (hR : sc_12act_ok l K g D0 R) {F : fT} {k6 : iT → jT → Int32 → Int32 → Int32 → Option (Int32 × iT × jT)} (hk6 : ∀ (I : iT) (J : jT) (x1 : Int32) (x2 : Int32) (x3 : Int32) (_ : FOK F) (q : Int32 × iT × jT), k6 I J x1 x2 x3 = some q → E l K g (D0 + 1) 0 0 yX12_readProcess cX12_readProcess 5 (some .boolean) 6 [.ref 186, .int x1, .int x2, .int x3, .null] [] (hg IA I J F) (fun r2 h2 => r2 = some (.int q.1) ∧ h2 = hg IA q.2.1 q.2.2 F)) (I : iT) (J : jT) (x1 : Int32) (x2 : Int32) (x3 : Int32) (x4 : Int32) (hF : FOK F) (q : Int32 × iT × jT) (hm : mX12_readProcess_214 R k6 I J x1 x2 x3 x4 = some q) : E l K g (D0 + 1) 0 0 yX12_readProcess cX12_readProcess 5 (some .boolean) 214 [.ref 186, .int x1, .int x2, .int x3, .int x4] [] (hg IA I J F) (fun r2 h2 => r2 = some (.int q.1) ∧ h2 = hg IA q.2.1 q.2.2 F) := by
  unfold mX12_readProcess_214 at hm
  refine e_goto 6 dX12_readProcess_214 (by decide) ?_
  refine e_weak [.ref 186, .int x1, .int x2, .int x3, .null] ⟨rfl, ⟨rfl, ⟨rfl, ⟨rfl, ⟨trivial, trivial⟩⟩⟩⟩⟩ ?_
  exact hk6 I J x1 x2 x3 hF _ hm
set_option maxRecDepth 100000 in
set_option maxHeartbeats 4000000 in
theorem tX12_readProcess_198 {l : Launch} {K : a_KT} {g : a_GT} {IA : iT} {D0 : Nat} {R : sc_12actT} (hko : a_kok K) (hB : 458 ≤ D0 + 1) (hR : sc_12act_ok l K g D0 R) {F : fT} {k6 : iT → jT → Int32 → Int32 → Int32 → Option (Int32 × iT × jT)} (hk6 : ∀ (I : iT) (J : jT) (x1 : Int32) (x2 : Int32) (x3 : Int32) (_ : FOK F) (q : Int32 × iT × jT), k6 I J x1 x2 x3 = some q → E l K g (D0 + 1) 0 0 yX12_readProcess cX12_readProcess 5 (some .boolean) 6 [.ref 186, .int x1, .int x2, .int x3, .null] [] (hg IA I J F) (fun r2 h2 => r2 = some (.int q.1) ∧ h2 = hg IA q.2.1 q.2.2 F)) (I : iT) (J : jT) (x1 : Int32) (x2 : Int32) (x3 : Int32) (x4 : Int32) (s0 : Int32) (hF : FOK F) (q : Int32 × iT × jT) (hm : mX12_readProcess_198 R k6 I J x1 x2 x3 x4 s0 = some q) : E l K g (D0 + 1) 0 0 yX12_readProcess cX12_readProcess 5 (some .boolean) 198 [.ref 186, .int x1, .int x2, .int x3, .int x4] [.int s0] (hg IA I J F) (fun r2 h2 => r2 = some (.int q.1) ∧ h2 = hg IA q.2.1 q.2.2 F) := by
  unfold mX12_readProcess_198 at hm
  refine q_istore_n (i := 3) (by decide) rfl dX12_readProcess_198 ?_
  refine e_iload_n (i := 3) rfl dX12_readProcess_199 ?_
  refine e_if_ne 214 dX12_readProcess_200 (by decide) (fun c_200 => ?_) (fun c_200 => ?_)
  · have hm := it_n c_200 hm
    refine e_weak [.ref 186, .int x1, .int x2, .int s0, .int x4] ⟨rfl, ⟨rfl, ⟨rfl, ⟨rfl, ⟨rfl, trivial⟩⟩⟩⟩⟩ ?_
    exact tX12_readProcess_214 hko hB hR (hk6) I J x1 x2 s0 x4 hF _ hm
  · have hm := it_p c_200 hm
    refine e_aload_n (i := 0) rfl dX12_readProcess_203 ?_
    refine e_bipush (v := 59) (by decide) dX12_readProcess_204 ?_
    obtain ⟨q1, eq1, hm⟩ := ob_some hm
    refine e_cV1 hko dX12_readProcess_206 ml_RX12_278 iz_186 (by decide) rfl (by omega) (Nat.le_of_ble_eq_true rfl) (tX12_need hko I J F hF 59 _ eq1) ?_
    rintro _ _ ⟨rfl, rfl⟩
    refine e_if_ne 214 dX12_readProcess_209 (by decide) (fun c_209 => ?_) (fun c_209 => ?_)
    · have hm := it_n c_209 hm
      refine e_weak [.ref 186, .int x1, .int x2, .int s0, .int x4] ⟨rfl, ⟨rfl, ⟨rfl, ⟨rfl, ⟨rfl, trivial⟩⟩⟩⟩⟩ ?_
      exact tX12_readProcess_214 hko hB hR (hk6) q1.2.1 q1.2.2 x1 x2 s0 x4 hF _ hm
    · have hm := it_p c_209 hm
      refine e_iconst (v := 0) (by decide) dX12_readProcess_212 ?_
      refine e_zret dX12_readProcess_213 rfl rfl ?_
      have hm := some_in hm
      subst hm
      exact ⟨rfl, rfl⟩
set_option maxRecDepth 100000 in
set_option maxHeartbeats 4000000 in
theorem tX12_readProcess_193 {l : Launch} {K : a_KT} {g : a_GT} {IA : iT} {D0 : Nat} {R : sc_12actT} (hko : a_kok K) (hB : 458 ≤ D0 + 1) (hR : sc_12act_ok l K g D0 R) {F : fT} {k6 : iT → jT → Int32 → Int32 → Int32 → Option (Int32 × iT × jT)} (hk6 : ∀ (I : iT) (J : jT) (x1 : Int32) (x2 : Int32) (x3 : Int32) (_ : FOK F) (q : Int32 × iT × jT), k6 I J x1 x2 x3 = some q → E l K g (D0 + 1) 0 0 yX12_readProcess cX12_readProcess 5 (some .boolean) 6 [.ref 186, .int x1, .int x2, .int x3, .null] [] (hg IA I J F) (fun r2 h2 => r2 = some (.int q.1) ∧ h2 = hg IA q.2.1 q.2.2 F)) (I : iT) (J : jT) (x1 : Int32) (x2 : Int32) (x3 : Int32) (x4 : Int32) (hF : FOK F) (q : Int32 × iT × jT) (hm : mX12_readProcess_193 R k6 I J x1 x2 x3 x4 = some q) : E l K g (D0 + 1) 0 0 yX12_readProcess cX12_readProcess 5 (some .boolean) 193 [.ref 186, .int x1, .int x2, .int x3, .int x4] [] (hg IA I J F) (fun r2 h2 => r2 = some (.int q.1) ∧ h2 = hg IA q.2.1 q.2.2 F) := by
  unfold mX12_readProcess_193 at hm
  refine e_iconst (v := 1) (by decide) dX12_readProcess_193 ?_
  refine e_goto 198 dX12_readProcess_194 (by decide) ?_
  refine e_weak [.ref 186, .int x1, .int x2, .int x3, .int x4] ⟨rfl, ⟨rfl, ⟨rfl, ⟨rfl, ⟨rfl, trivial⟩⟩⟩⟩⟩ ?_
  exact tX12_readProcess_198 hko hB hR (hk6) I J x1 x2 x3 x4 1 hF _ hm
set_option maxRecDepth 100000 in
set_option maxHeartbeats 4000000 in
theorem tX12_readProcess_153 {l : Launch} {K : a_KT} {g : a_GT} {IA : iT} {D0 : Nat} {R : sc_12actT} (hko : a_kok K) (hB : 458 ≤ D0 + 1) (hR : sc_12act_ok l K g D0 R) {F : fT} {k6 : iT → jT → Int32 → Int32 → Int32 → Option (Int32 × iT × jT)} (hk6 : ∀ (I : iT) (J : jT) (x1 : Int32) (x2 : Int32) (x3 : Int32) (_ : FOK F) (q : Int32 × iT × jT), k6 I J x1 x2 x3 = some q → E l K g (D0 + 1) 0 0 yX12_readProcess cX12_readProcess 5 (some .boolean) 6 [.ref 186, .int x1, .int x2, .int x3, .null] [] (hg IA I J F) (fun r2 h2 => r2 = some (.int q.1) ∧ h2 = hg IA q.2.1 q.2.2 F)) (I : iT) (J : jT) (x1 : Int32) (x2 : Int32) (x3 : Int32) (x4 : Int32) (hF : FOK F) (q : Int32 × iT × jT) (hm : mX12_readProcess_153 R k6 I J x1 x2 x3 x4 = some q) : E l K g (D0 + 1) 0 0 yX12_readProcess cX12_readProcess 5 (some .boolean) 153 [.ref 186, .int x1, .int x2, .int x3, .int x4] [] (hg IA I J F) (fun r2 h2 => r2 = some (.int q.1) ∧ h2 = hg IA q.2.1 q.2.2 F) := by
  unfold mX12_readProcess_153 at hm
  refine e_aload_n (i := 0) rfl dX12_readProcess_153 ?_
  refine l_getI 12 49 dX12_readProcess_154 fl_RX12_331 rfl iz_186 (by decide) ?_
  refine q_istore_n (i := 2) (by decide) rfl dX12_readProcess_157 ?_
  refine e_iload (i := 4) rfl dX12_readProcess_158 ?_
  refine e_bipush (v := 115) (by decide) dX12_readProcess_160 ?_
  refine e_icmp_eq 193 dX12_readProcess_162 (by decide) (fun c_162 => ?_) (fun c_162 => ?_)
  · have hm := it_p c_162 hm
    refine e_weak [.ref 186, .int x1, .int (I 186 49), .int x3, .int x4] ⟨rfl, ⟨rfl, ⟨rfl, ⟨rfl, ⟨rfl, trivial⟩⟩⟩⟩⟩ ?_
    exact tX12_readProcess_193 hko hB hR (hk6) I J x1 (I 186 49) x3 x4 hF _ hm
  · have hm := it_n c_162 hm
    refine e_iload (i := 4) rfl dX12_readProcess_165 ?_
    refine e_bipush (v := 108) (by decide) dX12_readProcess_167 ?_
    refine e_icmp_eq 193 dX12_readProcess_169 (by decide) (fun c_169 => ?_) (fun c_169 => ?_)
    · have hm := it_p c_169 hm
      refine e_weak [.ref 186, .int x1, .int (I 186 49), .int x3, .int x4] ⟨rfl, ⟨rfl, ⟨rfl, ⟨rfl, ⟨rfl, trivial⟩⟩⟩⟩⟩ ?_
      exact tX12_readProcess_193 hko hB hR (hk6) I J x1 (I 186 49) x3 x4 hF _ hm
    · have hm := it_n c_169 hm
      refine e_iload (i := 4) rfl dX12_readProcess_172 ?_
      refine e_bipush (v := 111) (by decide) dX12_readProcess_174 ?_
      refine e_icmp_eq 193 dX12_readProcess_176 (by decide) (fun c_176 => ?_) (fun c_176 => ?_)
      · have hm := it_p c_176 hm
        refine e_weak [.ref 186, .int x1, .int (I 186 49), .int x3, .int x4] ⟨rfl, ⟨rfl, ⟨rfl, ⟨rfl, ⟨rfl, trivial⟩⟩⟩⟩⟩ ?_
        exact tX12_readProcess_193 hko hB hR (hk6) I J x1 (I 186 49) x3 x4 hF _ hm
      · have hm := it_n c_176 hm
        refine e_iload (i := 4) rfl dX12_readProcess_179 ?_
        refine e_bipush (v := 110) (by decide) dX12_readProcess_181 ?_
        refine e_icmp_eq 193 dX12_readProcess_183 (by decide) (fun c_183 => ?_) (fun c_183 => ?_)
        · have hm := it_p c_183 hm
          refine e_weak [.ref 186, .int x1, .int (I 186 49), .int x3, .int x4] ⟨rfl, ⟨rfl, ⟨rfl, ⟨rfl, ⟨rfl, trivial⟩⟩⟩⟩⟩ ?_
          exact tX12_readProcess_193 hko hB hR (hk6) I J x1 (I 186 49) x3 x4 hF _ hm
        · have hm := it_n c_183 hm
          refine e_iload (i := 4) rfl dX12_readProcess_186 ?_
          refine e_bipush (v := 112) (by decide) dX12_readProcess_188 ?_
          refine e_icmp_ne 197 dX12_readProcess_190 (by decide) (fun c_190 => ?_) (fun c_190 => ?_)
          · have hm := it_n c_190 hm
            refine e_iconst (v := 0) (by decide) dX12_readProcess_197 ?_
            refine e_weak [.ref 186, .int x1, .int (I 186 49), .int x3, .int x4] ⟨rfl, ⟨rfl, ⟨rfl, ⟨rfl, ⟨rfl, trivial⟩⟩⟩⟩⟩ ?_
            exact tX12_readProcess_198 hko hB hR (hk6) I J x1 (I 186 49) x3 x4 0 hF _ hm
          · have hm := it_p c_190 hm
            refine e_weak [.ref 186, .int x1, .int (I 186 49), .int x3, .int x4] ⟨rfl, ⟨rfl, ⟨rfl, ⟨rfl, ⟨rfl, trivial⟩⟩⟩⟩⟩ ?_
            exact tX12_readProcess_193 hko hB hR (hk6) I J x1 (I 186 49) x3 x4 hF _ hm
set_option maxRecDepth 100000 in
set_option maxHeartbeats 4000000 in
theorem tX12_readProcess_119 {l : Launch} {K : a_KT} {g : a_GT} {IA : iT} {D0 : Nat} {R : sc_12actT} (hko : a_kok K) (hB : 458 ≤ D0 + 1) (hR : sc_12act_ok l K g D0 R) {F : fT} {k6 : iT → jT → Int32 → Int32 → Int32 → Option (Int32 × iT × jT)} (hk6 : ∀ (I : iT) (J : jT) (x1 : Int32) (x2 : Int32) (x3 : Int32) (_ : FOK F) (q : Int32 × iT × jT), k6 I J x1 x2 x3 = some q → E l K g (D0 + 1) 0 0 yX12_readProcess cX12_readProcess 5 (some .boolean) 6 [.ref 186, .int x1, .int x2, .int x3, .null] [] (hg IA I J F) (fun r2 h2 => r2 = some (.int q.1) ∧ h2 = hg IA q.2.1 q.2.2 F)) (I : iT) (J : jT) (x1 : Int32) (x2 : Int32) (x3 : Int32) (x4 : Int32) (hF : FOK F) (q : Int32 × iT × jT) (hm : mX12_readProcess_119 R k6 I J x1 x2 x3 x4 = some q) : E l K g (D0 + 1) 0 0 yX12_readProcess cX12_readProcess 5 (some .boolean) 119 [.ref 186, .int x1, .int x2, .int x3, .int x4] [] (hg IA I J F) (fun r2 h2 => r2 = some (.int q.1) ∧ h2 = hg IA q.2.1 q.2.2 F) := by
  unfold mX12_readProcess_119 at hm
  refine e_aload_n (i := 0) rfl dX12_readProcess_119 ?_
  refine e_iload (i := 4) rfl dX12_readProcess_120 ?_
  obtain ⟨q2, eq2, hm⟩ := ob_some hm
  refine e_cV1 hko dX12_readProcess_122 ml_RX12_328 iz_186 (by decide) rfl (by omega) (Nat.le_of_ble_eq_true rfl) (hR.1 I J F x4 hF q2 eq2) ?_
  rintro _ _ ⟨rfl, rfl⟩
  refine e_if_ne 130 dX12_readProcess_125 (by decide) (fun c_125 => ?_) (fun c_125 => ?_)
  · have hm := it_n c_125 hm
    refine e_iload_n (i := 1) rfl dX12_readProcess_130 ?_
    refine e_iconst (v := (-1)) (by decide) dX12_readProcess_131 ?_
    refine e_icmp_ne 143 dX12_readProcess_132 (by decide) (fun c_132 => ?_) (fun c_132 => ?_)
    · have hm := it_n c_132 hm
      refine e_aload_n (i := 0) rfl dX12_readProcess_143 ?_
      refine q_getF 12 14 191 dX12_readProcess_144 fl_RX12_26 rfl iz_186 (fr_186_14 hF) ?_
      refine e_iload_n (i := 2) rfl dX12_readProcess_147 ?_
      refine e_aload_n (i := 0) rfl dX12_readProcess_148 ?_
      refine l_getI 12 49 dX12_readProcess_149 fl_RX12_331 rfl iz_186 (by decide) ?_
      obtain ⟨c_152, hm⟩ := gd_s hm
      refine l_iast dX12_readProcess_152 iz_191 (inb_in ln_191 c_152) (by decide) ?_
      refine e_weak [.ref 186, .int x1, .int x2, .int x3, .int x4] ⟨rfl, ⟨rfl, ⟨rfl, ⟨rfl, ⟨rfl, trivial⟩⟩⟩⟩⟩ ?_
      exact tX12_readProcess_153 hko hB hR (hk6) (a_u2 q2.2.1 191 x2.toNatClampNeg (q2.2.1 186 49)) q2.2.2 x1 x2 x3 x4 hF _ hm
    · have hm := it_p c_132 hm
      refine e_aload_n (i := 0) rfl dX12_readProcess_135 ?_
      refine l_getI 12 49 dX12_readProcess_136 fl_RX12_331 rfl iz_186 (by decide) ?_
      refine q_istore_n (i := 1) (by decide) rfl dX12_readProcess_139 ?_
      refine e_goto 153 dX12_readProcess_140 (by decide) ?_
      refine e_weak [.ref 186, .int (q2.2.1 186 49), .int x2, .int x3, .int x4] ⟨rfl, ⟨rfl, ⟨rfl, ⟨rfl, ⟨rfl, trivial⟩⟩⟩⟩⟩ ?_
      exact tX12_readProcess_153 hko hB hR (hk6) q2.2.1 q2.2.2 (q2.2.1 186 49) x2 x3 x4 hF _ hm
  · have hm := it_p c_125 hm
    refine e_iconst (v := 0) (by decide) dX12_readProcess_128 ?_
    refine e_zret dX12_readProcess_129 rfl rfl ?_
    have hm := some_in hm
    subst hm
    exact ⟨rfl, rfl⟩
set_option maxRecDepth 100000 in
set_option maxHeartbeats 4000000 in
theorem tX12_readProcess_83 {l : Launch} {K : a_KT} {g : a_GT} {IA : iT} {D0 : Nat} {R : sc_12actT} (hko : a_kok K) (hB : 458 ≤ D0 + 1) (hR : sc_12act_ok l K g D0 R) {F : fT} {k6 : iT → jT → Int32 → Int32 → Int32 → Option (Int32 × iT × jT)} (hk6 : ∀ (I : iT) (J : jT) (x1 : Int32) (x2 : Int32) (x3 : Int32) (_ : FOK F) (q : Int32 × iT × jT), k6 I J x1 x2 x3 = some q → E l K g (D0 + 1) 0 0 yX12_readProcess cX12_readProcess 5 (some .boolean) 6 [.ref 186, .int x1, .int x2, .int x3, .null] [] (hg IA I J F) (fun r2 h2 => r2 = some (.int q.1) ∧ h2 = hg IA q.2.1 q.2.2 F)) (I : iT) (J : jT) (x1 : Int32) (x2 : Int32) (x3 : Int32) (x4 : Int32) (hF : FOK F) (q : Int32 × iT × jT) (hm : mX12_readProcess_83 R k6 I J x1 x2 x3 x4 = some q) : E l K g (D0 + 1) 0 0 yX12_readProcess cX12_readProcess 5 (some .boolean) 83 [.ref 186, .int x1, .int x2, .int x3, .int x4] [] (hg IA I J F) (fun r2 h2 => r2 = some (.int q.1) ∧ h2 = hg IA q.2.1 q.2.2 F) := by
  unfold mX12_readProcess_83 at hm
  refine e_iload (i := 4) rfl dX12_readProcess_83 ?_
  refine e_bipush (v := 112) (by decide) dX12_readProcess_85 ?_
  refine e_icmp_eq 119 dX12_readProcess_87 (by decide) (fun c_87 => ?_) (fun c_87 => ?_)
  · have hm := it_p c_87 hm
    refine e_weak [.ref 186, .int x1, .int x2, .int x3, .int x4] ⟨rfl, ⟨rfl, ⟨rfl, ⟨rfl, ⟨rfl, trivial⟩⟩⟩⟩⟩ ?_
    exact tX12_readProcess_119 hko hB hR (hk6) I J x1 x2 x3 x4 hF _ hm
  · have hm := it_n c_87 hm
    refine e_aload_n (i := 0) rfl dX12_readProcess_90 ?_
    refine l_getI 12 44 dX12_readProcess_91 fl_RX12_325 rfl iz_186 (by decide) ?_
    refine e_bipush (v := 80) (by decide) dX12_readProcess_94 ?_
    refine e_icmp_ne 109 dX12_readProcess_96 (by decide) (fun c_96 => ?_) (fun c_96 => ?_)
    · have hm := it_n c_96 hm
      refine e_aload_n (i := 0) rfl dX12_readProcess_109 ?_
      refine e_dup rfl dX12_readProcess_110 ?_
      refine l_getI 12 44 dX12_readProcess_111 fl_RX12_325 rfl iz_186 (by decide) ?_
      refine e_iconst (v := 1) (by decide) dX12_readProcess_114 ?_
      refine e_iadd dX12_readProcess_115 ?_
      refine l_putI 12 44 dX12_readProcess_116 fl_RX12_325 rfl rfl iz_186 (by decide) ?_
      refine e_weak [.ref 186, .int x1, .int x2, .int x3, .int x4] ⟨rfl, ⟨rfl, ⟨rfl, ⟨rfl, ⟨rfl, trivial⟩⟩⟩⟩⟩ ?_
      exact tX12_readProcess_119 hko hB hR (hk6) (a_u2 I 186 44 ((I 186 44) + 1)) J x1 x2 x3 x4 hF _ hm
    · have hm := it_p c_96 hm
      refine e_aload_n (i := 0) rfl dX12_readProcess_99 ?_
      refine e_iconst (v := 5) (by decide) dX12_readProcess_100 ?_
      refine e_aload_n (i := 0) rfl dX12_readProcess_101 ?_
      refine l_getI 12 4 dX12_readProcess_102 fl_RX12_207 rfl iz_186 (by decide) ?_
      obtain ⟨q3, eq3, hm⟩ := ob_some hm
      refine e_cV2 hko dX12_readProcess_105 ml_RX12_232 iz_186 (by decide) rfl (by omega) (Nat.le_of_ble_eq_true rfl) (tX12_bad hko I J F hF 5 (I 186 4) _ eq3) ?_
      rintro _ _ ⟨rfl, rfl⟩
      obtain ⟨c_108, hm⟩ := gd_s hm
      refine e_zret dX12_readProcess_108 rfl (zz_nar c_108) ?_
      have hm := some_in hm
      subst hm
      exact ⟨rfl, rfl⟩
set_option maxRecDepth 100000 in
set_option maxHeartbeats 4000000 in
theorem tX12_readProcess_59 {l : Launch} {K : a_KT} {g : a_GT} {IA : iT} {D0 : Nat} {R : sc_12actT} (hko : a_kok K) (hB : 458 ≤ D0 + 1) (hR : sc_12act_ok l K g D0 R) {F : fT} {k6 : iT → jT → Int32 → Int32 → Int32 → Option (Int32 × iT × jT)} (hk6 : ∀ (I : iT) (J : jT) (x1 : Int32) (x2 : Int32) (x3 : Int32) (_ : FOK F) (q : Int32 × iT × jT), k6 I J x1 x2 x3 = some q → E l K g (D0 + 1) 0 0 yX12_readProcess cX12_readProcess 5 (some .boolean) 6 [.ref 186, .int x1, .int x2, .int x3, .null] [] (hg IA I J F) (fun r2 h2 => r2 = some (.int q.1) ∧ h2 = hg IA q.2.1 q.2.2 F)) (I : iT) (J : jT) (x1 : Int32) (x2 : Int32) (x3 : Int32) (x4 : Int32) (hF : FOK F) (q : Int32 × iT × jT) (hm : mX12_readProcess_59 R k6 I J x1 x2 x3 x4 = some q) : E l K g (D0 + 1) 0 0 yX12_readProcess cX12_readProcess 5 (some .boolean) 59 [.ref 186, .int x1, .int x2, .int x3, .int x4] [] (hg IA I J F) (fun r2 h2 => r2 = some (.int q.1) ∧ h2 = hg IA q.2.1 q.2.2 F) := by
  unfold mX12_readProcess_59 at hm
  refine e_iload (i := 4) rfl dX12_readProcess_59 ?_
  refine e_bipush (v := 115) (by decide) dX12_readProcess_61 ?_
  refine e_icmp_ne 83 dX12_readProcess_63 (by decide) (fun c_63 => ?_) (fun c_63 => ?_)
  · have hm := it_n c_63 hm
    refine e_weak [.ref 186, .int x1, .int x2, .int x3, .int x4] ⟨rfl, ⟨rfl, ⟨rfl, ⟨rfl, ⟨rfl, trivial⟩⟩⟩⟩⟩ ?_
    exact tX12_readProcess_83 hko hB hR (hk6) I J x1 x2 x3 x4 hF _ hm
  · have hm := it_p c_63 hm
    refine e_aload_n (i := 0) rfl dX12_readProcess_66 ?_
    obtain ⟨q4, eq4, hm⟩ := ob_some hm
    refine e_cV0 hko dX12_readProcess_67 ml_RX12_322 iz_186 (by decide) rfl (by omega) (Nat.le_of_ble_eq_true rfl) (tX12_has hko I J F hF _ eq4) ?_
    rintro _ _ ⟨rfl, rfl⟩
    refine e_if_eq 83 dX12_readProcess_70 (by decide) (fun c_70 => ?_) (fun c_70 => ?_)
    · have hm := it_p c_70 hm
      refine e_weak [.ref 186, .int x1, .int x2, .int x3, .int x4] ⟨rfl, ⟨rfl, ⟨rfl, ⟨rfl, ⟨rfl, trivial⟩⟩⟩⟩⟩ ?_
      exact tX12_readProcess_83 hko hB hR (hk6) I J x1 x2 x3 x4 hF _ hm
    · have hm := it_n c_70 hm
      refine e_aload_n (i := 0) rfl dX12_readProcess_73 ?_
      refine e_iconst (v := 4) (by decide) dX12_readProcess_74 ?_
      refine e_aload_n (i := 0) rfl dX12_readProcess_75 ?_
      refine l_getI 12 4 dX12_readProcess_76 fl_RX12_207 rfl iz_186 (by decide) ?_
      obtain ⟨q5, eq5, hm⟩ := ob_some hm
      refine e_cV2 hko dX12_readProcess_79 ml_RX12_232 iz_186 (by decide) rfl (by omega) (Nat.le_of_ble_eq_true rfl) (tX12_bad hko I J F hF 4 (I 186 4) _ eq5) ?_
      rintro _ _ ⟨rfl, rfl⟩
      obtain ⟨c_82, hm⟩ := gd_s hm
      refine e_zret dX12_readProcess_82 rfl (zz_nar c_82) ?_
      have hm := some_in hm
      subst hm
      exact ⟨rfl, rfl⟩
set_option maxRecDepth 100000 in
set_option maxHeartbeats 4000000 in
theorem tX12_readProcess_6 {l : Launch} {K : a_KT} {g : a_GT} {IA : iT} {D0 : Nat} {R : sc_12actT} (hko : a_kok K) (hB : 458 ≤ D0 + 1) (hR : sc_12act_ok l K g D0 R) {F : fT} : ∀ (n : Nat) (I : iT) (J : jT) (x1 : Int32) (x2 : Int32) (x3 : Int32) (hF : FOK F) (q : Int32 × iT × jT), mX12_readProcess_6 R n I J x1 x2 x3 = some q → E l K g (D0 + 1) 0 0 yX12_readProcess cX12_readProcess 5 (some .boolean) 6 [.ref 186, .int x1, .int x2, .int x3, .null] [] (hg IA I J F) (fun r2 h2 => r2 = some (.int q.1) ∧ h2 = hg IA q.2.1 q.2.2 F) := by
  intro n
  induction n with
  | zero => intro I J x1 x2 x3 hF q hm; cases hm
  | succ n ih =>
    intro I J x1 x2 x3 hF q hm
    rw [mX12_readProcess_6] at hm
    refine e_iload_n (i := 3) rfl dX12_readProcess_6 ?_
    refine e_if_ne 217 dX12_readProcess_7 (by decide) (fun c_7 => ?_) (fun c_7 => ?_)
    · have hm := it_n c_7 hm
      refine e_aload_n (i := 0) rfl dX12_readProcess_217 ?_
      refine e_iload_n (i := 1) rfl dX12_readProcess_218 ?_
      refine l_putI 12 49 dX12_readProcess_219 fl_RX12_331 rfl rfl iz_186 (by decide) ?_
      refine e_iconst (v := 1) (by decide) dX12_readProcess_222 ?_
      refine e_zret dX12_readProcess_223 rfl rfl ?_
      have hm := some_in hm
      subst hm
      exact ⟨rfl, rfl⟩
    · have hm := it_p c_7 hm
      refine e_aload_n (i := 0) rfl dX12_readProcess_10 ?_
      refine l_getI 12 3 dX12_readProcess_11 fl_RX12_210 rfl iz_186 (by decide) ?_
      refine q_istore (i := 4) (by decide) rfl dX12_readProcess_14 ?_
      refine e_iload (i := 4) rfl dX12_readProcess_16 ?_
      refine e_bipush (v := 103) (by decide) dX12_readProcess_18 ?_
      refine e_bipush (v := 112) (by decide) dX12_readProcess_20 ?_
      obtain ⟨q6, eq6, hm⟩ := ob_some hm
      refine e_cS3 hko dX12_readProcess_22 ml_RX12_154 (by omega) (Nat.le_of_ble_eq_true rfl) (tX12_isIn hko I J F hF (I 186 3) 103 112 _ eq6) ?_
      rintro _ _ ⟨rfl, rfl⟩
      refine e_if_ne 59 dX12_readProcess_25 (by decide) (fun c_25 => ?_) (fun c_25 => ?_)
      · have hm := it_n c_25 hm
        refine e_weak [.ref 186, .int x1, .int x2, .int x3, .int (I 186 3)] ⟨rfl, ⟨rfl, ⟨rfl, ⟨rfl, ⟨rfl, trivial⟩⟩⟩⟩⟩ ?_
        exact tX12_readProcess_59 hko hB hR (ih) I J x1 x2 x3 (I 186 3) hF _ hm
      · have hm := it_p c_25 hm
        refine e_iload (i := 4) rfl dX12_readProcess_28 ?_
        refine e_bipush (v := 114) (by decide) dX12_readProcess_30 ?_
        refine e_icmp_eq 59 dX12_readProcess_32 (by decide) (fun c_32 => ?_) (fun c_32 => ?_)
        · have hm := it_p c_32 hm
          refine e_weak [.ref 186, .int x1, .int x2, .int x3, .int (I 186 3)] ⟨rfl, ⟨rfl, ⟨rfl, ⟨rfl, ⟨rfl, trivial⟩⟩⟩⟩⟩ ?_
          exact tX12_readProcess_59 hko hB hR (ih) I J x1 x2 x3 (I 186 3) hF _ hm
        · have hm := it_n c_32 hm
          refine e_iload (i := 4) rfl dX12_readProcess_35 ?_
          refine e_bipush (v := 115) (by decide) dX12_readProcess_37 ?_
          refine e_icmp_eq 59 dX12_readProcess_39 (by decide) (fun c_39 => ?_) (fun c_39 => ?_)
          · have hm := it_p c_39 hm
            refine e_weak [.ref 186, .int x1, .int x2, .int x3, .int (I 186 3)] ⟨rfl, ⟨rfl, ⟨rfl, ⟨rfl, ⟨rfl, trivial⟩⟩⟩⟩⟩ ?_
            exact tX12_readProcess_59 hko hB hR (ih) I J x1 x2 x3 (I 186 3) hF _ hm
          · have hm := it_n c_39 hm
            refine e_iload (i := 4) rfl dX12_readProcess_42 ?_
            refine e_bipush (v := 116) (by decide) dX12_readProcess_44 ?_
            refine e_icmp_eq 59 dX12_readProcess_46 (by decide) (fun c_46 => ?_) (fun c_46 => ?_)
            · have hm := it_p c_46 hm
              refine e_weak [.ref 186, .int x1, .int x2, .int x3, .int (I 186 3)] ⟨rfl, ⟨rfl, ⟨rfl, ⟨rfl, ⟨rfl, trivial⟩⟩⟩⟩⟩ ?_
              exact tX12_readProcess_59 hko hB hR (ih) I J x1 x2 x3 (I 186 3) hF _ hm
            · have hm := it_n c_46 hm
              refine e_aload_n (i := 0) rfl dX12_readProcess_49 ?_
              refine e_iconst (v := 1) (by decide) dX12_readProcess_50 ?_
              refine e_aload_n (i := 0) rfl dX12_readProcess_51 ?_
              refine l_getI 12 4 dX12_readProcess_52 fl_RX12_207 rfl iz_186 (by decide) ?_
              obtain ⟨q7, eq7, hm⟩ := ob_some hm
              refine e_cV2 hko dX12_readProcess_55 ml_RX12_232 iz_186 (by decide) rfl (by omega) (Nat.le_of_ble_eq_true rfl) (tX12_bad hko I J F hF 1 (I 186 4) _ eq7) ?_
              rintro _ _ ⟨rfl, rfl⟩
              obtain ⟨c_58, hm⟩ := gd_s hm
              refine e_zret dX12_readProcess_58 rfl (zz_nar c_58) ?_
              have hm := some_in hm
              subst hm
              exact ⟨rfl, rfl⟩
set_option maxRecDepth 100000 in
set_option maxHeartbeats 4000000 in
theorem tbX12_readProcess {l : Launch} {K : a_KT} {g : a_GT} {IA : iT} {D0 : Nat} {R : sc_12actT} (hko : a_kok K) (hB : 458 ≤ D0 + 1) (hR : sc_12act_ok l K g D0 R) (I : iT) (J : jT) (F : fT) (hF : FOK F) (q : Int32 × iT × jT) (hm : bX12_readProcess R I J = some q) : C l K g (D0 + 1) 0 0 yX12_readProcess cX12_readProcess 5 (some .boolean) [.ref 186] (hg IA I J F) (fun r2 h2 => r2 = some (.int q.1) ∧ h2 = hg IA q.2.1 q.2.2 F) := by
  unfold bX12_readProcess at hm
  refine c_of [.ref 186, .null, .null, .null, .null] (by decide) (Nat.le_of_ble_eq_true rfl) rfl ?_
  refine e_iconst (v := (-1)) (by decide) dX12_readProcess_0 ?_
  refine q_istore_n (i := 1) (by decide) rfl dX12_readProcess_1 ?_
  refine e_iconst (v := (-1)) (by decide) dX12_readProcess_2 ?_
  refine q_istore_n (i := 2) (by decide) rfl dX12_readProcess_3 ?_
  refine e_iconst (v := 0) (by decide) dX12_readProcess_4 ?_
  refine q_istore_n (i := 3) (by decide) rfl dX12_readProcess_5 ?_
  refine e_weak [.ref 186, .int ((-1)), .int ((-1)), .int 0, .null] ⟨rfl, ⟨rfl, ⟨rfl, ⟨rfl, ⟨trivial, trivial⟩⟩⟩⟩⟩ ?_
  exact tX12_readProcess_6 hko hB hR LF I J ((-1)) ((-1)) 0 hF _ hm
set_option maxRecDepth 100000 in
set_option maxHeartbeats 4000000 in
theorem sc_12act_all {l : Launch} {K : a_KT} {g : a_GT} (hko : a_kok K) : ∀ n : Nat, sc_12act_ok l K g (458 + n) (sc_12act n) := by
  intro n
  induction n with
  | zero => exact ⟨(by intros; rename_i h; cases (show (none : Option _) = some _ from h)), (by intros; rename_i h; cases (show (none : Option _) = some _ from h)), (by intros; rename_i h; cases (show (none : Option _) = some _ from h)), (by intros; rename_i h; cases (show (none : Option _) = some _ from h))⟩
  | succ n ih =>
    exact ⟨fun I J F x1 hF q hm => tbX12_act hko (by omega) ih I J F hF x1 q hm, fun I J F hF q hm => tbX12_asks hko (by omega) ih I J F hF q hm, fun I J F hF q hm => tbX12_cases hko (by omega) ih I J F hF q hm, fun I J F hF q hm => tbX12_readProcess hko (by omega) ih I J F hF q hm⟩
theorem tX12_act {l : Launch} {K : a_KT} {g : a_GT} {IA : iT} (hko : a_kok K) (I : iT) (J : jT) (F : fT) (hF : FOK F) (x1 : Int32) (q : Int32 × iT × jT) (hm : mX12_act SF I J x1 = some q) : C l K g 908 0 0 yX12_act cX12_act 4 (some .boolean) [.ref 186, .int x1] (hg IA I J F) (fun r2 h2 => r2 = some (.int q.1) ∧ h2 = hg IA q.2.1 q.2.2 F) := (sc_12act_all hko SF).1 I J F x1 hF q hm
theorem tX12_asks {l : Launch} {K : a_KT} {g : a_GT} {IA : iT} (hko : a_kok K) (I : iT) (J : jT) (F : fT) (hF : FOK F) (q : Int32 × iT × jT) (hm : mX12_asks SF I J = some q) : C l K g 908 0 0 yX12_asks cX12_asks 5 (some .boolean) [.ref 186] (hg IA I J F) (fun r2 h2 => r2 = some (.int q.1) ∧ h2 = hg IA q.2.1 q.2.2 F) := (sc_12act_all hko SF).2.1 I J F hF q hm
theorem tX12_cases {l : Launch} {K : a_KT} {g : a_GT} {IA : iT} (hko : a_kok K) (I : iT) (J : jT) (F : fT) (hF : FOK F) (q : Int32 × iT × jT) (hm : mX12_cases SF I J = some q) : C l K g 908 0 0 yX12_cases cX12_cases 9 (some .boolean) [.ref 186] (hg IA I J F) (fun r2 h2 => r2 = some (.int q.1) ∧ h2 = hg IA q.2.1 q.2.2 F) := (sc_12act_all hko SF).2.2.1 I J F hF q hm
theorem tX12_readProcess {l : Launch} {K : a_KT} {g : a_GT} {IA : iT} (hko : a_kok K) (I : iT) (J : jT) (F : fT) (hF : FOK F) (q : Int32 × iT × jT) (hm : mX12_readProcess SF I J = some q) : C l K g 908 0 0 yX12_readProcess cX12_readProcess 5 (some .boolean) [.ref 186] (hg IA I J F) (fun r2 h2 => r2 = some (.int q.1) ∧ h2 = hg IA q.2.1 q.2.2 F) := (sc_12act_all hko SF).2.2.2 I J F hF q hm
theorem dX12_aligned_0 : decode cX12_aligned 0 = .ok (.lload_n 0, 1) := by decide +kernel
theorem dX12_aligned_1 : decode cX12_aligned 1 = .ok (.lstore_n 2, 1) := by decide +kernel
theorem dX12_aligned_2 : decode cX12_aligned 2 = .ok (.lload_n 2, 1) := by decide +kernel
theorem dX12_aligned_3 : decode cX12_aligned 3 = .ok (.bipush 40, 2) := by decide +kernel
theorem dX12_aligned_5 : decode cX12_aligned 5 = .ok (.lshr, 1) := by decide +kernel
theorem dX12_aligned_6 : decode cX12_aligned 6 = .ok (.lconst 0, 1) := by decide +kernel
theorem dX12_aligned_7 : decode cX12_aligned 7 = .ok (.lcmp, 1) := by decide +kernel
theorem dX12_aligned_8 : decode cX12_aligned 8 = .ok (.ifCond .ne 11, 3) := by decide +kernel
theorem dX12_aligned_11 : decode cX12_aligned 11 = .ok (.lload_n 2, 1) := by decide +kernel
theorem dX12_aligned_12 : decode cX12_aligned 12 = .ok (.bipush 8, 2) := by decide +kernel
theorem dX12_aligned_14 : decode cX12_aligned 14 = .ok (.lshl, 1) := by decide +kernel
theorem dX12_aligned_15 : decode cX12_aligned 15 = .ok (.lstore_n 2, 1) := by decide +kernel
theorem dX12_aligned_16 : decode cX12_aligned 16 = .ok (.goto (-14), 3) := by decide +kernel
theorem dX12_aligned_19 : decode cX12_aligned 19 = .ok (.lload_n 2, 1) := by decide +kernel
theorem dX12_aligned_20 : decode cX12_aligned 20 = .ok (.lreturn, 1) := by decide +kernel
def mX12_aligned_2 : Nat → Int64 → Int64 → Option (Int64)
  | 0, _, _ => none
  | n + 1, w0, w2 => if (lg_cmp (w2 >>> ((Int32.toInt64 40) &&& 63)) 0) = 0 then mX12_aligned_2 n w0 (w2 <<< ((Int32.toInt64 8) &&& 63)) else some w2
def mX12_aligned (w0 : Int64) : Option (Int64) := mX12_aligned_2 LF w0 w0
set_option maxRecDepth 100000 in
set_option maxHeartbeats 4000000 in
theorem tX12_aligned_2 {l : Launch} {K : a_KT} {g : a_GT} {IA : iT} (hko : a_kok K) {I : iT} {J : jT} {F : fT} : ∀ (n : Nat) (w0 : Int64) (w2 : Int64) (hF : FOK F) (q : Int64), mX12_aligned_2 n w0 w2 = some q → E l K g 0 0 0 yX12_aligned cX12_aligned 4 (some .long) 2 [.long w0, .null, .long w2, .null] [] (hg IA I J F) (fun r2 h2 => r2 = some (.long q) ∧ h2 = hg IA I J F) := by
  intro n
  induction n with
  | zero => intro w0 w2 hF q hm; cases hm
  | succ n ih =>
    intro w0 w2 hF q hm
    rw [mX12_aligned_2] at hm
    refine e_lload_n (i := 2) rfl dX12_aligned_2 ?_
    refine e_bipush (v := 40) (by decide) dX12_aligned_3 ?_
    refine e_lshr dX12_aligned_5 ?_
    refine e_lconst (v := 0) (by decide) dX12_aligned_6 ?_
    refine e_lcmp dX12_aligned_7 ?_
    refine e_if_ne 19 dX12_aligned_8 (by decide) (fun c_8 => ?_) (fun c_8 => ?_)
    · have hm := it_n c_8 hm
      refine e_lload_n (i := 2) rfl dX12_aligned_19 ?_
      refine e_lret dX12_aligned_20 rfl ?_
      have hm := some_in hm
      subst hm
      exact ⟨rfl, rfl⟩
    · have hm := it_p c_8 hm
      refine e_lload_n (i := 2) rfl dX12_aligned_11 ?_
      refine e_bipush (v := 8) (by decide) dX12_aligned_12 ?_
      refine e_lshl dX12_aligned_14 ?_
      refine e_lstore_n (i := 2) (by decide) dX12_aligned_15 ?_
      refine e_goto 2 dX12_aligned_16 (by decide) ?_
      refine e_weak [.long w0, .null, .long (w2 <<< ((Int32.toInt64 8) &&& 63)), .null] ⟨rfl, ⟨trivial, ⟨rfl, ⟨trivial, trivial⟩⟩⟩⟩ ?_
      exact ih w0 (w2 <<< ((Int32.toInt64 8) &&& 63)) hF _ hm
set_option maxRecDepth 100000 in
set_option maxHeartbeats 4000000 in
theorem tX12_aligned {l : Launch} {K : a_KT} {g : a_GT} {IA : iT} (hko : a_kok K) (I : iT) (J : jT) (F : fT) (hF : FOK F) (w0 : Int64) (q : Int64) (hm : mX12_aligned w0 = some q) : C l K g 0 0 0 yX12_aligned cX12_aligned 4 (some .long) [.long w0] (hg IA I J F) (fun r2 h2 => r2 = some (.long q) ∧ h2 = hg IA I J F) := by
  unfold mX12_aligned at hm
  refine c_of [.long w0, .null, .null, .null] (by decide) (Nat.le_of_ble_eq_true rfl) rfl ?_
  refine e_lload_n (i := 0) rfl dX12_aligned_0 ?_
  refine e_lstore_n (i := 2) (by decide) dX12_aligned_1 ?_
  refine e_weak [.long w0, .null, .long w0, .null] ⟨rfl, ⟨trivial, ⟨rfl, ⟨trivial, trivial⟩⟩⟩⟩ ?_
  exact tX12_aligned_2 hko LF w0 w0 hF _ hm
theorem dX12_append_0 : decode cX12_append 0 = .ok (.aload_n 0, 1) := by decide +kernel
theorem dX12_append_1 : decode cX12_append 1 = .ok (.getfield 118, 3) := by decide +kernel
theorem dX12_append_4 : decode cX12_append 4 = .ok (.iload_n 2, 1) := by decide +kernel
theorem dX12_append_5 : decode cX12_append 5 = .ok (.iaload, 1) := by decide +kernel
theorem dX12_append_6 : decode cX12_append 6 = .ok (.iconst (-1), 1) := by decide +kernel
theorem dX12_append_7 : decode cX12_append 7 = .ok (.if_icmp .ne 12, 3) := by decide +kernel
theorem dX12_append_10 : decode cX12_append 10 = .ok (.aload_n 0, 1) := by decide +kernel
theorem dX12_append_11 : decode cX12_append 11 = .ok (.getfield 118, 3) := by decide +kernel
theorem dX12_append_14 : decode cX12_append 14 = .ok (.iload_n 3, 1) := by decide +kernel
theorem dX12_append_15 : decode cX12_append 15 = .ok (.iaload, 1) := by decide +kernel
theorem dX12_append_16 : decode cX12_append 16 = .ok (.goto 9, 3) := by decide +kernel
theorem dX12_append_19 : decode cX12_append 19 = .ok (.aload_n 0, 1) := by decide +kernel
theorem dX12_append_20 : decode cX12_append 20 = .ok (.getfield 118, 3) := by decide +kernel
theorem dX12_append_23 : decode cX12_append 23 = .ok (.iload_n 2, 1) := by decide +kernel
theorem dX12_append_24 : decode cX12_append 24 = .ok (.iaload, 1) := by decide +kernel
theorem dX12_append_25 : decode cX12_append 25 = .ok (.istore 4, 2) := by decide +kernel
theorem dX12_append_27 : decode cX12_append 27 = .ok (.aload_n 0, 1) := by decide +kernel
theorem dX12_append_28 : decode cX12_append 28 = .ok (.getfield 118, 3) := by decide +kernel
theorem dX12_append_31 : decode cX12_append 31 = .ok (.iload_n 3, 1) := by decide +kernel
theorem dX12_append_32 : decode cX12_append 32 = .ok (.iaload, 1) := by decide +kernel
theorem dX12_append_33 : decode cX12_append 33 = .ok (.iconst (-1), 1) := by decide +kernel
theorem dX12_append_34 : decode cX12_append 34 = .ok (.if_icmp .ne 12, 3) := by decide +kernel
theorem dX12_append_37 : decode cX12_append 37 = .ok (.aload_n 0, 1) := by decide +kernel
theorem dX12_append_38 : decode cX12_append 38 = .ok (.getfield 121, 3) := by decide +kernel
theorem dX12_append_41 : decode cX12_append 41 = .ok (.iload_n 2, 1) := by decide +kernel
theorem dX12_append_42 : decode cX12_append 42 = .ok (.iaload, 1) := by decide +kernel
theorem dX12_append_43 : decode cX12_append 43 = .ok (.goto 9, 3) := by decide +kernel
theorem dX12_append_46 : decode cX12_append 46 = .ok (.aload_n 0, 1) := by decide +kernel
theorem dX12_append_47 : decode cX12_append 47 = .ok (.getfield 121, 3) := by decide +kernel
theorem dX12_append_50 : decode cX12_append 50 = .ok (.iload_n 3, 1) := by decide +kernel
theorem dX12_append_51 : decode cX12_append 51 = .ok (.iaload, 1) := by decide +kernel
theorem dX12_append_52 : decode cX12_append 52 = .ok (.istore 5, 2) := by decide +kernel
theorem dX12_append_54 : decode cX12_append 54 = .ok (.aload_n 0, 1) := by decide +kernel
theorem dX12_append_55 : decode cX12_append 55 = .ok (.getfield 118, 3) := by decide +kernel
theorem dX12_append_58 : decode cX12_append 58 = .ok (.iload_n 2, 1) := by decide +kernel
theorem dX12_append_59 : decode cX12_append 59 = .ok (.iaload, 1) := by decide +kernel
theorem dX12_append_60 : decode cX12_append 60 = .ok (.iconst (-1), 1) := by decide +kernel
theorem dX12_append_61 : decode cX12_append 61 = .ok (.if_icmp .eq 30, 3) := by decide +kernel
theorem dX12_append_64 : decode cX12_append 64 = .ok (.aload_n 0, 1) := by decide +kernel
theorem dX12_append_65 : decode cX12_append 65 = .ok (.getfield 118, 3) := by decide +kernel
theorem dX12_append_68 : decode cX12_append 68 = .ok (.iload_n 3, 1) := by decide +kernel
theorem dX12_append_69 : decode cX12_append 69 = .ok (.iaload, 1) := by decide +kernel
theorem dX12_append_70 : decode cX12_append 70 = .ok (.iconst (-1), 1) := by decide +kernel
theorem dX12_append_71 : decode cX12_append 71 = .ok (.if_icmp .eq 20, 3) := by decide +kernel
theorem dX12_append_74 : decode cX12_append 74 = .ok (.aload_n 0, 1) := by decide +kernel
theorem dX12_append_75 : decode cX12_append 75 = .ok (.getfield 130, 3) := by decide +kernel
theorem dX12_append_78 : decode cX12_append 78 = .ok (.aload_n 0, 1) := by decide +kernel
theorem dX12_append_79 : decode cX12_append 79 = .ok (.getfield 121, 3) := by decide +kernel
theorem dX12_append_82 : decode cX12_append 82 = .ok (.iload_n 2, 1) := by decide +kernel
theorem dX12_append_83 : decode cX12_append 83 = .ok (.iaload, 1) := by decide +kernel
theorem dX12_append_84 : decode cX12_append 84 = .ok (.aload_n 0, 1) := by decide +kernel
theorem dX12_append_85 : decode cX12_append 85 = .ok (.getfield 118, 3) := by decide +kernel
theorem dX12_append_88 : decode cX12_append 88 = .ok (.iload_n 3, 1) := by decide +kernel
theorem dX12_append_89 : decode cX12_append 89 = .ok (.iaload, 1) := by decide +kernel
theorem dX12_append_90 : decode cX12_append 90 = .ok (.iastore, 1) := by decide +kernel
theorem dX12_append_91 : decode cX12_append 91 = .ok (.aload_n 0, 1) := by decide +kernel
theorem dX12_append_92 : decode cX12_append 92 = .ok (.getfield 118, 3) := by decide +kernel
theorem dX12_append_95 : decode cX12_append 95 = .ok (.iload_n 1, 1) := by decide +kernel
theorem dX12_append_96 : decode cX12_append 96 = .ok (.iload 4, 2) := by decide +kernel
theorem dX12_append_98 : decode cX12_append 98 = .ok (.iastore, 1) := by decide +kernel
theorem dX12_append_99 : decode cX12_append 99 = .ok (.aload_n 0, 1) := by decide +kernel
theorem dX12_append_100 : decode cX12_append 100 = .ok (.getfield 121, 3) := by decide +kernel
theorem dX12_append_103 : decode cX12_append 103 = .ok (.iload_n 1, 1) := by decide +kernel
theorem dX12_append_104 : decode cX12_append 104 = .ok (.iload 5, 2) := by decide +kernel
theorem dX12_append_106 : decode cX12_append 106 = .ok (.iastore, 1) := by decide +kernel
theorem dX12_append_107 : decode cX12_append 107 = .ok (.return_, 1) := by decide +kernel
def mX12_append_91 (I : iT) (x1 : Int32) (x2 : Int32) (x3 : Int32) (x4 : Int32) (x5 : Int32) : Option (iT) := if inb x1 160 then if inb x1 160 then some (a_u2 (a_u2 I 221 x1.toNatClampNeg x4) 222 x1.toNatClampNeg x5) else none else none
def mX12_append_52 (I : iT) (x1 : Int32) (x2 : Int32) (x3 : Int32) (x4 : Int32) (s0 : Int32) : Option (iT) := if inb x2 160 then if (I 221 x2.toNatClampNeg) = ((-1)) then mX12_append_91 I x1 x2 x3 x4 s0 else if inb x3 160 then if (I 221 x3.toNatClampNeg) = ((-1)) then mX12_append_91 I x1 x2 x3 x4 s0 else if inb x2 160 then if inb x3 160 then if inb (I 222 x2.toNatClampNeg) 700 then mX12_append_91 (a_u2 I 225 (I 222 x2.toNatClampNeg).toNatClampNeg (I 221 x3.toNatClampNeg)) x1 x2 x3 x4 s0 else none else none else none else none else none
def mX12_append_25 (I : iT) (x1 : Int32) (x2 : Int32) (x3 : Int32) (s0 : Int32) : Option (iT) := if inb x3 160 then if (I 221 x3.toNatClampNeg) = ((-1)) then if inb x2 160 then mX12_append_52 I x1 x2 x3 s0 (I 222 x2.toNatClampNeg) else none else if inb x3 160 then mX12_append_52 I x1 x2 x3 s0 (I 222 x3.toNatClampNeg) else none else none
def mX12_append (I : iT) (x1 : Int32) (x2 : Int32) (x3 : Int32) : Option (iT) := if inb x2 160 then if (I 221 x2.toNatClampNeg) = ((-1)) then if inb x3 160 then mX12_append_25 I x1 x2 x3 (I 221 x3.toNatClampNeg) else none else if inb x2 160 then mX12_append_25 I x1 x2 x3 (I 221 x2.toNatClampNeg) else none else none
set_option maxRecDepth 100000 in
set_option maxHeartbeats 4000000 in
theorem tX12_append_91 {l : Launch} {K : a_KT} {g : a_GT} {IA : iT} (hko : a_kok K) {J : jT} {F : fT} (I : iT) (x1 : Int32) (x2 : Int32) (x3 : Int32) (x4 : Int32) (x5 : Int32) (hF : FOK F) (q : iT) (hm : mX12_append_91 I x1 x2 x3 x4 x5 = some q) : E l K g 0 0 0 yX12_append cX12_append 6 none 91 [.ref 186, .int x1, .int x2, .int x3, .int x4, .int x5] [] (hg IA I J F) (fun r2 h2 => r2 = none ∧ h2 = hg IA q J F) := by
  unfold mX12_append_91 at hm
  refine e_aload_n (i := 0) rfl dX12_append_91 ?_
  refine q_getF 12 67 221 dX12_append_92 fl_RX12_118 rfl iz_186 (fr_186_67 hF) ?_
  refine e_iload_n (i := 1) rfl dX12_append_95 ?_
  refine e_iload (i := 4) rfl dX12_append_96 ?_
  obtain ⟨c_98, hm⟩ := gd_s hm
  refine l_iast dX12_append_98 iz_221 (inb_in ln_221 c_98) (by decide) ?_
  refine e_aload_n (i := 0) rfl dX12_append_99 ?_
  refine q_getF 12 68 222 dX12_append_100 fl_RX12_121 rfl iz_186 (fr_186_68 hF) ?_
  refine e_iload_n (i := 1) rfl dX12_append_103 ?_
  refine e_iload (i := 5) rfl dX12_append_104 ?_
  obtain ⟨c_106, hm⟩ := gd_s hm
  refine l_iast dX12_append_106 iz_222 (inb_in ln_222 c_106) (by decide) ?_
  refine e_vret dX12_append_107 rfl ?_
  have hm := some_in hm
  subst hm
  exact ⟨rfl, rfl⟩
set_option maxRecDepth 100000 in
set_option maxHeartbeats 4000000 in
theorem tX12_append_52 {l : Launch} {K : a_KT} {g : a_GT} {IA : iT} (hko : a_kok K) {J : jT} {F : fT} (I : iT) (x1 : Int32) (x2 : Int32) (x3 : Int32) (x4 : Int32) (s0 : Int32) (hF : FOK F) (q : iT) (hm : mX12_append_52 I x1 x2 x3 x4 s0 = some q) : E l K g 0 0 0 yX12_append cX12_append 6 none 52 [.ref 186, .int x1, .int x2, .int x3, .int x4, .null] [.int s0] (hg IA I J F) (fun r2 h2 => r2 = none ∧ h2 = hg IA q J F) := by
  unfold mX12_append_52 at hm
  refine q_istore (i := 5) (by decide) rfl dX12_append_52 ?_
  refine e_aload_n (i := 0) rfl dX12_append_54 ?_
  refine q_getF 12 67 221 dX12_append_55 fl_RX12_118 rfl iz_186 (fr_186_67 hF) ?_
  refine e_iload_n (i := 2) rfl dX12_append_58 ?_
  obtain ⟨c_59, hm⟩ := gd_s hm
  refine l_iald dX12_append_59 iz_221 (inb_in ln_221 c_59) (by decide) ?_
  refine e_iconst (v := (-1)) (by decide) dX12_append_60 ?_
  refine e_icmp_eq 91 dX12_append_61 (by decide) (fun c_61 => ?_) (fun c_61 => ?_)
  · have hm := it_p c_61 hm
    refine e_weak [.ref 186, .int x1, .int x2, .int x3, .int x4, .int s0] ⟨rfl, ⟨rfl, ⟨rfl, ⟨rfl, ⟨rfl, ⟨rfl, trivial⟩⟩⟩⟩⟩⟩ ?_
    exact tX12_append_91 hko I x1 x2 x3 x4 s0 hF _ hm
  · have hm := it_n c_61 hm
    refine e_aload_n (i := 0) rfl dX12_append_64 ?_
    refine q_getF 12 67 221 dX12_append_65 fl_RX12_118 rfl iz_186 (fr_186_67 hF) ?_
    refine e_iload_n (i := 3) rfl dX12_append_68 ?_
    obtain ⟨c_69, hm⟩ := gd_s hm
    refine l_iald dX12_append_69 iz_221 (inb_in ln_221 c_69) (by decide) ?_
    refine e_iconst (v := (-1)) (by decide) dX12_append_70 ?_
    refine e_icmp_eq 91 dX12_append_71 (by decide) (fun c_71 => ?_) (fun c_71 => ?_)
    · have hm := it_p c_71 hm
      refine e_weak [.ref 186, .int x1, .int x2, .int x3, .int x4, .int s0] ⟨rfl, ⟨rfl, ⟨rfl, ⟨rfl, ⟨rfl, ⟨rfl, trivial⟩⟩⟩⟩⟩⟩ ?_
      exact tX12_append_91 hko I x1 x2 x3 x4 s0 hF _ hm
    · have hm := it_n c_71 hm
      refine e_aload_n (i := 0) rfl dX12_append_74 ?_
      refine q_getF 12 71 225 dX12_append_75 fl_RX12_130 rfl iz_186 (fr_186_71 hF) ?_
      refine e_aload_n (i := 0) rfl dX12_append_78 ?_
      refine q_getF 12 68 222 dX12_append_79 fl_RX12_121 rfl iz_186 (fr_186_68 hF) ?_
      refine e_iload_n (i := 2) rfl dX12_append_82 ?_
      obtain ⟨c_83, hm⟩ := gd_s hm
      refine l_iald dX12_append_83 iz_222 (inb_in ln_222 c_83) (by decide) ?_
      refine e_aload_n (i := 0) rfl dX12_append_84 ?_
      refine q_getF 12 67 221 dX12_append_85 fl_RX12_118 rfl iz_186 (fr_186_67 hF) ?_
      refine e_iload_n (i := 3) rfl dX12_append_88 ?_
      obtain ⟨c_89, hm⟩ := gd_s hm
      refine l_iald dX12_append_89 iz_221 (inb_in ln_221 c_89) (by decide) ?_
      obtain ⟨c_90, hm⟩ := gd_s hm
      refine l_iast dX12_append_90 iz_225 (inb_in ln_225 c_90) (by decide) ?_
      refine e_weak [.ref 186, .int x1, .int x2, .int x3, .int x4, .int s0] ⟨rfl, ⟨rfl, ⟨rfl, ⟨rfl, ⟨rfl, ⟨rfl, trivial⟩⟩⟩⟩⟩⟩ ?_
      exact tX12_append_91 hko (a_u2 I 225 (I 222 x2.toNatClampNeg).toNatClampNeg (I 221 x3.toNatClampNeg)) x1 x2 x3 x4 s0 hF _ hm
set_option maxRecDepth 100000 in
set_option maxHeartbeats 4000000 in
theorem tX12_append_25 {l : Launch} {K : a_KT} {g : a_GT} {IA : iT} (hko : a_kok K) {J : jT} {F : fT} (I : iT) (x1 : Int32) (x2 : Int32) (x3 : Int32) (s0 : Int32) (hF : FOK F) (q : iT) (hm : mX12_append_25 I x1 x2 x3 s0 = some q) : E l K g 0 0 0 yX12_append cX12_append 6 none 25 [.ref 186, .int x1, .int x2, .int x3, .null, .null] [.int s0] (hg IA I J F) (fun r2 h2 => r2 = none ∧ h2 = hg IA q J F) := by
  unfold mX12_append_25 at hm
  refine q_istore (i := 4) (by decide) rfl dX12_append_25 ?_
  refine e_aload_n (i := 0) rfl dX12_append_27 ?_
  refine q_getF 12 67 221 dX12_append_28 fl_RX12_118 rfl iz_186 (fr_186_67 hF) ?_
  refine e_iload_n (i := 3) rfl dX12_append_31 ?_
  obtain ⟨c_32, hm⟩ := gd_s hm
  refine l_iald dX12_append_32 iz_221 (inb_in ln_221 c_32) (by decide) ?_
  refine e_iconst (v := (-1)) (by decide) dX12_append_33 ?_
  refine e_icmp_ne 46 dX12_append_34 (by decide) (fun c_34 => ?_) (fun c_34 => ?_)
  · have hm := it_n c_34 hm
    refine e_aload_n (i := 0) rfl dX12_append_46 ?_
    refine q_getF 12 68 222 dX12_append_47 fl_RX12_121 rfl iz_186 (fr_186_68 hF) ?_
    refine e_iload_n (i := 3) rfl dX12_append_50 ?_
    obtain ⟨c_51, hm⟩ := gd_s hm
    refine l_iald dX12_append_51 iz_222 (inb_in ln_222 c_51) (by decide) ?_
    refine e_weak [.ref 186, .int x1, .int x2, .int x3, .int s0, .null] ⟨rfl, ⟨rfl, ⟨rfl, ⟨rfl, ⟨rfl, ⟨trivial, trivial⟩⟩⟩⟩⟩⟩ ?_
    exact tX12_append_52 hko I x1 x2 x3 s0 (I 222 x3.toNatClampNeg) hF _ hm
  · have hm := it_p c_34 hm
    refine e_aload_n (i := 0) rfl dX12_append_37 ?_
    refine q_getF 12 68 222 dX12_append_38 fl_RX12_121 rfl iz_186 (fr_186_68 hF) ?_
    refine e_iload_n (i := 2) rfl dX12_append_41 ?_
    obtain ⟨c_42, hm⟩ := gd_s hm
    refine l_iald dX12_append_42 iz_222 (inb_in ln_222 c_42) (by decide) ?_
    refine e_goto 52 dX12_append_43 (by decide) ?_
    refine e_weak [.ref 186, .int x1, .int x2, .int x3, .int s0, .null] ⟨rfl, ⟨rfl, ⟨rfl, ⟨rfl, ⟨rfl, ⟨trivial, trivial⟩⟩⟩⟩⟩⟩ ?_
    exact tX12_append_52 hko I x1 x2 x3 s0 (I 222 x2.toNatClampNeg) hF _ hm
set_option maxRecDepth 100000 in
set_option maxHeartbeats 4000000 in
theorem tX12_append {l : Launch} {K : a_KT} {g : a_GT} {IA : iT} (hko : a_kok K) (I : iT) (J : jT) (F : fT) (hF : FOK F) (x1 : Int32) (x2 : Int32) (x3 : Int32) (q : iT) (hm : mX12_append I x1 x2 x3 = some q) : C l K g 0 0 0 yX12_append cX12_append 6 none [.ref 186, .int x1, .int x2, .int x3] (hg IA I J F) (fun r2 h2 => r2 = none ∧ h2 = hg IA q J F) := by
  unfold mX12_append at hm
  refine c_of [.ref 186, .int x1, .int x2, .int x3, .null, .null] (by decide) (Nat.le_of_ble_eq_true rfl) rfl ?_
  refine e_aload_n (i := 0) rfl dX12_append_0 ?_
  refine q_getF 12 67 221 dX12_append_1 fl_RX12_118 rfl iz_186 (fr_186_67 hF) ?_
  refine e_iload_n (i := 2) rfl dX12_append_4 ?_
  obtain ⟨c_5, hm⟩ := gd_s hm
  refine l_iald dX12_append_5 iz_221 (inb_in ln_221 c_5) (by decide) ?_
  refine e_iconst (v := (-1)) (by decide) dX12_append_6 ?_
  refine e_icmp_ne 19 dX12_append_7 (by decide) (fun c_7 => ?_) (fun c_7 => ?_)
  · have hm := it_n c_7 hm
    refine e_aload_n (i := 0) rfl dX12_append_19 ?_
    refine q_getF 12 67 221 dX12_append_20 fl_RX12_118 rfl iz_186 (fr_186_67 hF) ?_
    refine e_iload_n (i := 2) rfl dX12_append_23 ?_
    obtain ⟨c_24, hm⟩ := gd_s hm
    refine l_iald dX12_append_24 iz_221 (inb_in ln_221 c_24) (by decide) ?_
    refine e_weak [.ref 186, .int x1, .int x2, .int x3, .null, .null] ⟨rfl, ⟨rfl, ⟨rfl, ⟨rfl, ⟨trivial, ⟨trivial, trivial⟩⟩⟩⟩⟩⟩ ?_
    exact tX12_append_25 hko I x1 x2 x3 (I 221 x2.toNatClampNeg) hF _ hm
  · have hm := it_p c_7 hm
    refine e_aload_n (i := 0) rfl dX12_append_10 ?_
    refine q_getF 12 67 221 dX12_append_11 fl_RX12_118 rfl iz_186 (fr_186_67 hF) ?_
    refine e_iload_n (i := 3) rfl dX12_append_14 ?_
    obtain ⟨c_15, hm⟩ := gd_s hm
    refine l_iald dX12_append_15 iz_221 (inb_in ln_221 c_15) (by decide) ?_
    refine e_goto 25 dX12_append_16 (by decide) ?_
    refine e_weak [.ref 186, .int x1, .int x2, .int x3, .null, .null] ⟨rfl, ⟨rfl, ⟨rfl, ⟨rfl, ⟨trivial, ⟨trivial, trivial⟩⟩⟩⟩⟩⟩ ?_
    exact tX12_append_25 hko I x1 x2 x3 (I 221 x3.toNatClampNeg) hF _ hm
theorem dX12_def0_0 : decode cX12_def0 0 = .ok (.bipush 12, 2) := by decide +kernel
theorem dX12_def0_2 : decode cX12_def0 2 = .ok (.aload_n 0, 1) := by decide +kernel
theorem dX12_def0_3 : decode cX12_def0 3 = .ok (.getfield 405, 3) := by decide +kernel
theorem dX12_def0_6 : decode cX12_def0 6 = .ok (.imul, 1) := by decide +kernel
theorem dX12_def0_7 : decode cX12_def0 7 = .ok (.iload_n 1, 1) := by decide +kernel
theorem dX12_def0_8 : decode cX12_def0 8 = .ok (.iadd, 1) := by decide +kernel
theorem dX12_def0_9 : decode cX12_def0 9 = .ok (.ireturn, 1) := by decide +kernel
def mX12_def0 (I : iT) (x1 : Int32) : Option (Int32) := some ((12 * (I 186 31)) + x1)
set_option maxRecDepth 100000 in
set_option maxHeartbeats 4000000 in
theorem tX12_def0 {l : Launch} {K : a_KT} {g : a_GT} {IA : iT} (hko : a_kok K) (I : iT) (J : jT) (F : fT) (hF : FOK F) (x1 : Int32) (q : Int32) (hm : mX12_def0 I x1 = some q) : C l K g 0 0 0 yX12_def0 cX12_def0 2 (some .int) [.ref 186, .int x1] (hg IA I J F) (fun r2 h2 => r2 = some (.int q) ∧ h2 = hg IA I J F) := by
  unfold mX12_def0 at hm
  refine c_of [.ref 186, .int x1] (by decide) (Nat.le_of_ble_eq_true rfl) rfl ?_
  refine e_bipush (v := 12) (by decide) dX12_def0_0 ?_
  refine e_aload_n (i := 0) rfl dX12_def0_2 ?_
  refine l_getI 12 31 dX12_def0_3 fl_RX12_405 rfl iz_186 (by decide) ?_
  refine e_imul dX12_def0_6 ?_
  refine e_iload_n (i := 1) rfl dX12_def0_7 ?_
  refine e_iadd dX12_def0_8 ?_
  refine e_iret dX12_def0_9 rfl ?_
  have hm := some_in hm
  subst hm
  exact ⟨rfl, rfl⟩
theorem dX12_enters_0 : decode cX12_enters 0 = .ok (.aload_n 0, 1) := by decide +kernel
theorem dX12_enters_1 : decode cX12_enters 1 = .ok (.getfield 90, 3) := by decide +kernel
theorem dX12_enters_4 : decode cX12_enters 4 = .ok (.iload_n 1, 1) := by decide +kernel
theorem dX12_enters_5 : decode cX12_enters 5 = .ok (.iload_n 2, 1) := by decide +kernel
theorem dX12_enters_6 : decode cX12_enters 6 = .ok (.iastore, 1) := by decide +kernel
theorem dX12_enters_7 : decode cX12_enters 7 = .ok (.aload_n 0, 1) := by decide +kernel
theorem dX12_enters_8 : decode cX12_enters 8 = .ok (.getfield 93, 3) := by decide +kernel
theorem dX12_enters_11 : decode cX12_enters 11 = .ok (.iload_n 1, 1) := by decide +kernel
theorem dX12_enters_12 : decode cX12_enters 12 = .ok (.aload_n 0, 1) := by decide +kernel
theorem dX12_enters_13 : decode cX12_enters 13 = .ok (.getfield 57, 3) := by decide +kernel
theorem dX12_enters_16 : decode cX12_enters 16 = .ok (.aload_n 0, 1) := by decide +kernel
theorem dX12_enters_17 : decode cX12_enters 17 = .ok (.iload_n 2, 1) := by decide +kernel
theorem dX12_enters_18 : decode cX12_enters 18 = .ok (.invokevirtual 424, 3) := by decide +kernel
theorem dX12_enters_21 : decode cX12_enters 21 = .ok (.iaload, 1) := by decide +kernel
theorem dX12_enters_22 : decode cX12_enters 22 = .ok (.iastore, 1) := by decide +kernel
theorem dX12_enters_23 : decode cX12_enters 23 = .ok (.return_, 1) := by decide +kernel
def mX12_enters (I : iT) (x1 : Int32) (x2 : Int32) : Option (iT) := if inb x1 80 then (mX12_def0 (a_u2 I 212 x1.toNatClampNeg x2) x2).bind fun q1 => if inb q1 24 then if inb x1 80 then some (a_u2 (a_u2 I 212 x1.toNatClampNeg x2) 213 x1.toNatClampNeg ((a_u2 I 212 x1.toNatClampNeg x2) 201 q1.toNatClampNeg)) else none else none else none
set_option maxRecDepth 100000 in
set_option maxHeartbeats 4000000 in
theorem tX12_enters {l : Launch} {K : a_KT} {g : a_GT} {IA : iT} (hko : a_kok K) (I : iT) (J : jT) (F : fT) (hF : FOK F) (x1 : Int32) (x2 : Int32) (q : iT) (hm : mX12_enters I x1 x2 = some q) : C l K g 1 0 0 yX12_enters cX12_enters 3 none [.ref 186, .int x1, .int x2] (hg IA I J F) (fun r2 h2 => r2 = none ∧ h2 = hg IA q J F) := by
  unfold mX12_enters at hm
  refine c_of [.ref 186, .int x1, .int x2] (by decide) (Nat.le_of_ble_eq_true rfl) rfl ?_
  refine e_aload_n (i := 0) rfl dX12_enters_0 ?_
  refine q_getF 12 52 212 dX12_enters_1 fl_RX12_90 rfl iz_186 (fr_186_52 hF) ?_
  refine e_iload_n (i := 1) rfl dX12_enters_4 ?_
  refine e_iload_n (i := 2) rfl dX12_enters_5 ?_
  obtain ⟨c_6, hm⟩ := gd_s hm
  refine l_iast dX12_enters_6 iz_212 (inb_in ln_212 c_6) (by decide) ?_
  refine e_aload_n (i := 0) rfl dX12_enters_7 ?_
  refine q_getF 12 53 213 dX12_enters_8 fl_RX12_93 rfl iz_186 (fr_186_53 hF) ?_
  refine e_iload_n (i := 1) rfl dX12_enters_11 ?_
  refine e_aload_n (i := 0) rfl dX12_enters_12 ?_
  refine q_getF 12 26 201 dX12_enters_13 fl_RX12_57 rfl iz_186 (fr_186_26 hF) ?_
  refine e_aload_n (i := 0) rfl dX12_enters_16 ?_
  refine e_iload_n (i := 2) rfl dX12_enters_17 ?_
  obtain ⟨q1, eq1, hm⟩ := ob_some hm
  refine e_cV1 hko dX12_enters_18 ml_RX12_424 iz_186 (by decide) rfl (by omega) (Nat.le_of_ble_eq_true rfl) (tX12_def0 hko (a_u2 I 212 x1.toNatClampNeg x2) J F hF x2 _ eq1) ?_
  rintro _ _ ⟨rfl, rfl⟩
  obtain ⟨c_21, hm⟩ := gd_s hm
  refine l_iald dX12_enters_21 iz_201 (inb_in ln_201 c_21) (by decide) ?_
  obtain ⟨c_22, hm⟩ := gd_s hm
  refine l_iast dX12_enters_22 iz_213 (inb_in ln_213 c_22) (by decide) ?_
  refine e_vret dX12_enters_23 rfl ?_
  have hm := some_in hm
  subst hm
  exact ⟨rfl, rfl⟩
theorem dX12_fresh0_0 : decode cX12_fresh0 0 = .ok (.aload_n 0, 1) := by decide +kernel
theorem dX12_fresh0_1 : decode cX12_fresh0 1 = .ok (.getfield 111, 3) := by decide +kernel
theorem dX12_fresh0_4 : decode cX12_fresh0 4 = .ok (.iload_n 1, 1) := by decide +kernel
theorem dX12_fresh0_5 : decode cX12_fresh0 5 = .ok (.iconst 0, 1) := by decide +kernel
theorem dX12_fresh0_6 : decode cX12_fresh0 6 = .ok (.bastore, 1) := by decide +kernel
theorem dX12_fresh0_7 : decode cX12_fresh0 7 = .ok (.aload_n 0, 1) := by decide +kernel
theorem dX12_fresh0_8 : decode cX12_fresh0 8 = .ok (.getfield 99, 3) := by decide +kernel
theorem dX12_fresh0_11 : decode cX12_fresh0 11 = .ok (.iload_n 1, 1) := by decide +kernel
theorem dX12_fresh0_12 : decode cX12_fresh0 12 = .ok (.iconst 0, 1) := by decide +kernel
theorem dX12_fresh0_13 : decode cX12_fresh0 13 = .ok (.iastore, 1) := by decide +kernel
theorem dX12_fresh0_14 : decode cX12_fresh0 14 = .ok (.aload_n 0, 1) := by decide +kernel
theorem dX12_fresh0_15 : decode cX12_fresh0 15 = .ok (.getfield 102, 3) := by decide +kernel
theorem dX12_fresh0_18 : decode cX12_fresh0 18 = .ok (.iload_n 1, 1) := by decide +kernel
theorem dX12_fresh0_19 : decode cX12_fresh0 19 = .ok (.iconst 0, 1) := by decide +kernel
theorem dX12_fresh0_20 : decode cX12_fresh0 20 = .ok (.iastore, 1) := by decide +kernel
theorem dX12_fresh0_21 : decode cX12_fresh0 21 = .ok (.aload_n 0, 1) := by decide +kernel
theorem dX12_fresh0_22 : decode cX12_fresh0 22 = .ok (.getfield 105, 3) := by decide +kernel
theorem dX12_fresh0_25 : decode cX12_fresh0 25 = .ok (.iload_n 1, 1) := by decide +kernel
theorem dX12_fresh0_26 : decode cX12_fresh0 26 = .ok (.iconst 0, 1) := by decide +kernel
theorem dX12_fresh0_27 : decode cX12_fresh0 27 = .ok (.iastore, 1) := by decide +kernel
theorem dX12_fresh0_28 : decode cX12_fresh0 28 = .ok (.return_, 1) := by decide +kernel
def mX12_fresh0 (I : iT) (x1 : Int32) : Option (iT) := if inb x1 80 then if inb x1 80 then if inb x1 80 then if inb x1 80 then some (a_u2 (a_u2 (a_u2 (a_u2 I 219 x1.toNatClampNeg 0) 215 x1.toNatClampNeg 0) 216 x1.toNatClampNeg 0) 217 x1.toNatClampNeg 0) else none else none else none else none
set_option maxRecDepth 100000 in
set_option maxHeartbeats 4000000 in
theorem tX12_fresh0 {l : Launch} {K : a_KT} {g : a_GT} {IA : iT} (hko : a_kok K) (I : iT) (J : jT) (F : fT) (hF : FOK F) (x1 : Int32) (q : iT) (hm : mX12_fresh0 I x1 = some q) : C l K g 0 0 0 yX12_fresh0 cX12_fresh0 2 none [.ref 186, .int x1] (hg IA I J F) (fun r2 h2 => r2 = none ∧ h2 = hg IA q J F) := by
  unfold mX12_fresh0 at hm
  refine c_of [.ref 186, .int x1] (by decide) (Nat.le_of_ble_eq_true rfl) rfl ?_
  refine e_aload_n (i := 0) rfl dX12_fresh0_0 ?_
  refine q_getF 12 59 219 dX12_fresh0_1 fl_RX12_111 rfl iz_186 (fr_186_59 hF) ?_
  refine e_iload_n (i := 1) rfl dX12_fresh0_4 ?_
  refine e_iconst (v := 0) (by decide) dX12_fresh0_5 ?_
  obtain ⟨c_6, hm⟩ := gd_s hm
  refine l_zast dX12_fresh0_6 iz_219 (inb_in ln_219 c_6) (by decide) (by decide) ?_
  refine e_aload_n (i := 0) rfl dX12_fresh0_7 ?_
  refine q_getF 12 55 215 dX12_fresh0_8 fl_RX12_99 rfl iz_186 (fr_186_55 hF) ?_
  refine e_iload_n (i := 1) rfl dX12_fresh0_11 ?_
  refine e_iconst (v := 0) (by decide) dX12_fresh0_12 ?_
  obtain ⟨c_13, hm⟩ := gd_s hm
  refine l_iast dX12_fresh0_13 iz_215 (inb_in ln_215 c_13) (by decide) ?_
  refine e_aload_n (i := 0) rfl dX12_fresh0_14 ?_
  refine q_getF 12 56 216 dX12_fresh0_15 fl_RX12_102 rfl iz_186 (fr_186_56 hF) ?_
  refine e_iload_n (i := 1) rfl dX12_fresh0_18 ?_
  refine e_iconst (v := 0) (by decide) dX12_fresh0_19 ?_
  obtain ⟨c_20, hm⟩ := gd_s hm
  refine l_iast dX12_fresh0_20 iz_216 (inb_in ln_216 c_20) (by decide) ?_
  refine e_aload_n (i := 0) rfl dX12_fresh0_21 ?_
  refine q_getF 12 57 217 dX12_fresh0_22 fl_RX12_105 rfl iz_186 (fr_186_57 hF) ?_
  refine e_iload_n (i := 1) rfl dX12_fresh0_25 ?_
  refine e_iconst (v := 0) (by decide) dX12_fresh0_26 ?_
  obtain ⟨c_27, hm⟩ := gd_s hm
  refine l_iast dX12_fresh0_27 iz_217 (inb_in ln_217 c_27) (by decide) ?_
  refine e_vret dX12_fresh0_28 rfl ?_
  have hm := some_in hm
  subst hm
  exact ⟨rfl, rfl⟩
theorem dX12_newChannel_0 : decode cX12_newChannel 0 = .ok (.aload_n 0, 1) := by decide +kernel
theorem dX12_newChannel_1 : decode cX12_newChannel 1 = .ok (.getfield 421, 3) := by decide +kernel
theorem dX12_newChannel_4 : decode cX12_newChannel 4 = .ok (.istore_n 1, 1) := by decide +kernel
theorem dX12_newChannel_5 : decode cX12_newChannel 5 = .ok (.aload_n 0, 1) := by decide +kernel
theorem dX12_newChannel_6 : decode cX12_newChannel 6 = .ok (.dup, 1) := by decide +kernel
theorem dX12_newChannel_7 : decode cX12_newChannel 7 = .ok (.getfield 421, 3) := by decide +kernel
theorem dX12_newChannel_10 : decode cX12_newChannel 10 = .ok (.iconst 1, 1) := by decide +kernel
theorem dX12_newChannel_11 : decode cX12_newChannel 11 = .ok (.iadd, 1) := by decide +kernel
theorem dX12_newChannel_12 : decode cX12_newChannel 12 = .ok (.putfield 421, 3) := by decide +kernel
theorem dX12_newChannel_15 : decode cX12_newChannel 15 = .ok (.aload_n 0, 1) := by decide +kernel
theorem dX12_newChannel_16 : decode cX12_newChannel 16 = .ok (.getfield 115, 3) := by decide +kernel
theorem dX12_newChannel_19 : decode cX12_newChannel 19 = .ok (.iload_n 1, 1) := by decide +kernel
theorem dX12_newChannel_20 : decode cX12_newChannel 20 = .ok (.iload_n 1, 1) := by decide +kernel
theorem dX12_newChannel_21 : decode cX12_newChannel 21 = .ok (.iastore, 1) := by decide +kernel
theorem dX12_newChannel_22 : decode cX12_newChannel 22 = .ok (.iconst 0, 1) := by decide +kernel
theorem dX12_newChannel_23 : decode cX12_newChannel 23 = .ok (.istore_n 2, 1) := by decide +kernel
theorem dX12_newChannel_24 : decode cX12_newChannel 24 = .ok (.iload_n 2, 1) := by decide +kernel
theorem dX12_newChannel_25 : decode cX12_newChannel 25 = .ok (.iconst 2, 1) := by decide +kernel
theorem dX12_newChannel_26 : decode cX12_newChannel 26 = .ok (.if_icmp .ge 31, 3) := by decide +kernel
theorem dX12_newChannel_29 : decode cX12_newChannel 29 = .ok (.aload_n 0, 1) := by decide +kernel
theorem dX12_newChannel_30 : decode cX12_newChannel 30 = .ok (.getfield 118, 3) := by decide +kernel
theorem dX12_newChannel_33 : decode cX12_newChannel 33 = .ok (.iconst 2, 1) := by decide +kernel
theorem dX12_newChannel_34 : decode cX12_newChannel 34 = .ok (.iload_n 1, 1) := by decide +kernel
theorem dX12_newChannel_35 : decode cX12_newChannel 35 = .ok (.imul, 1) := by decide +kernel
theorem dX12_newChannel_36 : decode cX12_newChannel 36 = .ok (.iload_n 2, 1) := by decide +kernel
theorem dX12_newChannel_37 : decode cX12_newChannel 37 = .ok (.iadd, 1) := by decide +kernel
theorem dX12_newChannel_38 : decode cX12_newChannel 38 = .ok (.iconst (-1), 1) := by decide +kernel
theorem dX12_newChannel_39 : decode cX12_newChannel 39 = .ok (.iastore, 1) := by decide +kernel
theorem dX12_newChannel_40 : decode cX12_newChannel 40 = .ok (.aload_n 0, 1) := by decide +kernel
theorem dX12_newChannel_41 : decode cX12_newChannel 41 = .ok (.getfield 121, 3) := by decide +kernel
theorem dX12_newChannel_44 : decode cX12_newChannel 44 = .ok (.iconst 2, 1) := by decide +kernel
theorem dX12_newChannel_45 : decode cX12_newChannel 45 = .ok (.iload_n 1, 1) := by decide +kernel
theorem dX12_newChannel_46 : decode cX12_newChannel 46 = .ok (.imul, 1) := by decide +kernel
theorem dX12_newChannel_47 : decode cX12_newChannel 47 = .ok (.iload_n 2, 1) := by decide +kernel
theorem dX12_newChannel_48 : decode cX12_newChannel 48 = .ok (.iadd, 1) := by decide +kernel
theorem dX12_newChannel_49 : decode cX12_newChannel 49 = .ok (.iconst (-1), 1) := by decide +kernel
theorem dX12_newChannel_50 : decode cX12_newChannel 50 = .ok (.iastore, 1) := by decide +kernel
theorem dX12_newChannel_51 : decode cX12_newChannel 51 = .ok (.iinc 2 1, 3) := by decide +kernel
theorem dX12_newChannel_54 : decode cX12_newChannel 54 = .ok (.goto (-30), 3) := by decide +kernel
theorem dX12_newChannel_57 : decode cX12_newChannel 57 = .ok (.iload_n 1, 1) := by decide +kernel
theorem dX12_newChannel_58 : decode cX12_newChannel 58 = .ok (.ireturn, 1) := by decide +kernel
def mX12_newChannel_24 : Nat → iT → Int32 → Int32 → Option (Int32 × iT)
  | 0, _, _, _ => none
  | n + 1, I, x1, x2 => if 2 ≤ x2 then some (x1, I) else if inb ((2 * x1) + x2) 160 then if inb ((2 * x1) + x2) 160 then mX12_newChannel_24 n (a_u2 (a_u2 I 221 ((2 * x1) + x2).toNatClampNeg ((-1))) 222 ((2 * x1) + x2).toNatClampNeg ((-1))) x1 (x2 + 1) else none else none
def mX12_newChannel (I : iT) : Option (Int32 × iT) := if inb (I 186 61) 80 then mX12_newChannel_24 LF (a_u2 (a_u2 I 186 61 ((I 186 61) + 1)) 220 (I 186 61).toNatClampNeg (I 186 61)) (I 186 61) 0 else none
set_option maxRecDepth 100000 in
set_option maxHeartbeats 4000000 in
theorem tX12_newChannel_24 {l : Launch} {K : a_KT} {g : a_GT} {IA : iT} (hko : a_kok K) {J : jT} {F : fT} : ∀ (n : Nat) (I : iT) (x1 : Int32) (x2 : Int32) (hF : FOK F) (q : Int32 × iT), mX12_newChannel_24 n I x1 x2 = some q → E l K g 0 0 0 yX12_newChannel cX12_newChannel 3 (some .int) 24 [.ref 186, .int x1, .int x2] [] (hg IA I J F) (fun r2 h2 => r2 = some (.int q.1) ∧ h2 = hg IA q.2 J F) := by
  intro n
  induction n with
  | zero => intro I x1 x2 hF q hm; cases hm
  | succ n ih =>
    intro I x1 x2 hF q hm
    rw [mX12_newChannel_24] at hm
    refine e_iload_n (i := 2) rfl dX12_newChannel_24 ?_
    refine e_iconst (v := 2) (by decide) dX12_newChannel_25 ?_
    refine e_icmp_ge 57 dX12_newChannel_26 (by decide) (fun c_26 => ?_) (fun c_26 => ?_)
    · have hm := it_p c_26 hm
      refine e_iload_n (i := 1) rfl dX12_newChannel_57 ?_
      refine e_iret dX12_newChannel_58 rfl ?_
      have hm := some_in hm
      subst hm
      exact ⟨rfl, rfl⟩
    · have hm := it_n c_26 hm
      refine e_aload_n (i := 0) rfl dX12_newChannel_29 ?_
      refine q_getF 12 67 221 dX12_newChannel_30 fl_RX12_118 rfl iz_186 (fr_186_67 hF) ?_
      refine e_iconst (v := 2) (by decide) dX12_newChannel_33 ?_
      refine e_iload_n (i := 1) rfl dX12_newChannel_34 ?_
      refine e_imul dX12_newChannel_35 ?_
      refine e_iload_n (i := 2) rfl dX12_newChannel_36 ?_
      refine e_iadd dX12_newChannel_37 ?_
      refine e_iconst (v := (-1)) (by decide) dX12_newChannel_38 ?_
      obtain ⟨c_39, hm⟩ := gd_s hm
      refine l_iast dX12_newChannel_39 iz_221 (inb_in ln_221 c_39) (by decide) ?_
      refine e_aload_n (i := 0) rfl dX12_newChannel_40 ?_
      refine q_getF 12 68 222 dX12_newChannel_41 fl_RX12_121 rfl iz_186 (fr_186_68 hF) ?_
      refine e_iconst (v := 2) (by decide) dX12_newChannel_44 ?_
      refine e_iload_n (i := 1) rfl dX12_newChannel_45 ?_
      refine e_imul dX12_newChannel_46 ?_
      refine e_iload_n (i := 2) rfl dX12_newChannel_47 ?_
      refine e_iadd dX12_newChannel_48 ?_
      refine e_iconst (v := (-1)) (by decide) dX12_newChannel_49 ?_
      obtain ⟨c_50, hm⟩ := gd_s hm
      refine l_iast dX12_newChannel_50 iz_222 (inb_in ln_222 c_50) (by decide) ?_
      refine q_iinc (i := 2) (x2 + 1) rfl ic_1 rfl dX12_newChannel_51 ?_
      refine e_goto 24 dX12_newChannel_54 (by decide) ?_
      refine e_weak [.ref 186, .int x1, .int (x2 + 1)] ⟨rfl, ⟨rfl, ⟨rfl, trivial⟩⟩⟩ ?_
      exact ih (a_u2 (a_u2 I 221 ((2 * x1) + x2).toNatClampNeg ((-1))) 222 ((2 * x1) + x2).toNatClampNeg ((-1))) x1 (x2 + 1) hF _ hm
set_option maxRecDepth 100000 in
set_option maxHeartbeats 4000000 in
theorem tX12_newChannel {l : Launch} {K : a_KT} {g : a_GT} {IA : iT} (hko : a_kok K) (I : iT) (J : jT) (F : fT) (hF : FOK F) (q : Int32 × iT) (hm : mX12_newChannel I = some q) : C l K g 0 0 0 yX12_newChannel cX12_newChannel 3 (some .int) [.ref 186] (hg IA I J F) (fun r2 h2 => r2 = some (.int q.1) ∧ h2 = hg IA q.2 J F) := by
  unfold mX12_newChannel at hm
  refine c_of [.ref 186, .null, .null] (by decide) (Nat.le_of_ble_eq_true rfl) rfl ?_
  refine e_aload_n (i := 0) rfl dX12_newChannel_0 ?_
  refine l_getI 12 61 dX12_newChannel_1 fl_RX12_421 rfl iz_186 (by decide) ?_
  refine q_istore_n (i := 1) (by decide) rfl dX12_newChannel_4 ?_
  refine e_aload_n (i := 0) rfl dX12_newChannel_5 ?_
  refine e_dup rfl dX12_newChannel_6 ?_
  refine l_getI 12 61 dX12_newChannel_7 fl_RX12_421 rfl iz_186 (by decide) ?_
  refine e_iconst (v := 1) (by decide) dX12_newChannel_10 ?_
  refine e_iadd dX12_newChannel_11 ?_
  refine l_putI 12 61 dX12_newChannel_12 fl_RX12_421 rfl rfl iz_186 (by decide) ?_
  refine e_aload_n (i := 0) rfl dX12_newChannel_15 ?_
  refine q_getF 12 66 220 dX12_newChannel_16 fl_RX12_115 rfl iz_186 (fr_186_66 hF) ?_
  refine e_iload_n (i := 1) rfl dX12_newChannel_19 ?_
  refine e_iload_n (i := 1) rfl dX12_newChannel_20 ?_
  obtain ⟨c_21, hm⟩ := gd_s hm
  refine l_iast dX12_newChannel_21 iz_220 (inb_in ln_220 c_21) (by decide) ?_
  refine e_iconst (v := 0) (by decide) dX12_newChannel_22 ?_
  refine q_istore_n (i := 2) (by decide) rfl dX12_newChannel_23 ?_
  refine e_weak [.ref 186, .int (I 186 61), .int 0] ⟨rfl, ⟨rfl, ⟨rfl, trivial⟩⟩⟩ ?_
  exact tX12_newChannel_24 hko LF (a_u2 (a_u2 I 186 61 ((I 186 61) + 1)) 220 (I 186 61).toNatClampNeg (I 186 61)) (I 186 61) 0 hF _ hm
theorem dX12_both_0 : decode cX12_both 0 = .ok (.iload_n 0, 1) := by decide +kernel
theorem dX12_both_1 : decode cX12_both 1 = .ok (.tableswitch 54 23 26 #[31, 35, 39, 43], 31) := by decide +kernel
theorem dX12_both_32 : decode cX12_both 32 = .ok (.iload_n 1, 1) := by decide +kernel
theorem dX12_both_33 : decode cX12_both 33 = .ok (.iload_n 2, 1) := by decide +kernel
theorem dX12_both_34 : decode cX12_both 34 = .ok (.iadd, 1) := by decide +kernel
theorem dX12_both_35 : decode cX12_both 35 = .ok (.ireturn, 1) := by decide +kernel
theorem dX12_both_36 : decode cX12_both 36 = .ok (.iload_n 1, 1) := by decide +kernel
theorem dX12_both_37 : decode cX12_both 37 = .ok (.iload_n 2, 1) := by decide +kernel
theorem dX12_both_38 : decode cX12_both 38 = .ok (.isub, 1) := by decide +kernel
theorem dX12_both_39 : decode cX12_both 39 = .ok (.ireturn, 1) := by decide +kernel
theorem dX12_both_40 : decode cX12_both 40 = .ok (.iload_n 1, 1) := by decide +kernel
theorem dX12_both_41 : decode cX12_both 41 = .ok (.iload_n 2, 1) := by decide +kernel
theorem dX12_both_42 : decode cX12_both 42 = .ok (.imul, 1) := by decide +kernel
theorem dX12_both_43 : decode cX12_both 43 = .ok (.ireturn, 1) := by decide +kernel
theorem dX12_both_44 : decode cX12_both 44 = .ok (.iload_n 1, 1) := by decide +kernel
theorem dX12_both_45 : decode cX12_both 45 = .ok (.iload_n 2, 1) := by decide +kernel
theorem dX12_both_46 : decode cX12_both 46 = .ok (.if_icmp .ge 7, 3) := by decide +kernel
theorem dX12_both_49 : decode cX12_both 49 = .ok (.iconst 1, 1) := by decide +kernel
theorem dX12_both_50 : decode cX12_both 50 = .ok (.goto 4, 3) := by decide +kernel
theorem dX12_both_53 : decode cX12_both 53 = .ok (.iconst 0, 1) := by decide +kernel
theorem dX12_both_54 : decode cX12_both 54 = .ok (.ireturn, 1) := by decide +kernel
theorem dX12_both_55 : decode cX12_both 55 = .ok (.iload_n 1, 1) := by decide +kernel
theorem dX12_both_56 : decode cX12_both 56 = .ok (.iload_n 2, 1) := by decide +kernel
theorem dX12_both_57 : decode cX12_both 57 = .ok (.if_icmp .ne 7, 3) := by decide +kernel
theorem dX12_both_60 : decode cX12_both 60 = .ok (.iconst 1, 1) := by decide +kernel
theorem dX12_both_61 : decode cX12_both 61 = .ok (.goto 4, 3) := by decide +kernel
theorem dX12_both_64 : decode cX12_both 64 = .ok (.iconst 0, 1) := by decide +kernel
theorem dX12_both_65 : decode cX12_both 65 = .ok (.ireturn, 1) := by decide +kernel
def mX12_both (x0 : Int32) (x1 : Int32) (x2 : Int32) : Option (Int32) := if x0 = 23 then some (x1 + x2) else if x0 = 24 then some (x1 - x2) else if x0 = 25 then some (x1 * x2) else if x0 = 26 then if x2 ≤ x1 then some 0 else some 1 else if x1 = x2 then some 1 else some 0
set_option maxRecDepth 100000 in
set_option maxHeartbeats 4000000 in
theorem tX12_both {l : Launch} {K : a_KT} {g : a_GT} {IA : iT} (hko : a_kok K) (I : iT) (J : jT) (F : fT) (hF : FOK F) (x0 : Int32) (x1 : Int32) (x2 : Int32) (q : Int32) (hm : mX12_both x0 x1 x2 = some q) : C l K g 0 0 0 yX12_both cX12_both 3 (some .int) [.int x0, .int x1, .int x2] (hg IA I J F) (fun r2 h2 => r2 = some (.int q) ∧ h2 = hg IA I J F) := by
  unfold mX12_both at hm
  refine c_of [.int x0, .int x1, .int x2] (by decide) (Nat.le_of_ble_eq_true rfl) rfl ?_
  refine e_iload_n (i := 0) rfl dX12_both_0 ?_
  by_cases c_1_0 : x0 = 23
  · have hm := it_p c_1_0 hm
    refine e_tableIn 32 dX12_both_1 (by rw [c_1_0]; decide) (by rw [c_1_0]; decide) (off := 31) (by rw [c_1_0]; decide) (by decide) ?_
    refine e_iload_n (i := 1) rfl dX12_both_32 ?_
    refine e_iload_n (i := 2) rfl dX12_both_33 ?_
    refine e_iadd dX12_both_34 ?_
    refine e_iret dX12_both_35 rfl ?_
    have hm := some_in hm
    subst hm
    exact ⟨rfl, rfl⟩
  have hm := it_n c_1_0 hm
  by_cases c_1_1 : x0 = 24
  · have hm := it_p c_1_1 hm
    refine e_tableIn 36 dX12_both_1 (by rw [c_1_1]; decide) (by rw [c_1_1]; decide) (off := 35) (by rw [c_1_1]; decide) (by decide) ?_
    refine e_iload_n (i := 1) rfl dX12_both_36 ?_
    refine e_iload_n (i := 2) rfl dX12_both_37 ?_
    refine e_isub dX12_both_38 ?_
    refine e_iret dX12_both_39 rfl ?_
    have hm := some_in hm
    subst hm
    exact ⟨rfl, rfl⟩
  have hm := it_n c_1_1 hm
  by_cases c_1_2 : x0 = 25
  · have hm := it_p c_1_2 hm
    refine e_tableIn 40 dX12_both_1 (by rw [c_1_2]; decide) (by rw [c_1_2]; decide) (off := 39) (by rw [c_1_2]; decide) (by decide) ?_
    refine e_iload_n (i := 1) rfl dX12_both_40 ?_
    refine e_iload_n (i := 2) rfl dX12_both_41 ?_
    refine e_imul dX12_both_42 ?_
    refine e_iret dX12_both_43 rfl ?_
    have hm := some_in hm
    subst hm
    exact ⟨rfl, rfl⟩
  have hm := it_n c_1_2 hm
  by_cases c_1_3 : x0 = 26
  · have hm := it_p c_1_3 hm
    refine e_tableIn 44 dX12_both_1 (by rw [c_1_3]; decide) (by rw [c_1_3]; decide) (off := 43) (by rw [c_1_3]; decide) (by decide) ?_
    refine e_iload_n (i := 1) rfl dX12_both_44 ?_
    refine e_iload_n (i := 2) rfl dX12_both_45 ?_
    refine e_icmp_ge 53 dX12_both_46 (by decide) (fun c_46 => ?_) (fun c_46 => ?_)
    · have hm := it_p c_46 hm
      refine e_iconst (v := 0) (by decide) dX12_both_53 ?_
      refine e_iret dX12_both_54 rfl ?_
      have hm := some_in hm
      subst hm
      exact ⟨rfl, rfl⟩
    · have hm := it_n c_46 hm
      refine e_iconst (v := 1) (by decide) dX12_both_49 ?_
      refine e_goto 54 dX12_both_50 (by decide) ?_
      refine e_iret dX12_both_54 rfl ?_
      have hm := some_in hm
      subst hm
      exact ⟨rfl, rfl⟩
  have hm := it_n c_1_3 hm
  have n_1_0 := lv_neT (a := 23) c_1_0 (by decide)
  have n_1_1 := lv_neT (a := 24) c_1_1 (by decide)
  have n_1_2 := lv_neT (a := 25) c_1_2 (by decide)
  have n_1_3 := lv_neT (a := 26) c_1_3 (by decide)
  refine e_tableOut 55 dX12_both_1 (by omega) (by decide) ?_
  refine e_iload_n (i := 1) rfl dX12_both_55 ?_
  refine e_iload_n (i := 2) rfl dX12_both_56 ?_
  refine e_icmp_ne 64 dX12_both_57 (by decide) (fun c_57 => ?_) (fun c_57 => ?_)
  · have hm := it_n c_57 hm
    refine e_iconst (v := 0) (by decide) dX12_both_64 ?_
    refine e_iret dX12_both_65 rfl ?_
    have hm := some_in hm
    subst hm
    exact ⟨rfl, rfl⟩
  · have hm := it_p c_57 hm
    refine e_iconst (v := 1) (by decide) dX12_both_60 ?_
    refine e_goto 65 dX12_both_61 (by decide) ?_
    refine e_iret dX12_both_65 rfl ?_
    have hm := some_in hm
    subst hm
    exact ⟨rfl, rfl⟩
theorem dX12_value_0 : decode cX12_value 0 = .ok (.aload_n 0, 1) := by decide +kernel
theorem dX12_value_1 : decode cX12_value 1 = .ok (.getfield 108, 3) := by decide +kernel
theorem dX12_value_4 : decode cX12_value 4 = .ok (.sipush 128, 3) := by decide +kernel
theorem dX12_value_7 : decode cX12_value 7 = .ok (.iload_n 1, 1) := by decide +kernel
theorem dX12_value_8 : decode cX12_value 8 = .ok (.imul, 1) := by decide +kernel
theorem dX12_value_9 : decode cX12_value 9 = .ok (.iload_n 2, 1) := by decide +kernel
theorem dX12_value_10 : decode cX12_value 10 = .ok (.iadd, 1) := by decide +kernel
theorem dX12_value_11 : decode cX12_value 11 = .ok (.iaload, 1) := by decide +kernel
theorem dX12_value_12 : decode cX12_value 12 = .ok (.ireturn, 1) := by decide +kernel
def mX12_value (I : iT) (x1 : Int32) (x2 : Int32) : Option (Int32) := if inb ((128 * x1) + x2) 10240 then some (I 218 ((128 * x1) + x2).toNatClampNeg) else none
set_option maxRecDepth 100000 in
set_option maxHeartbeats 4000000 in
theorem tX12_value {l : Launch} {K : a_KT} {g : a_GT} {IA : iT} (hko : a_kok K) (I : iT) (J : jT) (F : fT) (hF : FOK F) (x1 : Int32) (x2 : Int32) (q : Int32) (hm : mX12_value I x1 x2 = some q) : C l K g 0 0 0 yX12_value cX12_value 3 (some .int) [.ref 186, .int x1, .int x2] (hg IA I J F) (fun r2 h2 => r2 = some (.int q) ∧ h2 = hg IA I J F) := by
  unfold mX12_value at hm
  refine c_of [.ref 186, .int x1, .int x2] (by decide) (Nat.le_of_ble_eq_true rfl) rfl ?_
  refine e_aload_n (i := 0) rfl dX12_value_0 ?_
  refine q_getF 12 58 218 dX12_value_1 fl_RX12_108 rfl iz_186 (fr_186_58 hF) ?_
  refine e_sipush (v := 128) (by decide) dX12_value_4 ?_
  refine e_iload_n (i := 1) rfl dX12_value_7 ?_
  refine e_imul dX12_value_8 ?_
  refine e_iload_n (i := 2) rfl dX12_value_9 ?_
  refine e_iadd dX12_value_10 ?_
  obtain ⟨c_11, hm⟩ := gd_s hm
  refine l_iald dX12_value_11 iz_218 (inb_in ln_218 c_11) (by decide) ?_
  refine e_iret dX12_value_12 rfl ?_
  have hm := some_in hm
  subst hm
  exact ⟨rfl, rfl⟩
theorem dX12_worth_0 : decode cX12_worth 0 = .ok (.aload_n 0, 1) := by decide +kernel
theorem dX12_worth_1 : decode cX12_worth 1 = .ok (.getfield 455, 3) := by decide +kernel
theorem dX12_worth_4 : decode cX12_worth 4 = .ok (.istore_n 3, 1) := by decide +kernel
theorem dX12_worth_5 : decode cX12_worth 5 = .ok (.iload_n 2, 1) := by decide +kernel
theorem dX12_worth_6 : decode cX12_worth 6 = .ok (.istore 4, 2) := by decide +kernel
theorem dX12_worth_8 : decode cX12_worth 8 = .ok (.aload_n 0, 1) := by decide +kernel
theorem dX12_worth_9 : decode cX12_worth 9 = .ok (.getfield 17, 3) := by decide +kernel
theorem dX12_worth_12 : decode cX12_worth 12 = .ok (.iload 4, 2) := by decide +kernel
theorem dX12_worth_14 : decode cX12_worth 14 = .ok (.iaload, 1) := by decide +kernel
theorem dX12_worth_15 : decode cX12_worth 15 = .ok (.bipush 23, 2) := by decide +kernel
theorem dX12_worth_17 : decode cX12_worth 17 = .ok (.if_icmp .lt 36, 3) := by decide +kernel
theorem dX12_worth_20 : decode cX12_worth 20 = .ok (.aload_n 0, 1) := by decide +kernel
theorem dX12_worth_21 : decode cX12_worth 21 = .ok (.getfield 142, 3) := by decide +kernel
theorem dX12_worth_24 : decode cX12_worth 24 = .ok (.aload_n 0, 1) := by decide +kernel
theorem dX12_worth_25 : decode cX12_worth 25 = .ok (.getfield 455, 3) := by decide +kernel
theorem dX12_worth_28 : decode cX12_worth 28 = .ok (.iload 4, 2) := by decide +kernel
theorem dX12_worth_30 : decode cX12_worth 30 = .ok (.iastore, 1) := by decide +kernel
theorem dX12_worth_31 : decode cX12_worth 31 = .ok (.aload_n 0, 1) := by decide +kernel
theorem dX12_worth_32 : decode cX12_worth 32 = .ok (.dup, 1) := by decide +kernel
theorem dX12_worth_33 : decode cX12_worth 33 = .ok (.getfield 455, 3) := by decide +kernel
theorem dX12_worth_36 : decode cX12_worth 36 = .ok (.iconst 1, 1) := by decide +kernel
theorem dX12_worth_37 : decode cX12_worth 37 = .ok (.iadd, 1) := by decide +kernel
theorem dX12_worth_38 : decode cX12_worth 38 = .ok (.putfield 455, 3) := by decide +kernel
theorem dX12_worth_41 : decode cX12_worth 41 = .ok (.aload_n 0, 1) := by decide +kernel
theorem dX12_worth_42 : decode cX12_worth 42 = .ok (.getfield 20, 3) := by decide +kernel
theorem dX12_worth_45 : decode cX12_worth 45 = .ok (.iload 4, 2) := by decide +kernel
theorem dX12_worth_47 : decode cX12_worth 47 = .ok (.iaload, 1) := by decide +kernel
theorem dX12_worth_48 : decode cX12_worth 48 = .ok (.istore 4, 2) := by decide +kernel
theorem dX12_worth_50 : decode cX12_worth 50 = .ok (.goto (-42), 3) := by decide +kernel
theorem dX12_worth_53 : decode cX12_worth 53 = .ok (.aload_n 0, 1) := by decide +kernel
theorem dX12_worth_54 : decode cX12_worth 54 = .ok (.getfield 17, 3) := by decide +kernel
theorem dX12_worth_57 : decode cX12_worth 57 = .ok (.iload 4, 2) := by decide +kernel
theorem dX12_worth_59 : decode cX12_worth 59 = .ok (.iaload, 1) := by decide +kernel
theorem dX12_worth_60 : decode cX12_worth 60 = .ok (.bipush 20, 2) := by decide +kernel
theorem dX12_worth_62 : decode cX12_worth 62 = .ok (.if_icmp .ne 13, 3) := by decide +kernel
theorem dX12_worth_65 : decode cX12_worth 65 = .ok (.aload_n 0, 1) := by decide +kernel
theorem dX12_worth_66 : decode cX12_worth 66 = .ok (.getfield 20, 3) := by decide +kernel
theorem dX12_worth_69 : decode cX12_worth 69 = .ok (.iload 4, 2) := by decide +kernel
theorem dX12_worth_71 : decode cX12_worth 71 = .ok (.iaload, 1) := by decide +kernel
theorem dX12_worth_72 : decode cX12_worth 72 = .ok (.goto 43, 3) := by decide +kernel
theorem dX12_worth_75 : decode cX12_worth 75 = .ok (.aload_n 0, 1) := by decide +kernel
theorem dX12_worth_76 : decode cX12_worth 76 = .ok (.getfield 17, 3) := by decide +kernel
theorem dX12_worth_79 : decode cX12_worth 79 = .ok (.iload 4, 2) := by decide +kernel
theorem dX12_worth_81 : decode cX12_worth 81 = .ok (.iaload, 1) := by decide +kernel
theorem dX12_worth_82 : decode cX12_worth 82 = .ok (.bipush 21, 2) := by decide +kernel
theorem dX12_worth_84 : decode cX12_worth 84 = .ok (.if_icmp .ne 18, 3) := by decide +kernel
theorem dX12_worth_87 : decode cX12_worth 87 = .ok (.aload_n 0, 1) := by decide +kernel
theorem dX12_worth_88 : decode cX12_worth 88 = .ok (.iload_n 1, 1) := by decide +kernel
theorem dX12_worth_89 : decode cX12_worth 89 = .ok (.aload_n 0, 1) := by decide +kernel
theorem dX12_worth_90 : decode cX12_worth 90 = .ok (.getfield 20, 3) := by decide +kernel
theorem dX12_worth_93 : decode cX12_worth 93 = .ok (.iload 4, 2) := by decide +kernel
theorem dX12_worth_95 : decode cX12_worth 95 = .ok (.iaload, 1) := by decide +kernel
theorem dX12_worth_96 : decode cX12_worth 96 = .ok (.invokevirtual 458, 3) := by decide +kernel
theorem dX12_worth_99 : decode cX12_worth 99 = .ok (.goto 16, 3) := by decide +kernel
theorem dX12_worth_102 : decode cX12_worth 102 = .ok (.aload_n 0, 1) := by decide +kernel
theorem dX12_worth_103 : decode cX12_worth 103 = .ok (.iload_n 1, 1) := by decide +kernel
theorem dX12_worth_104 : decode cX12_worth 104 = .ok (.aload_n 0, 1) := by decide +kernel
theorem dX12_worth_105 : decode cX12_worth 105 = .ok (.getfield 20, 3) := by decide +kernel
theorem dX12_worth_108 : decode cX12_worth 108 = .ok (.iload 4, 2) := by decide +kernel
theorem dX12_worth_110 : decode cX12_worth 110 = .ok (.iaload, 1) := by decide +kernel
theorem dX12_worth_111 : decode cX12_worth 111 = .ok (.invokevirtual 462, 3) := by decide +kernel
theorem dX12_worth_114 : decode cX12_worth 114 = .ok (.ineg, 1) := by decide +kernel
theorem dX12_worth_115 : decode cX12_worth 115 = .ok (.istore 5, 2) := by decide +kernel
theorem dX12_worth_117 : decode cX12_worth 117 = .ok (.aload_n 0, 1) := by decide +kernel
theorem dX12_worth_118 : decode cX12_worth 118 = .ok (.getfield 455, 3) := by decide +kernel
theorem dX12_worth_121 : decode cX12_worth 121 = .ok (.iload_n 3, 1) := by decide +kernel
theorem dX12_worth_122 : decode cX12_worth 122 = .ok (.if_icmp .le 59, 3) := by decide +kernel
theorem dX12_worth_125 : decode cX12_worth 125 = .ok (.aload_n 0, 1) := by decide +kernel
theorem dX12_worth_126 : decode cX12_worth 126 = .ok (.getfield 142, 3) := by decide +kernel
theorem dX12_worth_129 : decode cX12_worth 129 = .ok (.aload_n 0, 1) := by decide +kernel
theorem dX12_worth_130 : decode cX12_worth 130 = .ok (.getfield 455, 3) := by decide +kernel
theorem dX12_worth_133 : decode cX12_worth 133 = .ok (.iconst 1, 1) := by decide +kernel
theorem dX12_worth_134 : decode cX12_worth 134 = .ok (.isub, 1) := by decide +kernel
theorem dX12_worth_135 : decode cX12_worth 135 = .ok (.iaload, 1) := by decide +kernel
theorem dX12_worth_136 : decode cX12_worth 136 = .ok (.istore 6, 2) := by decide +kernel
theorem dX12_worth_138 : decode cX12_worth 138 = .ok (.aload_n 0, 1) := by decide +kernel
theorem dX12_worth_139 : decode cX12_worth 139 = .ok (.iload_n 1, 1) := by decide +kernel
theorem dX12_worth_140 : decode cX12_worth 140 = .ok (.aload_n 0, 1) := by decide +kernel
theorem dX12_worth_141 : decode cX12_worth 141 = .ok (.getfield 23, 3) := by decide +kernel
theorem dX12_worth_144 : decode cX12_worth 144 = .ok (.iload 6, 2) := by decide +kernel
theorem dX12_worth_146 : decode cX12_worth 146 = .ok (.iaload, 1) := by decide +kernel
theorem dX12_worth_147 : decode cX12_worth 147 = .ok (.invokevirtual 462, 3) := by decide +kernel
theorem dX12_worth_150 : decode cX12_worth 150 = .ok (.istore 7, 2) := by decide +kernel
theorem dX12_worth_152 : decode cX12_worth 152 = .ok (.aload_n 0, 1) := by decide +kernel
theorem dX12_worth_153 : decode cX12_worth 153 = .ok (.dup, 1) := by decide +kernel
theorem dX12_worth_154 : decode cX12_worth 154 = .ok (.getfield 455, 3) := by decide +kernel
theorem dX12_worth_157 : decode cX12_worth 157 = .ok (.iconst 1, 1) := by decide +kernel
theorem dX12_worth_158 : decode cX12_worth 158 = .ok (.isub, 1) := by decide +kernel
theorem dX12_worth_159 : decode cX12_worth 159 = .ok (.putfield 455, 3) := by decide +kernel
theorem dX12_worth_162 : decode cX12_worth 162 = .ok (.aload_n 0, 1) := by decide +kernel
theorem dX12_worth_163 : decode cX12_worth 163 = .ok (.getfield 17, 3) := by decide +kernel
theorem dX12_worth_166 : decode cX12_worth 166 = .ok (.iload 6, 2) := by decide +kernel
theorem dX12_worth_168 : decode cX12_worth 168 = .ok (.iaload, 1) := by decide +kernel
theorem dX12_worth_169 : decode cX12_worth 169 = .ok (.iload 5, 2) := by decide +kernel
theorem dX12_worth_171 : decode cX12_worth 171 = .ok (.iload 7, 2) := by decide +kernel
theorem dX12_worth_173 : decode cX12_worth 173 = .ok (.invokestatic 465, 3) := by decide +kernel
theorem dX12_worth_176 : decode cX12_worth 176 = .ok (.istore 5, 2) := by decide +kernel
theorem dX12_worth_178 : decode cX12_worth 178 = .ok (.goto (-61), 3) := by decide +kernel
theorem dX12_worth_181 : decode cX12_worth 181 = .ok (.iload 5, 2) := by decide +kernel
theorem dX12_worth_183 : decode cX12_worth 183 = .ok (.ireturn, 1) := by decide +kernel
abbrev sc_12worthT : Type := (iT → Int32 → Int32 → Option (Int32 × iT))
def sc_12worth_ok (l : Launch) (K : a_KT) (g : a_GT) (D0 : Nat) (R : sc_12worthT) : Prop := (∀ {IA : iT} (I : iT) (J : jT) (F : fT) (x1 : Int32) (x2 : Int32), FOK F → ∀ q : Int32 × iT, R I x1 x2 = some q → C l K g D0 0 0 yX12_worth cX12_worth 8 (some .int) [.ref 186, .int x1, .int x2] (hg IA I J F) (fun r2 h2 => r2 = some (.int q.1) ∧ h2 = hg IA q.2 J F))
def mX12_worth_117 (R : sc_12worthT) : Nat → iT → Int32 → Int32 → Int32 → Int32 → Int32 → Option (Int32 × iT)
  | 0, _, _, _, _, _, _ => none
  | n + 1, I, x1, x2, x3, x4, x5 => if (I 186 76) ≤ x3 then some (x5, I) else if inb ((I 186 76) - 1) 1400 then if inb (I 229 ((I 186 76) - 1).toNatClampNeg) 2800 then (R I x1 (I 190 (I 229 ((I 186 76) - 1).toNatClampNeg).toNatClampNeg)).bind fun q1 => if inb (I 229 ((I 186 76) - 1).toNatClampNeg) 2800 then (mX12_both ((a_u2 q1.2 186 76 ((q1.2 186 76) - 1)) 188 (I 229 ((I 186 76) - 1).toNatClampNeg).toNatClampNeg) x5 q1.1).bind fun q2 => mX12_worth_117 R n (a_u2 q1.2 186 76 ((q1.2 186 76) - 1)) x1 x2 x3 x4 q2 else none else none else none
def mX12_worth_115 (R : sc_12worthT) (I : iT) (x1 : Int32) (x2 : Int32) (x3 : Int32) (x4 : Int32) (s0 : Int32) : Option (Int32 × iT) := mX12_worth_117 R LF I x1 x2 x3 x4 s0
def mX12_worth_8 (R : sc_12worthT) : Nat → iT → Int32 → Int32 → Int32 → Int32 → Option (Int32 × iT)
  | 0, _, _, _, _, _ => none
  | n + 1, I, x1, x2, x3, x4 => if inb x4 2800 then if (I 188 x4.toNatClampNeg) < 23 then if inb x4 2800 then if (I 188 x4.toNatClampNeg) = 20 then if inb x4 2800 then mX12_worth_115 R I x1 x2 x3 x4 (I 189 x4.toNatClampNeg) else none else if inb x4 2800 then if (I 188 x4.toNatClampNeg) = 21 then if inb x4 2800 then (mX12_value I x1 (I 189 x4.toNatClampNeg)).bind fun q4 => mX12_worth_115 R I x1 x2 x3 x4 q4 else none else if inb x4 2800 then (R I x1 (I 189 x4.toNatClampNeg)).bind fun q3 => mX12_worth_115 R q3.2 x1 x2 x3 x4 (-q3.1) else none else none else none else if inb (I 186 76) 1400 then if inb x4 2800 then mX12_worth_8 R n (a_u2 (a_u2 I 229 (I 186 76).toNatClampNeg x4) 186 76 (((a_u2 I 229 (I 186 76).toNatClampNeg x4) 186 76) + 1)) x1 x2 x3 ((a_u2 (a_u2 I 229 (I 186 76).toNatClampNeg x4) 186 76 (((a_u2 I 229 (I 186 76).toNatClampNeg x4) 186 76) + 1)) 189 x4.toNatClampNeg) else none else none else none
def bX12_worth (R : sc_12worthT) (I : iT) (x1 : Int32) (x2 : Int32) : Option (Int32 × iT) := mX12_worth_8 R LF I x1 x2 (I 186 76) x2
def sc_12worth : Nat → sc_12worthT
  | 0 => (fun _ _ _ => none)
  | n + 1 => (bX12_worth (sc_12worth n))
def mX12_worth (n : Nat) : iT → Int32 → Int32 → Option (Int32 × iT) := (sc_12worth n)
set_option maxRecDepth 100000 in
set_option maxHeartbeats 4000000 in
theorem tX12_worth_117 {l : Launch} {K : a_KT} {g : a_GT} {IA : iT} {D0 : Nat} {R : sc_12worthT} (hko : a_kok K) (hB : 1 ≤ D0 + 1) (hR : sc_12worth_ok l K g D0 R) {J : jT} {F : fT} : ∀ (n : Nat) (I : iT) (x1 : Int32) (x2 : Int32) (x3 : Int32) (x4 : Int32) (x5 : Int32) (hF : FOK F) (q : Int32 × iT), mX12_worth_117 R n I x1 x2 x3 x4 x5 = some q → E l K g (D0 + 1) 0 0 yX12_worth cX12_worth 8 (some .int) 117 [.ref 186, .int x1, .int x2, .int x3, .int x4, .int x5, .null, .null] [] (hg IA I J F) (fun r2 h2 => r2 = some (.int q.1) ∧ h2 = hg IA q.2 J F) := by
  intro n
  induction n with
  | zero => intro I x1 x2 x3 x4 x5 hF q hm; cases hm
  | succ n ih =>
    intro I x1 x2 x3 x4 x5 hF q hm
    rw [mX12_worth_117] at hm
    refine e_aload_n (i := 0) rfl dX12_worth_117 ?_
    refine l_getI 12 76 dX12_worth_118 fl_RX12_455 rfl iz_186 (by decide) ?_
    refine e_iload_n (i := 3) rfl dX12_worth_121 ?_
    refine e_icmp_le 181 dX12_worth_122 (by decide) (fun c_122 => ?_) (fun c_122 => ?_)
    · have hm := it_p c_122 hm
      refine e_iload (i := 5) rfl dX12_worth_181 ?_
      refine e_iret dX12_worth_183 rfl ?_
      have hm := some_in hm
      subst hm
      exact ⟨rfl, rfl⟩
    · have hm := it_n c_122 hm
      refine e_aload_n (i := 0) rfl dX12_worth_125 ?_
      refine q_getF 12 75 229 dX12_worth_126 fl_RX12_142 rfl iz_186 (fr_186_75 hF) ?_
      refine e_aload_n (i := 0) rfl dX12_worth_129 ?_
      refine l_getI 12 76 dX12_worth_130 fl_RX12_455 rfl iz_186 (by decide) ?_
      refine e_iconst (v := 1) (by decide) dX12_worth_133 ?_
      refine e_isub dX12_worth_134 ?_
      obtain ⟨c_135, hm⟩ := gd_s hm
      refine l_iald dX12_worth_135 iz_229 (inb_in ln_229 c_135) (by decide) ?_
      refine q_istore (i := 6) (by decide) rfl dX12_worth_136 ?_
      refine e_aload_n (i := 0) rfl dX12_worth_138 ?_
      refine e_iload_n (i := 1) rfl dX12_worth_139 ?_
      refine e_aload_n (i := 0) rfl dX12_worth_140 ?_
      refine q_getF 12 13 190 dX12_worth_141 fl_RX12_23 rfl iz_186 (fr_186_13 hF) ?_
      refine e_iload (i := 6) rfl dX12_worth_144 ?_
      obtain ⟨c_146, hm⟩ := gd_s hm
      refine l_iald dX12_worth_146 iz_190 (inb_in ln_190 c_146) (by decide) ?_
      obtain ⟨q1, eq1, hm⟩ := ob_some hm
      refine e_cV2 hko dX12_worth_147 ml_RX12_462 iz_186 (by decide) rfl (by omega) (Nat.le_of_ble_eq_true rfl) (hR I J F x1 (I 190 (I 229 ((I 186 76) - 1).toNatClampNeg).toNatClampNeg) hF q1 eq1) ?_
      rintro _ _ ⟨rfl, rfl⟩
      refine q_istore (i := 7) (by decide) rfl dX12_worth_150 ?_
      refine e_aload_n (i := 0) rfl dX12_worth_152 ?_
      refine e_dup rfl dX12_worth_153 ?_
      refine l_getI 12 76 dX12_worth_154 fl_RX12_455 rfl iz_186 (by decide) ?_
      refine e_iconst (v := 1) (by decide) dX12_worth_157 ?_
      refine e_isub dX12_worth_158 ?_
      refine l_putI 12 76 dX12_worth_159 fl_RX12_455 rfl rfl iz_186 (by decide) ?_
      refine e_aload_n (i := 0) rfl dX12_worth_162 ?_
      refine q_getF 12 11 188 dX12_worth_163 fl_RX12_17 rfl iz_186 (fr_186_11 hF) ?_
      refine e_iload (i := 6) rfl dX12_worth_166 ?_
      obtain ⟨c_168, hm⟩ := gd_s hm
      refine l_iald dX12_worth_168 iz_188 (inb_in ln_188 c_168) (by decide) ?_
      refine e_iload (i := 5) rfl dX12_worth_169 ?_
      refine e_iload (i := 7) rfl dX12_worth_171 ?_
      obtain ⟨q2, eq2, hm⟩ := ob_some hm
      refine e_cS3 hko dX12_worth_173 ml_RX12_465 (by omega) (Nat.le_of_ble_eq_true rfl) (tX12_both hko (a_u2 q1.2 186 76 ((q1.2 186 76) - 1)) J F hF ((a_u2 q1.2 186 76 ((q1.2 186 76) - 1)) 188 (I 229 ((I 186 76) - 1).toNatClampNeg).toNatClampNeg) x5 q1.1 _ eq2) ?_
      rintro _ _ ⟨rfl, rfl⟩
      refine q_istore (i := 5) (by decide) rfl dX12_worth_176 ?_
      refine e_goto 117 dX12_worth_178 (by decide) ?_
      refine e_weak [.ref 186, .int x1, .int x2, .int x3, .int x4, .int q2, .null, .null] ⟨rfl, ⟨rfl, ⟨rfl, ⟨rfl, ⟨rfl, ⟨rfl, ⟨trivial, ⟨trivial, trivial⟩⟩⟩⟩⟩⟩⟩⟩ ?_
      exact ih (a_u2 q1.2 186 76 ((q1.2 186 76) - 1)) x1 x2 x3 x4 q2 hF _ hm
set_option maxRecDepth 100000 in
set_option maxHeartbeats 4000000 in
theorem tX12_worth_115 {l : Launch} {K : a_KT} {g : a_GT} {IA : iT} {D0 : Nat} {R : sc_12worthT} (hko : a_kok K) (hB : 1 ≤ D0 + 1) (hR : sc_12worth_ok l K g D0 R) {J : jT} {F : fT} (I : iT) (x1 : Int32) (x2 : Int32) (x3 : Int32) (x4 : Int32) (s0 : Int32) (hF : FOK F) (q : Int32 × iT) (hm : mX12_worth_115 R I x1 x2 x3 x4 s0 = some q) : E l K g (D0 + 1) 0 0 yX12_worth cX12_worth 8 (some .int) 115 [.ref 186, .int x1, .int x2, .int x3, .int x4, .null, .null, .null] [.int s0] (hg IA I J F) (fun r2 h2 => r2 = some (.int q.1) ∧ h2 = hg IA q.2 J F) := by
  unfold mX12_worth_115 at hm
  refine q_istore (i := 5) (by decide) rfl dX12_worth_115 ?_
  refine e_weak [.ref 186, .int x1, .int x2, .int x3, .int x4, .int s0, .null, .null] ⟨rfl, ⟨rfl, ⟨rfl, ⟨rfl, ⟨rfl, ⟨rfl, ⟨trivial, ⟨trivial, trivial⟩⟩⟩⟩⟩⟩⟩⟩ ?_
  exact tX12_worth_117 hko hB hR LF I x1 x2 x3 x4 s0 hF _ hm
set_option maxRecDepth 100000 in
set_option maxHeartbeats 4000000 in
theorem tX12_worth_8 {l : Launch} {K : a_KT} {g : a_GT} {IA : iT} {D0 : Nat} {R : sc_12worthT} (hko : a_kok K) (hB : 1 ≤ D0 + 1) (hR : sc_12worth_ok l K g D0 R) {J : jT} {F : fT} : ∀ (n : Nat) (I : iT) (x1 : Int32) (x2 : Int32) (x3 : Int32) (x4 : Int32) (hF : FOK F) (q : Int32 × iT), mX12_worth_8 R n I x1 x2 x3 x4 = some q → E l K g (D0 + 1) 0 0 yX12_worth cX12_worth 8 (some .int) 8 [.ref 186, .int x1, .int x2, .int x3, .int x4, .null, .null, .null] [] (hg IA I J F) (fun r2 h2 => r2 = some (.int q.1) ∧ h2 = hg IA q.2 J F) := by
  intro n
  induction n with
  | zero => intro I x1 x2 x3 x4 hF q hm; cases hm
  | succ n ih =>
    intro I x1 x2 x3 x4 hF q hm
    rw [mX12_worth_8] at hm
    refine e_aload_n (i := 0) rfl dX12_worth_8 ?_
    refine q_getF 12 11 188 dX12_worth_9 fl_RX12_17 rfl iz_186 (fr_186_11 hF) ?_
    refine e_iload (i := 4) rfl dX12_worth_12 ?_
    obtain ⟨c_14, hm⟩ := gd_s hm
    refine l_iald dX12_worth_14 iz_188 (inb_in ln_188 c_14) (by decide) ?_
    refine e_bipush (v := 23) (by decide) dX12_worth_15 ?_
    refine e_icmp_lt 53 dX12_worth_17 (by decide) (fun c_17 => ?_) (fun c_17 => ?_)
    · have hm := it_p c_17 hm
      refine e_aload_n (i := 0) rfl dX12_worth_53 ?_
      refine q_getF 12 11 188 dX12_worth_54 fl_RX12_17 rfl iz_186 (fr_186_11 hF) ?_
      refine e_iload (i := 4) rfl dX12_worth_57 ?_
      obtain ⟨c_59, hm⟩ := gd_s hm
      refine l_iald dX12_worth_59 iz_188 (inb_in ln_188 c_59) (by decide) ?_
      refine e_bipush (v := 20) (by decide) dX12_worth_60 ?_
      refine e_icmp_ne 75 dX12_worth_62 (by decide) (fun c_62 => ?_) (fun c_62 => ?_)
      · have hm := it_n c_62 hm
        refine e_aload_n (i := 0) rfl dX12_worth_75 ?_
        refine q_getF 12 11 188 dX12_worth_76 fl_RX12_17 rfl iz_186 (fr_186_11 hF) ?_
        refine e_iload (i := 4) rfl dX12_worth_79 ?_
        obtain ⟨c_81, hm⟩ := gd_s hm
        refine l_iald dX12_worth_81 iz_188 (inb_in ln_188 c_81) (by decide) ?_
        refine e_bipush (v := 21) (by decide) dX12_worth_82 ?_
        refine e_icmp_ne 102 dX12_worth_84 (by decide) (fun c_84 => ?_) (fun c_84 => ?_)
        · have hm := it_n c_84 hm
          refine e_aload_n (i := 0) rfl dX12_worth_102 ?_
          refine e_iload_n (i := 1) rfl dX12_worth_103 ?_
          refine e_aload_n (i := 0) rfl dX12_worth_104 ?_
          refine q_getF 12 12 189 dX12_worth_105 fl_RX12_20 rfl iz_186 (fr_186_12 hF) ?_
          refine e_iload (i := 4) rfl dX12_worth_108 ?_
          obtain ⟨c_110, hm⟩ := gd_s hm
          refine l_iald dX12_worth_110 iz_189 (inb_in ln_189 c_110) (by decide) ?_
          obtain ⟨q3, eq3, hm⟩ := ob_some hm
          refine e_cV2 hko dX12_worth_111 ml_RX12_462 iz_186 (by decide) rfl (by omega) (Nat.le_of_ble_eq_true rfl) (hR I J F x1 (I 189 x4.toNatClampNeg) hF q3 eq3) ?_
          rintro _ _ ⟨rfl, rfl⟩
          refine e_ineg dX12_worth_114 ?_
          refine e_weak [.ref 186, .int x1, .int x2, .int x3, .int x4, .null, .null, .null] ⟨rfl, ⟨rfl, ⟨rfl, ⟨rfl, ⟨rfl, ⟨trivial, ⟨trivial, ⟨trivial, trivial⟩⟩⟩⟩⟩⟩⟩⟩ ?_
          exact tX12_worth_115 hko hB hR q3.2 x1 x2 x3 x4 (-q3.1) hF _ hm
        · have hm := it_p c_84 hm
          refine e_aload_n (i := 0) rfl dX12_worth_87 ?_
          refine e_iload_n (i := 1) rfl dX12_worth_88 ?_
          refine e_aload_n (i := 0) rfl dX12_worth_89 ?_
          refine q_getF 12 12 189 dX12_worth_90 fl_RX12_20 rfl iz_186 (fr_186_12 hF) ?_
          refine e_iload (i := 4) rfl dX12_worth_93 ?_
          obtain ⟨c_95, hm⟩ := gd_s hm
          refine l_iald dX12_worth_95 iz_189 (inb_in ln_189 c_95) (by decide) ?_
          obtain ⟨q4, eq4, hm⟩ := ob_some hm
          refine e_cV2 hko dX12_worth_96 ml_RX12_458 iz_186 (by decide) rfl (by omega) (Nat.le_of_ble_eq_true rfl) (tX12_value hko I J F hF x1 (I 189 x4.toNatClampNeg) _ eq4) ?_
          rintro _ _ ⟨rfl, rfl⟩
          refine e_goto 115 dX12_worth_99 (by decide) ?_
          refine e_weak [.ref 186, .int x1, .int x2, .int x3, .int x4, .null, .null, .null] ⟨rfl, ⟨rfl, ⟨rfl, ⟨rfl, ⟨rfl, ⟨trivial, ⟨trivial, ⟨trivial, trivial⟩⟩⟩⟩⟩⟩⟩⟩ ?_
          exact tX12_worth_115 hko hB hR I x1 x2 x3 x4 q4 hF _ hm
      · have hm := it_p c_62 hm
        refine e_aload_n (i := 0) rfl dX12_worth_65 ?_
        refine q_getF 12 12 189 dX12_worth_66 fl_RX12_20 rfl iz_186 (fr_186_12 hF) ?_
        refine e_iload (i := 4) rfl dX12_worth_69 ?_
        obtain ⟨c_71, hm⟩ := gd_s hm
        refine l_iald dX12_worth_71 iz_189 (inb_in ln_189 c_71) (by decide) ?_
        refine e_goto 115 dX12_worth_72 (by decide) ?_
        refine e_weak [.ref 186, .int x1, .int x2, .int x3, .int x4, .null, .null, .null] ⟨rfl, ⟨rfl, ⟨rfl, ⟨rfl, ⟨rfl, ⟨trivial, ⟨trivial, ⟨trivial, trivial⟩⟩⟩⟩⟩⟩⟩⟩ ?_
        exact tX12_worth_115 hko hB hR I x1 x2 x3 x4 (I 189 x4.toNatClampNeg) hF _ hm
    · have hm := it_n c_17 hm
      refine e_aload_n (i := 0) rfl dX12_worth_20 ?_
      refine q_getF 12 75 229 dX12_worth_21 fl_RX12_142 rfl iz_186 (fr_186_75 hF) ?_
      refine e_aload_n (i := 0) rfl dX12_worth_24 ?_
      refine l_getI 12 76 dX12_worth_25 fl_RX12_455 rfl iz_186 (by decide) ?_
      refine e_iload (i := 4) rfl dX12_worth_28 ?_
      obtain ⟨c_30, hm⟩ := gd_s hm
      refine l_iast dX12_worth_30 iz_229 (inb_in ln_229 c_30) (by decide) ?_
      refine e_aload_n (i := 0) rfl dX12_worth_31 ?_
      refine e_dup rfl dX12_worth_32 ?_
      refine l_getI 12 76 dX12_worth_33 fl_RX12_455 rfl iz_186 (by decide) ?_
      refine e_iconst (v := 1) (by decide) dX12_worth_36 ?_
      refine e_iadd dX12_worth_37 ?_
      refine l_putI 12 76 dX12_worth_38 fl_RX12_455 rfl rfl iz_186 (by decide) ?_
      refine e_aload_n (i := 0) rfl dX12_worth_41 ?_
      refine q_getF 12 12 189 dX12_worth_42 fl_RX12_20 rfl iz_186 (fr_186_12 hF) ?_
      refine e_iload (i := 4) rfl dX12_worth_45 ?_
      obtain ⟨c_47, hm⟩ := gd_s hm
      refine l_iald dX12_worth_47 iz_189 (inb_in ln_189 c_47) (by decide) ?_
      refine q_istore (i := 4) (by decide) rfl dX12_worth_48 ?_
      refine e_goto 8 dX12_worth_50 (by decide) ?_
      refine e_weak [.ref 186, .int x1, .int x2, .int x3, .int ((a_u2 (a_u2 I 229 (I 186 76).toNatClampNeg x4) 186 76 (((a_u2 I 229 (I 186 76).toNatClampNeg x4) 186 76) + 1)) 189 x4.toNatClampNeg), .null, .null, .null] ⟨rfl, ⟨rfl, ⟨rfl, ⟨rfl, ⟨rfl, ⟨trivial, ⟨trivial, ⟨trivial, trivial⟩⟩⟩⟩⟩⟩⟩⟩ ?_
      exact ih (a_u2 (a_u2 I 229 (I 186 76).toNatClampNeg x4) 186 76 (((a_u2 I 229 (I 186 76).toNatClampNeg x4) 186 76) + 1)) x1 x2 x3 ((a_u2 (a_u2 I 229 (I 186 76).toNatClampNeg x4) 186 76 (((a_u2 I 229 (I 186 76).toNatClampNeg x4) 186 76) + 1)) 189 x4.toNatClampNeg) hF _ hm
set_option maxRecDepth 100000 in
set_option maxHeartbeats 4000000 in
theorem tbX12_worth {l : Launch} {K : a_KT} {g : a_GT} {IA : iT} {D0 : Nat} {R : sc_12worthT} (hko : a_kok K) (hB : 1 ≤ D0 + 1) (hR : sc_12worth_ok l K g D0 R) (I : iT) (J : jT) (F : fT) (hF : FOK F) (x1 : Int32) (x2 : Int32) (q : Int32 × iT) (hm : bX12_worth R I x1 x2 = some q) : C l K g (D0 + 1) 0 0 yX12_worth cX12_worth 8 (some .int) [.ref 186, .int x1, .int x2] (hg IA I J F) (fun r2 h2 => r2 = some (.int q.1) ∧ h2 = hg IA q.2 J F) := by
  unfold bX12_worth at hm
  refine c_of [.ref 186, .int x1, .int x2, .null, .null, .null, .null, .null] (by decide) (Nat.le_of_ble_eq_true rfl) rfl ?_
  refine e_aload_n (i := 0) rfl dX12_worth_0 ?_
  refine l_getI 12 76 dX12_worth_1 fl_RX12_455 rfl iz_186 (by decide) ?_
  refine q_istore_n (i := 3) (by decide) rfl dX12_worth_4 ?_
  refine e_iload_n (i := 2) rfl dX12_worth_5 ?_
  refine q_istore (i := 4) (by decide) rfl dX12_worth_6 ?_
  refine e_weak [.ref 186, .int x1, .int x2, .int (I 186 76), .int x2, .null, .null, .null] ⟨rfl, ⟨rfl, ⟨rfl, ⟨rfl, ⟨rfl, ⟨trivial, ⟨trivial, ⟨trivial, trivial⟩⟩⟩⟩⟩⟩⟩⟩ ?_
  exact tX12_worth_8 hko hB hR LF I x1 x2 (I 186 76) x2 hF _ hm
set_option maxRecDepth 100000 in
set_option maxHeartbeats 4000000 in
theorem sc_12worth_all {l : Launch} {K : a_KT} {g : a_GT} (hko : a_kok K) : ∀ n : Nat, sc_12worth_ok l K g (1 + n) (sc_12worth n) := by
  intro n
  induction n with
  | zero => exact (by unfold sc_12worth_ok; intros; rename_i h; cases (show (none : Option _) = some _ from h))
  | succ n ih =>
    exact fun I J F x1 x2 hF q hm => tbX12_worth hko (by omega) ih I J F hF x1 x2 q hm
theorem tX12_worth {l : Launch} {K : a_KT} {g : a_GT} {IA : iT} (hko : a_kok K) (I : iT) (J : jT) (F : fT) (hF : FOK F) (x1 : Int32) (x2 : Int32) (q : Int32 × iT) (hm : mX12_worth SF I x1 x2 = some q) : C l K g 451 0 0 yX12_worth cX12_worth 8 (some .int) [.ref 186, .int x1, .int x2] (hg IA I J F) (fun r2 h2 => r2 = some (.int q.1) ∧ h2 = hg IA q.2 J F) := (sc_12worth_all hko SF) I J F x1 x2 hF q hm
theorem dX12_settles_0 : decode cX12_settles 0 = .ok (.aload_n 0, 1) := by decide +kernel
theorem dX12_settles_1 : decode cX12_settles 1 = .ok (.getfield 17, 3) := by decide +kernel
theorem dX12_settles_4 : decode cX12_settles 4 = .ok (.aload_n 0, 1) := by decide +kernel
theorem dX12_settles_5 : decode cX12_settles 5 = .ok (.getfield 93, 3) := by decide +kernel
theorem dX12_settles_8 : decode cX12_settles 8 = .ok (.iload_n 1, 1) := by decide +kernel
theorem dX12_settles_9 : decode cX12_settles 9 = .ok (.iaload, 1) := by decide +kernel
theorem dX12_settles_10 : decode cX12_settles 10 = .ok (.iaload, 1) := by decide +kernel
theorem dX12_settles_11 : decode cX12_settles 11 = .ok (.bipush 52, 2) := by decide +kernel
theorem dX12_settles_13 : decode cX12_settles 13 = .ok (.if_icmp .ne 49, 3) := by decide +kernel
theorem dX12_settles_16 : decode cX12_settles 16 = .ok (.aload_n 0, 1) := by decide +kernel
theorem dX12_settles_17 : decode cX12_settles 17 = .ok (.getfield 93, 3) := by decide +kernel
theorem dX12_settles_20 : decode cX12_settles 20 = .ok (.iload_n 1, 1) := by decide +kernel
theorem dX12_settles_21 : decode cX12_settles 21 = .ok (.iaload, 1) := by decide +kernel
theorem dX12_settles_22 : decode cX12_settles 22 = .ok (.istore_n 2, 1) := by decide +kernel
theorem dX12_settles_23 : decode cX12_settles 23 = .ok (.aload_n 0, 1) := by decide +kernel
theorem dX12_settles_24 : decode cX12_settles 24 = .ok (.getfield 93, 3) := by decide +kernel
theorem dX12_settles_27 : decode cX12_settles 27 = .ok (.iload_n 1, 1) := by decide +kernel
theorem dX12_settles_28 : decode cX12_settles 28 = .ok (.aload_n 0, 1) := by decide +kernel
theorem dX12_settles_29 : decode cX12_settles 29 = .ok (.iload_n 1, 1) := by decide +kernel
theorem dX12_settles_30 : decode cX12_settles 30 = .ok (.aload_n 0, 1) := by decide +kernel
theorem dX12_settles_31 : decode cX12_settles 31 = .ok (.getfield 20, 3) := by decide +kernel
theorem dX12_settles_34 : decode cX12_settles 34 = .ok (.iload_n 2, 1) := by decide +kernel
theorem dX12_settles_35 : decode cX12_settles 35 = .ok (.iaload, 1) := by decide +kernel
theorem dX12_settles_36 : decode cX12_settles 36 = .ok (.invokevirtual 462, 3) := by decide +kernel
theorem dX12_settles_39 : decode cX12_settles 39 = .ok (.ifCond .eq 12, 3) := by decide +kernel
theorem dX12_settles_42 : decode cX12_settles 42 = .ok (.aload_n 0, 1) := by decide +kernel
theorem dX12_settles_43 : decode cX12_settles 43 = .ok (.getfield 23, 3) := by decide +kernel
theorem dX12_settles_46 : decode cX12_settles 46 = .ok (.iload_n 2, 1) := by decide +kernel
theorem dX12_settles_47 : decode cX12_settles 47 = .ok (.iaload, 1) := by decide +kernel
theorem dX12_settles_48 : decode cX12_settles 48 = .ok (.goto 10, 3) := by decide +kernel
theorem dX12_settles_51 : decode cX12_settles 51 = .ok (.aload_n 0, 1) := by decide +kernel
theorem dX12_settles_52 : decode cX12_settles 52 = .ok (.getfield 29, 3) := by decide +kernel
theorem dX12_settles_55 : decode cX12_settles 55 = .ok (.iload_n 2, 1) := by decide +kernel
theorem dX12_settles_56 : decode cX12_settles 56 = .ok (.laload, 1) := by decide +kernel
theorem dX12_settles_57 : decode cX12_settles 57 = .ok (.l2i, 1) := by decide +kernel
theorem dX12_settles_58 : decode cX12_settles 58 = .ok (.iastore, 1) := by decide +kernel
theorem dX12_settles_59 : decode cX12_settles 59 = .ok (.goto (-59), 3) := by decide +kernel
theorem dX12_settles_62 : decode cX12_settles 62 = .ok (.return_, 1) := by decide +kernel
def mX12_settles_58 (k0 : iT → jT → Int32 → Option (iT)) (I : iT) (J : jT) (x1 : Int32) (x2 : Int32) (s0 : Int32) (s1 : Int32) : Option (iT) := if inb s1 80 then k0 (a_u2 I 213 s1.toNatClampNeg s0) J x1 else none
def mX12_settles_0 : Nat → iT → jT → Int32 → Option (iT)
  | 0, _, _, _ => none
  | n + 1, I, J, x1 => if inb x1 80 then if inb (I 213 x1.toNatClampNeg) 2800 then if (I 188 (I 213 x1.toNatClampNeg).toNatClampNeg) = 52 then if inb x1 80 then if inb (I 213 x1.toNatClampNeg) 2800 then (mX12_worth SF I x1 (I 189 (I 213 x1.toNatClampNeg).toNatClampNeg)).bind fun q1 => if q1.1 = 0 then if inb (I 213 x1.toNatClampNeg) 2800 then mX12_settles_58 (mX12_settles_0 n) q1.2 J x1 (I 213 x1.toNatClampNeg) ((J 192 (I 213 x1.toNatClampNeg).toNatClampNeg).toInt32) x1 else none else if inb (I 213 x1.toNatClampNeg) 2800 then mX12_settles_58 (mX12_settles_0 n) q1.2 J x1 (I 213 x1.toNatClampNeg) (q1.2 190 (I 213 x1.toNatClampNeg).toNatClampNeg) x1 else none else none else none else some I else none else none
def mX12_settles (I : iT) (J : jT) (x1 : Int32) : Option (iT) := mX12_settles_0 LF I J x1
set_option maxRecDepth 100000 in
set_option maxHeartbeats 4000000 in
theorem tX12_settles_58 {l : Launch} {K : a_KT} {g : a_GT} {IA : iT} (hko : a_kok K) {F : fT} {k0 : iT → jT → Int32 → Option (iT)} (hk0 : ∀ (I : iT) (J : jT) (x1 : Int32) (_ : FOK F) (q : iT), k0 I J x1 = some q → E l K g 452 0 0 yX12_settles cX12_settles 3 none 0 [.ref 186, .int x1, .null] [] (hg IA I J F) (fun r2 h2 => r2 = none ∧ h2 = hg IA q J F)) (I : iT) (J : jT) (x1 : Int32) (x2 : Int32) (s0 : Int32) (s1 : Int32) (hF : FOK F) (q : iT) (hm : mX12_settles_58 k0 I J x1 x2 s0 s1 = some q) : E l K g 452 0 0 yX12_settles cX12_settles 3 none 58 [.ref 186, .int x1, .int x2] [.int s0, .int s1, .ref 213] (hg IA I J F) (fun r2 h2 => r2 = none ∧ h2 = hg IA q J F) := by
  unfold mX12_settles_58 at hm
  obtain ⟨c_58, hm⟩ := gd_s hm
  refine l_iast dX12_settles_58 iz_213 (inb_in ln_213 c_58) (by decide) ?_
  refine e_goto 0 dX12_settles_59 (by decide) ?_
  refine e_weak [.ref 186, .int x1, .null] ⟨rfl, ⟨rfl, ⟨trivial, trivial⟩⟩⟩ ?_
  exact hk0 (a_u2 I 213 s1.toNatClampNeg s0) J x1 hF _ hm
set_option maxRecDepth 100000 in
set_option maxHeartbeats 4000000 in
theorem tX12_settles_0 {l : Launch} {K : a_KT} {g : a_GT} {IA : iT} (hko : a_kok K) {F : fT} : ∀ (n : Nat) (I : iT) (J : jT) (x1 : Int32) (hF : FOK F) (q : iT), mX12_settles_0 n I J x1 = some q → E l K g 452 0 0 yX12_settles cX12_settles 3 none 0 [.ref 186, .int x1, .null] [] (hg IA I J F) (fun r2 h2 => r2 = none ∧ h2 = hg IA q J F) := by
  intro n
  induction n with
  | zero => intro I J x1 hF q hm; cases hm
  | succ n ih =>
    intro I J x1 hF q hm
    rw [mX12_settles_0] at hm
    refine e_aload_n (i := 0) rfl dX12_settles_0 ?_
    refine q_getF 12 11 188 dX12_settles_1 fl_RX12_17 rfl iz_186 (fr_186_11 hF) ?_
    refine e_aload_n (i := 0) rfl dX12_settles_4 ?_
    refine q_getF 12 53 213 dX12_settles_5 fl_RX12_93 rfl iz_186 (fr_186_53 hF) ?_
    refine e_iload_n (i := 1) rfl dX12_settles_8 ?_
    obtain ⟨c_9, hm⟩ := gd_s hm
    refine l_iald dX12_settles_9 iz_213 (inb_in ln_213 c_9) (by decide) ?_
    obtain ⟨c_10, hm⟩ := gd_s hm
    refine l_iald dX12_settles_10 iz_188 (inb_in ln_188 c_10) (by decide) ?_
    refine e_bipush (v := 52) (by decide) dX12_settles_11 ?_
    refine e_icmp_ne 62 dX12_settles_13 (by decide) (fun c_13 => ?_) (fun c_13 => ?_)
    · have hm := it_n c_13 hm
      refine e_vret dX12_settles_62 rfl ?_
      have hm := some_in hm
      subst hm
      exact ⟨rfl, rfl⟩
    · have hm := it_p c_13 hm
      refine e_aload_n (i := 0) rfl dX12_settles_16 ?_
      refine q_getF 12 53 213 dX12_settles_17 fl_RX12_93 rfl iz_186 (fr_186_53 hF) ?_
      refine e_iload_n (i := 1) rfl dX12_settles_20 ?_
      obtain ⟨c_21, hm⟩ := gd_s hm
      refine l_iald dX12_settles_21 iz_213 (inb_in ln_213 c_21) (by decide) ?_
      refine q_istore_n (i := 2) (by decide) rfl dX12_settles_22 ?_
      refine e_aload_n (i := 0) rfl dX12_settles_23 ?_
      refine q_getF 12 53 213 dX12_settles_24 fl_RX12_93 rfl iz_186 (fr_186_53 hF) ?_
      refine e_iload_n (i := 1) rfl dX12_settles_27 ?_
      refine e_aload_n (i := 0) rfl dX12_settles_28 ?_
      refine e_iload_n (i := 1) rfl dX12_settles_29 ?_
      refine e_aload_n (i := 0) rfl dX12_settles_30 ?_
      refine q_getF 12 12 189 dX12_settles_31 fl_RX12_20 rfl iz_186 (fr_186_12 hF) ?_
      refine e_iload_n (i := 2) rfl dX12_settles_34 ?_
      obtain ⟨c_35, hm⟩ := gd_s hm
      refine l_iald dX12_settles_35 iz_189 (inb_in ln_189 c_35) (by decide) ?_
      obtain ⟨q1, eq1, hm⟩ := ob_some hm
      refine e_cV2 hko dX12_settles_36 ml_RX12_462 iz_186 (by decide) rfl (by omega) (Nat.le_of_ble_eq_true rfl) (tX12_worth hko I J F hF x1 (I 189 (I 213 x1.toNatClampNeg).toNatClampNeg) _ eq1) ?_
      rintro _ _ ⟨rfl, rfl⟩
      refine e_if_eq 51 dX12_settles_39 (by decide) (fun c_39 => ?_) (fun c_39 => ?_)
      · have hm := it_p c_39 hm
        refine e_aload_n (i := 0) rfl dX12_settles_51 ?_
        refine q_getF 12 15 192 dX12_settles_52 fl_RX12_29 rfl iz_186 (fr_186_15 hF) ?_
        refine e_iload_n (i := 2) rfl dX12_settles_55 ?_
        obtain ⟨c_56, hm⟩ := gd_s hm
        refine q_lald dX12_settles_56 iz_192 (inb_in ln_192 c_56) ?_
        refine e_l2i dX12_settles_57 ?_
        refine e_weak [.ref 186, .int x1, .int (I 213 x1.toNatClampNeg)] ⟨rfl, ⟨rfl, ⟨rfl, trivial⟩⟩⟩ ?_
        exact tX12_settles_58 hko (ih) q1.2 J x1 (I 213 x1.toNatClampNeg) ((J 192 (I 213 x1.toNatClampNeg).toNatClampNeg).toInt32) x1 hF _ hm
      · have hm := it_n c_39 hm
        refine e_aload_n (i := 0) rfl dX12_settles_42 ?_
        refine q_getF 12 13 190 dX12_settles_43 fl_RX12_23 rfl iz_186 (fr_186_13 hF) ?_
        refine e_iload_n (i := 2) rfl dX12_settles_46 ?_
        obtain ⟨c_47, hm⟩ := gd_s hm
        refine l_iald dX12_settles_47 iz_190 (inb_in ln_190 c_47) (by decide) ?_
        refine e_goto 58 dX12_settles_48 (by decide) ?_
        refine e_weak [.ref 186, .int x1, .int (I 213 x1.toNatClampNeg)] ⟨rfl, ⟨rfl, ⟨rfl, trivial⟩⟩⟩ ?_
        exact tX12_settles_58 hko (ih) q1.2 J x1 (I 213 x1.toNatClampNeg) (q1.2 190 (I 213 x1.toNatClampNeg).toNatClampNeg) x1 hF _ hm
set_option maxRecDepth 100000 in
set_option maxHeartbeats 4000000 in
theorem tX12_settles {l : Launch} {K : a_KT} {g : a_GT} {IA : iT} (hko : a_kok K) (I : iT) (J : jT) (F : fT) (hF : FOK F) (x1 : Int32) (q : iT) (hm : mX12_settles I J x1 = some q) : C l K g 452 0 0 yX12_settles cX12_settles 3 none [.ref 186, .int x1] (hg IA I J F) (fun r2 h2 => r2 = none ∧ h2 = hg IA q J F) := by
  unfold mX12_settles at hm
  refine c_of [.ref 186, .int x1, .null] (by decide) (Nat.le_of_ble_eq_true rfl) rfl ?_
  refine e_weak [.ref 186, .int x1, .null] ⟨rfl, ⟨rfl, ⟨trivial, trivial⟩⟩⟩ ?_
  exact tX12_settles_0 hko LF I J x1 hF _ hm
theorem dX12_begins_0 : decode cX12_begins 0 = .ok (.aload_n 0, 1) := by decide +kernel
theorem dX12_begins_1 : decode cX12_begins 1 = .ok (.iconst 1, 1) := by decide +kernel
theorem dX12_begins_2 : decode cX12_begins 2 = .ok (.putfield 427, 3) := by decide +kernel
theorem dX12_begins_5 : decode cX12_begins 5 = .ok (.aload_n 0, 1) := by decide +kernel
theorem dX12_begins_6 : decode cX12_begins 6 = .ok (.iconst 0, 1) := by decide +kernel
theorem dX12_begins_7 : decode cX12_begins 7 = .ok (.putfield 421, 3) := by decide +kernel
theorem dX12_begins_10 : decode cX12_begins 10 = .ok (.aload_n 0, 1) := by decide +kernel
theorem dX12_begins_11 : decode cX12_begins 11 = .ok (.iconst 0, 1) := by decide +kernel
theorem dX12_begins_12 : decode cX12_begins 12 = .ok (.putfield 430, 3) := by decide +kernel
theorem dX12_begins_15 : decode cX12_begins 15 = .ok (.aload_n 0, 1) := by decide +kernel
theorem dX12_begins_16 : decode cX12_begins 16 = .ok (.iconst 0, 1) := by decide +kernel
theorem dX12_begins_17 : decode cX12_begins 17 = .ok (.putfield 433, 3) := by decide +kernel
theorem dX12_begins_20 : decode cX12_begins 20 = .ok (.aload_n 0, 1) := by decide +kernel
theorem dX12_begins_21 : decode cX12_begins 21 = .ok (.iconst 0, 1) := by decide +kernel
theorem dX12_begins_22 : decode cX12_begins 22 = .ok (.putfield 436, 3) := by decide +kernel
theorem dX12_begins_25 : decode cX12_begins 25 = .ok (.aload_n 0, 1) := by decide +kernel
theorem dX12_begins_26 : decode cX12_begins 26 = .ok (.iconst 0, 1) := by decide +kernel
theorem dX12_begins_27 : decode cX12_begins 27 = .ok (.putfield 439, 3) := by decide +kernel
theorem dX12_begins_30 : decode cX12_begins 30 = .ok (.aload_n 0, 1) := by decide +kernel
theorem dX12_begins_31 : decode cX12_begins 31 = .ok (.getfield 69, 3) := by decide +kernel
theorem dX12_begins_34 : decode cX12_begins 34 = .ok (.aload_n 0, 1) := by decide +kernel
theorem dX12_begins_35 : decode cX12_begins 35 = .ok (.getfield 405, 3) := by decide +kernel
theorem dX12_begins_38 : decode cX12_begins 38 = .ok (.iaload, 1) := by decide +kernel
theorem dX12_begins_39 : decode cX12_begins 39 = .ok (.iconst 1, 1) := by decide +kernel
theorem dX12_begins_40 : decode cX12_begins 40 = .ok (.isub, 1) := by decide +kernel
theorem dX12_begins_41 : decode cX12_begins 41 = .ok (.istore_n 1, 1) := by decide +kernel
theorem dX12_begins_42 : decode cX12_begins 42 = .ok (.aload_n 0, 1) := by decide +kernel
theorem dX12_begins_43 : decode cX12_begins 43 = .ok (.getfield 96, 3) := by decide +kernel
theorem dX12_begins_46 : decode cX12_begins 46 = .ok (.iconst 0, 1) := by decide +kernel
theorem dX12_begins_47 : decode cX12_begins 47 = .ok (.aload_n 0, 1) := by decide +kernel
theorem dX12_begins_48 : decode cX12_begins 48 = .ok (.invokevirtual 442, 3) := by decide +kernel
theorem dX12_begins_51 : decode cX12_begins 51 = .ok (.iastore, 1) := by decide +kernel
theorem dX12_begins_52 : decode cX12_begins 52 = .ok (.aload_n 0, 1) := by decide +kernel
theorem dX12_begins_53 : decode cX12_begins 53 = .ok (.getfield 108, 3) := by decide +kernel
theorem dX12_begins_56 : decode cX12_begins 56 = .ok (.iconst 0, 1) := by decide +kernel
theorem dX12_begins_57 : decode cX12_begins 57 = .ok (.aload_n 0, 1) := by decide +kernel
theorem dX12_begins_58 : decode cX12_begins 58 = .ok (.getfield 96, 3) := by decide +kernel
theorem dX12_begins_61 : decode cX12_begins 61 = .ok (.iconst 0, 1) := by decide +kernel
theorem dX12_begins_62 : decode cX12_begins 62 = .ok (.iaload, 1) := by decide +kernel
theorem dX12_begins_63 : decode cX12_begins 63 = .ok (.iastore, 1) := by decide +kernel
theorem dX12_begins_64 : decode cX12_begins 64 = .ok (.aload_n 0, 1) := by decide +kernel
theorem dX12_begins_65 : decode cX12_begins 65 = .ok (.iconst 0, 1) := by decide +kernel
theorem dX12_begins_66 : decode cX12_begins 66 = .ok (.invokevirtual 445, 3) := by decide +kernel
theorem dX12_begins_69 : decode cX12_begins 69 = .ok (.aload_n 0, 1) := by decide +kernel
theorem dX12_begins_70 : decode cX12_begins 70 = .ok (.iconst 0, 1) := by decide +kernel
theorem dX12_begins_71 : decode cX12_begins 71 = .ok (.iload_n 1, 1) := by decide +kernel
theorem dX12_begins_72 : decode cX12_begins 72 = .ok (.invokevirtual 448, 3) := by decide +kernel
theorem dX12_begins_75 : decode cX12_begins 75 = .ok (.aload_n 0, 1) := by decide +kernel
theorem dX12_begins_76 : decode cX12_begins 76 = .ok (.iconst 0, 1) := by decide +kernel
theorem dX12_begins_77 : decode cX12_begins 77 = .ok (.invokevirtual 452, 3) := by decide +kernel
theorem dX12_begins_80 : decode cX12_begins 80 = .ok (.return_, 1) := by decide +kernel
def mX12_begins (I : iT) (J : jT) : Option (iT) := if inb ((a_u2 (a_u2 (a_u2 (a_u2 (a_u2 (a_u2 I 186 60 1) 186 61 0) 186 62 0) 186 63 0) 186 64 0) 186 65 0) 186 31) 2 then (mX12_newChannel (a_u2 (a_u2 (a_u2 (a_u2 (a_u2 (a_u2 I 186 60 1) 186 61 0) 186 62 0) 186 63 0) 186 64 0) 186 65 0)).bind fun q1 => if inb 0 80 then if inb 0 80 then if inb 0 10240 then (mX12_fresh0 (a_u2 (a_u2 q1.2 214 (Int32.toNatClampNeg 0) q1.1) 218 (Int32.toNatClampNeg 0) ((a_u2 q1.2 214 (Int32.toNatClampNeg 0) q1.1) 214 (Int32.toNatClampNeg 0))) 0).bind fun q2 => (mX12_enters q2 0 (((a_u2 (a_u2 (a_u2 (a_u2 (a_u2 (a_u2 I 186 60 1) 186 61 0) 186 62 0) 186 63 0) 186 64 0) 186 65 0) 205 ((a_u2 (a_u2 (a_u2 (a_u2 (a_u2 (a_u2 I 186 60 1) 186 61 0) 186 62 0) 186 63 0) 186 64 0) 186 65 0) 186 31).toNatClampNeg) - 1)).bind fun q3 => (mX12_settles q3 J 0).bind fun q4 => some q4 else none else none else none else none
set_option maxRecDepth 100000 in
set_option maxHeartbeats 4000000 in
theorem tX12_begins {l : Launch} {K : a_KT} {g : a_GT} {IA : iT} (hko : a_kok K) (I : iT) (J : jT) (F : fT) (hF : FOK F) (q : iT) (hm : mX12_begins I J = some q) : C l K g 453 0 0 yX12_begins cX12_begins 2 none [.ref 186] (hg IA I J F) (fun r2 h2 => r2 = none ∧ h2 = hg IA q J F) := by
  unfold mX12_begins at hm
  refine c_of [.ref 186, .null] (by decide) (Nat.le_of_ble_eq_true rfl) rfl ?_
  refine e_aload_n (i := 0) rfl dX12_begins_0 ?_
  refine e_iconst (v := 1) (by decide) dX12_begins_1 ?_
  refine l_putI 12 60 dX12_begins_2 fl_RX12_427 rfl rfl iz_186 (by decide) ?_
  refine e_aload_n (i := 0) rfl dX12_begins_5 ?_
  refine e_iconst (v := 0) (by decide) dX12_begins_6 ?_
  refine l_putI 12 61 dX12_begins_7 fl_RX12_421 rfl rfl iz_186 (by decide) ?_
  refine e_aload_n (i := 0) rfl dX12_begins_10 ?_
  refine e_iconst (v := 0) (by decide) dX12_begins_11 ?_
  refine l_putI 12 62 dX12_begins_12 fl_RX12_430 rfl rfl iz_186 (by decide) ?_
  refine e_aload_n (i := 0) rfl dX12_begins_15 ?_
  refine e_iconst (v := 0) (by decide) dX12_begins_16 ?_
  refine l_putI 12 63 dX12_begins_17 fl_RX12_433 rfl rfl iz_186 (by decide) ?_
  refine e_aload_n (i := 0) rfl dX12_begins_20 ?_
  refine e_iconst (v := 0) (by decide) dX12_begins_21 ?_
  refine l_putI 12 64 dX12_begins_22 fl_RX12_436 rfl rfl iz_186 (by decide) ?_
  refine e_aload_n (i := 0) rfl dX12_begins_25 ?_
  refine e_iconst (v := 0) (by decide) dX12_begins_26 ?_
  refine l_putZ 12 65 dX12_begins_27 fl_RX12_439 rfl rfl (by decide) iz_186 (by decide) ?_
  refine e_aload_n (i := 0) rfl dX12_begins_30 ?_
  refine q_getF 12 30 205 dX12_begins_31 fl_RX12_69 rfl iz_186 (fr_186_30 hF) ?_
  refine e_aload_n (i := 0) rfl dX12_begins_34 ?_
  refine l_getI 12 31 dX12_begins_35 fl_RX12_405 rfl iz_186 (by decide) ?_
  obtain ⟨c_38, hm⟩ := gd_s hm
  refine l_iald dX12_begins_38 iz_205 (inb_in ln_205 c_38) (by decide) ?_
  refine e_iconst (v := 1) (by decide) dX12_begins_39 ?_
  refine e_isub dX12_begins_40 ?_
  refine q_istore_n (i := 1) (by decide) rfl dX12_begins_41 ?_
  refine e_aload_n (i := 0) rfl dX12_begins_42 ?_
  refine q_getF 12 54 214 dX12_begins_43 fl_RX12_96 rfl iz_186 (fr_186_54 hF) ?_
  refine e_iconst (v := 0) (by decide) dX12_begins_46 ?_
  refine e_aload_n (i := 0) rfl dX12_begins_47 ?_
  obtain ⟨q1, eq1, hm⟩ := ob_some hm
  refine e_cV0 hko dX12_begins_48 ml_RX12_442 iz_186 (by decide) rfl (by omega) (Nat.le_of_ble_eq_true rfl) (tX12_newChannel hko (a_u2 (a_u2 (a_u2 (a_u2 (a_u2 (a_u2 I 186 60 1) 186 61 0) 186 62 0) 186 63 0) 186 64 0) 186 65 0) J F hF _ eq1) ?_
  rintro _ _ ⟨rfl, rfl⟩
  obtain ⟨c_51, hm⟩ := gd_s hm
  refine l_iast dX12_begins_51 iz_214 (inb_in ln_214 c_51) (by decide) ?_
  refine e_aload_n (i := 0) rfl dX12_begins_52 ?_
  refine q_getF 12 58 218 dX12_begins_53 fl_RX12_108 rfl iz_186 (fr_186_58 hF) ?_
  refine e_iconst (v := 0) (by decide) dX12_begins_56 ?_
  refine e_aload_n (i := 0) rfl dX12_begins_57 ?_
  refine q_getF 12 54 214 dX12_begins_58 fl_RX12_96 rfl iz_186 (fr_186_54 hF) ?_
  refine e_iconst (v := 0) (by decide) dX12_begins_61 ?_
  obtain ⟨c_62, hm⟩ := gd_s hm
  refine l_iald dX12_begins_62 iz_214 (inb_in ln_214 c_62) (by decide) ?_
  obtain ⟨c_63, hm⟩ := gd_s hm
  refine l_iast dX12_begins_63 iz_218 (inb_in ln_218 c_63) (by decide) ?_
  refine e_aload_n (i := 0) rfl dX12_begins_64 ?_
  refine e_iconst (v := 0) (by decide) dX12_begins_65 ?_
  obtain ⟨q2, eq2, hm⟩ := ob_some hm
  refine e_cV1 hko dX12_begins_66 ml_RX12_445 iz_186 (by decide) rfl (by omega) (Nat.le_of_ble_eq_true rfl) (tX12_fresh0 hko (a_u2 (a_u2 q1.2 214 (Int32.toNatClampNeg 0) q1.1) 218 (Int32.toNatClampNeg 0) ((a_u2 q1.2 214 (Int32.toNatClampNeg 0) q1.1) 214 (Int32.toNatClampNeg 0))) J F hF 0 _ eq2) ?_
  rintro _ _ ⟨rfl, rfl⟩
  refine e_aload_n (i := 0) rfl dX12_begins_69 ?_
  refine e_iconst (v := 0) (by decide) dX12_begins_70 ?_
  refine e_iload_n (i := 1) rfl dX12_begins_71 ?_
  obtain ⟨q3, eq3, hm⟩ := ob_some hm
  refine e_cV2 hko dX12_begins_72 ml_RX12_448 iz_186 (by decide) rfl (by omega) (Nat.le_of_ble_eq_true rfl) (tX12_enters hko q2 J F hF 0 (((a_u2 (a_u2 (a_u2 (a_u2 (a_u2 (a_u2 I 186 60 1) 186 61 0) 186 62 0) 186 63 0) 186 64 0) 186 65 0) 205 ((a_u2 (a_u2 (a_u2 (a_u2 (a_u2 (a_u2 I 186 60 1) 186 61 0) 186 62 0) 186 63 0) 186 64 0) 186 65 0) 186 31).toNatClampNeg) - 1) _ eq3) ?_
  rintro _ _ ⟨rfl, rfl⟩
  refine e_aload_n (i := 0) rfl dX12_begins_75 ?_
  refine e_iconst (v := 0) (by decide) dX12_begins_76 ?_
  obtain ⟨q4, eq4, hm⟩ := ob_some hm
  refine e_cV1 hko dX12_begins_77 ml_RX12_452 iz_186 (by decide) rfl (by omega) (Nat.le_of_ble_eq_true rfl) (tX12_settles hko q3 J F hF 0 _ eq4) ?_
  rintro _ _ ⟨rfl, rfl⟩
  refine e_vret dX12_begins_80 rfl ?_
  have hm := some_in hm
  subst hm
  exact ⟨rfl, rfl⟩
theorem dX12_begin_0 : decode cX12_begin 0 = .ok (.aload_n 0, 1) := by decide +kernel
theorem dX12_begin_1 : decode cX12_begin 1 = .ok (.getfield 414, 3) := by decide +kernel
theorem dX12_begin_4 : decode cX12_begin 4 = .ok (.ifCond .ne 5, 3) := by decide +kernel
theorem dX12_begin_7 : decode cX12_begin 7 = .ok (.iconst 0, 1) := by decide +kernel
theorem dX12_begin_8 : decode cX12_begin 8 = .ok (.ireturn, 1) := by decide +kernel
theorem dX12_begin_9 : decode cX12_begin 9 = .ok (.aload_n 0, 1) := by decide +kernel
theorem dX12_begin_10 : decode cX12_begin 10 = .ok (.invokevirtual 418, 3) := by decide +kernel
theorem dX12_begin_13 : decode cX12_begin 13 = .ok (.iconst 1, 1) := by decide +kernel
theorem dX12_begin_14 : decode cX12_begin 14 = .ok (.ireturn, 1) := by decide +kernel
def mX12_begin (I : iT) (J : jT) : Option (Int32 × iT) := if (I 186 33) = 0 then some (0, I) else (mX12_begins I J).bind fun q1 => some (1, q1)
set_option maxRecDepth 100000 in
set_option maxHeartbeats 4000000 in
theorem tX12_begin {l : Launch} {K : a_KT} {g : a_GT} {IA : iT} (hko : a_kok K) (I : iT) (J : jT) (F : fT) (hF : FOK F) (q : Int32 × iT) (hm : mX12_begin I J = some q) : C l K g 454 0 0 yX12_begin cX12_begin 1 (some .boolean) [.ref 186] (hg IA I J F) (fun r2 h2 => r2 = some (.int q.1) ∧ h2 = hg IA q.2 J F) := by
  unfold mX12_begin at hm
  refine c_of [.ref 186] (by decide) (Nat.le_of_ble_eq_true rfl) rfl ?_
  refine e_aload_n (i := 0) rfl dX12_begin_0 ?_
  refine l_getI 12 33 dX12_begin_1 fl_RX12_414 rfl iz_186 (by decide) ?_
  refine e_if_ne 9 dX12_begin_4 (by decide) (fun c_4 => ?_) (fun c_4 => ?_)
  · have hm := it_n c_4 hm
    refine e_aload_n (i := 0) rfl dX12_begin_9 ?_
    obtain ⟨q1, eq1, hm⟩ := ob_some hm
    refine e_cV0 hko dX12_begin_10 ml_RX12_418 iz_186 (by decide) rfl (by omega) (Nat.le_of_ble_eq_true rfl) (tX12_begins hko I J F hF _ eq1) ?_
    rintro _ _ ⟨rfl, rfl⟩
    refine e_iconst (v := 1) (by decide) dX12_begin_13 ?_
    refine e_zret dX12_begin_14 rfl rfl ?_
    have hm := some_in hm
    subst hm
    exact ⟨rfl, rfl⟩
  · have hm := it_p c_4 hm
    refine e_iconst (v := 0) (by decide) dX12_begin_7 ?_
    refine e_zret dX12_begin_8 rfl rfl ?_
    have hm := some_in hm
    subst hm
    exact ⟨rfl, rfl⟩
theorem dX12_long0_0 : decode cX12_long0 0 = .ok (.iconst 0, 1) := by decide +kernel
theorem dX12_long0_1 : decode cX12_long0 1 = .ok (.istore_n 2, 1) := by decide +kernel
theorem dX12_long0_2 : decode cX12_long0 2 = .ok (.aload_n 0, 1) := by decide +kernel
theorem dX12_long0_3 : decode cX12_long0 3 = .ok (.getfield 118, 3) := by decide +kernel
theorem dX12_long0_6 : decode cX12_long0 6 = .ok (.iload_n 1, 1) := by decide +kernel
theorem dX12_long0_7 : decode cX12_long0 7 = .ok (.iaload, 1) := by decide +kernel
theorem dX12_long0_8 : decode cX12_long0 8 = .ok (.istore_n 3, 1) := by decide +kernel
theorem dX12_long0_9 : decode cX12_long0 9 = .ok (.iload_n 3, 1) := by decide +kernel
theorem dX12_long0_10 : decode cX12_long0 10 = .ok (.iconst (-1), 1) := by decide +kernel
theorem dX12_long0_11 : decode cX12_long0 11 = .ok (.if_icmp .eq 16, 3) := by decide +kernel
theorem dX12_long0_14 : decode cX12_long0 14 = .ok (.iinc 2 1, 3) := by decide +kernel
theorem dX12_long0_17 : decode cX12_long0 17 = .ok (.aload_n 0, 1) := by decide +kernel
theorem dX12_long0_18 : decode cX12_long0 18 = .ok (.getfield 130, 3) := by decide +kernel
theorem dX12_long0_21 : decode cX12_long0 21 = .ok (.iload_n 3, 1) := by decide +kernel
theorem dX12_long0_22 : decode cX12_long0 22 = .ok (.iaload, 1) := by decide +kernel
theorem dX12_long0_23 : decode cX12_long0 23 = .ok (.istore_n 3, 1) := by decide +kernel
theorem dX12_long0_24 : decode cX12_long0 24 = .ok (.goto (-15), 3) := by decide +kernel
theorem dX12_long0_27 : decode cX12_long0 27 = .ok (.iload_n 2, 1) := by decide +kernel
theorem dX12_long0_28 : decode cX12_long0 28 = .ok (.ireturn, 1) := by decide +kernel
def mX12_long0_9 : Nat → iT → Int32 → Int32 → Int32 → Option (Int32)
  | 0, _, _, _, _ => none
  | n + 1, I, x1, x2, x3 => if x3 = ((-1)) then some x2 else if inb x3 700 then mX12_long0_9 n I x1 (x2 + 1) (I 225 x3.toNatClampNeg) else none
def mX12_long0 (I : iT) (x1 : Int32) : Option (Int32) := if inb x1 160 then mX12_long0_9 LF I x1 0 (I 221 x1.toNatClampNeg) else none
set_option maxRecDepth 100000 in
set_option maxHeartbeats 4000000 in
theorem tX12_long0_9 {l : Launch} {K : a_KT} {g : a_GT} {IA : iT} (hko : a_kok K) {J : jT} {F : fT} : ∀ (n : Nat) (I : iT) (x1 : Int32) (x2 : Int32) (x3 : Int32) (hF : FOK F) (q : Int32), mX12_long0_9 n I x1 x2 x3 = some q → E l K g 0 0 0 yX12_long0 cX12_long0 4 (some .int) 9 [.ref 186, .int x1, .int x2, .int x3] [] (hg IA I J F) (fun r2 h2 => r2 = some (.int q) ∧ h2 = hg IA I J F) := by
  intro n
  induction n with
  | zero => intro I x1 x2 x3 hF q hm; cases hm
  | succ n ih =>
    intro I x1 x2 x3 hF q hm
    rw [mX12_long0_9] at hm
    refine e_iload_n (i := 3) rfl dX12_long0_9 ?_
    refine e_iconst (v := (-1)) (by decide) dX12_long0_10 ?_
    refine e_icmp_eq 27 dX12_long0_11 (by decide) (fun c_11 => ?_) (fun c_11 => ?_)
    · have hm := it_p c_11 hm
      refine e_iload_n (i := 2) rfl dX12_long0_27 ?_
      refine e_iret dX12_long0_28 rfl ?_
      have hm := some_in hm
      subst hm
      exact ⟨rfl, rfl⟩
    · have hm := it_n c_11 hm
      refine q_iinc (i := 2) (x2 + 1) rfl ic_1 rfl dX12_long0_14 ?_
      refine e_aload_n (i := 0) rfl dX12_long0_17 ?_
      refine q_getF 12 71 225 dX12_long0_18 fl_RX12_130 rfl iz_186 (fr_186_71 hF) ?_
      refine e_iload_n (i := 3) rfl dX12_long0_21 ?_
      obtain ⟨c_22, hm⟩ := gd_s hm
      refine l_iald dX12_long0_22 iz_225 (inb_in ln_225 c_22) (by decide) ?_
      refine q_istore_n (i := 3) (by decide) rfl dX12_long0_23 ?_
      refine e_goto 9 dX12_long0_24 (by decide) ?_
      refine e_weak [.ref 186, .int x1, .int (x2 + 1), .int (I 225 x3.toNatClampNeg)] ⟨rfl, ⟨rfl, ⟨rfl, ⟨rfl, trivial⟩⟩⟩⟩ ?_
      exact ih I x1 (x2 + 1) (I 225 x3.toNatClampNeg) hF _ hm
set_option maxRecDepth 100000 in
set_option maxHeartbeats 4000000 in
theorem tX12_long0 {l : Launch} {K : a_KT} {g : a_GT} {IA : iT} (hko : a_kok K) (I : iT) (J : jT) (F : fT) (hF : FOK F) (x1 : Int32) (q : Int32) (hm : mX12_long0 I x1 = some q) : C l K g 0 0 0 yX12_long0 cX12_long0 4 (some .int) [.ref 186, .int x1] (hg IA I J F) (fun r2 h2 => r2 = some (.int q) ∧ h2 = hg IA I J F) := by
  unfold mX12_long0 at hm
  refine c_of [.ref 186, .int x1, .null, .null] (by decide) (Nat.le_of_ble_eq_true rfl) rfl ?_
  refine e_iconst (v := 0) (by decide) dX12_long0_0 ?_
  refine q_istore_n (i := 2) (by decide) rfl dX12_long0_1 ?_
  refine e_aload_n (i := 0) rfl dX12_long0_2 ?_
  refine q_getF 12 67 221 dX12_long0_3 fl_RX12_118 rfl iz_186 (fr_186_67 hF) ?_
  refine e_iload_n (i := 1) rfl dX12_long0_6 ?_
  obtain ⟨c_7, hm⟩ := gd_s hm
  refine l_iald dX12_long0_7 iz_221 (inb_in ln_221 c_7) (by decide) ?_
  refine q_istore_n (i := 3) (by decide) rfl dX12_long0_8 ?_
  refine e_weak [.ref 186, .int x1, .int 0, .int (I 221 x1.toNatClampNeg)] ⟨rfl, ⟨rfl, ⟨rfl, ⟨rfl, trivial⟩⟩⟩⟩ ?_
  exact tX12_long0_9 hko LF I x1 0 (I 221 x1.toNatClampNeg) hF _ hm
theorem dX12_real_0 : decode cX12_real 0 = .ok (.iload_n 1, 1) := by decide +kernel
theorem dX12_real_1 : decode cX12_real 1 = .ok (.istore_n 2, 1) := by decide +kernel
theorem dX12_real_2 : decode cX12_real 2 = .ok (.aload_n 0, 1) := by decide +kernel
theorem dX12_real_3 : decode cX12_real 3 = .ok (.getfield 115, 3) := by decide +kernel
theorem dX12_real_6 : decode cX12_real 6 = .ok (.iload_n 2, 1) := by decide +kernel
theorem dX12_real_7 : decode cX12_real 7 = .ok (.iaload, 1) := by decide +kernel
theorem dX12_real_8 : decode cX12_real 8 = .ok (.iload_n 2, 1) := by decide +kernel
theorem dX12_real_9 : decode cX12_real 9 = .ok (.if_icmp .eq 13, 3) := by decide +kernel
theorem dX12_real_12 : decode cX12_real 12 = .ok (.aload_n 0, 1) := by decide +kernel
theorem dX12_real_13 : decode cX12_real 13 = .ok (.getfield 115, 3) := by decide +kernel
theorem dX12_real_16 : decode cX12_real 16 = .ok (.iload_n 2, 1) := by decide +kernel
theorem dX12_real_17 : decode cX12_real 17 = .ok (.iaload, 1) := by decide +kernel
theorem dX12_real_18 : decode cX12_real 18 = .ok (.istore_n 2, 1) := by decide +kernel
theorem dX12_real_19 : decode cX12_real 19 = .ok (.goto (-17), 3) := by decide +kernel
theorem dX12_real_22 : decode cX12_real 22 = .ok (.iload_n 2, 1) := by decide +kernel
theorem dX12_real_23 : decode cX12_real 23 = .ok (.ireturn, 1) := by decide +kernel
def mX12_real_2 : Nat → iT → Int32 → Int32 → Option (Int32)
  | 0, _, _, _ => none
  | n + 1, I, x1, x2 => if inb x2 80 then if (I 220 x2.toNatClampNeg) = x2 then some x2 else if inb x2 80 then mX12_real_2 n I x1 (I 220 x2.toNatClampNeg) else none else none
def mX12_real (I : iT) (x1 : Int32) : Option (Int32) := mX12_real_2 LF I x1 x1
set_option maxRecDepth 100000 in
set_option maxHeartbeats 4000000 in
theorem tX12_real_2 {l : Launch} {K : a_KT} {g : a_GT} {IA : iT} (hko : a_kok K) {J : jT} {F : fT} : ∀ (n : Nat) (I : iT) (x1 : Int32) (x2 : Int32) (hF : FOK F) (q : Int32), mX12_real_2 n I x1 x2 = some q → E l K g 0 0 0 yX12_real cX12_real 3 (some .int) 2 [.ref 186, .int x1, .int x2] [] (hg IA I J F) (fun r2 h2 => r2 = some (.int q) ∧ h2 = hg IA I J F) := by
  intro n
  induction n with
  | zero => intro I x1 x2 hF q hm; cases hm
  | succ n ih =>
    intro I x1 x2 hF q hm
    rw [mX12_real_2] at hm
    refine e_aload_n (i := 0) rfl dX12_real_2 ?_
    refine q_getF 12 66 220 dX12_real_3 fl_RX12_115 rfl iz_186 (fr_186_66 hF) ?_
    refine e_iload_n (i := 2) rfl dX12_real_6 ?_
    obtain ⟨c_7, hm⟩ := gd_s hm
    refine l_iald dX12_real_7 iz_220 (inb_in ln_220 c_7) (by decide) ?_
    refine e_iload_n (i := 2) rfl dX12_real_8 ?_
    refine e_icmp_eq 22 dX12_real_9 (by decide) (fun c_9 => ?_) (fun c_9 => ?_)
    · have hm := it_p c_9 hm
      refine e_iload_n (i := 2) rfl dX12_real_22 ?_
      refine e_iret dX12_real_23 rfl ?_
      have hm := some_in hm
      subst hm
      exact ⟨rfl, rfl⟩
    · have hm := it_n c_9 hm
      refine e_aload_n (i := 0) rfl dX12_real_12 ?_
      refine q_getF 12 66 220 dX12_real_13 fl_RX12_115 rfl iz_186 (fr_186_66 hF) ?_
      refine e_iload_n (i := 2) rfl dX12_real_16 ?_
      obtain ⟨c_17, hm⟩ := gd_s hm
      refine l_iald dX12_real_17 iz_220 (inb_in ln_220 c_17) (by decide) ?_
      refine q_istore_n (i := 2) (by decide) rfl dX12_real_18 ?_
      refine e_goto 2 dX12_real_19 (by decide) ?_
      refine e_weak [.ref 186, .int x1, .int (I 220 x2.toNatClampNeg)] ⟨rfl, ⟨rfl, ⟨rfl, trivial⟩⟩⟩ ?_
      exact ih I x1 (I 220 x2.toNatClampNeg) hF _ hm
set_option maxRecDepth 100000 in
set_option maxHeartbeats 4000000 in
theorem tX12_real {l : Launch} {K : a_KT} {g : a_GT} {IA : iT} (hko : a_kok K) (I : iT) (J : jT) (F : fT) (hF : FOK F) (x1 : Int32) (q : Int32) (hm : mX12_real I x1 = some q) : C l K g 0 0 0 yX12_real cX12_real 3 (some .int) [.ref 186, .int x1] (hg IA I J F) (fun r2 h2 => r2 = some (.int q) ∧ h2 = hg IA I J F) := by
  unfold mX12_real at hm
  refine c_of [.ref 186, .int x1, .null] (by decide) (Nat.le_of_ble_eq_true rfl) rfl ?_
  refine e_iload_n (i := 1) rfl dX12_real_0 ?_
  refine q_istore_n (i := 2) (by decide) rfl dX12_real_1 ?_
  refine e_weak [.ref 186, .int x1, .int x1] ⟨rfl, ⟨rfl, ⟨rfl, trivial⟩⟩⟩ ?_
  exact tX12_real_2 hko LF I x1 x1 hF _ hm
theorem dX12_channel_0 : decode cX12_channel 0 = .ok (.aload_n 0, 1) := by decide +kernel
theorem dX12_channel_1 : decode cX12_channel 1 = .ok (.getfield 414, 3) := by decide +kernel
theorem dX12_channel_4 : decode cX12_channel 4 = .ok (.ifCond .eq 17, 3) := by decide +kernel
theorem dX12_channel_7 : decode cX12_channel 7 = .ok (.iload_n 1, 1) := by decide +kernel
theorem dX12_channel_8 : decode cX12_channel 8 = .ok (.iconst 0, 1) := by decide +kernel
theorem dX12_channel_9 : decode cX12_channel 9 = .ok (.aload_n 0, 1) := by decide +kernel
theorem dX12_channel_10 : decode cX12_channel 10 = .ok (.getfield 421, 3) := by decide +kernel
theorem dX12_channel_13 : decode cX12_channel 13 = .ok (.iconst 1, 1) := by decide +kernel
theorem dX12_channel_14 : decode cX12_channel 14 = .ok (.isub, 1) := by decide +kernel
theorem dX12_channel_15 : decode cX12_channel 15 = .ok (.invokestatic 154, 3) := by decide +kernel
theorem dX12_channel_18 : decode cX12_channel 18 = .ok (.ifCond .ne 5, 3) := by decide +kernel
theorem dX12_channel_21 : decode cX12_channel 21 = .ok (.iconst (-1), 1) := by decide +kernel
theorem dX12_channel_22 : decode cX12_channel 22 = .ok (.ireturn, 1) := by decide +kernel
theorem dX12_channel_23 : decode cX12_channel 23 = .ok (.iload_n 2, 1) := by decide +kernel
theorem dX12_channel_24 : decode cX12_channel 24 = .ok (.iconst 0, 1) := by decide +kernel
theorem dX12_channel_25 : decode cX12_channel 25 = .ok (.iconst 1, 1) := by decide +kernel
theorem dX12_channel_26 : decode cX12_channel 26 = .ok (.invokestatic 154, 3) := by decide +kernel
theorem dX12_channel_29 : decode cX12_channel 29 = .ok (.ifCond .eq 19, 3) := by decide +kernel
theorem dX12_channel_32 : decode cX12_channel 32 = .ok (.aload_n 0, 1) := by decide +kernel
theorem dX12_channel_33 : decode cX12_channel 33 = .ok (.iconst 2, 1) := by decide +kernel
theorem dX12_channel_34 : decode cX12_channel 34 = .ok (.aload_n 0, 1) := by decide +kernel
theorem dX12_channel_35 : decode cX12_channel 35 = .ok (.iload_n 1, 1) := by decide +kernel
theorem dX12_channel_36 : decode cX12_channel 36 = .ok (.invokevirtual 469, 3) := by decide +kernel
theorem dX12_channel_39 : decode cX12_channel 39 = .ok (.imul, 1) := by decide +kernel
theorem dX12_channel_40 : decode cX12_channel 40 = .ok (.iload_n 2, 1) := by decide +kernel
theorem dX12_channel_41 : decode cX12_channel 41 = .ok (.iadd, 1) := by decide +kernel
theorem dX12_channel_42 : decode cX12_channel 42 = .ok (.invokevirtual 551, 3) := by decide +kernel
theorem dX12_channel_45 : decode cX12_channel 45 = .ok (.goto 27, 3) := by decide +kernel
theorem dX12_channel_48 : decode cX12_channel 48 = .ok (.iload_n 2, 1) := by decide +kernel
theorem dX12_channel_49 : decode cX12_channel 49 = .ok (.iconst 2, 1) := by decide +kernel
theorem dX12_channel_50 : decode cX12_channel 50 = .ok (.if_icmp .ne 21, 3) := by decide +kernel
theorem dX12_channel_53 : decode cX12_channel 53 = .ok (.aload_n 0, 1) := by decide +kernel
theorem dX12_channel_54 : decode cX12_channel 54 = .ok (.getfield 115, 3) := by decide +kernel
theorem dX12_channel_57 : decode cX12_channel 57 = .ok (.iload_n 1, 1) := by decide +kernel
theorem dX12_channel_58 : decode cX12_channel 58 = .ok (.iaload, 1) := by decide +kernel
theorem dX12_channel_59 : decode cX12_channel 59 = .ok (.iload_n 1, 1) := by decide +kernel
theorem dX12_channel_60 : decode cX12_channel 60 = .ok (.if_icmp .ne 7, 3) := by decide +kernel
theorem dX12_channel_63 : decode cX12_channel 63 = .ok (.iconst 0, 1) := by decide +kernel
theorem dX12_channel_64 : decode cX12_channel 64 = .ok (.goto 8, 3) := by decide +kernel
theorem dX12_channel_67 : decode cX12_channel 67 = .ok (.iconst 1, 1) := by decide +kernel
theorem dX12_channel_68 : decode cX12_channel 68 = .ok (.goto 4, 3) := by decide +kernel
theorem dX12_channel_71 : decode cX12_channel 71 = .ok (.iconst (-1), 1) := by decide +kernel
theorem dX12_channel_72 : decode cX12_channel 72 = .ok (.ireturn, 1) := by decide +kernel
def mX12_channel (I : iT) (x1 : Int32) (x2 : Int32) : Option (Int32) := if (I 186 33) = 0 then some ((-1)) else (mX12_isIn x1 0 ((I 186 61) - 1)).bind fun q1 => if q1 = 0 then some ((-1)) else (mX12_isIn x2 0 1).bind fun q2 => if q2 = 0 then if x2 = 2 then if inb x1 80 then if (I 220 x1.toNatClampNeg) = x1 then some 0 else some 1 else none else some ((-1)) else (mX12_real I x1).bind fun q3 => (mX12_long0 I ((2 * q3) + x2)).bind fun q4 => some q4
set_option maxRecDepth 100000 in
set_option maxHeartbeats 4000000 in
theorem tX12_channel {l : Launch} {K : a_KT} {g : a_GT} {IA : iT} (hko : a_kok K) (I : iT) (J : jT) (F : fT) (hF : FOK F) (x1 : Int32) (x2 : Int32) (q : Int32) (hm : mX12_channel I x1 x2 = some q) : C l K g 1 0 0 yX12_channel cX12_channel 3 (some .int) [.ref 186, .int x1, .int x2] (hg IA I J F) (fun r2 h2 => r2 = some (.int q) ∧ h2 = hg IA I J F) := by
  unfold mX12_channel at hm
  refine c_of [.ref 186, .int x1, .int x2] (by decide) (Nat.le_of_ble_eq_true rfl) rfl ?_
  refine e_aload_n (i := 0) rfl dX12_channel_0 ?_
  refine l_getI 12 33 dX12_channel_1 fl_RX12_414 rfl iz_186 (by decide) ?_
  refine e_if_eq 21 dX12_channel_4 (by decide) (fun c_4 => ?_) (fun c_4 => ?_)
  · have hm := it_p c_4 hm
    refine e_iconst (v := (-1)) (by decide) dX12_channel_21 ?_
    refine e_iret dX12_channel_22 rfl ?_
    have hm := some_in hm
    subst hm
    exact ⟨rfl, rfl⟩
  · have hm := it_n c_4 hm
    refine e_iload_n (i := 1) rfl dX12_channel_7 ?_
    refine e_iconst (v := 0) (by decide) dX12_channel_8 ?_
    refine e_aload_n (i := 0) rfl dX12_channel_9 ?_
    refine l_getI 12 61 dX12_channel_10 fl_RX12_421 rfl iz_186 (by decide) ?_
    refine e_iconst (v := 1) (by decide) dX12_channel_13 ?_
    refine e_isub dX12_channel_14 ?_
    obtain ⟨q1, eq1, hm⟩ := ob_some hm
    refine e_cS3 hko dX12_channel_15 ml_RX12_154 (by omega) (Nat.le_of_ble_eq_true rfl) (tX12_isIn hko I J F hF x1 0 ((I 186 61) - 1) _ eq1) ?_
    rintro _ _ ⟨rfl, rfl⟩
    refine e_if_ne 23 dX12_channel_18 (by decide) (fun c_18 => ?_) (fun c_18 => ?_)
    · have hm := it_n c_18 hm
      refine e_iload_n (i := 2) rfl dX12_channel_23 ?_
      refine e_iconst (v := 0) (by decide) dX12_channel_24 ?_
      refine e_iconst (v := 1) (by decide) dX12_channel_25 ?_
      obtain ⟨q2, eq2, hm⟩ := ob_some hm
      refine e_cS3 hko dX12_channel_26 ml_RX12_154 (by omega) (Nat.le_of_ble_eq_true rfl) (tX12_isIn hko I J F hF x2 0 1 _ eq2) ?_
      rintro _ _ ⟨rfl, rfl⟩
      refine e_if_eq 48 dX12_channel_29 (by decide) (fun c_29 => ?_) (fun c_29 => ?_)
      · have hm := it_p c_29 hm
        refine e_iload_n (i := 2) rfl dX12_channel_48 ?_
        refine e_iconst (v := 2) (by decide) dX12_channel_49 ?_
        refine e_icmp_ne 71 dX12_channel_50 (by decide) (fun c_50 => ?_) (fun c_50 => ?_)
        · have hm := it_n c_50 hm
          refine e_iconst (v := (-1)) (by decide) dX12_channel_71 ?_
          refine e_iret dX12_channel_72 rfl ?_
          have hm := some_in hm
          subst hm
          exact ⟨rfl, rfl⟩
        · have hm := it_p c_50 hm
          refine e_aload_n (i := 0) rfl dX12_channel_53 ?_
          refine q_getF 12 66 220 dX12_channel_54 fl_RX12_115 rfl iz_186 (fr_186_66 hF) ?_
          refine e_iload_n (i := 1) rfl dX12_channel_57 ?_
          obtain ⟨c_58, hm⟩ := gd_s hm
          refine l_iald dX12_channel_58 iz_220 (inb_in ln_220 c_58) (by decide) ?_
          refine e_iload_n (i := 1) rfl dX12_channel_59 ?_
          refine e_icmp_ne 67 dX12_channel_60 (by decide) (fun c_60 => ?_) (fun c_60 => ?_)
          · have hm := it_n c_60 hm
            refine e_iconst (v := 1) (by decide) dX12_channel_67 ?_
            refine e_goto 72 dX12_channel_68 (by decide) ?_
            refine e_iret dX12_channel_72 rfl ?_
            have hm := some_in hm
            subst hm
            exact ⟨rfl, rfl⟩
          · have hm := it_p c_60 hm
            refine e_iconst (v := 0) (by decide) dX12_channel_63 ?_
            refine e_goto 72 dX12_channel_64 (by decide) ?_
            refine e_iret dX12_channel_72 rfl ?_
            have hm := some_in hm
            subst hm
            exact ⟨rfl, rfl⟩
      · have hm := it_n c_29 hm
        refine e_aload_n (i := 0) rfl dX12_channel_32 ?_
        refine e_iconst (v := 2) (by decide) dX12_channel_33 ?_
        refine e_aload_n (i := 0) rfl dX12_channel_34 ?_
        refine e_iload_n (i := 1) rfl dX12_channel_35 ?_
        obtain ⟨q3, eq3, hm⟩ := ob_some hm
        refine e_cV1 hko dX12_channel_36 ml_RX12_469 iz_186 (by decide) rfl (by omega) (Nat.le_of_ble_eq_true rfl) (tX12_real hko I J F hF x1 _ eq3) ?_
        rintro _ _ ⟨rfl, rfl⟩
        refine e_imul dX12_channel_39 ?_
        refine e_iload_n (i := 2) rfl dX12_channel_40 ?_
        refine e_iadd dX12_channel_41 ?_
        obtain ⟨q4, eq4, hm⟩ := ob_some hm
        refine e_cV1 hko dX12_channel_42 ml_RX12_551 iz_186 (by decide) rfl (by omega) (Nat.le_of_ble_eq_true rfl) (tX12_long0 hko I J F hF ((2 * q3) + x2) _ eq4) ?_
        rintro _ _ ⟨rfl, rfl⟩
        refine e_goto 72 dX12_channel_45 (by decide) ?_
        refine e_iret dX12_channel_72 rfl ?_
        have hm := some_in hm
        subst hm
        exact ⟨rfl, rfl⟩
    · have hm := it_p c_18 hm
      refine e_iconst (v := (-1)) (by decide) dX12_channel_21 ?_
      refine e_iret dX12_channel_22 rfl ?_
      have hm := some_in hm
      subst hm
      exact ⟨rfl, rfl⟩
theorem dX12_findType_0 : decode cX12_findType 0 = .ok (.iconst 0, 1) := by decide +kernel
theorem dX12_findType_1 : decode cX12_findType 1 = .ok (.istore_n 3, 1) := by decide +kernel
theorem dX12_findType_2 : decode cX12_findType 2 = .ok (.iload_n 3, 1) := by decide +kernel
theorem dX12_findType_3 : decode cX12_findType 3 = .ok (.aload_n 0, 1) := by decide +kernel
theorem dX12_findType_4 : decode cX12_findType 4 = .ok (.getfield 66, 3) := by decide +kernel
theorem dX12_findType_7 : decode cX12_findType 7 = .ok (.aload_n 0, 1) := by decide +kernel
theorem dX12_findType_8 : decode cX12_findType 8 = .ok (.getfield 251, 3) := by decide +kernel
theorem dX12_findType_11 : decode cX12_findType 11 = .ok (.iaload, 1) := by decide +kernel
theorem dX12_findType_12 : decode cX12_findType 12 = .ok (.if_icmp .ge 43, 3) := by decide +kernel
theorem dX12_findType_15 : decode cX12_findType 15 = .ok (.aload_n 0, 1) := by decide +kernel
theorem dX12_findType_16 : decode cX12_findType 16 = .ok (.getfield 33, 3) := by decide +kernel
theorem dX12_findType_19 : decode cX12_findType 19 = .ok (.bipush 12, 2) := by decide +kernel
theorem dX12_findType_21 : decode cX12_findType 21 = .ok (.aload_n 0, 1) := by decide +kernel
theorem dX12_findType_22 : decode cX12_findType 22 = .ok (.getfield 251, 3) := by decide +kernel
theorem dX12_findType_25 : decode cX12_findType 25 = .ok (.imul, 1) := by decide +kernel
theorem dX12_findType_26 : decode cX12_findType 26 = .ok (.iload_n 3, 1) := by decide +kernel
theorem dX12_findType_27 : decode cX12_findType 27 = .ok (.iadd, 1) := by decide +kernel
theorem dX12_findType_28 : decode cX12_findType 28 = .ok (.laload, 1) := by decide +kernel
theorem dX12_findType_29 : decode cX12_findType 29 = .ok (.lload_n 1, 1) := by decide +kernel
theorem dX12_findType_30 : decode cX12_findType 30 = .ok (.lcmp, 1) := by decide +kernel
theorem dX12_findType_31 : decode cX12_findType 31 = .ok (.ifCond .ne 18, 3) := by decide +kernel
theorem dX12_findType_34 : decode cX12_findType 34 = .ok (.aload_n 0, 1) := by decide +kernel
theorem dX12_findType_35 : decode cX12_findType 35 = .ok (.getfield 45, 3) := by decide +kernel
theorem dX12_findType_38 : decode cX12_findType 38 = .ok (.bipush 12, 2) := by decide +kernel
theorem dX12_findType_40 : decode cX12_findType 40 = .ok (.aload_n 0, 1) := by decide +kernel
theorem dX12_findType_41 : decode cX12_findType 41 = .ok (.getfield 251, 3) := by decide +kernel
theorem dX12_findType_44 : decode cX12_findType 44 = .ok (.imul, 1) := by decide +kernel
theorem dX12_findType_45 : decode cX12_findType 45 = .ok (.iload_n 3, 1) := by decide +kernel
theorem dX12_findType_46 : decode cX12_findType 46 = .ok (.iadd, 1) := by decide +kernel
theorem dX12_findType_47 : decode cX12_findType 47 = .ok (.iaload, 1) := by decide +kernel
theorem dX12_findType_48 : decode cX12_findType 48 = .ok (.ireturn, 1) := by decide +kernel
theorem dX12_findType_49 : decode cX12_findType 49 = .ok (.iinc 3 1, 3) := by decide +kernel
theorem dX12_findType_52 : decode cX12_findType 52 = .ok (.goto (-50), 3) := by decide +kernel
theorem dX12_findType_55 : decode cX12_findType 55 = .ok (.iconst (-1), 1) := by decide +kernel
theorem dX12_findType_56 : decode cX12_findType 56 = .ok (.ireturn, 1) := by decide +kernel
def mX12_findType_2 : Nat → iT → jT → Int64 → Int32 → Option (Int32)
  | 0, _, _, _, _ => none
  | n + 1, I, J, w1, x3 => if inb (I 186 32) 2 then if (I 204 (I 186 32).toNatClampNeg) ≤ x3 then some ((-1)) else if inb ((12 * (I 186 32)) + x3) 24 then if (lg_cmp (J 193 ((12 * (I 186 32)) + x3).toNatClampNeg) w1) = 0 then if inb ((12 * (I 186 32)) + x3) 24 then some (I 197 ((12 * (I 186 32)) + x3).toNatClampNeg) else none else mX12_findType_2 n I J w1 (x3 + 1) else none else none
def mX12_findType (I : iT) (J : jT) (w1 : Int64) : Option (Int32) := mX12_findType_2 LF I J w1 0
set_option maxRecDepth 100000 in
set_option maxHeartbeats 4000000 in
theorem tX12_findType_2 {l : Launch} {K : a_KT} {g : a_GT} {IA : iT} (hko : a_kok K) {F : fT} : ∀ (n : Nat) (I : iT) (J : jT) (w1 : Int64) (x3 : Int32) (hF : FOK F) (q : Int32), mX12_findType_2 n I J w1 x3 = some q → E l K g 0 0 0 yX12_findType cX12_findType 4 (some .int) 2 [.ref 186, .long w1, .null, .int x3] [] (hg IA I J F) (fun r2 h2 => r2 = some (.int q) ∧ h2 = hg IA I J F) := by
  intro n
  induction n with
  | zero => intro I J w1 x3 hF q hm; cases hm
  | succ n ih =>
    intro I J w1 x3 hF q hm
    rw [mX12_findType_2] at hm
    refine e_iload_n (i := 3) rfl dX12_findType_2 ?_
    refine e_aload_n (i := 0) rfl dX12_findType_3 ?_
    refine q_getF 12 29 204 dX12_findType_4 fl_RX12_66 rfl iz_186 (fr_186_29 hF) ?_
    refine e_aload_n (i := 0) rfl dX12_findType_7 ?_
    refine l_getI 12 32 dX12_findType_8 fl_RX12_251 rfl iz_186 (by decide) ?_
    obtain ⟨c_11, hm⟩ := gd_s hm
    refine l_iald dX12_findType_11 iz_204 (inb_in ln_204 c_11) (by decide) ?_
    refine e_icmp_ge 55 dX12_findType_12 (by decide) (fun c_12 => ?_) (fun c_12 => ?_)
    · have hm := it_p c_12 hm
      refine e_iconst (v := (-1)) (by decide) dX12_findType_55 ?_
      refine e_iret dX12_findType_56 rfl ?_
      have hm := some_in hm
      subst hm
      exact ⟨rfl, rfl⟩
    · have hm := it_n c_12 hm
      refine e_aload_n (i := 0) rfl dX12_findType_15 ?_
      refine q_getF 12 18 193 dX12_findType_16 fl_RX12_33 rfl iz_186 (fr_186_18 hF) ?_
      refine e_bipush (v := 12) (by decide) dX12_findType_19 ?_
      refine e_aload_n (i := 0) rfl dX12_findType_21 ?_
      refine l_getI 12 32 dX12_findType_22 fl_RX12_251 rfl iz_186 (by decide) ?_
      refine e_imul dX12_findType_25 ?_
      refine e_iload_n (i := 3) rfl dX12_findType_26 ?_
      refine e_iadd dX12_findType_27 ?_
      obtain ⟨c_28, hm⟩ := gd_s hm
      refine q_lald dX12_findType_28 iz_193 (inb_in ln_193 c_28) ?_
      refine e_lload_n (i := 1) rfl dX12_findType_29 ?_
      refine e_lcmp dX12_findType_30 ?_
      refine e_if_ne 49 dX12_findType_31 (by decide) (fun c_31 => ?_) (fun c_31 => ?_)
      · have hm := it_n c_31 hm
        refine q_iinc (i := 3) (x3 + 1) rfl ic_1 rfl dX12_findType_49 ?_
        refine e_goto 2 dX12_findType_52 (by decide) ?_
        refine e_weak [.ref 186, .long w1, .null, .int (x3 + 1)] ⟨rfl, ⟨rfl, ⟨trivial, ⟨rfl, trivial⟩⟩⟩⟩ ?_
        exact ih I J w1 (x3 + 1) hF _ hm
      · have hm := it_p c_31 hm
        refine e_aload_n (i := 0) rfl dX12_findType_34 ?_
        refine q_getF 12 22 197 dX12_findType_35 fl_RX12_45 rfl iz_186 (fr_186_22 hF) ?_
        refine e_bipush (v := 12) (by decide) dX12_findType_38 ?_
        refine e_aload_n (i := 0) rfl dX12_findType_40 ?_
        refine l_getI 12 32 dX12_findType_41 fl_RX12_251 rfl iz_186 (by decide) ?_
        refine e_imul dX12_findType_44 ?_
        refine e_iload_n (i := 3) rfl dX12_findType_45 ?_
        refine e_iadd dX12_findType_46 ?_
        obtain ⟨c_47, hm⟩ := gd_s hm
        refine l_iald dX12_findType_47 iz_197 (inb_in ln_197 c_47) (by decide) ?_
        refine e_iret dX12_findType_48 rfl ?_
        have hm := some_in hm
        subst hm
        exact ⟨rfl, rfl⟩
set_option maxRecDepth 100000 in
set_option maxHeartbeats 4000000 in
theorem tX12_findType {l : Launch} {K : a_KT} {g : a_GT} {IA : iT} (hko : a_kok K) (I : iT) (J : jT) (F : fT) (hF : FOK F) (w1 : Int64) (q : Int32) (hm : mX12_findType I J w1 = some q) : C l K g 0 0 0 yX12_findType cX12_findType 4 (some .int) [.ref 186, .long w1] (hg IA I J F) (fun r2 h2 => r2 = some (.int q) ∧ h2 = hg IA I J F) := by
  unfold mX12_findType at hm
  refine c_of [.ref 186, .long w1, .null, .null] (by decide) (Nat.le_of_ble_eq_true rfl) rfl ?_
  refine e_iconst (v := 0) (by decide) dX12_findType_0 ?_
  refine q_istore_n (i := 3) (by decide) rfl dX12_findType_1 ?_
  refine e_weak [.ref 186, .long w1, .null, .int 0] ⟨rfl, ⟨rfl, ⟨trivial, ⟨rfl, trivial⟩⟩⟩⟩ ?_
  exact tX12_findType_2 hko LF I J w1 0 hF _ hm
theorem dX12_more_0 : decode cX12_more 0 = .ok (.aload_n 0, 1) := by decide +kernel
theorem dX12_more_1 : decode cX12_more 1 = .ok (.dup, 1) := by decide +kernel
theorem dX12_more_2 : decode cX12_more 2 = .ok (.getfield 248, 3) := by decide +kernel
theorem dX12_more_5 : decode cX12_more 5 = .ok (.iload_n 1, 1) := by decide +kernel
theorem dX12_more_6 : decode cX12_more 6 = .ok (.iadd, 1) := by decide +kernel
theorem dX12_more_7 : decode cX12_more 7 = .ok (.putfield 248, 3) := by decide +kernel
theorem dX12_more_10 : decode cX12_more 10 = .ok (.aload_n 0, 1) := by decide +kernel
theorem dX12_more_11 : decode cX12_more 11 = .ok (.getfield 248, 3) := by decide +kernel
theorem dX12_more_14 : decode cX12_more 14 = .ok (.sipush 200, 3) := by decide +kernel
theorem dX12_more_17 : decode cX12_more 17 = .ok (.if_icmp .le 15, 3) := by decide +kernel
theorem dX12_more_20 : decode cX12_more 20 = .ok (.aload_n 0, 1) := by decide +kernel
theorem dX12_more_21 : decode cX12_more 21 = .ok (.iconst 5, 1) := by decide +kernel
theorem dX12_more_22 : decode cX12_more 22 = .ok (.aload_n 0, 1) := by decide +kernel
theorem dX12_more_23 : decode cX12_more 23 = .ok (.getfield 207, 3) := by decide +kernel
theorem dX12_more_26 : decode cX12_more 26 = .ok (.invokevirtual 232, 3) := by decide +kernel
theorem dX12_more_29 : decode cX12_more 29 = .ok (.ifCond .eq 7, 3) := by decide +kernel
theorem dX12_more_32 : decode cX12_more 32 = .ok (.iconst 1, 1) := by decide +kernel
theorem dX12_more_33 : decode cX12_more 33 = .ok (.goto 4, 3) := by decide +kernel
theorem dX12_more_36 : decode cX12_more 36 = .ok (.iconst 0, 1) := by decide +kernel
theorem dX12_more_37 : decode cX12_more 37 = .ok (.ireturn, 1) := by decide +kernel
def mX12_more_32 (I : iT) (x1 : Int32) : Option (Int32 × iT) := some (1, I)
def mX12_more (I : iT) (x1 : Int32) : Option (Int32 × iT) := if ((a_u2 I 186 34 ((I 186 34) + x1)) 186 34) ≤ 200 then mX12_more_32 (a_u2 I 186 34 ((I 186 34) + x1)) x1 else (mX12_bad (a_u2 I 186 34 ((I 186 34) + x1)) 5 ((a_u2 I 186 34 ((I 186 34) + x1)) 186 4)).bind fun q1 => if q1.1 = 0 then some (0, q1.2) else mX12_more_32 q1.2 x1
set_option maxRecDepth 100000 in
set_option maxHeartbeats 4000000 in
theorem tX12_more_32 {l : Launch} {K : a_KT} {g : a_GT} {IA : iT} (hko : a_kok K) {J : jT} {F : fT} (I : iT) (x1 : Int32) (hF : FOK F) (q : Int32 × iT) (hm : mX12_more_32 I x1 = some q) : E l K g 1 0 0 yX12_more cX12_more 2 (some .boolean) 32 [.ref 186, .int x1] [] (hg IA I J F) (fun r2 h2 => r2 = some (.int q.1) ∧ h2 = hg IA q.2 J F) := by
  unfold mX12_more_32 at hm
  refine e_iconst (v := 1) (by decide) dX12_more_32 ?_
  refine e_goto 37 dX12_more_33 (by decide) ?_
  refine e_zret dX12_more_37 rfl rfl ?_
  have hm := some_in hm
  subst hm
  exact ⟨rfl, rfl⟩
set_option maxRecDepth 100000 in
set_option maxHeartbeats 4000000 in
theorem tX12_more {l : Launch} {K : a_KT} {g : a_GT} {IA : iT} (hko : a_kok K) (I : iT) (J : jT) (F : fT) (hF : FOK F) (x1 : Int32) (q : Int32 × iT) (hm : mX12_more I x1 = some q) : C l K g 1 0 0 yX12_more cX12_more 2 (some .boolean) [.ref 186, .int x1] (hg IA I J F) (fun r2 h2 => r2 = some (.int q.1) ∧ h2 = hg IA q.2 J F) := by
  unfold mX12_more at hm
  refine c_of [.ref 186, .int x1] (by decide) (Nat.le_of_ble_eq_true rfl) rfl ?_
  refine e_aload_n (i := 0) rfl dX12_more_0 ?_
  refine e_dup rfl dX12_more_1 ?_
  refine l_getI 12 34 dX12_more_2 fl_RX12_248 rfl iz_186 (by decide) ?_
  refine e_iload_n (i := 1) rfl dX12_more_5 ?_
  refine e_iadd dX12_more_6 ?_
  refine l_putI 12 34 dX12_more_7 fl_RX12_248 rfl rfl iz_186 (by decide) ?_
  refine e_aload_n (i := 0) rfl dX12_more_10 ?_
  refine l_getI 12 34 dX12_more_11 fl_RX12_248 rfl iz_186 (by decide) ?_
  refine e_sipush (v := 200) (by decide) dX12_more_14 ?_
  refine e_icmp_le 32 dX12_more_17 (by decide) (fun c_17 => ?_) (fun c_17 => ?_)
  · have hm := it_p c_17 hm
    refine e_weak [.ref 186, .int x1] ⟨rfl, ⟨rfl, trivial⟩⟩ ?_
    exact tX12_more_32 hko (a_u2 I 186 34 ((I 186 34) + x1)) x1 hF _ hm
  · have hm := it_n c_17 hm
    refine e_aload_n (i := 0) rfl dX12_more_20 ?_
    refine e_iconst (v := 5) (by decide) dX12_more_21 ?_
    refine e_aload_n (i := 0) rfl dX12_more_22 ?_
    refine l_getI 12 4 dX12_more_23 fl_RX12_207 rfl iz_186 (by decide) ?_
    obtain ⟨q1, eq1, hm⟩ := ob_some hm
    refine e_cV2 hko dX12_more_26 ml_RX12_232 iz_186 (by decide) rfl (by omega) (Nat.le_of_ble_eq_true rfl) (tX12_bad hko (a_u2 I 186 34 ((I 186 34) + x1)) J F hF 5 ((a_u2 I 186 34 ((I 186 34) + x1)) 186 4) _ eq1) ?_
    rintro _ _ ⟨rfl, rfl⟩
    refine e_if_eq 36 dX12_more_29 (by decide) (fun c_29 => ?_) (fun c_29 => ?_)
    · have hm := it_p c_29 hm
      refine e_iconst (v := 0) (by decide) dX12_more_36 ?_
      refine e_zret dX12_more_37 rfl rfl ?_
      have hm := some_in hm
      subst hm
      exact ⟨rfl, rfl⟩
    · have hm := it_n c_29 hm
      refine e_weak [.ref 186, .int x1] ⟨rfl, ⟨rfl, trivial⟩⟩ ?_
      exact tX12_more_32 hko q1.2 x1 hF _ hm
