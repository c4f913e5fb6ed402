section
variable {l : Launch} {K : a_KT} {g : a_GT} {d nc ns : Nat} {y : MethodName} {cc : ByteArray} {nL : Nat} {ret : Option FieldType} {pc : Nat} {ls st : List Value} {h : aH} {Q : Option Value → aH → Prop}
theorem e_iconst {n : Int} {v : Int32} (hv : Int32.ofInt n = v) (hd : decode cc pc = .ok (.iconst n, 1)) (k : E l K g d nc ns y cc nL ret (pc + 1) ls (.int v :: st) h Q) : E l K g d nc ns y cc nL ret pc ls (st) h Q := by
  intro p e s m args below meth c cx R hR1 hR2 σ A H locs lsA cells slots Qw hc hs ha hl hk
  exact lv_iconst cx.1 cx.2.1 hd hv (k p e s m args below meth c cx R hR1 hR2 σ A H locs lsA cells slots Qw hc hs ha hl hk)
theorem e_bipush {n : Int} {v : Int32} (hv : (Int8.ofInt n).toInt32 = v) (hd : decode cc pc = .ok (.bipush n, 2)) (k : E l K g d nc ns y cc nL ret (pc + 2) ls (.int v :: st) h Q) : E l K g d nc ns y cc nL ret pc ls (st) h Q := by
  intro p e s m args below meth c cx R hR1 hR2 σ A H locs lsA cells slots Qw hc hs ha hl hk
  exact lv_bipush cx.1 cx.2.1 hd hv (k p e s m args below meth c cx R hR1 hR2 σ A H locs lsA cells slots Qw hc hs ha hl hk)
theorem e_sipush {n : Int} {v : Int32} (hv : (Int16.ofInt n).toInt32 = v) (hd : decode cc pc = .ok (.sipush n, 3)) (k : E l K g d nc ns y cc nL ret (pc + 3) ls (.int v :: st) h Q) : E l K g d nc ns y cc nL ret pc ls (st) h Q := by
  intro p e s m args below meth c cx R hR1 hR2 σ A H locs lsA cells slots Qw hc hs ha hl hk
  exact lv_sipush cx.1 cx.2.1 hd hv (k p e s m args below meth c cx R hR1 hR2 σ A H locs lsA cells slots Qw hc hs ha hl hk)
theorem e_lconst {n : Fin 2} {v : Int64} (hv : Int64.ofNat (n : Nat) = v) (hd : decode cc pc = .ok (.lconst n, 1)) (k : E l K g d nc ns y cc nL ret (pc + 1) ls (.long v :: st) h Q) : E l K g d nc ns y cc nL ret pc ls (st) h Q := by
  intro p e s m args below meth c cx R hR1 hR2 σ A H locs lsA cells slots Qw hc hs ha hl hk
  exact lv_lconst cx.1 cx.2.1 hd hv (k p e s m args below meth c cx R hR1 hR2 σ A H locs lsA cells slots Qw hc hs ha hl hk)
theorem e_ldc {n : Nat} {v : Int32} (hw : Cond.constant y.cls n v ∈ WS) (hd : decode cc pc = .ok (.ldc n, 2)) (k : E l K g d nc ns y cc nL ret (pc + 2) ls (.int v :: st) h Q) : E l K g d nc ns y cc nL ret pc ls (st) h Q := by
  intro p e s m args below meth c cx R hR1 hR2 σ A H locs lsA cells slots Qw hc hs ha hl hk
  exact lv_ldc cx.1 cx.2.1 cx.2.2.2.2.1 (cx.2.2.2.2.2.1 _ hw) hd (k p e s m args below meth c cx R hR1 hR2 σ A H locs lsA cells slots Qw hc hs ha hl hk)
theorem e_ldcw {n : Nat} {v : Int32} (hw : Cond.constant y.cls n v ∈ WS) (hd : decode cc pc = .ok (.ldc_w n, 3)) (k : E l K g d nc ns y cc nL ret (pc + 3) ls (.int v :: st) h Q) : E l K g d nc ns y cc nL ret pc ls (st) h Q := by
  intro p e s m args below meth c cx R hR1 hR2 σ A H locs lsA cells slots Qw hc hs ha hl hk
  exact lv_ldcw cx.1 cx.2.1 cx.2.2.2.2.1 (cx.2.2.2.2.2.1 _ hw) hd (k p e s m args below meth c cx R hR1 hR2 σ A H locs lsA cells slots Qw hc hs ha hl hk)
theorem e_ldc2 {n : Nat} {v : Int64} (hw : Cond.constantLong y.cls n v ∈ WS) (hd : decode cc pc = .ok (.ldc2_w n, 3)) (k : E l K g d nc ns y cc nL ret (pc + 3) ls (.long v :: st) h Q) : E l K g d nc ns y cc nL ret pc ls (st) h Q := by
  intro p e s m args below meth c cx R hR1 hR2 σ A H locs lsA cells slots Qw hc hs ha hl hk
  exact lv_ldc2 cx.1 cx.2.1 cx.2.2.2.2.1 (cx.2.2.2.2.2.1 _ hw) hd (k p e s m args below meth c cx R hR1 hR2 σ A H locs lsA cells slots Qw hc hs ha hl hk)
theorem e_iload_n {i : Fin 4} {x : Int32} (hx : ls[(i : Nat)]? = some (.int x)) (hd : decode cc pc = .ok (.iload_n i, 1)) (k : E l K g d nc ns y cc nL ret (pc + 1) ls (.int x :: st) h Q) : E l K g d nc ns y cc nL ret pc ls (st) h Q := by
  intro p e s m args below meth c cx R hR1 hR2 σ A H locs lsA cells slots Qw hc hs ha hl hk
  exact lv_iload_n cx.1 cx.2.1 hd rfl (hl.2.2.2 _ _ hx (fun q => by cases q)) (k p e s m args below meth c cx R hR1 hR2 σ A H locs lsA cells slots Qw hc hs ha hl hk)
theorem e_iload {i : Nat} {x : Int32} (hx : ls[i]? = some (.int x)) (hd : decode cc pc = .ok (.iload i, 2)) (k : E l K g d nc ns y cc nL ret (pc + 2) ls (.int x :: st) h Q) : E l K g d nc ns y cc nL ret pc ls (st) h Q := by
  intro p e s m args below meth c cx R hR1 hR2 σ A H locs lsA cells slots Qw hc hs ha hl hk
  exact lv_iload cx.1 cx.2.1 hd (hl.2.2.2 _ _ hx (fun q => by cases q)) (k p e s m args below meth c cx R hR1 hR2 σ A H locs lsA cells slots Qw hc hs ha hl hk)
theorem e_lload_n {i : Fin 4} {x : Int64} (hx : ls[(i : Nat)]? = some (.long x)) (hd : decode cc pc = .ok (.lload_n i, 1)) (k : E l K g d nc ns y cc nL ret (pc + 1) ls (.long x :: st) h Q) : E l K g d nc ns y cc nL ret pc ls (st) h Q := by
  intro p e s m args below meth c cx R hR1 hR2 σ A H locs lsA cells slots Qw hc hs ha hl hk
  exact lv_lload_n cx.1 cx.2.1 hd rfl (hl.2.2.2 _ _ hx (fun q => by cases q)) (k p e s m args below meth c cx R hR1 hR2 σ A H locs lsA cells slots Qw hc hs ha hl hk)
theorem e_lload {i : Nat} {x : Int64} (hx : ls[i]? = some (.long x)) (hd : decode cc pc = .ok (.lload i, 2)) (k : E l K g d nc ns y cc nL ret (pc + 2) ls (.long x :: st) h Q) : E l K g d nc ns y cc nL ret pc ls (st) h Q := by
  intro p e s m args below meth c cx R hR1 hR2 σ A H locs lsA cells slots Qw hc hs ha hl hk
  exact lv_lload cx.1 cx.2.1 hd (hl.2.2.2 _ _ hx (fun q => by cases q)) (k p e s m args below meth c cx R hR1 hR2 σ A H locs lsA cells slots Qw hc hs ha hl hk)
theorem e_aload_n {i : Fin 4} {x : Nat} (hx : ls[(i : Nat)]? = some (.ref x)) (hd : decode cc pc = .ok (.aload_n i, 1)) (k : E l K g d nc ns y cc nL ret (pc + 1) ls (.ref x :: st) h Q) : E l K g d nc ns y cc nL ret pc ls (st) h Q := by
  intro p e s m args below meth c cx R hR1 hR2 σ A H locs lsA cells slots Qw hc hs ha hl hk
  have hv := hl.2.2.2 _ _ hx (fun q => by cases q)
  have kk := k p e s m args below meth c cx R hR1 hR2 σ A H locs lsA cells slots Qw hc hs ha hl hk
  have hm : (Value.ref x :: st).map (a_cv σ) = a_cv σ (.ref x) :: st.map (a_cv σ) := rfl
  rw [hm] at kk
  by_cases h0 : x = 0
  · have e0 : a_cv σ (.ref x) = .null := by simp only [a_cv, if_pos h0]
    rw [e0] at hv kk
    exact lv_aload_nN cx.1 cx.2.1 hd rfl hv kk
  · have e0 : a_cv σ (.ref x) = .ref (σ x) := by simp only [a_cv, if_neg h0]
    rw [e0] at hv kk
    exact lv_aload_n cx.1 cx.2.1 hd rfl hv kk
theorem e_aload {i : Nat} {x : Nat} (hx : ls[i]? = some (.ref x)) (hd : decode cc pc = .ok (.aload i, 2)) (k : E l K g d nc ns y cc nL ret (pc + 2) ls (.ref x :: st) h Q) : E l K g d nc ns y cc nL ret pc ls (st) h Q := by
  intro p e s m args below meth c cx R hR1 hR2 σ A H locs lsA cells slots Qw hc hs ha hl hk
  have hv := hl.2.2.2 _ _ hx (fun q => by cases q)
  have kk := k p e s m args below meth c cx R hR1 hR2 σ A H locs lsA cells slots Qw hc hs ha hl hk
  have hm : (Value.ref x :: st).map (a_cv σ) = a_cv σ (.ref x) :: st.map (a_cv σ) := rfl
  rw [hm] at kk
  by_cases h0 : x = 0
  · have e0 : a_cv σ (.ref x) = .null := by simp only [a_cv, if_pos h0]
    rw [e0] at hv kk
    exact lv_aloadN cx.1 cx.2.1 hd hv kk
  · have e0 : a_cv σ (.ref x) = .ref (σ x) := by simp only [a_cv, if_neg h0]
    rw [e0] at hv kk
    exact lv_aload cx.1 cx.2.1 hd hv kk
theorem e_iadd {x z : Int32} (hd : decode cc pc = .ok (.iadd, 1)) (k : E l K g d nc ns y cc nL ret (pc + 1) ls (.int (x + z) :: st) h Q) : E l K g d nc ns y cc nL ret pc ls (.int z :: .int x :: st) h Q := by
  intro p e s m args below meth c cx R hR1 hR2 σ A H locs lsA cells slots Qw hc hs ha hl hk
  exact lv_iadd cx.1 cx.2.1 hd (k p e s m args below meth c cx R hR1 hR2 σ A H locs lsA cells slots Qw hc hs ha hl hk)
theorem e_isub {x z : Int32} (hd : decode cc pc = .ok (.isub, 1)) (k : E l K g d nc ns y cc nL ret (pc + 1) ls (.int (x - z) :: st) h Q) : E l K g d nc ns y cc nL ret pc ls (.int z :: .int x :: st) h Q := by
  intro p e s m args below meth c cx R hR1 hR2 σ A H locs lsA cells slots Qw hc hs ha hl hk
  exact lv_isub cx.1 cx.2.1 hd (k p e s m args below meth c cx R hR1 hR2 σ A H locs lsA cells slots Qw hc hs ha hl hk)
theorem e_imul {x z : Int32} (hd : decode cc pc = .ok (.imul, 1)) (k : E l K g d nc ns y cc nL ret (pc + 1) ls (.int (x * z) :: st) h Q) : E l K g d nc ns y cc nL ret pc ls (.int z :: .int x :: st) h Q := by
  intro p e s m args below meth c cx R hR1 hR2 σ A H locs lsA cells slots Qw hc hs ha hl hk
  exact lv_imul cx.1 cx.2.1 hd (k p e s m args below meth c cx R hR1 hR2 σ A H locs lsA cells slots Qw hc hs ha hl hk)
theorem e_iand {x z : Int32} (hd : decode cc pc = .ok (.iand, 1)) (k : E l K g d nc ns y cc nL ret (pc + 1) ls (.int (x &&& z) :: st) h Q) : E l K g d nc ns y cc nL ret pc ls (.int z :: .int x :: st) h Q := by
  intro p e s m args below meth c cx R hR1 hR2 σ A H locs lsA cells slots Qw hc hs ha hl hk
  exact lv_iand cx.1 cx.2.1 hd (k p e s m args below meth c cx R hR1 hR2 σ A H locs lsA cells slots Qw hc hs ha hl hk)
theorem e_ior {x z : Int32} (hd : decode cc pc = .ok (.ior, 1)) (k : E l K g d nc ns y cc nL ret (pc + 1) ls (.int (x ||| z) :: st) h Q) : E l K g d nc ns y cc nL ret pc ls (.int z :: .int x :: st) h Q := by
  intro p e s m args below meth c cx R hR1 hR2 σ A H locs lsA cells slots Qw hc hs ha hl hk
  exact lv_ior cx.1 cx.2.1 hd (k p e s m args below meth c cx R hR1 hR2 σ A H locs lsA cells slots Qw hc hs ha hl hk)
theorem e_ixor {x z : Int32} (hd : decode cc pc = .ok (.ixor, 1)) (k : E l K g d nc ns y cc nL ret (pc + 1) ls (.int (x ^^^ z) :: st) h Q) : E l K g d nc ns y cc nL ret pc ls (.int z :: .int x :: st) h Q := by
  intro p e s m args below meth c cx R hR1 hR2 σ A H locs lsA cells slots Qw hc hs ha hl hk
  exact lv_ixor cx.1 cx.2.1 hd (k p e s m args below meth c cx R hR1 hR2 σ A H locs lsA cells slots Qw hc hs ha hl hk)
theorem e_land {x z : Int64} (hd : decode cc pc = .ok (.land, 1)) (k : E l K g d nc ns y cc nL ret (pc + 1) ls (.long (x &&& z) :: st) h Q) : E l K g d nc ns y cc nL ret pc ls (.long z :: .long x :: st) h Q := by
  intro p e s m args below meth c cx R hR1 hR2 σ A H locs lsA cells slots Qw hc hs ha hl hk
  exact lv_land cx.1 cx.2.1 hd (k p e s m args below meth c cx R hR1 hR2 σ A H locs lsA cells slots Qw hc hs ha hl hk)
theorem e_lor {x z : Int64} (hd : decode cc pc = .ok (.lor, 1)) (k : E l K g d nc ns y cc nL ret (pc + 1) ls (.long (x ||| z) :: st) h Q) : E l K g d nc ns y cc nL ret pc ls (.long z :: .long x :: st) h Q := by
  intro p e s m args below meth c cx R hR1 hR2 σ A H locs lsA cells slots Qw hc hs ha hl hk
  exact lv_lor cx.1 cx.2.1 hd (k p e s m args below meth c cx R hR1 hR2 σ A H locs lsA cells slots Qw hc hs ha hl hk)
theorem e_ladd {x z : Int64} (hd : decode cc pc = .ok (.ladd, 1)) (k : E l K g d nc ns y cc nL ret (pc + 1) ls (.long (x + z) :: st) h Q) : E l K g d nc ns y cc nL ret pc ls (.long z :: .long x :: st) h Q := by
  intro p e s m args below meth c cx R hR1 hR2 σ A H locs lsA cells slots Qw hc hs ha hl hk
  exact lv_ladd cx.1 cx.2.1 hd (k p e s m args below meth c cx R hR1 hR2 σ A H locs lsA cells slots Qw hc hs ha hl hk)
theorem e_lsub {x z : Int64} (hd : decode cc pc = .ok (.lsub, 1)) (k : E l K g d nc ns y cc nL ret (pc + 1) ls (.long (x - z) :: st) h Q) : E l K g d nc ns y cc nL ret pc ls (.long z :: .long x :: st) h Q := by
  intro p e s m args below meth c cx R hR1 hR2 σ A H locs lsA cells slots Qw hc hs ha hl hk
  exact lv_lsub cx.1 cx.2.1 hd (k p e s m args below meth c cx R hR1 hR2 σ A H locs lsA cells slots Qw hc hs ha hl hk)
theorem e_irem {x z : Int32} (hz : ¬ z = 0) (hd : decode cc pc = .ok (.irem, 1)) (k : E l K g d nc ns y cc nL ret (pc + 1) ls (.int (x - x / z * z) :: st) h Q) : E l K g d nc ns y cc nL ret pc ls (.int z :: .int x :: st) h Q := by
  intro p e s m args below meth c cx R hR1 hR2 σ A H locs lsA cells slots Qw hc hs ha hl hk
  exact lv_irem cx.1 cx.2.1 hd hz (k p e s m args below meth c cx R hR1 hR2 σ A H locs lsA cells slots Qw hc hs ha hl hk)
theorem e_ineg {x : Int32} (hd : decode cc pc = .ok (.ineg, 1)) (k : E l K g d nc ns y cc nL ret (pc + 1) ls (.int (-x) :: st) h Q) : E l K g d nc ns y cc nL ret pc ls (.int x :: st) h Q := by
  intro p e s m args below meth c cx R hR1 hR2 σ A H locs lsA cells slots Qw hc hs ha hl hk
  exact lv_ineg cx.1 cx.2.1 hd (k p e s m args below meth c cx R hR1 hR2 σ A H locs lsA cells slots Qw hc hs ha hl hk)
theorem e_ishl {x z : Int32} (hd : decode cc pc = .ok (.ishl, 1)) (k : E l K g d nc ns y cc nL ret (pc + 1) ls (.int (x <<< (z &&& 31)) :: st) h Q) : E l K g d nc ns y cc nL ret pc ls (.int z :: .int x :: st) h Q := by
  intro p e s m args below meth c cx R hR1 hR2 σ A H locs lsA cells slots Qw hc hs ha hl hk
  exact lv_ishl cx.1 cx.2.1 hd (k p e s m args below meth c cx R hR1 hR2 σ A H locs lsA cells slots Qw hc hs ha hl hk)
theorem e_ishr {x z : Int32} (hd : decode cc pc = .ok (.ishr, 1)) (k : E l K g d nc ns y cc nL ret (pc + 1) ls (.int (x >>> (z &&& 31)) :: st) h Q) : E l K g d nc ns y cc nL ret pc ls (.int z :: .int x :: st) h Q := by
  intro p e s m args below meth c cx R hR1 hR2 σ A H locs lsA cells slots Qw hc hs ha hl hk
  exact lv_ishr cx.1 cx.2.1 hd (k p e s m args below meth c cx R hR1 hR2 σ A H locs lsA cells slots Qw hc hs ha hl hk)
theorem e_iushr {x z : Int32} (hd : decode cc pc = .ok (.iushr, 1)) (k : E l K g d nc ns y cc nL ret (pc + 1) ls (.int ((x.toUInt32 >>> (z.toUInt32 &&& Int32.toUInt32 31)).toInt32) :: st) h Q) : E l K g d nc ns y cc nL ret pc ls (.int z :: .int x :: st) h Q := by
  intro p e s m args below meth c cx R hR1 hR2 σ A H locs lsA cells slots Qw hc hs ha hl hk
  exact lv_iushr cx.1 cx.2.1 hd rfl (k p e s m args below meth c cx R hR1 hR2 σ A H locs lsA cells slots Qw hc hs ha hl hk)
theorem e_lshl {x : Int64} {z : Int32} (hd : decode cc pc = .ok (.lshl, 1)) (k : E l K g d nc ns y cc nL ret (pc + 1) ls (.long (x <<< (z.toInt64 &&& 63)) :: st) h Q) : E l K g d nc ns y cc nL ret pc ls (.int z :: .long x :: st) h Q := by
  intro p e s m args below meth c cx R hR1 hR2 σ A H locs lsA cells slots Qw hc hs ha hl hk
  exact lv_lshl cx.1 cx.2.1 hd rfl (k p e s m args below meth c cx R hR1 hR2 σ A H locs lsA cells slots Qw hc hs ha hl hk)
theorem e_lshr {x : Int64} {z : Int32} (hd : decode cc pc = .ok (.lshr, 1)) (k : E l K g d nc ns y cc nL ret (pc + 1) ls (.long (x >>> (z.toInt64 &&& 63)) :: st) h Q) : E l K g d nc ns y cc nL ret pc ls (.int z :: .long x :: st) h Q := by
  intro p e s m args below meth c cx R hR1 hR2 σ A H locs lsA cells slots Qw hc hs ha hl hk
  exact lv_lshr cx.1 cx.2.1 hd rfl (k p e s m args below meth c cx R hR1 hR2 σ A H locs lsA cells slots Qw hc hs ha hl hk)
theorem e_i2l {x : Int32} (hd : decode cc pc = .ok (.i2l, 1)) (k : E l K g d nc ns y cc nL ret (pc + 1) ls (.long x.toInt64 :: st) h Q) : E l K g d nc ns y cc nL ret pc ls (.int x :: st) h Q := by
  intro p e s m args below meth c cx R hR1 hR2 σ A H locs lsA cells slots Qw hc hs ha hl hk
  exact lv_i2l cx.1 cx.2.1 hd rfl (k p e s m args below meth c cx R hR1 hR2 σ A H locs lsA cells slots Qw hc hs ha hl hk)
theorem e_l2i {x : Int64} (hd : decode cc pc = .ok (.l2i, 1)) (k : E l K g d nc ns y cc nL ret (pc + 1) ls (.int x.toInt32 :: st) h Q) : E l K g d nc ns y cc nL ret pc ls (.long x :: st) h Q := by
  intro p e s m args below meth c cx R hR1 hR2 σ A H locs lsA cells slots Qw hc hs ha hl hk
  exact lv_l2i cx.1 cx.2.1 hd rfl (k p e s m args below meth c cx R hR1 hR2 σ A H locs lsA cells slots Qw hc hs ha hl hk)
theorem e_i2c {x : Int32} (hd : decode cc pc = .ok (.i2c, 1)) (k : E l K g d nc ns y cc nL ret (pc + 1) ls (.int (x.toUInt32 % 65536).toInt32 :: st) h Q) : E l K g d nc ns y cc nL ret pc ls (.int x :: st) h Q := by
  intro p e s m args below meth c cx R hR1 hR2 σ A H locs lsA cells slots Qw hc hs ha hl hk
  exact lv_i2c cx.1 cx.2.1 hd rfl (k p e s m args below meth c cx R hR1 hR2 σ A H locs lsA cells slots Qw hc hs ha hl hk)
theorem e_i2b {x : Int32} (hd : decode cc pc = .ok (.i2b, 1)) (k : E l K g d nc ns y cc nL ret (pc + 1) ls (.int x.toInt8.toInt32 :: st) h Q) : E l K g d nc ns y cc nL ret pc ls (.int x :: st) h Q := by
  intro p e s m args below meth c cx R hR1 hR2 σ A H locs lsA cells slots Qw hc hs ha hl hk
  exact lv_i2b cx.1 cx.2.1 hd rfl (k p e s m args below meth c cx R hR1 hR2 σ A H locs lsA cells slots Qw hc hs ha hl hk)
theorem e_lcmp {x z : Int64} (hd : decode cc pc = .ok (.lcmp, 1)) (k : E l K g d nc ns y cc nL ret (pc + 1) ls (.int (lg_cmp x z) :: st) h Q) : E l K g d nc ns y cc nL ret pc ls (.long z :: .long x :: st) h Q := by
  intro p e s m args below meth c cx R hR1 hR2 σ A H locs lsA cells slots Qw hc hs ha hl hk
  exact W.lcmp cx.1 cx.2.1 hd (k p e s m args below meth c cx R hR1 hR2 σ A H locs lsA cells slots Qw hc hs ha hl hk)
theorem e_dup {v : Value} (hv : v.category = 1) (hd : decode cc pc = .ok (.dup, 1)) (k : E l K g d nc ns y cc nL ret (pc + 1) ls (v :: v :: st) h Q) : E l K g d nc ns y cc nL ret pc ls (v :: st) h Q := by
  intro p e s m args below meth c cx R hR1 hR2 σ A H locs lsA cells slots Qw hc hs ha hl hk
  exact lv_dup cx.1 cx.2.1 hd (a_cv_cat.trans hv) (k p e s m args below meth c cx R hR1 hR2 σ A H locs lsA cells slots Qw hc hs ha hl hk)
theorem e_pop {v : Value} (hv : v.category = 1) (hd : decode cc pc = .ok (.pop, 1)) (k : E l K g d nc ns y cc nL ret (pc + 1) ls (st) h Q) : E l K g d nc ns y cc nL ret pc ls (v :: st) h Q := by
  intro p e s m args below meth c cx R hR1 hR2 σ A H locs lsA cells slots Qw hc hs ha hl hk
  exact lv_pop cx.1 cx.2.1 hd (a_cv_cat.trans hv) (k p e s m args below meth c cx R hR1 hR2 σ A H locs lsA cells slots Qw hc hs ha hl hk)
theorem e_dup2 {v w : Value} (hv : v.category = 1) (hw : w.category = 1) (hd : decode cc pc = .ok (.dup2, 1)) (k : E l K g d nc ns y cc nL ret (pc + 1) ls (v :: w :: v :: w :: st) h Q) : E l K g d nc ns y cc nL ret pc ls (v :: w :: st) h Q := by
  intro p e s m args below meth c cx R hR1 hR2 σ A H locs lsA cells slots Qw hc hs ha hl hk
  exact lv_dup2_11 cx.1 cx.2.1 hd (a_cv_cat.trans hv) (a_cv_cat.trans hw) (k p e s m args below meth c cx R hR1 hR2 σ A H locs lsA cells slots Qw hc hs ha hl hk)
theorem e_dup_x1 {v w : Value} (hv : v.category = 1) (hw : w.category = 1) (hd : decode cc pc = .ok (.dup_x1, 1)) (k : E l K g d nc ns y cc nL ret (pc + 1) ls (v :: w :: v :: st) h Q) : E l K g d nc ns y cc nL ret pc ls (v :: w :: st) h Q := by
  intro p e s m args below meth c cx R hR1 hR2 σ A H locs lsA cells slots Qw hc hs ha hl hk
  exact lv_dup_x1 cx.1 cx.2.1 hd (a_cv_cat.trans hv) (a_cv_cat.trans hw) (k p e s m args below meth c cx R hR1 hR2 σ A H locs lsA cells slots Qw hc hs ha hl hk)
theorem e_if_eq {x : Int32} {off : Int} (tgt : Nat) (hd : decode cc pc = .ok (.ifCond .eq off, 3)) (ht : (pc : Int) + off = (tgt : Int)) (kt : x = 0 → E l K g d nc ns y cc nL ret tgt ls st h Q) (kf : ¬ (x = 0) → E l K g d nc ns y cc nL ret (pc + 3) ls st h Q) : E l K g d nc ns y cc nL ret pc ls (.int x :: st) h Q := by
  intro p e s m args below meth c cx R hR1 hR2 σ A H locs lsA cells slots Qw hc hs ha hl hk
  exact lv_if_eq cx.1 cx.2.1 hd ht (fun q => kt q p e s m args below meth c cx R hR1 hR2 σ A H locs lsA cells slots Qw hc hs ha hl hk) (fun q => kf q p e s m args below meth c cx R hR1 hR2 σ A H locs lsA cells slots Qw hc hs ha hl hk)
theorem e_icmp_eq {x z : Int32} {off : Int} (tgt : Nat) (hd : decode cc pc = .ok (.if_icmp .eq off, 3)) (ht : (pc : Int) + off = (tgt : Int)) (kt : x = z → E l K g d nc ns y cc nL ret tgt ls st h Q) (kf : ¬ (x = z) → E l K g d nc ns y cc nL ret (pc + 3) ls st h Q) : E l K g d nc ns y cc nL ret pc ls (.int z :: .int x :: st) h Q := by
  intro p e s m args below meth c cx R hR1 hR2 σ A H locs lsA cells slots Qw hc hs ha hl hk
  exact lv_icmp_eq cx.1 cx.2.1 hd ht (fun q => kt q p e s m args below meth c cx R hR1 hR2 σ A H locs lsA cells slots Qw hc hs ha hl hk) (fun q => kf q p e s m args below meth c cx R hR1 hR2 σ A H locs lsA cells slots Qw hc hs ha hl hk)
theorem e_if_ne {x : Int32} {off : Int} (tgt : Nat) (hd : decode cc pc = .ok (.ifCond .ne off, 3)) (ht : (pc : Int) + off = (tgt : Int)) (kt : ¬ x = 0 → E l K g d nc ns y cc nL ret tgt ls st h Q) (kf : x = 0 → E l K g d nc ns y cc nL ret (pc + 3) ls st h Q) : E l K g d nc ns y cc nL ret pc ls (.int x :: st) h Q := by
  intro p e s m args below meth c cx R hR1 hR2 σ A H locs lsA cells slots Qw hc hs ha hl hk
  exact lv_if_ne cx.1 cx.2.1 hd ht (fun q => kt q p e s m args below meth c cx R hR1 hR2 σ A H locs lsA cells slots Qw hc hs ha hl hk) (fun q => kf q p e s m args below meth c cx R hR1 hR2 σ A H locs lsA cells slots Qw hc hs ha hl hk)
theorem e_icmp_ne {x z : Int32} {off : Int} (tgt : Nat) (hd : decode cc pc = .ok (.if_icmp .ne off, 3)) (ht : (pc : Int) + off = (tgt : Int)) (kt : ¬ x = z → E l K g d nc ns y cc nL ret tgt ls st h Q) (kf : x = z → E l K g d nc ns y cc nL ret (pc + 3) ls st h Q) : E l K g d nc ns y cc nL ret pc ls (.int z :: .int x :: st) h Q := by
  intro p e s m args below meth c cx R hR1 hR2 σ A H locs lsA cells slots Qw hc hs ha hl hk
  exact lv_icmp_ne cx.1 cx.2.1 hd ht (fun q => kt q p e s m args below meth c cx R hR1 hR2 σ A H locs lsA cells slots Qw hc hs ha hl hk) (fun q => kf q p e s m args below meth c cx R hR1 hR2 σ A H locs lsA cells slots Qw hc hs ha hl hk)
theorem e_if_lt {x : Int32} {off : Int} (tgt : Nat) (hd : decode cc pc = .ok (.ifCond .lt off, 3)) (ht : (pc : Int) + off = (tgt : Int)) (kt : x < 0 → E l K g d nc ns y cc nL ret tgt ls st h Q) (kf : ¬ (x < 0) → E l K g d nc ns y cc nL ret (pc + 3) ls st h Q) : E l K g d nc ns y cc nL ret pc ls (.int x :: st) h Q := by
  intro p e s m args below meth c cx R hR1 hR2 σ A H locs lsA cells slots Qw hc hs ha hl hk
  exact lv_if_lt cx.1 cx.2.1 hd ht (fun q => kt q p e s m args below meth c cx R hR1 hR2 σ A H locs lsA cells slots Qw hc hs ha hl hk) (fun q => kf q p e s m args below meth c cx R hR1 hR2 σ A H locs lsA cells slots Qw hc hs ha hl hk)
theorem e_icmp_lt {x z : Int32} {off : Int} (tgt : Nat) (hd : decode cc pc = .ok (.if_icmp .lt off, 3)) (ht : (pc : Int) + off = (tgt : Int)) (kt : x < z → E l K g d nc ns y cc nL ret tgt ls st h Q) (kf : ¬ (x < z) → E l K g d nc ns y cc nL ret (pc + 3) ls st h Q) : E l K g d nc ns y cc nL ret pc ls (.int z :: .int x :: st) h Q := by
  intro p e s m args below meth c cx R hR1 hR2 σ A H locs lsA cells slots Qw hc hs ha hl hk
  exact lv_icmp_lt cx.1 cx.2.1 hd ht (fun q => kt q p e s m args below meth c cx R hR1 hR2 σ A H locs lsA cells slots Qw hc hs ha hl hk) (fun q => kf q p e s m args below meth c cx R hR1 hR2 σ A H locs lsA cells slots Qw hc hs ha hl hk)
theorem e_if_ge {x : Int32} {off : Int} (tgt : Nat) (hd : decode cc pc = .ok (.ifCond .ge off, 3)) (ht : (pc : Int) + off = (tgt : Int)) (kt : 0 ≤ x → E l K g d nc ns y cc nL ret tgt ls st h Q) (kf : ¬ (0 ≤ x) → E l K g d nc ns y cc nL ret (pc + 3) ls st h Q) : E l K g d nc ns y cc nL ret pc ls (.int x :: st) h Q := by
  intro p e s m args below meth c cx R hR1 hR2 σ A H locs lsA cells slots Qw hc hs ha hl hk
  exact lv_if_ge cx.1 cx.2.1 hd ht (fun q => kt q p e s m args below meth c cx R hR1 hR2 σ A H locs lsA cells slots Qw hc hs ha hl hk) (fun q => kf q p e s m args below meth c cx R hR1 hR2 σ A H locs lsA cells slots Qw hc hs ha hl hk)
theorem e_icmp_ge {x z : Int32} {off : Int} (tgt : Nat) (hd : decode cc pc = .ok (.if_icmp .ge off, 3)) (ht : (pc : Int) + off = (tgt : Int)) (kt : z ≤ x → E l K g d nc ns y cc nL ret tgt ls st h Q) (kf : ¬ (z ≤ x) → E l K g d nc ns y cc nL ret (pc + 3) ls st h Q) : E l K g d nc ns y cc nL ret pc ls (.int z :: .int x :: st) h Q := by
  intro p e s m args below meth c cx R hR1 hR2 σ A H locs lsA cells slots Qw hc hs ha hl hk
  exact lv_icmp_ge cx.1 cx.2.1 hd ht (fun q => kt q p e s m args below meth c cx R hR1 hR2 σ A H locs lsA cells slots Qw hc hs ha hl hk) (fun q => kf q p e s m args below meth c cx R hR1 hR2 σ A H locs lsA cells slots Qw hc hs ha hl hk)
theorem e_if_gt {x : Int32} {off : Int} (tgt : Nat) (hd : decode cc pc = .ok (.ifCond .gt off, 3)) (ht : (pc : Int) + off = (tgt : Int)) (kt : 0 < x → E l K g d nc ns y cc nL ret tgt ls st h Q) (kf : ¬ (0 < x) → E l K g d nc ns y cc nL ret (pc + 3) ls st h Q) : E l K g d nc ns y cc nL ret pc ls (.int x :: st) h Q := by
  intro p e s m args below meth c cx R hR1 hR2 σ A H locs lsA cells slots Qw hc hs ha hl hk
  exact lv_if_gt cx.1 cx.2.1 hd ht (fun q => kt q p e s m args below meth c cx R hR1 hR2 σ A H locs lsA cells slots Qw hc hs ha hl hk) (fun q => kf q p e s m args below meth c cx R hR1 hR2 σ A H locs lsA cells slots Qw hc hs ha hl hk)
theorem e_icmp_gt {x z : Int32} {off : Int} (tgt : Nat) (hd : decode cc pc = .ok (.if_icmp .gt off, 3)) (ht : (pc : Int) + off = (tgt : Int)) (kt : z < x → E l K g d nc ns y cc nL ret tgt ls st h Q) (kf : ¬ (z < x) → E l K g d nc ns y cc nL ret (pc + 3) ls st h Q) : E l K g d nc ns y cc nL ret pc ls (.int z :: .int x :: st) h Q := by
  intro p e s m args below meth c cx R hR1 hR2 σ A H locs lsA cells slots Qw hc hs ha hl hk
  exact lv_icmp_gt cx.1 cx.2.1 hd ht (fun q => kt q p e s m args below meth c cx R hR1 hR2 σ A H locs lsA cells slots Qw hc hs ha hl hk) (fun q => kf q p e s m args below meth c cx R hR1 hR2 σ A H locs lsA cells slots Qw hc hs ha hl hk)
theorem e_if_le {x : Int32} {off : Int} (tgt : Nat) (hd : decode cc pc = .ok (.ifCond .le off, 3)) (ht : (pc : Int) + off = (tgt : Int)) (kt : x ≤ 0 → E l K g d nc ns y cc nL ret tgt ls st h Q) (kf : ¬ (x ≤ 0) → E l K g d nc ns y cc nL ret (pc + 3) ls st h Q) : E l K g d nc ns y cc nL ret pc ls (.int x :: st) h Q := by
  intro p e s m args below meth c cx R hR1 hR2 σ A H locs lsA cells slots Qw hc hs ha hl hk
  exact lv_if_le cx.1 cx.2.1 hd ht (fun q => kt q p e s m args below meth c cx R hR1 hR2 σ A H locs lsA cells slots Qw hc hs ha hl hk) (fun q => kf q p e s m args below meth c cx R hR1 hR2 σ A H locs lsA cells slots Qw hc hs ha hl hk)
theorem e_icmp_le {x z : Int32} {off : Int} (tgt : Nat) (hd : decode cc pc = .ok (.if_icmp .le off, 3)) (ht : (pc : Int) + off = (tgt : Int)) (kt : x ≤ z → E l K g d nc ns y cc nL ret tgt ls st h Q) (kf : ¬ (x ≤ z) → E l K g d nc ns y cc nL ret (pc + 3) ls st h Q) : E l K g d nc ns y cc nL ret pc ls (.int z :: .int x :: st) h Q := by
  intro p e s m args below meth c cx R hR1 hR2 σ A H locs lsA cells slots Qw hc hs ha hl hk
  exact lv_icmp_le cx.1 cx.2.1 hd ht (fun q => kt q p e s m args below meth c cx R hR1 hR2 σ A H locs lsA cells slots Qw hc hs ha hl hk) (fun q => kf q p e s m args below meth c cx R hR1 hR2 σ A H locs lsA cells slots Qw hc hs ha hl hk)
theorem e_goto {off : Int} (tgt : Nat) (hd : decode cc pc = .ok (.goto off, 3)) (ht : (pc : Int) + off = (tgt : Int)) (k : E l K g d nc ns y cc nL ret tgt ls st h Q) : E l K g d nc ns y cc nL ret pc ls st h Q := by
  intro p e s m args below meth c cx R hR1 hR2 σ A H locs lsA cells slots Qw hc hs ha hl hk
  exact lv_goto cx.1 cx.2.1 hd ht (k p e s m args below meth c cx R hR1 hR2 σ A H locs lsA cells slots Qw hc hs ha hl hk)
theorem e_lookup {dflt : Int} {ps : Array (Int × Int)} {len : Nat} {x : Int32} {off : Int} (tgt : Nat) (hd : decode cc pc = .ok (.lookupswitch dflt ps, len)) (hp : (ps.toList.zip (ps.toList.drop 1)).all (fun (a, next) => a.1 < next.1) = true) (ho : Op.lookupswitch.offset ps.toList dflt x.toInt = off) (ht : (pc : Int) + off = (tgt : Int)) (k : E l K g d nc ns y cc nL ret tgt ls st h Q) : E l K g d nc ns y cc nL ret pc ls (.int x :: st) h Q := by
  intro p e s m args below meth c cx R hR1 hR2 σ A H locs lsA cells slots Qw hc hs ha hl hk
  exact lv_lookup cx.1 cx.2.1 hd hp ho ht (k p e s m args below meth c cx R hR1 hR2 σ A H locs lsA cells slots Qw hc hs ha hl hk)
theorem e_tableOut {dflt lo hi : Int} {offs : Array Int} {len : Nat} {x : Int32} (tgt : Nat) (hd : decode cc pc = .ok (.tableswitch dflt lo hi offs, len)) (hx : x.toInt < lo ∨ hi < x.toInt) (ht : (pc : Int) + dflt = (tgt : Int)) (k : E l K g d nc ns y cc nL ret tgt ls st h Q) : E l K g d nc ns y cc nL ret pc ls (.int x :: st) h Q := by
  intro p e s m args below meth c cx R hR1 hR2 σ A H locs lsA cells slots Qw hc hs ha hl hk
  exact lv_tableOut cx.1 cx.2.1 hd hx ht (k p e s m args below meth c cx R hR1 hR2 σ A H locs lsA cells slots Qw hc hs ha hl hk)
theorem e_tableIn {dflt lo hi : Int} {offs : Array Int} {len : Nat} {x : Int32} {off : Int} (tgt : Nat) (hd : decode cc pc = .ok (.tableswitch dflt lo hi offs, len)) (h1 : ¬ x.toInt < lo) (h2 : ¬ hi < x.toInt) (ho : offs[(x.toInt - lo).toNat]? = some off) (ht : (pc : Int) + off = (tgt : Int)) (k : E l K g d nc ns y cc nL ret tgt ls st h Q) : E l K g d nc ns y cc nL ret pc ls (.int x :: st) h Q := by
  intro p e s m args below meth c cx R hR1 hR2 σ A H locs lsA cells slots Qw hc hs ha hl hk
  exact lv_tableIn cx.1 cx.2.1 hd h1 h2 ho ht (k p e s m args below meth c cx R hR1 hR2 σ A H locs lsA cells slots Qw hc hs ha hl hk)
/-- what the locals list holds, as pairs -/
def a_prs (σ : Nat → Nat) (l : List Value) : List (Nat × Value) := (List.range l.length).filterMap (fun i => match l[i]? with
  | some Value.null => none
  | some v => some (i, a_cv σ v)
  | none => none)
theorem a_prs_in {σ : Nat → Nat} {l : List Value} {i : Nat} {v : Value} (hi : l[i]? = some v) (hv : v ≠ .null) : (i, a_cv σ v) ∈ a_prs σ l := by
  unfold a_prs
  refine List.mem_filterMap.mpr ⟨i, List.mem_range.mpr (List.getElem?_eq_some_iff.mp hi).1, ?_⟩
  rw [hi]
  cases v <;> first | rfl | exact absurd rfl hv
theorem a_prs_of {σ : Nat → Nat} {l : List Value} {q : Nat × Value} (hq : q ∈ a_prs σ l) : ∃ v, l[q.1]? = some v ∧ v ≠ .null ∧ q.2 = a_cv σ v := by
  unfold a_prs at hq
  obtain ⟨i, -, hi⟩ := List.mem_filterMap.mp hq
  cases hl : l[i]? with
  | none => rw [hl] at hi; cases hi
  | some v =>
    rw [hl] at hi
    cases v <;> first | (cases hi; exact ⟨_, hl, (fun z => by cases z), rfl⟩) | cases hi
theorem a_lv_has {σ : Nat → Nat} {ls : Array Slot} {nL : Nat} {l : List Value} (h : a_lv σ ls nL l) : lv_has ls nL (a_prs σ l) := by
  refine ⟨h.1, h.2.1, fun q hq => ?_⟩
  obtain ⟨v, h1, h2, h3⟩ := a_prs_of hq
  rw [h3]
  exact h.2.2.2 _ _ h1 h2
/-- a store of one slot into place i: a long right before it is lost -/
def a_s1 (l : List Value) (i : Nat) (v : Value) : List Value := match i with
  | 0 => l.set 0 v
  | j + 1 => (match l[j]? with
    | some (.long _) => l.set j .null
    | some (.double _) => l.set j .null
    | _ => l).set (j + 1) v
/-- a store of two slots -/
def a_s2 (l : List Value) (i : Nat) (v : Value) : List Value := (a_s1 l i v).set (i + 1) .null
theorem a_s1_len {l : List Value} {i : Nat} {v : Value} : (a_s1 l i v).length = l.length := by
  unfold a_s1
  split
  · simp
  · split <;> simp
theorem a_set_at {L : List Value} {i : Nat} {v w : Value} (h : (L.set i v)[i]? = some w) : w = v := by
  rw [List.getElem?_set, if_pos rfl] at h
  split at h
  · cases h; rfl
  · cases h
theorem a_s1_at {l : List Value} {i : Nat} {v : Value} {j : Nat} {w : Value} (h : (a_s1 l i v)[j]? = some w) (hw : w ≠ .null) : (j = i ∧ w = v) ∨ (j ≠ i ∧ l[j]? = some w ∧ ¬ (j + 1 = i ∧ w.category = 2)) := by
  unfold a_s1 at h
  by_cases e : j = i
  · subst e
    left
    refine ⟨rfl, ?_⟩
    split at h
    · exact a_set_at h
    · exact a_set_at h
  · right
    refine ⟨e, ?_⟩
    split at h
    · rw [List.getElem?_set, if_neg (fun q => e q.symm)] at h
      exact ⟨h, fun q => by omega⟩
    · rename_i k
      rw [List.getElem?_set, if_neg (fun q => e q.symm)] at h
      by_cases e2 : j = k
      · subst e2
        split at h
        · rw [List.getElem?_set, if_pos rfl] at h
          split at h
          · cases h; exact absurd rfl hw
          · cases h
        · rw [List.getElem?_set, if_pos rfl] at h
          split at h
          · cases h; exact absurd rfl hw
          · cases h
        · rename_i n1 n2
          refine ⟨h, fun q => ?_⟩
          cases w with
          | long x => exact n1 _ h
          | double x => exact n2 _ h
          | _ => exact absurd q.2 (by simp [Value.category])
      · refine ⟨?_, fun q => by omega⟩
        split at h
        · rw [List.getElem?_set, if_neg (fun q => e2 q.symm)] at h; exact h
        · rw [List.getElem?_set, if_neg (fun q => e2 q.symm)] at h; exact h
        · exact h
theorem a_lv_s1 {σ : Nat → Nat} {ls' : Array Slot} {nL : Nat} {l : List Value} {i : Nat} {v w : Value} (hL : l.length = nL) (hv : a_cv σ v = w) (h : lv_has ls' nL ((i, w) :: (a_prs σ l).filter (fun q => !(q.1 == i) && !(q.1 + 1 == i && q.2.category == 2)))) : a_lv σ ls' nL (a_s1 l i v) := by
  refine ⟨h.1, h.2.1, by rw [a_s1_len]; exact hL, fun j u hj hu => ?_⟩
  rcases a_s1_at hj hu with ⟨rfl, rfl⟩ | ⟨h1, h2, h3⟩
  · rw [hv]; exact h.2.2 _ List.mem_cons_self
  · refine h.2.2 (j, a_cv σ u) (List.mem_cons_of_mem _ (List.mem_filter.mpr ⟨a_prs_in h2 hu, ?_⟩))
    simp only [a_cv_cat, Bool.and_eq_true, Bool.not_eq_true', beq_eq_false_iff_ne, ne_eq, Bool.and_eq_false_iff]
    refine ⟨h1, ?_⟩
    by_cases q : j + 1 = i
    · exact Or.inr (fun z => h3 ⟨q, z⟩)
    · exact Or.inl q
theorem a_lv_s2 {σ : Nat → Nat} {ls' : Array Slot} {nL : Nat} {l : List Value} {i : Nat} {v w : Value} (hL : l.length = nL) (hv : a_cv σ v = w) (h : lv_has ls' nL ((i, w) :: (a_prs σ l).filter (fun q => !(q.1 == i) && (!(q.1 == i + 1) && !(q.1 + 1 == i && q.2.category == 2))))) : a_lv σ ls' nL (a_s2 l i v) := by
  refine ⟨h.1, h.2.1, by rw [a_s2, List.length_set, a_s1_len]; exact hL, fun j u hj hu => ?_⟩
  rw [a_s2, List.getElem?_set] at hj
  by_cases q0 : i + 1 = j
  · rw [if_pos q0] at hj
    split at hj
    · cases hj; exact absurd rfl hu
    · cases hj
  rw [if_neg q0] at hj
  rcases a_s1_at hj hu with ⟨rfl, rfl⟩ | ⟨h1, h2, h3⟩
  · rw [hv]; exact h.2.2 _ List.mem_cons_self
  · refine h.2.2 (j, a_cv σ u) (List.mem_cons_of_mem _ (List.mem_filter.mpr ⟨a_prs_in h2 hu, ?_⟩))
    simp only [a_cv_cat, Bool.and_eq_true, Bool.not_eq_true', beq_eq_false_iff_ne, ne_eq, Bool.and_eq_false_iff]
    refine ⟨h1, fun z => q0 z.symm, ?_⟩
    by_cases q : j + 1 = i
    · exact Or.inr (fun z => h3 ⟨q, z⟩)
    · exact Or.inl q
theorem e_istore_n {i : Fin 4} {x : Int32} (hi : (i : Nat) < nL) (hd : decode cc pc = .ok (.istore_n i, 1)) (k : E l K g d nc ns y cc nL ret (pc + 1) (a_s1 ls (i : Nat) (.int x)) st h Q) : E l K g d nc ns y cc nL ret pc ls (.int x :: st) h Q := by
  intro p e s m args below meth c cx R hR1 hR2 σ A H locs lsA cells slots Qw hc hs ha hl hk
  exact lv_istore_n cx.1 cx.2.1 hd rfl (a_lv_has hl) hi rfl (fun ls2 h2 => k p e s m args below meth c cx R hR1 hR2 σ A H locs ls2 cells slots Qw hc hs ha (a_lv_s1 hl.2.2.1 rfl h2) hk)
theorem e_istore {i : Nat} {x : Int32} (hi : i < nL) (hd : decode cc pc = .ok (.istore i, 2)) (k : E l K g d nc ns y cc nL ret (pc + 2) (a_s1 ls i (.int x)) st h Q) : E l K g d nc ns y cc nL ret pc ls (.int x :: st) h Q := by
  intro p e s m args below meth c cx R hR1 hR2 σ A H locs lsA cells slots Qw hc hs ha hl hk
  exact lv_istore cx.1 cx.2.1 hd (a_lv_has hl) hi rfl (fun ls2 h2 => k p e s m args below meth c cx R hR1 hR2 σ A H locs ls2 cells slots Qw hc hs ha (a_lv_s1 hl.2.2.1 rfl h2) hk)
theorem e_lstore_n {i : Fin 4} {x : Int64} (hi : (i : Nat) + 1 < nL) (hd : decode cc pc = .ok (.lstore_n i, 1)) (k : E l K g d nc ns y cc nL ret (pc + 1) (a_s2 ls (i : Nat) (.long x)) st h Q) : E l K g d nc ns y cc nL ret pc ls (.long x :: st) h Q := by
  intro p e s m args below meth c cx R hR1 hR2 σ A H locs lsA cells slots Qw hc hs ha hl hk
  exact lv_lstore_n cx.1 cx.2.1 hd rfl (a_lv_has hl) hi rfl (fun ls2 h2 => k p e s m args below meth c cx R hR1 hR2 σ A H locs ls2 cells slots Qw hc hs ha (a_lv_s2 hl.2.2.1 rfl h2) hk)
theorem e_lstore {i : Nat} {x : Int64} (hi : i + 1 < nL) (hd : decode cc pc = .ok (.lstore i, 2)) (k : E l K g d nc ns y cc nL ret (pc + 2) (a_s2 ls i (.long x)) st h Q) : E l K g d nc ns y cc nL ret pc ls (.long x :: st) h Q := by
  intro p e s m args below meth c cx R hR1 hR2 σ A H locs lsA cells slots Qw hc hs ha hl hk
  exact lv_lstore cx.1 cx.2.1 hd (a_lv_has hl) hi rfl (fun ls2 h2 => k p e s m args below meth c cx R hR1 hR2 σ A H locs ls2 cells slots Qw hc hs ha (a_lv_s2 hl.2.2.1 rfl h2) hk)
theorem e_astore_n {i : Fin 4} {x : Nat} (h0 : x ≠ 0) (hi : (i : Nat) < nL) (hd : decode cc pc = .ok (.astore_n i, 1)) (k : E l K g d nc ns y cc nL ret (pc + 1) (a_s1 ls (i : Nat) (.ref x)) st h Q) : E l K g d nc ns y cc nL ret pc ls (.ref x :: st) h Q := by
  intro p e s m args below meth c cx R hR1 hR2 σ A H locs lsA cells slots Qw hc hs ha hl hk
  have e0 : a_cv σ (.ref x) = .ref (σ x) := by simp only [a_cv, if_neg h0]
  have hm : (Value.ref x :: st).map (a_cv σ) = .ref (σ x) :: st.map (a_cv σ) := by rw [List.map_cons, e0]
  rw [hm]
  exact lv_astore_n cx.1 cx.2.1 hd rfl (a_lv_has hl) hi rfl (fun ls2 h2 => k p e s m args below meth c cx R hR1 hR2 σ A H locs ls2 cells slots Qw hc hs ha (a_lv_s1 hl.2.2.1 e0 h2) hk)
theorem e_astore {i : Nat} {x : Nat} (h0 : x ≠ 0) (hi : i < nL) (hd : decode cc pc = .ok (.astore i, 2)) (k : E l K g d nc ns y cc nL ret (pc + 2) (a_s1 ls i (.ref x)) st h Q) : E l K g d nc ns y cc nL ret pc ls (.ref x :: st) h Q := by
  intro p e s m args below meth c cx R hR1 hR2 σ A H locs lsA cells slots Qw hc hs ha hl hk
  have e0 : a_cv σ (.ref x) = .ref (σ x) := by simp only [a_cv, if_neg h0]
  have hm : (Value.ref x :: st).map (a_cv σ) = .ref (σ x) :: st.map (a_cv σ) := by rw [List.map_cons, e0]
  rw [hm]
  exact lv_astore cx.1 cx.2.1 hd (a_lv_has hl) hi rfl (fun ls2 h2 => k p e s m args below meth c cx R hR1 hR2 σ A H locs ls2 cells slots Qw hc hs ha (a_lv_s1 hl.2.2.1 e0 h2) hk)
theorem e_iinc {i : Nat} {n : Int} {x : Int32} (v : Int32) (hx : ls[i]? = some (.int x)) (hv : x + Int32.ofInt n = v) (hd : decode cc pc = .ok (.iinc i n, 3)) (k : E l K g d nc ns y cc nL ret (pc + 3) (a_s1 ls i (.int v)) st h Q) : E l K g d nc ns y cc nL ret pc ls st h Q := by
  intro p e s m args below meth c cx R hR1 hR2 σ A H locs lsA cells slots Qw hc hs ha hl hk
  obtain ⟨kp, hkp⟩ := List.getElem?_of_mem (a_prs_in (σ := σ) hx (fun z => by cases z))
  have hi : i < nL := by rw [← hl.2.2.1]; exact (List.getElem?_eq_some_iff.mp hx).1
  exact lv_iinc cx.1 cx.2.1 hd (a_lv_has hl) (k := kp) hkp hv hi rfl (fun ls2 h2 => k p e s m args below meth c cx R hR1 hR2 σ A H locs ls2 cells slots Qw hc hs ha (a_lv_s1 hl.2.2.1 rfl h2) hk)
end
