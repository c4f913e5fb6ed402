/-! NEW CELLS IN THE LAYOUT, and the constructors -/
/-- above n nothing is written, and every reference is at most n -/
def ZR (n : Nat) (I : iT) (J : jT) (F : fT) : Prop := (∀ a, n < a → I a = fun _ => 0) ∧ (∀ a, n < a → J a = fun _ => 0) ∧ (∀ a, n < a → F a = fun _ => 0) ∧ ∀ a j, F a j ≤ n
theorem ZR.up {n : Nat} {I : iT} {J : jT} {F : fT} (h : ZR n I J F) : ZR (n + 1) I J F := ⟨fun a ha => h.1 a (by omega), fun a ha => h.2.1 a (by omega), fun a ha => h.2.2.1 a (by omega), fun a j => Nat.le_succ_of_le (h.2.2.2 a j)⟩
theorem ZR.putF {n : Nat} {I : iT} {J : jT} {F : fT} (h : ZR n I J F) {a j v : Nat} (ha : a ≤ n) (hv : v ≤ n) : ZR n I J (a_u2 F a j v) := by
  refine ⟨h.1, h.2.1, fun b hb => ?_, fun b i => ?_⟩
  · rw [a_u2_r _ _ (by omega)]; exact h.2.2.1 b hb
  · by_cases q : b = a ∧ i = j
    · obtain ⟨rfl, rfl⟩ := q; rw [a_u2_s]; exact hv
    · rw [a_u2_n _ _ q]; exact h.2.2.2 b i
theorem ZR.putI {n : Nat} {I I' : iT} {J : jT} {F : fT} (h : ZR n I J F) (hI : ∀ b, n < b → I' b = I b) : ZR n I' J F := ⟨fun b hb => (hI b hb).trans (h.1 b hb), h.2⟩
theorem ZR.put1 {n : Nat} {I : iT} {J : jT} {F : fT} (h : ZR n I J F) {a j : Nat} {v : Int32} (ha : a ≤ n) : ZR n (a_u2 I a j v) J F := h.putI (fun b hb => a_u2_r _ _ (by omega))
theorem ZR.hok {n : Nat} {I : iT} {J : jT} {F : fT} (h : ZR n I J F) : a_hok (hq n I J F) := fun a j _ => Or.inl (h.2.2.2 a j)
theorem a_u1_id {α : Type} {f : Nat → α} {a : Nat} {v : α} (h : f a = v) : a_u1 f a v = f := by
  funext x
  by_cases q : x = a
  · subst q; rw [a_u1_s, h]
  · rw [a_u1_n _ _ q]
theorem ZR.new {n c N : Nat} {I : iT} {J : jT} {F : fT} (h : ZR n I J F) (hc : CLS (n + 1) = c) (hl : LEN (n + 1) = N) : aNew (hq n I J F) c N = hq (n + 1) I J F := by
  show (n + 1, a_u1 CLS (n + 1) c, a_u1 LEN (n + 1) N, a_u1 I (n + 1) (fun _ => 0), a_u1 J (n + 1) (fun _ => 0), a_u1 F (n + 1) (fun _ => 0)) = _
  rw [a_u1_id hc, a_u1_id hl, a_u1_id (h.1 _ (by omega)), a_u1_id (h.2.1 _ (by omega)), a_u1_id (h.2.2.1 _ (by omega))]
  rfl
def a_okB (n : Nat) : List Value → Bool
  | [] => true
  | .ref a :: l => (decide (a ≤ n) || decide (1000000 ≤ a)) && a_okB n l
  | _ :: l => a_okB n l
theorem a_okB_ok {n : Nat} : ∀ {l : List Value}, a_okB n l = true → a_okl n l := by
  intro l
  induction l with
  | nil => intro _ v hv; cases hv
  | cons w l ih =>
    intro h v hv
    cases w with
    | ref a =>
      simp only [a_okB, Bool.and_eq_true, Bool.or_eq_true, decide_eq_true_eq] at h
      rcases List.mem_cons.mp hv with rfl | hv
      · exact h.1
      · exact ih h.2 v hv
    | _ =>
      rcases List.mem_cons.mp hv with rfl | hv
      · exact trivial
      · exact ih h v hv
section
variable {l : Launch} {K : a_KT} {g : a_GT} {d nc ns : Nat} {y : MethodName} {cc : ByteArray} {nL : Nat} {ret : Option FieldType} {pc : Nat} {ls st : List Value} {Q : Option Value → aH → Prop} {n : Nat} {I : iT} {J : jT} {F : fT}
theorem q_new (hko : a_kok K) {idx : Nat} (c kf : Nat) (hkf : a_nf c = kf) (hd : decode cc pc = .ok (.new idx, 3)) (hc : c < 13) (hw : Cond.classLink y.cls idx (a_rc c) ∈ WS ∧ Cond.instantiable (a_rc c) (a_nf c) ∈ WS ∧ Cond.initialized (a_rc c) ∈ WS) (hz : ZR n I J F) (h1 : CLS (n + 1) = c) (h2 : LEN (n + 1) = 0) (hsz : n + 1 < 1000000) (hl : a_okB n ls = true) (hs : a_okB n st = true)
    (k : E l K g d nc ns y cc nL ret (pc + 3) ls (.ref (n + 1) :: st) (hq (n + 1) I J F) Q) : E l K g d (nc + 1) (ns + kf) y cc nL ret pc ls st (hq n I J F) Q := by
  subst hkf
  exact e_new hko lays_ok c hd hc hw hz.hok hsz ⟨a_okB_ok hl, a_okB_ok hs⟩ (by rw [hz.new h1 h2]; exact k)
theorem q_newa (hko : a_kok K) {atype : ArrayType} (t : Nat) {x : Int32} (N : Nat) (hd : decode cc pc = .ok (.newarray atype, 2)) (ht : (t = 0 ∧ atype = .int) ∨ (t = 1 ∧ atype = .long) ∨ (t = 2 ∧ atype = .boolean)) (hw : Cond.arrayClass (newarray.typeOf atype) ∈ WS) (hx : ¬ x < 0) (hN : x.toNatClampNeg = N) (hN2 : N ≤ 100000) (hz : ZR n I J F) (h1 : CLS (n + 1) = 100 + t) (h2 : LEN (n + 1) = N) (hsz : n + 1 < 1000000) (hl : a_okB n ls = true) (hs : a_okB n st = true)
    (k : E l K g d nc ns y cc nL ret (pc + 2) ls (.ref (n + 1) :: st) (hq (n + 1) I J F) Q) : E l K g d (nc + 1) (ns + N) y cc nL ret pc ls (.int x :: st) (hq n I J F) Q :=
  e_newa hko t N hd ht hw hx hN hN2 hz.hok hsz ⟨a_okB_ok hl, a_okB_ok hs⟩ (by rw [hz.new h1 h2]; exact k)
variable {idx d2 a mc ms n2 : Nat} {I2 : iT} {F2 : fT} {y2 : MethodName} {cc2 : ByteArray} {nL2 : Nat} 
theorem q_cI (as : List Value) {k : Nat} (hko : a_kok K) (hd : decode cc pc = .ok (.invokespecial idx, 3)) (hm : a_mi y.cls idx y2 cc2 nL2 k) (h0 : 0 < a) (hn : as.length = k) (hd2 : d2 + 1 ≤ d) (hst : (st.map fun v => v.category).sum ≤ 8) (hl : a_okB n ls = true) (hs : a_okB n st = true)
    (hC : C l K g d2 mc ms y2 cc2 nL2 none (.ref a :: as) (hq n I J F) (fun r h2 => r = none ∧ h2 = hq n2 I2 J F2)) (kk : E l K g d nc ns y cc nL ret (pc + 3) ls st (hq n2 I2 J F2) Q) : E l K g d (nc + mc) (ns + ms) y cc nL ret pc ls (as.reverse ++ .ref a :: st) (hq n I J F) Q :=
  e_callI hko hd hm h0 hn hd2 hst ⟨a_okB_ok hl, a_okB_ok hs⟩ hC (fun r h' q => q.1) (fun h' q => by rw [q.2]; exact kk)
end
theorem dX4_init_0 : decode cX4_init 0 = .ok (.aload_n 0, 1) := by decide +kernel
theorem dX4_init_1 : decode cX4_init 1 = .ok (.invokespecial 3, 3) := by decide +kernel
theorem dX4_init_4 : decode cX4_init 4 = .ok (.aload_n 0, 1) := by decide +kernel
theorem dX4_init_5 : decode cX4_init 5 = .ok (.iload_n 1, 1) := by decide +kernel
theorem dX4_init_6 : decode cX4_init 6 = .ok (.iconst 0, 1) := by decide +kernel
theorem dX4_init_7 : decode cX4_init 7 = .ok (.invokestatic 9, 3) := by decide +kernel
theorem dX4_init_10 : decode cX4_init 10 = .ok (.newarray .int, 2) := by decide +kernel
theorem dX4_init_12 : decode cX4_init 12 = .ok (.putfield 15, 3) := by decide +kernel
theorem dX4_init_15 : decode cX4_init 15 = .ok (.return_, 1) := by decide +kernel
theorem dX10_init_0 : decode cX10_init 0 = .ok (.aload_n 0, 1) := by decide +kernel
theorem dX10_init_1 : decode cX10_init 1 = .ok (.invokespecial 3, 3) := by decide +kernel
theorem dX10_init_4 : decode cX10_init 4 = .ok (.aload_n 0, 1) := by decide +kernel
theorem dX10_init_5 : decode cX10_init 5 = .ok (.new 9, 3) := by decide +kernel
theorem dX10_init_8 : decode cX10_init 8 = .ok (.dup, 1) := by decide +kernel
theorem dX10_init_9 : decode cX10_init 9 = .ok (.sipush 1000, 3) := by decide +kernel
theorem dX10_init_12 : decode cX10_init 12 = .ok (.invokespecial 11, 3) := by decide +kernel
theorem dX10_init_15 : decode cX10_init 15 = .ok (.putfield 14, 3) := by decide +kernel
theorem dX10_init_18 : decode cX10_init 18 = .ok (.aload_n 0, 1) := by decide +kernel
theorem dX10_init_19 : decode cX10_init 19 = .ok (.new 9, 3) := by decide +kernel
theorem dX10_init_22 : decode cX10_init 22 = .ok (.dup, 1) := by decide +kernel
theorem dX10_init_23 : decode cX10_init 23 = .ok (.sipush 1000, 3) := by decide +kernel
theorem dX10_init_26 : decode cX10_init 26 = .ok (.invokespecial 11, 3) := by decide +kernel
theorem dX10_init_29 : decode cX10_init 29 = .ok (.putfield 20, 3) := by decide +kernel
theorem dX10_init_32 : decode cX10_init 32 = .ok (.aload_n 0, 1) := by decide +kernel
theorem dX10_init_33 : decode cX10_init 33 = .ok (.new 9, 3) := by decide +kernel
theorem dX10_init_36 : decode cX10_init 36 = .ok (.dup, 1) := by decide +kernel
theorem dX10_init_37 : decode cX10_init 37 = .ok (.sipush 1000, 3) := by decide +kernel
theorem dX10_init_40 : decode cX10_init 40 = .ok (.invokespecial 11, 3) := by decide +kernel
theorem dX10_init_43 : decode cX10_init 43 = .ok (.putfield 23, 3) := by decide +kernel
theorem dX10_init_46 : decode cX10_init 46 = .ok (.aload_n 0, 1) := by decide +kernel
theorem dX10_init_47 : decode cX10_init 47 = .ok (.new 9, 3) := by decide +kernel
theorem dX10_init_50 : decode cX10_init 50 = .ok (.dup, 1) := by decide +kernel
theorem dX10_init_51 : decode cX10_init 51 = .ok (.sipush 1000, 3) := by decide +kernel
theorem dX10_init_54 : decode cX10_init 54 = .ok (.invokespecial 11, 3) := by decide +kernel
theorem dX10_init_57 : decode cX10_init 57 = .ok (.putfield 26, 3) := by decide +kernel
theorem dX10_init_60 : decode cX10_init 60 = .ok (.aload_n 0, 1) := by decide +kernel
theorem dX10_init_61 : decode cX10_init 61 = .ok (.new 9, 3) := by decide +kernel
theorem dX10_init_64 : decode cX10_init 64 = .ok (.dup, 1) := by decide +kernel
theorem dX10_init_65 : decode cX10_init 65 = .ok (.sipush 500, 3) := by decide +kernel
theorem dX10_init_68 : decode cX10_init 68 = .ok (.invokespecial 11, 3) := by decide +kernel
theorem dX10_init_71 : decode cX10_init 71 = .ok (.putfield 29, 3) := by decide +kernel
theorem dX10_init_74 : decode cX10_init 74 = .ok (.aload_n 0, 1) := by decide +kernel
theorem dX10_init_75 : decode cX10_init 75 = .ok (.new 9, 3) := by decide +kernel
theorem dX10_init_78 : decode cX10_init 78 = .ok (.dup, 1) := by decide +kernel
theorem dX10_init_79 : decode cX10_init 79 = .ok (.sipush 500, 3) := by decide +kernel
theorem dX10_init_82 : decode cX10_init 82 = .ok (.invokespecial 11, 3) := by decide +kernel
theorem dX10_init_85 : decode cX10_init 85 = .ok (.putfield 32, 3) := by decide +kernel
theorem dX10_init_88 : decode cX10_init 88 = .ok (.aload_n 0, 1) := by decide +kernel
theorem dX10_init_89 : decode cX10_init 89 = .ok (.new 9, 3) := by decide +kernel
theorem dX10_init_92 : decode cX10_init 92 = .ok (.dup, 1) := by decide +kernel
theorem dX10_init_93 : decode cX10_init 93 = .ok (.sipush 201, 3) := by decide +kernel
theorem dX10_init_96 : decode cX10_init 96 = .ok (.invokespecial 11, 3) := by decide +kernel
theorem dX10_init_99 : decode cX10_init 99 = .ok (.putfield 35, 3) := by decide +kernel
theorem dX10_init_102 : decode cX10_init 102 = .ok (.aload_n 0, 1) := by decide +kernel
theorem dX10_init_103 : decode cX10_init 103 = .ok (.new 9, 3) := by decide +kernel
theorem dX10_init_106 : decode cX10_init 106 = .ok (.dup, 1) := by decide +kernel
theorem dX10_init_107 : decode cX10_init 107 = .ok (.sipush 201, 3) := by decide +kernel
theorem dX10_init_110 : decode cX10_init 110 = .ok (.invokespecial 11, 3) := by decide +kernel
theorem dX10_init_113 : decode cX10_init 113 = .ok (.putfield 38, 3) := by decide +kernel
theorem dX10_init_116 : decode cX10_init 116 = .ok (.return_, 1) := by decide +kernel
theorem dX8_init_0 : decode cX8_init 0 = .ok (.aload_n 0, 1) := by decide +kernel
theorem dX8_init_1 : decode cX8_init 1 = .ok (.invokespecial 3, 3) := by decide +kernel
theorem dX8_init_4 : decode cX8_init 4 = .ok (.aload_n 0, 1) := by decide +kernel
theorem dX8_init_5 : decode cX8_init 5 = .ok (.new 9, 3) := by decide +kernel
theorem dX8_init_8 : decode cX8_init 8 = .ok (.dup, 1) := by decide +kernel
theorem dX8_init_9 : decode cX8_init 9 = .ok (.sipush 1000, 3) := by decide +kernel
theorem dX8_init_12 : decode cX8_init 12 = .ok (.invokespecial 11, 3) := by decide +kernel
theorem dX8_init_15 : decode cX8_init 15 = .ok (.putfield 14, 3) := by decide +kernel
theorem dX8_init_18 : decode cX8_init 18 = .ok (.aload_n 0, 1) := by decide +kernel
theorem dX8_init_19 : decode cX8_init 19 = .ok (.new 9, 3) := by decide +kernel
theorem dX8_init_22 : decode cX8_init 22 = .ok (.dup, 1) := by decide +kernel
theorem dX8_init_23 : decode cX8_init 23 = .ok (.sipush 1000, 3) := by decide +kernel
theorem dX8_init_26 : decode cX8_init 26 = .ok (.invokespecial 11, 3) := by decide +kernel
theorem dX8_init_29 : decode cX8_init 29 = .ok (.putfield 20, 3) := by decide +kernel
theorem dX8_init_32 : decode cX8_init 32 = .ok (.aload_n 0, 1) := by decide +kernel
theorem dX8_init_33 : decode cX8_init 33 = .ok (.new 9, 3) := by decide +kernel
theorem dX8_init_36 : decode cX8_init 36 = .ok (.dup, 1) := by decide +kernel
theorem dX8_init_37 : decode cX8_init 37 = .ok (.sipush 1000, 3) := by decide +kernel
theorem dX8_init_40 : decode cX8_init 40 = .ok (.invokespecial 11, 3) := by decide +kernel
theorem dX8_init_43 : decode cX8_init 43 = .ok (.putfield 23, 3) := by decide +kernel
theorem dX8_init_46 : decode cX8_init 46 = .ok (.aload_n 0, 1) := by decide +kernel
theorem dX8_init_47 : decode cX8_init 47 = .ok (.new 9, 3) := by decide +kernel
theorem dX8_init_50 : decode cX8_init 50 = .ok (.dup, 1) := by decide +kernel
theorem dX8_init_51 : decode cX8_init 51 = .ok (.sipush 1000, 3) := by decide +kernel
theorem dX8_init_54 : decode cX8_init 54 = .ok (.invokespecial 11, 3) := by decide +kernel
theorem dX8_init_57 : decode cX8_init 57 = .ok (.putfield 26, 3) := by decide +kernel
theorem dX8_init_60 : decode cX8_init 60 = .ok (.aload_n 0, 1) := by decide +kernel
theorem dX8_init_61 : decode cX8_init 61 = .ok (.new 9, 3) := by decide +kernel
theorem dX8_init_64 : decode cX8_init 64 = .ok (.dup, 1) := by decide +kernel
theorem dX8_init_65 : decode cX8_init 65 = .ok (.sipush 1000, 3) := by decide +kernel
theorem dX8_init_68 : decode cX8_init 68 = .ok (.invokespecial 11, 3) := by decide +kernel
theorem dX8_init_71 : decode cX8_init 71 = .ok (.putfield 29, 3) := by decide +kernel
theorem dX8_init_74 : decode cX8_init 74 = .ok (.return_, 1) := by decide +kernel
theorem dX0_init_0 : decode cX0_init 0 = .ok (.aload_n 0, 1) := by decide +kernel
theorem dX0_init_1 : decode cX0_init 1 = .ok (.invokespecial 3, 3) := by decide +kernel
theorem dX0_init_4 : decode cX0_init 4 = .ok (.aload_n 0, 1) := by decide +kernel
theorem dX0_init_5 : decode cX0_init 5 = .ok (.new 9, 3) := by decide +kernel
theorem dX0_init_8 : decode cX0_init 8 = .ok (.dup, 1) := by decide +kernel
theorem dX0_init_9 : decode cX0_init 9 = .ok (.invokespecial 11, 3) := by decide +kernel
theorem dX0_init_12 : decode cX0_init 12 = .ok (.putfield 12, 3) := by decide +kernel
theorem dX0_init_15 : decode cX0_init 15 = .ok (.aload_n 0, 1) := by decide +kernel
theorem dX0_init_16 : decode cX0_init 16 = .ok (.new 18, 3) := by decide +kernel
theorem dX0_init_19 : decode cX0_init 19 = .ok (.dup, 1) := by decide +kernel
theorem dX0_init_20 : decode cX0_init 20 = .ok (.invokespecial 20, 3) := by decide +kernel
theorem dX0_init_23 : decode cX0_init 23 = .ok (.putfield 21, 3) := by decide +kernel
theorem dX0_init_26 : decode cX0_init 26 = .ok (.aload_n 0, 1) := by decide +kernel
theorem dX0_init_27 : decode cX0_init 27 = .ok (.new 25, 3) := by decide +kernel
theorem dX0_init_30 : decode cX0_init 30 = .ok (.dup, 1) := by decide +kernel
theorem dX0_init_31 : decode cX0_init 31 = .ok (.bipush 12, 2) := by decide +kernel
theorem dX0_init_33 : decode cX0_init 33 = .ok (.invokespecial 27, 3) := by decide +kernel
theorem dX0_init_36 : decode cX0_init 36 = .ok (.putfield 30, 3) := by decide +kernel
theorem dX0_init_39 : decode cX0_init 39 = .ok (.aload_n 0, 1) := by decide +kernel
theorem dX0_init_40 : decode cX0_init 40 = .ok (.new 25, 3) := by decide +kernel
theorem dX0_init_43 : decode cX0_init 43 = .ok (.dup, 1) := by decide +kernel
theorem dX0_init_44 : decode cX0_init 44 = .ok (.bipush 12, 2) := by decide +kernel
theorem dX0_init_46 : decode cX0_init 46 = .ok (.invokespecial 27, 3) := by decide +kernel
theorem dX0_init_49 : decode cX0_init 49 = .ok (.putfield 34, 3) := by decide +kernel
theorem dX0_init_52 : decode cX0_init 52 = .ok (.aload_n 0, 1) := by decide +kernel
theorem dX0_init_53 : decode cX0_init 53 = .ok (.new 25, 3) := by decide +kernel
theorem dX0_init_56 : decode cX0_init 56 = .ok (.dup, 1) := by decide +kernel
theorem dX0_init_57 : decode cX0_init 57 = .ok (.bipush 12, 2) := by decide +kernel
theorem dX0_init_59 : decode cX0_init 59 = .ok (.invokespecial 27, 3) := by decide +kernel
theorem dX0_init_62 : decode cX0_init 62 = .ok (.putfield 37, 3) := by decide +kernel
theorem dX0_init_65 : decode cX0_init 65 = .ok (.aload_n 0, 1) := by decide +kernel
theorem dX0_init_66 : decode cX0_init 66 = .ok (.new 25, 3) := by decide +kernel
theorem dX0_init_69 : decode cX0_init 69 = .ok (.dup, 1) := by decide +kernel
theorem dX0_init_70 : decode cX0_init 70 = .ok (.bipush 12, 2) := by decide +kernel
theorem dX0_init_72 : decode cX0_init 72 = .ok (.invokespecial 27, 3) := by decide +kernel
theorem dX0_init_75 : decode cX0_init 75 = .ok (.putfield 40, 3) := by decide +kernel
theorem dX0_init_78 : decode cX0_init 78 = .ok (.aload_n 0, 1) := by decide +kernel
theorem dX0_init_79 : decode cX0_init 79 = .ok (.new 25, 3) := by decide +kernel
theorem dX0_init_82 : decode cX0_init 82 = .ok (.dup, 1) := by decide +kernel
theorem dX0_init_83 : decode cX0_init 83 = .ok (.bipush 12, 2) := by decide +kernel
theorem dX0_init_85 : decode cX0_init 85 = .ok (.invokespecial 27, 3) := by decide +kernel
theorem dX0_init_88 : decode cX0_init 88 = .ok (.putfield 43, 3) := by decide +kernel
theorem dX0_init_91 : decode cX0_init 91 = .ok (.aload_n 0, 1) := by decide +kernel
theorem dX0_init_92 : decode cX0_init 92 = .ok (.new 25, 3) := by decide +kernel
theorem dX0_init_95 : decode cX0_init 95 = .ok (.dup, 1) := by decide +kernel
theorem dX0_init_96 : decode cX0_init 96 = .ok (.bipush 12, 2) := by decide +kernel
theorem dX0_init_98 : decode cX0_init 98 = .ok (.invokespecial 27, 3) := by decide +kernel
theorem dX0_init_101 : decode cX0_init 101 = .ok (.putfield 46, 3) := by decide +kernel
theorem dX0_init_104 : decode cX0_init 104 = .ok (.aload_n 0, 1) := by decide +kernel
theorem dX0_init_105 : decode cX0_init 105 = .ok (.new 25, 3) := by decide +kernel
theorem dX0_init_108 : decode cX0_init 108 = .ok (.dup, 1) := by decide +kernel
theorem dX0_init_109 : decode cX0_init 109 = .ok (.bipush 12, 2) := by decide +kernel
theorem dX0_init_111 : decode cX0_init 111 = .ok (.invokespecial 27, 3) := by decide +kernel
theorem dX0_init_114 : decode cX0_init 114 = .ok (.putfield 49, 3) := by decide +kernel
theorem dX0_init_117 : decode cX0_init 117 = .ok (.aload_n 0, 1) := by decide +kernel
theorem dX0_init_118 : decode cX0_init 118 = .ok (.new 25, 3) := by decide +kernel
theorem dX0_init_121 : decode cX0_init 121 = .ok (.dup, 1) := by decide +kernel
theorem dX0_init_122 : decode cX0_init 122 = .ok (.bipush 12, 2) := by decide +kernel
theorem dX0_init_124 : decode cX0_init 124 = .ok (.invokespecial 27, 3) := by decide +kernel
theorem dX0_init_127 : decode cX0_init 127 = .ok (.putfield 52, 3) := by decide +kernel
theorem dX0_init_130 : decode cX0_init 130 = .ok (.aload_n 0, 1) := by decide +kernel
theorem dX0_init_131 : decode cX0_init 131 = .ok (.new 25, 3) := by decide +kernel
theorem dX0_init_134 : decode cX0_init 134 = .ok (.dup, 1) := by decide +kernel
theorem dX0_init_135 : decode cX0_init 135 = .ok (.bipush 48, 2) := by decide +kernel
theorem dX0_init_137 : decode cX0_init 137 = .ok (.invokespecial 27, 3) := by decide +kernel
theorem dX0_init_140 : decode cX0_init 140 = .ok (.putfield 55, 3) := by decide +kernel
theorem dX0_init_143 : decode cX0_init 143 = .ok (.aload_n 0, 1) := by decide +kernel
theorem dX0_init_144 : decode cX0_init 144 = .ok (.new 25, 3) := by decide +kernel
theorem dX0_init_147 : decode cX0_init 147 = .ok (.dup, 1) := by decide +kernel
theorem dX0_init_148 : decode cX0_init 148 = .ok (.sipush 250, 3) := by decide +kernel
theorem dX0_init_151 : decode cX0_init 151 = .ok (.invokespecial 27, 3) := by decide +kernel
theorem dX0_init_154 : decode cX0_init 154 = .ok (.putfield 58, 3) := by decide +kernel
theorem dX0_init_157 : decode cX0_init 157 = .ok (.aload_n 0, 1) := by decide +kernel
theorem dX0_init_158 : decode cX0_init 158 = .ok (.new 25, 3) := by decide +kernel
theorem dX0_init_161 : decode cX0_init 161 = .ok (.dup, 1) := by decide +kernel
theorem dX0_init_162 : decode cX0_init 162 = .ok (.sipush 250, 3) := by decide +kernel
theorem dX0_init_165 : decode cX0_init 165 = .ok (.invokespecial 27, 3) := by decide +kernel
theorem dX0_init_168 : decode cX0_init 168 = .ok (.putfield 61, 3) := by decide +kernel
theorem dX0_init_171 : decode cX0_init 171 = .ok (.aload_n 0, 1) := by decide +kernel
theorem dX0_init_172 : decode cX0_init 172 = .ok (.new 25, 3) := by decide +kernel
theorem dX0_init_175 : decode cX0_init 175 = .ok (.dup, 1) := by decide +kernel
theorem dX0_init_176 : decode cX0_init 176 = .ok (.sipush 250, 3) := by decide +kernel
theorem dX0_init_179 : decode cX0_init 179 = .ok (.invokespecial 27, 3) := by decide +kernel
theorem dX0_init_182 : decode cX0_init 182 = .ok (.putfield 64, 3) := by decide +kernel
theorem dX0_init_185 : decode cX0_init 185 = .ok (.aload_n 0, 1) := by decide +kernel
theorem dX0_init_186 : decode cX0_init 186 = .ok (.new 25, 3) := by decide +kernel
theorem dX0_init_189 : decode cX0_init 189 = .ok (.dup, 1) := by decide +kernel
theorem dX0_init_190 : decode cX0_init 190 = .ok (.sipush 250, 3) := by decide +kernel
theorem dX0_init_193 : decode cX0_init 193 = .ok (.invokespecial 27, 3) := by decide +kernel
theorem dX0_init_196 : decode cX0_init 196 = .ok (.putfield 67, 3) := by decide +kernel
theorem dX0_init_199 : decode cX0_init 199 = .ok (.aload_n 0, 1) := by decide +kernel
theorem dX0_init_200 : decode cX0_init 200 = .ok (.new 25, 3) := by decide +kernel
theorem dX0_init_203 : decode cX0_init 203 = .ok (.dup, 1) := by decide +kernel
theorem dX0_init_204 : decode cX0_init 204 = .ok (.sipush 500, 3) := by decide +kernel
theorem dX0_init_207 : decode cX0_init 207 = .ok (.invokespecial 27, 3) := by decide +kernel
theorem dX0_init_210 : decode cX0_init 210 = .ok (.putfield 70, 3) := by decide +kernel
theorem dX0_init_213 : decode cX0_init 213 = .ok (.aload_n 0, 1) := by decide +kernel
theorem dX0_init_214 : decode cX0_init 214 = .ok (.new 25, 3) := by decide +kernel
theorem dX0_init_217 : decode cX0_init 217 = .ok (.dup, 1) := by decide +kernel
theorem dX0_init_218 : decode cX0_init 218 = .ok (.sipush 500, 3) := by decide +kernel
theorem dX0_init_221 : decode cX0_init 221 = .ok (.invokespecial 27, 3) := by decide +kernel
theorem dX0_init_224 : decode cX0_init 224 = .ok (.putfield 73, 3) := by decide +kernel
theorem dX0_init_227 : decode cX0_init 227 = .ok (.aload_n 0, 1) := by decide +kernel
theorem dX0_init_228 : decode cX0_init 228 = .ok (.new 25, 3) := by decide +kernel
theorem dX0_init_231 : decode cX0_init 231 = .ok (.dup, 1) := by decide +kernel
theorem dX0_init_232 : decode cX0_init 232 = .ok (.sipush 500, 3) := by decide +kernel
theorem dX0_init_235 : decode cX0_init 235 = .ok (.invokespecial 27, 3) := by decide +kernel
theorem dX0_init_238 : decode cX0_init 238 = .ok (.putfield 76, 3) := by decide +kernel
theorem dX0_init_241 : decode cX0_init 241 = .ok (.return_, 1) := by decide +kernel
theorem dX2_init_0 : decode cX2_init 0 = .ok (.aload_n 0, 1) := by decide +kernel
theorem dX2_init_1 : decode cX2_init 1 = .ok (.invokespecial 3, 3) := by decide +kernel
theorem dX2_init_4 : decode cX2_init 4 = .ok (.aload_n 0, 1) := by decide +kernel
theorem dX2_init_5 : decode cX2_init 5 = .ok (.new 9, 3) := by decide +kernel
theorem dX2_init_8 : decode cX2_init 8 = .ok (.dup, 1) := by decide +kernel
theorem dX2_init_9 : decode cX2_init 9 = .ok (.bipush 17, 2) := by decide +kernel
theorem dX2_init_11 : decode cX2_init 11 = .ok (.invokespecial 11, 3) := by decide +kernel
theorem dX2_init_14 : decode cX2_init 14 = .ok (.putfield 14, 3) := by decide +kernel
theorem dX2_init_17 : decode cX2_init 17 = .ok (.aload_n 0, 1) := by decide +kernel
theorem dX2_init_18 : decode cX2_init 18 = .ok (.sipush 1001, 3) := by decide +kernel
theorem dX2_init_21 : decode cX2_init 21 = .ok (.newarray .int, 2) := by decide +kernel
theorem dX2_init_23 : decode cX2_init 23 = .ok (.putfield 20, 3) := by decide +kernel
theorem dX2_init_26 : decode cX2_init 26 = .ok (.aload_n 0, 1) := by decide +kernel
theorem dX2_init_27 : decode cX2_init 27 = .ok (.sipush 1001, 3) := by decide +kernel
theorem dX2_init_30 : decode cX2_init 30 = .ok (.newarray .int, 2) := by decide +kernel
theorem dX2_init_32 : decode cX2_init 32 = .ok (.putfield 24, 3) := by decide +kernel
theorem dX2_init_35 : decode cX2_init 35 = .ok (.aload_n 0, 1) := by decide +kernel
theorem dX2_init_36 : decode cX2_init 36 = .ok (.sipush 1001, 3) := by decide +kernel
theorem dX2_init_39 : decode cX2_init 39 = .ok (.newarray .int, 2) := by decide +kernel
theorem dX2_init_41 : decode cX2_init 41 = .ok (.putfield 27, 3) := by decide +kernel
theorem dX2_init_44 : decode cX2_init 44 = .ok (.aload_n 0, 1) := by decide +kernel
theorem dX2_init_45 : decode cX2_init 45 = .ok (.sipush 260, 3) := by decide +kernel
theorem dX2_init_48 : decode cX2_init 48 = .ok (.putfield 30, 3) := by decide +kernel
theorem dX2_init_51 : decode cX2_init 51 = .ok (.aload_n 0, 1) := by decide +kernel
theorem dX2_init_52 : decode cX2_init 52 = .ok (.iconst (-1), 1) := by decide +kernel
theorem dX2_init_53 : decode cX2_init 53 = .ok (.putfield 34, 3) := by decide +kernel
theorem dX2_init_56 : decode cX2_init 56 = .ok (.iconst 0, 1) := by decide +kernel
theorem dX2_init_57 : decode cX2_init 57 = .ok (.istore_n 1, 1) := by decide +kernel
theorem dX2_init_58 : decode cX2_init 58 = .ok (.iconst 0, 1) := by decide +kernel
theorem dX2_init_59 : decode cX2_init 59 = .ok (.istore_n 2, 1) := by decide +kernel
theorem dX2_init_60 : decode cX2_init 60 = .ok (.iconst 0, 1) := by decide +kernel
theorem dX2_init_61 : decode cX2_init 61 = .ok (.istore_n 3, 1) := by decide +kernel
theorem dX2_init_62 : decode cX2_init 62 = .ok (.iload_n 3, 1) := by decide +kernel
theorem dX2_init_63 : decode cX2_init 63 = .ok (.ldc 37, 2) := by decide +kernel
theorem dX2_init_65 : decode cX2_init 65 = .ok (.invokevirtual 39, 3) := by decide +kernel
theorem dX2_init_68 : decode cX2_init 68 = .ok (.if_icmp .ge 51, 3) := by decide +kernel
theorem dX2_init_71 : decode cX2_init 71 = .ok (.ldc 37, 2) := by decide +kernel
theorem dX2_init_73 : decode cX2_init 73 = .ok (.iload_n 3, 1) := by decide +kernel
theorem dX2_init_74 : decode cX2_init 74 = .ok (.invokevirtual 45, 3) := by decide +kernel
theorem dX2_init_77 : decode cX2_init 77 = .ok (.bipush 32, 2) := by decide +kernel
theorem dX2_init_79 : decode cX2_init 79 = .ok (.if_icmp .ne 19, 3) := by decide +kernel
theorem dX2_init_82 : decode cX2_init 82 = .ok (.aload_n 0, 1) := by decide +kernel
theorem dX2_init_83 : decode cX2_init 83 = .ok (.getfield 14, 3) := by decide +kernel
theorem dX2_init_86 : decode cX2_init 86 = .ok (.iload_n 1, 1) := by decide +kernel
theorem dX2_init_87 : decode cX2_init 87 = .ok (.invokevirtual 49, 3) := by decide +kernel
theorem dX2_init_90 : decode cX2_init 90 = .ok (.pop, 1) := by decide +kernel
theorem dX2_init_91 : decode cX2_init 91 = .ok (.iconst 0, 1) := by decide +kernel
theorem dX2_init_92 : decode cX2_init 92 = .ok (.istore_n 1, 1) := by decide +kernel
theorem dX2_init_93 : decode cX2_init 93 = .ok (.iconst 0, 1) := by decide +kernel
theorem dX2_init_94 : decode cX2_init 94 = .ok (.istore_n 2, 1) := by decide +kernel
theorem dX2_init_95 : decode cX2_init 95 = .ok (.goto 18, 3) := by decide +kernel
theorem dX2_init_98 : decode cX2_init 98 = .ok (.iload_n 1, 1) := by decide +kernel
theorem dX2_init_99 : decode cX2_init 99 = .ok (.iload_n 2, 1) := by decide +kernel
theorem dX2_init_100 : decode cX2_init 100 = .ok (.ldc 37, 2) := by decide +kernel
theorem dX2_init_102 : decode cX2_init 102 = .ok (.iload_n 3, 1) := by decide +kernel
theorem dX2_init_103 : decode cX2_init 103 = .ok (.invokevirtual 45, 3) := by decide +kernel
theorem dX2_init_106 : decode cX2_init 106 = .ok (.invokestatic 53, 3) := by decide +kernel
theorem dX2_init_109 : decode cX2_init 109 = .ok (.istore_n 1, 1) := by decide +kernel
theorem dX2_init_110 : decode cX2_init 110 = .ok (.iinc 2 1, 3) := by decide +kernel
theorem dX2_init_113 : decode cX2_init 113 = .ok (.iinc 3 1, 3) := by decide +kernel
theorem dX2_init_116 : decode cX2_init 116 = .ok (.goto (-54), 3) := by decide +kernel
theorem dX2_init_119 : decode cX2_init 119 = .ok (.return_, 1) := by decide +kernel
theorem dX5_init_0 : decode cX5_init 0 = .ok (.aload_n 0, 1) := by decide +kernel
theorem dX5_init_1 : decode cX5_init 1 = .ok (.invokespecial 3, 3) := by decide +kernel
theorem dX5_init_4 : decode cX5_init 4 = .ok (.aload_n 0, 1) := by decide +kernel
theorem dX5_init_5 : decode cX5_init 5 = .ok (.new 9, 3) := by decide +kernel
theorem dX5_init_8 : decode cX5_init 8 = .ok (.dup, 1) := by decide +kernel
theorem dX5_init_9 : decode cX5_init 9 = .ok (.sipush 765, 3) := by decide +kernel
theorem dX5_init_12 : decode cX5_init 12 = .ok (.invokespecial 11, 3) := by decide +kernel
theorem dX5_init_15 : decode cX5_init 15 = .ok (.putfield 14, 3) := by decide +kernel
theorem dX5_init_18 : decode cX5_init 18 = .ok (.aload_n 0, 1) := by decide +kernel
theorem dX5_init_19 : decode cX5_init 19 = .ok (.new 9, 3) := by decide +kernel
theorem dX5_init_22 : decode cX5_init 22 = .ok (.dup, 1) := by decide +kernel
theorem dX5_init_23 : decode cX5_init 23 = .ok (.sipush 765, 3) := by decide +kernel
theorem dX5_init_26 : decode cX5_init 26 = .ok (.invokespecial 11, 3) := by decide +kernel
theorem dX5_init_29 : decode cX5_init 29 = .ok (.putfield 20, 3) := by decide +kernel
theorem dX5_init_32 : decode cX5_init 32 = .ok (.aload_n 0, 1) := by decide +kernel
theorem dX5_init_33 : decode cX5_init 33 = .ok (.new 9, 3) := by decide +kernel
theorem dX5_init_36 : decode cX5_init 36 = .ok (.dup, 1) := by decide +kernel
theorem dX5_init_37 : decode cX5_init 37 = .ok (.bipush 9, 2) := by decide +kernel
theorem dX5_init_39 : decode cX5_init 39 = .ok (.invokespecial 11, 3) := by decide +kernel
theorem dX5_init_42 : decode cX5_init 42 = .ok (.putfield 23, 3) := by decide +kernel
theorem dX5_init_45 : decode cX5_init 45 = .ok (.aload_n 0, 1) := by decide +kernel
theorem dX5_init_46 : decode cX5_init 46 = .ok (.getfield 14, 3) := by decide +kernel
theorem dX5_init_49 : decode cX5_init 49 = .ok (.iconst 0, 1) := by decide +kernel
theorem dX5_init_50 : decode cX5_init 50 = .ok (.invokevirtual 26, 3) := by decide +kernel
theorem dX5_init_53 : decode cX5_init 53 = .ok (.aload_n 0, 1) := by decide +kernel
theorem dX5_init_54 : decode cX5_init 54 = .ok (.getfield 20, 3) := by decide +kernel
theorem dX5_init_57 : decode cX5_init 57 = .ok (.iconst (-1), 1) := by decide +kernel
theorem dX5_init_58 : decode cX5_init 58 = .ok (.invokevirtual 26, 3) := by decide +kernel
theorem dX5_init_61 : decode cX5_init 61 = .ok (.aload_n 0, 1) := by decide +kernel
theorem dX5_init_62 : decode cX5_init 62 = .ok (.getfield 23, 3) := by decide +kernel
theorem dX5_init_65 : decode cX5_init 65 = .ok (.iconst 0, 1) := by decide +kernel
theorem dX5_init_66 : decode cX5_init 66 = .ok (.invokevirtual 26, 3) := by decide +kernel
theorem dX5_init_69 : decode cX5_init 69 = .ok (.return_, 1) := by decide +kernel
theorem dX9_init_0 : decode cX9_init 0 = .ok (.aload_n 0, 1) := by decide +kernel
theorem dX9_init_1 : decode cX9_init 1 = .ok (.invokespecial 3, 3) := by decide +kernel
theorem dX9_init_4 : decode cX9_init 4 = .ok (.aload_n 0, 1) := by decide +kernel
theorem dX9_init_5 : decode cX9_init 5 = .ok (.new 9, 3) := by decide +kernel
theorem dX9_init_8 : decode cX9_init 8 = .ok (.dup, 1) := by decide +kernel
theorem dX9_init_9 : decode cX9_init 9 = .ok (.bipush 73, 2) := by decide +kernel
theorem dX9_init_11 : decode cX9_init 11 = .ok (.invokespecial 11, 3) := by decide +kernel
theorem dX9_init_14 : decode cX9_init 14 = .ok (.putfield 14, 3) := by decide +kernel
theorem dX9_init_17 : decode cX9_init 17 = .ok (.aload_n 0, 1) := by decide +kernel
theorem dX9_init_18 : decode cX9_init 18 = .ok (.new 9, 3) := by decide +kernel
theorem dX9_init_21 : decode cX9_init 21 = .ok (.dup, 1) := by decide +kernel
theorem dX9_init_22 : decode cX9_init 22 = .ok (.bipush 73, 2) := by decide +kernel
theorem dX9_init_24 : decode cX9_init 24 = .ok (.invokespecial 11, 3) := by decide +kernel
theorem dX9_init_27 : decode cX9_init 27 = .ok (.putfield 20, 3) := by decide +kernel
theorem dX9_init_30 : decode cX9_init 30 = .ok (.aload_n 0, 1) := by decide +kernel
theorem dX9_init_31 : decode cX9_init 31 = .ok (.aload_n 1, 1) := by decide +kernel
theorem dX9_init_32 : decode cX9_init 32 = .ok (.putfield 23, 3) := by decide +kernel
theorem dX9_init_35 : decode cX9_init 35 = .ok (.aload_n 0, 1) := by decide +kernel
theorem dX9_init_36 : decode cX9_init 36 = .ok (.aload_n 2, 1) := by decide +kernel
theorem dX9_init_37 : decode cX9_init 37 = .ok (.putfield 27, 3) := by decide +kernel
theorem dX9_init_40 : decode cX9_init 40 = .ok (.return_, 1) := by decide +kernel
theorem dX7_init_0 : decode cX7_init 0 = .ok (.aload_n 0, 1) := by decide +kernel
theorem dX7_init_1 : decode cX7_init 1 = .ok (.invokespecial 3, 3) := by decide +kernel
theorem dX7_init_4 : decode cX7_init 4 = .ok (.aload_n 0, 1) := by decide +kernel
theorem dX7_init_5 : decode cX7_init 5 = .ok (.aload_n 1, 1) := by decide +kernel
theorem dX7_init_6 : decode cX7_init 6 = .ok (.putfield 9, 3) := by decide +kernel
theorem dX7_init_9 : decode cX7_init 9 = .ok (.aload_n 0, 1) := by decide +kernel
theorem dX7_init_10 : decode cX7_init 10 = .ok (.aload_n 2, 1) := by decide +kernel
theorem dX7_init_11 : decode cX7_init 11 = .ok (.putfield 15, 3) := by decide +kernel
theorem dX7_init_14 : decode cX7_init 14 = .ok (.aload_n 0, 1) := by decide +kernel
theorem dX7_init_15 : decode cX7_init 15 = .ok (.aload_n 3, 1) := by decide +kernel
theorem dX7_init_16 : decode cX7_init 16 = .ok (.putfield 19, 3) := by decide +kernel
theorem dX7_init_19 : decode cX7_init 19 = .ok (.return_, 1) := by decide +kernel
theorem dX3_init_0 : decode cX3_init 0 = .ok (.aload_n 0, 1) := by decide +kernel
theorem dX3_init_1 : decode cX3_init 1 = .ok (.invokespecial 3, 3) := by decide +kernel
theorem dX3_init_4 : decode cX3_init 4 = .ok (.aload_n 0, 1) := by decide +kernel
theorem dX3_init_5 : decode cX3_init 5 = .ok (.new 9, 3) := by decide +kernel
theorem dX3_init_8 : decode cX3_init 8 = .ok (.dup, 1) := by decide +kernel
theorem dX3_init_9 : decode cX3_init 9 = .ok (.invokespecial 11, 3) := by decide +kernel
theorem dX3_init_12 : decode cX3_init 12 = .ok (.putfield 12, 3) := by decide +kernel
theorem dX3_init_15 : decode cX3_init 15 = .ok (.aload_n 0, 1) := by decide +kernel
theorem dX3_init_16 : decode cX3_init 16 = .ok (.iconst (-1), 1) := by decide +kernel
theorem dX3_init_17 : decode cX3_init 17 = .ok (.putfield 18, 3) := by decide +kernel
theorem dX3_init_20 : decode cX3_init 20 = .ok (.aload_n 0, 1) := by decide +kernel
theorem dX3_init_21 : decode cX3_init 21 = .ok (.aload_n 1, 1) := by decide +kernel
theorem dX3_init_22 : decode cX3_init 22 = .ok (.putfield 22, 3) := by decide +kernel
theorem dX3_init_25 : decode cX3_init 25 = .ok (.aload_n 0, 1) := by decide +kernel
theorem dX3_init_26 : decode cX3_init 26 = .ok (.aload_n 2, 1) := by decide +kernel
theorem dX3_init_27 : decode cX3_init 27 = .ok (.putfield 26, 3) := by decide +kernel
theorem dX3_init_30 : decode cX3_init 30 = .ok (.aload_n 0, 1) := by decide +kernel
theorem dX3_init_31 : decode cX3_init 31 = .ok (.new 30, 3) := by decide +kernel
theorem dX3_init_34 : decode cX3_init 34 = .ok (.dup, 1) := by decide +kernel
theorem dX3_init_35 : decode cX3_init 35 = .ok (.aload_n 1, 1) := by decide +kernel
theorem dX3_init_36 : decode cX3_init 36 = .ok (.aload_n 2, 1) := by decide +kernel
theorem dX3_init_37 : decode cX3_init 37 = .ok (.invokespecial 32, 3) := by decide +kernel
theorem dX3_init_40 : decode cX3_init 40 = .ok (.putfield 35, 3) := by decide +kernel
theorem dX3_init_43 : decode cX3_init 43 = .ok (.aload_n 0, 1) := by decide +kernel
theorem dX3_init_44 : decode cX3_init 44 = .ok (.new 39, 3) := by decide +kernel
theorem dX3_init_47 : decode cX3_init 47 = .ok (.dup, 1) := by decide +kernel
theorem dX3_init_48 : decode cX3_init 48 = .ok (.aload_n 1, 1) := by decide +kernel
theorem dX3_init_49 : decode cX3_init 49 = .ok (.aload_n 0, 1) := by decide +kernel
theorem dX3_init_50 : decode cX3_init 50 = .ok (.getfield 12, 3) := by decide +kernel
theorem dX3_init_53 : decode cX3_init 53 = .ok (.aload_n 2, 1) := by decide +kernel
theorem dX3_init_54 : decode cX3_init 54 = .ok (.getfield 41, 3) := by decide +kernel
theorem dX3_init_57 : decode cX3_init 57 = .ok (.invokespecial 47, 3) := by decide +kernel
theorem dX3_init_60 : decode cX3_init 60 = .ok (.putfield 50, 3) := by decide +kernel
theorem dX3_init_63 : decode cX3_init 63 = .ok (.return_, 1) := by decide +kernel
theorem dX1_init_0 : decode cX1_init 0 = .ok (.aload_n 0, 1) := by decide +kernel
theorem dX1_init_1 : decode cX1_init 1 = .ok (.invokespecial 3, 3) := by decide +kernel
theorem dX1_init_4 : decode cX1_init 4 = .ok (.aload_n 0, 1) := by decide +kernel
theorem dX1_init_5 : decode cX1_init 5 = .ok (.new 9, 3) := by decide +kernel
theorem dX1_init_8 : decode cX1_init 8 = .ok (.dup, 1) := by decide +kernel
theorem dX1_init_9 : decode cX1_init 9 = .ok (.bipush 80, 2) := by decide +kernel
theorem dX1_init_11 : decode cX1_init 11 = .ok (.invokespecial 11, 3) := by decide +kernel
theorem dX1_init_14 : decode cX1_init 14 = .ok (.putfield 14, 3) := by decide +kernel
theorem dX1_init_17 : decode cX1_init 17 = .ok (.aload_n 0, 1) := by decide +kernel
theorem dX1_init_18 : decode cX1_init 18 = .ok (.new 9, 3) := by decide +kernel
theorem dX1_init_21 : decode cX1_init 21 = .ok (.dup, 1) := by decide +kernel
theorem dX1_init_22 : decode cX1_init 22 = .ok (.sipush 160, 3) := by decide +kernel
theorem dX1_init_25 : decode cX1_init 25 = .ok (.invokespecial 11, 3) := by decide +kernel
theorem dX1_init_28 : decode cX1_init 28 = .ok (.putfield 20, 3) := by decide +kernel
theorem dX1_init_31 : decode cX1_init 31 = .ok (.aload_n 0, 1) := by decide +kernel
theorem dX1_init_32 : decode cX1_init 32 = .ok (.new 9, 3) := by decide +kernel
theorem dX1_init_35 : decode cX1_init 35 = .ok (.dup, 1) := by decide +kernel
theorem dX1_init_36 : decode cX1_init 36 = .ok (.sipush 160, 3) := by decide +kernel
theorem dX1_init_39 : decode cX1_init 39 = .ok (.invokespecial 11, 3) := by decide +kernel
theorem dX1_init_42 : decode cX1_init 42 = .ok (.putfield 23, 3) := by decide +kernel
theorem dX1_init_45 : decode cX1_init 45 = .ok (.aload_n 0, 1) := by decide +kernel
theorem dX1_init_46 : decode cX1_init 46 = .ok (.new 9, 3) := by decide +kernel
theorem dX1_init_49 : decode cX1_init 49 = .ok (.dup, 1) := by decide +kernel
theorem dX1_init_50 : decode cX1_init 50 = .ok (.sipush 160, 3) := by decide +kernel
theorem dX1_init_53 : decode cX1_init 53 = .ok (.invokespecial 11, 3) := by decide +kernel
theorem dX1_init_56 : decode cX1_init 56 = .ok (.putfield 26, 3) := by decide +kernel
theorem dX1_init_59 : decode cX1_init 59 = .ok (.aload_n 0, 1) := by decide +kernel
theorem dX1_init_60 : decode cX1_init 60 = .ok (.new 9, 3) := by decide +kernel
theorem dX1_init_63 : decode cX1_init 63 = .ok (.dup, 1) := by decide +kernel
theorem dX1_init_64 : decode cX1_init 64 = .ok (.sipush 600, 3) := by decide +kernel
theorem dX1_init_67 : decode cX1_init 67 = .ok (.invokespecial 11, 3) := by decide +kernel
theorem dX1_init_70 : decode cX1_init 70 = .ok (.putfield 29, 3) := by decide +kernel
theorem dX1_init_73 : decode cX1_init 73 = .ok (.aload_n 0, 1) := by decide +kernel
theorem dX1_init_74 : decode cX1_init 74 = .ok (.new 9, 3) := by decide +kernel
theorem dX1_init_77 : decode cX1_init 77 = .ok (.dup, 1) := by decide +kernel
theorem dX1_init_78 : decode cX1_init 78 = .ok (.sipush 600, 3) := by decide +kernel
theorem dX1_init_81 : decode cX1_init 81 = .ok (.invokespecial 11, 3) := by decide +kernel
theorem dX1_init_84 : decode cX1_init 84 = .ok (.putfield 32, 3) := by decide +kernel
theorem dX1_init_87 : decode cX1_init 87 = .ok (.aload_n 0, 1) := by decide +kernel
theorem dX1_init_88 : decode cX1_init 88 = .ok (.new 9, 3) := by decide +kernel
theorem dX1_init_91 : decode cX1_init 91 = .ok (.dup, 1) := by decide +kernel
theorem dX1_init_92 : decode cX1_init 92 = .ok (.sipush 600, 3) := by decide +kernel
theorem dX1_init_95 : decode cX1_init 95 = .ok (.invokespecial 11, 3) := by decide +kernel
theorem dX1_init_98 : decode cX1_init 98 = .ok (.putfield 35, 3) := by decide +kernel
theorem dX1_init_101 : decode cX1_init 101 = .ok (.return_, 1) := by decide +kernel
theorem dX6_init_0 : decode cX6_init 0 = .ok (.aload_n 0, 1) := by decide +kernel
theorem dX6_init_1 : decode cX6_init 1 = .ok (.invokespecial 3, 3) := by decide +kernel
theorem dX6_init_4 : decode cX6_init 4 = .ok (.aload_n 0, 1) := by decide +kernel
theorem dX6_init_5 : decode cX6_init 5 = .ok (.new 9, 3) := by decide +kernel
theorem dX6_init_8 : decode cX6_init 8 = .ok (.dup, 1) := by decide +kernel
theorem dX6_init_9 : decode cX6_init 9 = .ok (.invokespecial 11, 3) := by decide +kernel
theorem dX6_init_12 : decode cX6_init 12 = .ok (.putfield 12, 3) := by decide +kernel
theorem dX6_init_15 : decode cX6_init 15 = .ok (.aload_n 0, 1) := by decide +kernel
theorem dX6_init_16 : decode cX6_init 16 = .ok (.new 18, 3) := by decide +kernel
theorem dX6_init_19 : decode cX6_init 19 = .ok (.dup, 1) := by decide +kernel
theorem dX6_init_20 : decode cX6_init 20 = .ok (.bipush 80, 2) := by decide +kernel
theorem dX6_init_22 : decode cX6_init 22 = .ok (.invokespecial 20, 3) := by decide +kernel
theorem dX6_init_25 : decode cX6_init 25 = .ok (.putfield 23, 3) := by decide +kernel
theorem dX6_init_28 : decode cX6_init 28 = .ok (.aload_n 0, 1) := by decide +kernel
theorem dX6_init_29 : decode cX6_init 29 = .ok (.new 18, 3) := by decide +kernel
theorem dX6_init_32 : decode cX6_init 32 = .ok (.dup, 1) := by decide +kernel
theorem dX6_init_33 : decode cX6_init 33 = .ok (.bipush 80, 2) := by decide +kernel
theorem dX6_init_35 : decode cX6_init 35 = .ok (.invokespecial 20, 3) := by decide +kernel
theorem dX6_init_38 : decode cX6_init 38 = .ok (.putfield 27, 3) := by decide +kernel
theorem dX6_init_41 : decode cX6_init 41 = .ok (.aload_n 0, 1) := by decide +kernel
theorem dX6_init_42 : decode cX6_init 42 = .ok (.new 18, 3) := by decide +kernel
theorem dX6_init_45 : decode cX6_init 45 = .ok (.dup, 1) := by decide +kernel
theorem dX6_init_46 : decode cX6_init 46 = .ok (.bipush 80, 2) := by decide +kernel
theorem dX6_init_48 : decode cX6_init 48 = .ok (.invokespecial 20, 3) := by decide +kernel
theorem dX6_init_51 : decode cX6_init 51 = .ok (.putfield 30, 3) := by decide +kernel
theorem dX6_init_54 : decode cX6_init 54 = .ok (.aload_n 0, 1) := by decide +kernel
theorem dX6_init_55 : decode cX6_init 55 = .ok (.new 18, 3) := by decide +kernel
theorem dX6_init_58 : decode cX6_init 58 = .ok (.dup, 1) := by decide +kernel
theorem dX6_init_59 : decode cX6_init 59 = .ok (.bipush 80, 2) := by decide +kernel
theorem dX6_init_61 : decode cX6_init 61 = .ok (.invokespecial 20, 3) := by decide +kernel
theorem dX6_init_64 : decode cX6_init 64 = .ok (.putfield 33, 3) := by decide +kernel
theorem dX6_init_67 : decode cX6_init 67 = .ok (.aload_n 0, 1) := by decide +kernel
theorem dX6_init_68 : decode cX6_init 68 = .ok (.new 18, 3) := by decide +kernel
theorem dX6_init_71 : decode cX6_init 71 = .ok (.dup, 1) := by decide +kernel
theorem dX6_init_72 : decode cX6_init 72 = .ok (.bipush 80, 2) := by decide +kernel
theorem dX6_init_74 : decode cX6_init 74 = .ok (.invokespecial 20, 3) := by decide +kernel
theorem dX6_init_77 : decode cX6_init 77 = .ok (.putfield 36, 3) := by decide +kernel
theorem dX6_init_80 : decode cX6_init 80 = .ok (.aload_n 0, 1) := by decide +kernel
theorem dX6_init_81 : decode cX6_init 81 = .ok (.new 18, 3) := by decide +kernel
theorem dX6_init_84 : decode cX6_init 84 = .ok (.dup, 1) := by decide +kernel
theorem dX6_init_85 : decode cX6_init 85 = .ok (.bipush 80, 2) := by decide +kernel
theorem dX6_init_87 : decode cX6_init 87 = .ok (.invokespecial 20, 3) := by decide +kernel
theorem dX6_init_90 : decode cX6_init 90 = .ok (.putfield 39, 3) := by decide +kernel
theorem dX6_init_93 : decode cX6_init 93 = .ok (.aload_n 0, 1) := by decide +kernel
theorem dX6_init_94 : decode cX6_init 94 = .ok (.new 18, 3) := by decide +kernel
theorem dX6_init_97 : decode cX6_init 97 = .ok (.dup, 1) := by decide +kernel
theorem dX6_init_98 : decode cX6_init 98 = .ok (.sipush 6800, 3) := by decide +kernel
theorem dX6_init_101 : decode cX6_init 101 = .ok (.invokespecial 20, 3) := by decide +kernel
theorem dX6_init_104 : decode cX6_init 104 = .ok (.putfield 42, 3) := by decide +kernel
theorem dX6_init_107 : decode cX6_init 107 = .ok (.aload_n 0, 1) := by decide +kernel
theorem dX6_init_108 : decode cX6_init 108 = .ok (.new 18, 3) := by decide +kernel
theorem dX6_init_111 : decode cX6_init 111 = .ok (.dup, 1) := by decide +kernel
theorem dX6_init_112 : decode cX6_init 112 = .ok (.iconst 4, 1) := by decide +kernel
theorem dX6_init_113 : decode cX6_init 113 = .ok (.invokespecial 20, 3) := by decide +kernel
theorem dX6_init_116 : decode cX6_init 116 = .ok (.putfield 45, 3) := by decide +kernel
theorem dX6_init_119 : decode cX6_init 119 = .ok (.aload_n 0, 1) := by decide +kernel
theorem dX6_init_120 : decode cX6_init 120 = .ok (.new 18, 3) := by decide +kernel
theorem dX6_init_123 : decode cX6_init 123 = .ok (.dup, 1) := by decide +kernel
theorem dX6_init_124 : decode cX6_init 124 = .ok (.bipush 80, 2) := by decide +kernel
theorem dX6_init_126 : decode cX6_init 126 = .ok (.invokespecial 20, 3) := by decide +kernel
theorem dX6_init_129 : decode cX6_init 129 = .ok (.putfield 48, 3) := by decide +kernel
theorem dX6_init_132 : decode cX6_init 132 = .ok (.aload_n 0, 1) := by decide +kernel
theorem dX6_init_133 : decode cX6_init 133 = .ok (.new 18, 3) := by decide +kernel
theorem dX6_init_136 : decode cX6_init 136 = .ok (.dup, 1) := by decide +kernel
theorem dX6_init_137 : decode cX6_init 137 = .ok (.sipush 200, 3) := by decide +kernel
theorem dX6_init_140 : decode cX6_init 140 = .ok (.invokespecial 20, 3) := by decide +kernel
theorem dX6_init_143 : decode cX6_init 143 = .ok (.putfield 51, 3) := by decide +kernel
theorem dX6_init_146 : decode cX6_init 146 = .ok (.aload_n 0, 1) := by decide +kernel
theorem dX6_init_147 : decode cX6_init 147 = .ok (.new 18, 3) := by decide +kernel
theorem dX6_init_150 : decode cX6_init 150 = .ok (.dup, 1) := by decide +kernel
theorem dX6_init_151 : decode cX6_init 151 = .ok (.sipush 200, 3) := by decide +kernel
theorem dX6_init_154 : decode cX6_init 154 = .ok (.invokespecial 20, 3) := by decide +kernel
theorem dX6_init_157 : decode cX6_init 157 = .ok (.putfield 54, 3) := by decide +kernel
theorem dX6_init_160 : decode cX6_init 160 = .ok (.aload_n 0, 1) := by decide +kernel
theorem dX6_init_161 : decode cX6_init 161 = .ok (.aload_n 1, 1) := by decide +kernel
theorem dX6_init_162 : decode cX6_init 162 = .ok (.putfield 57, 3) := by decide +kernel
theorem dX6_init_165 : decode cX6_init 165 = .ok (.aload_n 0, 1) := by decide +kernel
theorem dX6_init_166 : decode cX6_init 166 = .ok (.getfield 42, 3) := by decide +kernel
theorem dX6_init_169 : decode cX6_init 169 = .ok (.iconst 0, 1) := by decide +kernel
theorem dX6_init_170 : decode cX6_init 170 = .ok (.invokevirtual 61, 3) := by decide +kernel
theorem dX6_init_173 : decode cX6_init 173 = .ok (.return_, 1) := by decide +kernel
theorem dX11_init_0 : decode cX11_init 0 = .ok (.aload_n 0, 1) := by decide +kernel
theorem dX11_init_1 : decode cX11_init 1 = .ok (.invokespecial 3, 3) := by decide +kernel
theorem dX11_init_4 : decode cX11_init 4 = .ok (.aload_n 0, 1) := by decide +kernel
theorem dX11_init_5 : decode cX11_init 5 = .ok (.new 9, 3) := by decide +kernel
theorem dX11_init_8 : decode cX11_init 8 = .ok (.dup, 1) := by decide +kernel
theorem dX11_init_9 : decode cX11_init 9 = .ok (.sipush 1000, 3) := by decide +kernel
theorem dX11_init_12 : decode cX11_init 12 = .ok (.invokespecial 11, 3) := by decide +kernel
theorem dX11_init_15 : decode cX11_init 15 = .ok (.putfield 14, 3) := by decide +kernel
theorem dX11_init_18 : decode cX11_init 18 = .ok (.aload_n 0, 1) := by decide +kernel
theorem dX11_init_19 : decode cX11_init 19 = .ok (.new 9, 3) := by decide +kernel
theorem dX11_init_22 : decode cX11_init 22 = .ok (.dup, 1) := by decide +kernel
theorem dX11_init_23 : decode cX11_init 23 = .ok (.sipush 4000, 3) := by decide +kernel
theorem dX11_init_26 : decode cX11_init 26 = .ok (.invokespecial 11, 3) := by decide +kernel
theorem dX11_init_29 : decode cX11_init 29 = .ok (.putfield 18, 3) := by decide +kernel
theorem dX11_init_32 : decode cX11_init 32 = .ok (.aload_n 0, 1) := by decide +kernel
theorem dX11_init_33 : decode cX11_init 33 = .ok (.new 21, 3) := by decide +kernel
theorem dX11_init_36 : decode cX11_init 36 = .ok (.dup, 1) := by decide +kernel
theorem dX11_init_37 : decode cX11_init 37 = .ok (.invokespecial 23, 3) := by decide +kernel
theorem dX11_init_40 : decode cX11_init 40 = .ok (.putfield 24, 3) := by decide +kernel
theorem dX11_init_43 : decode cX11_init 43 = .ok (.aload_n 0, 1) := by decide +kernel
theorem dX11_init_44 : decode cX11_init 44 = .ok (.new 28, 3) := by decide +kernel
theorem dX11_init_47 : decode cX11_init 47 = .ok (.dup, 1) := by decide +kernel
theorem dX11_init_48 : decode cX11_init 48 = .ok (.invokespecial 30, 3) := by decide +kernel
theorem dX11_init_51 : decode cX11_init 51 = .ok (.putfield 31, 3) := by decide +kernel
theorem dX11_init_54 : decode cX11_init 54 = .ok (.aload_n 0, 1) := by decide +kernel
theorem dX11_init_55 : decode cX11_init 55 = .ok (.new 28, 3) := by decide +kernel
theorem dX11_init_58 : decode cX11_init 58 = .ok (.dup, 1) := by decide +kernel
theorem dX11_init_59 : decode cX11_init 59 = .ok (.invokespecial 30, 3) := by decide +kernel
theorem dX11_init_62 : decode cX11_init 62 = .ok (.putfield 35, 3) := by decide +kernel
theorem dX11_init_65 : decode cX11_init 65 = .ok (.aload_n 0, 1) := by decide +kernel
theorem dX11_init_66 : decode cX11_init 66 = .ok (.new 38, 3) := by decide +kernel
theorem dX11_init_69 : decode cX11_init 69 = .ok (.dup, 1) := by decide +kernel
theorem dX11_init_70 : decode cX11_init 70 = .ok (.aload_n 0, 1) := by decide +kernel
theorem dX11_init_71 : decode cX11_init 71 = .ok (.getfield 24, 3) := by decide +kernel
theorem dX11_init_74 : decode cX11_init 74 = .ok (.aload_n 0, 1) := by decide +kernel
theorem dX11_init_75 : decode cX11_init 75 = .ok (.getfield 35, 3) := by decide +kernel
theorem dX11_init_78 : decode cX11_init 78 = .ok (.invokespecial 40, 3) := by decide +kernel
theorem dX11_init_81 : decode cX11_init 81 = .ok (.putfield 43, 3) := by decide +kernel
theorem dX11_init_84 : decode cX11_init 84 = .ok (.aload_n 0, 1) := by decide +kernel
theorem dX11_init_85 : decode cX11_init 85 = .ok (.new 47, 3) := by decide +kernel
theorem dX11_init_88 : decode cX11_init 88 = .ok (.dup, 1) := by decide +kernel
theorem dX11_init_89 : decode cX11_init 89 = .ok (.aload_n 0, 1) := by decide +kernel
theorem dX11_init_90 : decode cX11_init 90 = .ok (.getfield 31, 3) := by decide +kernel
theorem dX11_init_93 : decode cX11_init 93 = .ok (.invokespecial 49, 3) := by decide +kernel
theorem dX11_init_96 : decode cX11_init 96 = .ok (.putfield 52, 3) := by decide +kernel
theorem dX11_init_99 : decode cX11_init 99 = .ok (.return_, 1) := by decide +kernel
theorem dX12_init_0 : decode cX12_init 0 = .ok (.aload_n 0, 1) := by decide +kernel
theorem dX12_init_1 : decode cX12_init 1 = .ok (.invokespecial 1, 3) := by decide +kernel
theorem dX12_init_4 : decode cX12_init 4 = .ok (.aload_n 0, 1) := by decide +kernel
theorem dX12_init_5 : decode cX12_init 5 = .ok (.sipush 1000, 3) := by decide +kernel
theorem dX12_init_8 : decode cX12_init 8 = .ok (.newarray .int, 2) := by decide +kernel
theorem dX12_init_10 : decode cX12_init 10 = .ok (.putfield 7, 3) := by decide +kernel
theorem dX12_init_13 : decode cX12_init 13 = .ok (.aload_n 0, 1) := by decide +kernel
theorem dX12_init_14 : decode cX12_init 14 = .ok (.iconst (-1), 1) := by decide +kernel
theorem dX12_init_15 : decode cX12_init 15 = .ok (.putfield 13, 3) := by decide +kernel
theorem dX12_init_18 : decode cX12_init 18 = .ok (.aload_n 0, 1) := by decide +kernel
theorem dX12_init_19 : decode cX12_init 19 = .ok (.sipush 2800, 3) := by decide +kernel
theorem dX12_init_22 : decode cX12_init 22 = .ok (.newarray .int, 2) := by decide +kernel
theorem dX12_init_24 : decode cX12_init 24 = .ok (.putfield 17, 3) := by decide +kernel
theorem dX12_init_27 : decode cX12_init 27 = .ok (.aload_n 0, 1) := by decide +kernel
theorem dX12_init_28 : decode cX12_init 28 = .ok (.sipush 2800, 3) := by decide +kernel
theorem dX12_init_31 : decode cX12_init 31 = .ok (.newarray .int, 2) := by decide +kernel
theorem dX12_init_33 : decode cX12_init 33 = .ok (.putfield 20, 3) := by decide +kernel
theorem dX12_init_36 : decode cX12_init 36 = .ok (.aload_n 0, 1) := by decide +kernel
theorem dX12_init_37 : decode cX12_init 37 = .ok (.sipush 2800, 3) := by decide +kernel
theorem dX12_init_40 : decode cX12_init 40 = .ok (.newarray .int, 2) := by decide +kernel
theorem dX12_init_42 : decode cX12_init 42 = .ok (.putfield 23, 3) := by decide +kernel
theorem dX12_init_45 : decode cX12_init 45 = .ok (.aload_n 0, 1) := by decide +kernel
theorem dX12_init_46 : decode cX12_init 46 = .ok (.sipush 2800, 3) := by decide +kernel
theorem dX12_init_49 : decode cX12_init 49 = .ok (.newarray .int, 2) := by decide +kernel
theorem dX12_init_51 : decode cX12_init 51 = .ok (.putfield 26, 3) := by decide +kernel
theorem dX12_init_54 : decode cX12_init 54 = .ok (.aload_n 0, 1) := by decide +kernel
theorem dX12_init_55 : decode cX12_init 55 = .ok (.sipush 2800, 3) := by decide +kernel
theorem dX12_init_58 : decode cX12_init 58 = .ok (.newarray .long, 2) := by decide +kernel
theorem dX12_init_60 : decode cX12_init 60 = .ok (.putfield 29, 3) := by decide +kernel
theorem dX12_init_63 : decode cX12_init 63 = .ok (.aload_n 0, 1) := by decide +kernel
theorem dX12_init_64 : decode cX12_init 64 = .ok (.bipush 24, 2) := by decide +kernel
theorem dX12_init_66 : decode cX12_init 66 = .ok (.newarray .long, 2) := by decide +kernel
theorem dX12_init_68 : decode cX12_init 68 = .ok (.putfield 33, 3) := by decide +kernel
theorem dX12_init_71 : decode cX12_init 71 = .ok (.aload_n 0, 1) := by decide +kernel
theorem dX12_init_72 : decode cX12_init 72 = .ok (.bipush 24, 2) := by decide +kernel
theorem dX12_init_74 : decode cX12_init 74 = .ok (.newarray .long, 2) := by decide +kernel
theorem dX12_init_76 : decode cX12_init 76 = .ok (.putfield 36, 3) := by decide +kernel
theorem dX12_init_79 : decode cX12_init 79 = .ok (.aload_n 0, 1) := by decide +kernel
theorem dX12_init_80 : decode cX12_init 80 = .ok (.bipush 96, 2) := by decide +kernel
theorem dX12_init_82 : decode cX12_init 82 = .ok (.newarray .long, 2) := by decide +kernel
theorem dX12_init_84 : decode cX12_init 84 = .ok (.putfield 39, 3) := by decide +kernel
theorem dX12_init_87 : decode cX12_init 87 = .ok (.aload_n 0, 1) := by decide +kernel
theorem dX12_init_88 : decode cX12_init 88 = .ok (.bipush 24, 2) := by decide +kernel
theorem dX12_init_90 : decode cX12_init 90 = .ok (.newarray .long, 2) := by decide +kernel
theorem dX12_init_92 : decode cX12_init 92 = .ok (.putfield 42, 3) := by decide +kernel
theorem dX12_init_95 : decode cX12_init 95 = .ok (.aload_n 0, 1) := by decide +kernel
theorem dX12_init_96 : decode cX12_init 96 = .ok (.bipush 24, 2) := by decide +kernel
theorem dX12_init_98 : decode cX12_init 98 = .ok (.newarray .int, 2) := by decide +kernel
theorem dX12_init_100 : decode cX12_init 100 = .ok (.putfield 45, 3) := by decide +kernel
theorem dX12_init_103 : decode cX12_init 103 = .ok (.aload_n 0, 1) := by decide +kernel
theorem dX12_init_104 : decode cX12_init 104 = .ok (.bipush 24, 2) := by decide +kernel
theorem dX12_init_106 : decode cX12_init 106 = .ok (.newarray .int, 2) := by decide +kernel
theorem dX12_init_108 : decode cX12_init 108 = .ok (.putfield 48, 3) := by decide +kernel
theorem dX12_init_111 : decode cX12_init 111 = .ok (.aload_n 0, 1) := by decide +kernel
theorem dX12_init_112 : decode cX12_init 112 = .ok (.bipush 96, 2) := by decide +kernel
theorem dX12_init_114 : decode cX12_init 114 = .ok (.newarray .int, 2) := by decide +kernel
theorem dX12_init_116 : decode cX12_init 116 = .ok (.putfield 51, 3) := by decide +kernel
theorem dX12_init_119 : decode cX12_init 119 = .ok (.aload_n 0, 1) := by decide +kernel
theorem dX12_init_120 : decode cX12_init 120 = .ok (.bipush 24, 2) := by decide +kernel
theorem dX12_init_122 : decode cX12_init 122 = .ok (.newarray .int, 2) := by decide +kernel
theorem dX12_init_124 : decode cX12_init 124 = .ok (.putfield 54, 3) := by decide +kernel
theorem dX12_init_127 : decode cX12_init 127 = .ok (.aload_n 0, 1) := by decide +kernel
theorem dX12_init_128 : decode cX12_init 128 = .ok (.bipush 24, 2) := by decide +kernel
theorem dX12_init_130 : decode cX12_init 130 = .ok (.newarray .int, 2) := by decide +kernel
theorem dX12_init_132 : decode cX12_init 132 = .ok (.putfield 57, 3) := by decide +kernel
theorem dX12_init_135 : decode cX12_init 135 = .ok (.aload_n 0, 1) := by decide +kernel
theorem dX12_init_136 : decode cX12_init 136 = .ok (.bipush 24, 2) := by decide +kernel
theorem dX12_init_138 : decode cX12_init 138 = .ok (.newarray .int, 2) := by decide +kernel
theorem dX12_init_140 : decode cX12_init 140 = .ok (.putfield 60, 3) := by decide +kernel
theorem dX12_init_143 : decode cX12_init 143 = .ok (.aload_n 0, 1) := by decide +kernel
theorem dX12_init_144 : decode cX12_init 144 = .ok (.bipush 24, 2) := by decide +kernel
theorem dX12_init_146 : decode cX12_init 146 = .ok (.newarray .int, 2) := by decide +kernel
theorem dX12_init_148 : decode cX12_init 148 = .ok (.putfield 63, 3) := by decide +kernel
theorem dX12_init_151 : decode cX12_init 151 = .ok (.aload_n 0, 1) := by decide +kernel
theorem dX12_init_152 : decode cX12_init 152 = .ok (.iconst 2, 1) := by decide +kernel
theorem dX12_init_153 : decode cX12_init 153 = .ok (.newarray .int, 2) := by decide +kernel
theorem dX12_init_155 : decode cX12_init 155 = .ok (.putfield 66, 3) := by decide +kernel
theorem dX12_init_158 : decode cX12_init 158 = .ok (.aload_n 0, 1) := by decide +kernel
theorem dX12_init_159 : decode cX12_init 159 = .ok (.iconst 2, 1) := by decide +kernel
theorem dX12_init_160 : decode cX12_init 160 = .ok (.newarray .int, 2) := by decide +kernel
theorem dX12_init_162 : decode cX12_init 162 = .ok (.putfield 69, 3) := by decide +kernel
theorem dX12_init_165 : decode cX12_init 165 = .ok (.aload_n 0, 1) := by decide +kernel
theorem dX12_init_166 : decode cX12_init 166 = .ok (.sipush 128, 3) := by decide +kernel
theorem dX12_init_169 : decode cX12_init 169 = .ok (.newarray .long, 2) := by decide +kernel
theorem dX12_init_171 : decode cX12_init 171 = .ok (.putfield 72, 3) := by decide +kernel
theorem dX12_init_174 : decode cX12_init 174 = .ok (.aload_n 0, 1) := by decide +kernel
theorem dX12_init_175 : decode cX12_init 175 = .ok (.sipush 1152, 3) := by decide +kernel
theorem dX12_init_178 : decode cX12_init 178 = .ok (.newarray .long, 2) := by decide +kernel
theorem dX12_init_180 : decode cX12_init 180 = .ok (.putfield 75, 3) := by decide +kernel
theorem dX12_init_183 : decode cX12_init 183 = .ok (.aload_n 0, 1) := by decide +kernel
theorem dX12_init_184 : decode cX12_init 184 = .ok (.sipush 128, 3) := by decide +kernel
theorem dX12_init_187 : decode cX12_init 187 = .ok (.newarray .int, 2) := by decide +kernel
theorem dX12_init_189 : decode cX12_init 189 = .ok (.putfield 78, 3) := by decide +kernel
theorem dX12_init_192 : decode cX12_init 192 = .ok (.aload_n 0, 1) := by decide +kernel
theorem dX12_init_193 : decode cX12_init 193 = .ok (.sipush 128, 3) := by decide +kernel
theorem dX12_init_196 : decode cX12_init 196 = .ok (.newarray .int, 2) := by decide +kernel
theorem dX12_init_198 : decode cX12_init 198 = .ok (.putfield 81, 3) := by decide +kernel
theorem dX12_init_201 : decode cX12_init 201 = .ok (.aload_n 0, 1) := by decide +kernel
theorem dX12_init_202 : decode cX12_init 202 = .ok (.sipush 1152, 3) := by decide +kernel
theorem dX12_init_205 : decode cX12_init 205 = .ok (.newarray .int, 2) := by decide +kernel
theorem dX12_init_207 : decode cX12_init 207 = .ok (.putfield 84, 3) := by decide +kernel
theorem dX12_init_210 : decode cX12_init 210 = .ok (.aload_n 0, 1) := by decide +kernel
theorem dX12_init_211 : decode cX12_init 211 = .ok (.sipush 1152, 3) := by decide +kernel
theorem dX12_init_214 : decode cX12_init 214 = .ok (.newarray .int, 2) := by decide +kernel
theorem dX12_init_216 : decode cX12_init 216 = .ok (.putfield 87, 3) := by decide +kernel
theorem dX12_init_219 : decode cX12_init 219 = .ok (.aload_n 0, 1) := by decide +kernel
theorem dX12_init_220 : decode cX12_init 220 = .ok (.bipush 80, 2) := by decide +kernel
theorem dX12_init_222 : decode cX12_init 222 = .ok (.newarray .int, 2) := by decide +kernel
theorem dX12_init_224 : decode cX12_init 224 = .ok (.putfield 90, 3) := by decide +kernel
theorem dX12_init_227 : decode cX12_init 227 = .ok (.aload_n 0, 1) := by decide +kernel
theorem dX12_init_228 : decode cX12_init 228 = .ok (.bipush 80, 2) := by decide +kernel
theorem dX12_init_230 : decode cX12_init 230 = .ok (.newarray .int, 2) := by decide +kernel
theorem dX12_init_232 : decode cX12_init 232 = .ok (.putfield 93, 3) := by decide +kernel
theorem dX12_init_235 : decode cX12_init 235 = .ok (.aload_n 0, 1) := by decide +kernel
theorem dX12_init_236 : decode cX12_init 236 = .ok (.bipush 80, 2) := by decide +kernel
theorem dX12_init_238 : decode cX12_init 238 = .ok (.newarray .int, 2) := by decide +kernel
theorem dX12_init_240 : decode cX12_init 240 = .ok (.putfield 96, 3) := by decide +kernel
theorem dX12_init_243 : decode cX12_init 243 = .ok (.aload_n 0, 1) := by decide +kernel
theorem dX12_init_244 : decode cX12_init 244 = .ok (.bipush 80, 2) := by decide +kernel
theorem dX12_init_246 : decode cX12_init 246 = .ok (.newarray .int, 2) := by decide +kernel
theorem dX12_init_248 : decode cX12_init 248 = .ok (.putfield 99, 3) := by decide +kernel
theorem dX12_init_251 : decode cX12_init 251 = .ok (.aload_n 0, 1) := by decide +kernel
theorem dX12_init_252 : decode cX12_init 252 = .ok (.bipush 80, 2) := by decide +kernel
theorem dX12_init_254 : decode cX12_init 254 = .ok (.newarray .int, 2) := by decide +kernel
theorem dX12_init_256 : decode cX12_init 256 = .ok (.putfield 102, 3) := by decide +kernel
theorem dX12_init_259 : decode cX12_init 259 = .ok (.aload_n 0, 1) := by decide +kernel
theorem dX12_init_260 : decode cX12_init 260 = .ok (.bipush 80, 2) := by decide +kernel
theorem dX12_init_262 : decode cX12_init 262 = .ok (.newarray .int, 2) := by decide +kernel
theorem dX12_init_264 : decode cX12_init 264 = .ok (.putfield 105, 3) := by decide +kernel
theorem dX12_init_267 : decode cX12_init 267 = .ok (.aload_n 0, 1) := by decide +kernel
theorem dX12_init_268 : decode cX12_init 268 = .ok (.sipush 10240, 3) := by decide +kernel
theorem dX12_init_271 : decode cX12_init 271 = .ok (.newarray .int, 2) := by decide +kernel
theorem dX12_init_273 : decode cX12_init 273 = .ok (.putfield 108, 3) := by decide +kernel
theorem dX12_init_276 : decode cX12_init 276 = .ok (.aload_n 0, 1) := by decide +kernel
theorem dX12_init_277 : decode cX12_init 277 = .ok (.bipush 80, 2) := by decide +kernel
theorem dX12_init_279 : decode cX12_init 279 = .ok (.newarray .boolean, 2) := by decide +kernel
theorem dX12_init_281 : decode cX12_init 281 = .ok (.putfield 111, 3) := by decide +kernel
theorem dX12_init_284 : decode cX12_init 284 = .ok (.aload_n 0, 1) := by decide +kernel
theorem dX12_init_285 : decode cX12_init 285 = .ok (.bipush 80, 2) := by decide +kernel
theorem dX12_init_287 : decode cX12_init 287 = .ok (.newarray .int, 2) := by decide +kernel
theorem dX12_init_289 : decode cX12_init 289 = .ok (.putfield 115, 3) := by decide +kernel
theorem dX12_init_292 : decode cX12_init 292 = .ok (.aload_n 0, 1) := by decide +kernel
theorem dX12_init_293 : decode cX12_init 293 = .ok (.sipush 160, 3) := by decide +kernel
theorem dX12_init_296 : decode cX12_init 296 = .ok (.newarray .int, 2) := by decide +kernel
theorem dX12_init_298 : decode cX12_init 298 = .ok (.putfield 118, 3) := by decide +kernel
theorem dX12_init_301 : decode cX12_init 301 = .ok (.aload_n 0, 1) := by decide +kernel
theorem dX12_init_302 : decode cX12_init 302 = .ok (.sipush 160, 3) := by decide +kernel
theorem dX12_init_305 : decode cX12_init 305 = .ok (.newarray .int, 2) := by decide +kernel
theorem dX12_init_307 : decode cX12_init 307 = .ok (.putfield 121, 3) := by decide +kernel
theorem dX12_init_310 : decode cX12_init 310 = .ok (.aload_n 0, 1) := by decide +kernel
theorem dX12_init_311 : decode cX12_init 311 = .ok (.sipush 700, 3) := by decide +kernel
theorem dX12_init_314 : decode cX12_init 314 = .ok (.newarray .int, 2) := by decide +kernel
theorem dX12_init_316 : decode cX12_init 316 = .ok (.putfield 124, 3) := by decide +kernel
theorem dX12_init_319 : decode cX12_init 319 = .ok (.aload_n 0, 1) := by decide +kernel
theorem dX12_init_320 : decode cX12_init 320 = .ok (.sipush 700, 3) := by decide +kernel
theorem dX12_init_323 : decode cX12_init 323 = .ok (.newarray .int, 2) := by decide +kernel
theorem dX12_init_325 : decode cX12_init 325 = .ok (.putfield 127, 3) := by decide +kernel
theorem dX12_init_328 : decode cX12_init 328 = .ok (.aload_n 0, 1) := by decide +kernel
theorem dX12_init_329 : decode cX12_init 329 = .ok (.sipush 700, 3) := by decide +kernel
theorem dX12_init_332 : decode cX12_init 332 = .ok (.newarray .int, 2) := by decide +kernel
theorem dX12_init_334 : decode cX12_init 334 = .ok (.putfield 130, 3) := by decide +kernel
theorem dX12_init_337 : decode cX12_init 337 = .ok (.aload_n 0, 1) := by decide +kernel
theorem dX12_init_338 : decode cX12_init 338 = .ok (.sipush 700, 3) := by decide +kernel
theorem dX12_init_341 : decode cX12_init 341 = .ok (.newarray .long, 2) := by decide +kernel
theorem dX12_init_343 : decode cX12_init 343 = .ok (.putfield 133, 3) := by decide +kernel
theorem dX12_init_346 : decode cX12_init 346 = .ok (.aload_n 0, 1) := by decide +kernel
theorem dX12_init_347 : decode cX12_init 347 = .ok (.sipush 200, 3) := by decide +kernel
theorem dX12_init_350 : decode cX12_init 350 = .ok (.newarray .int, 2) := by decide +kernel
theorem dX12_init_352 : decode cX12_init 352 = .ok (.putfield 136, 3) := by decide +kernel
theorem dX12_init_355 : decode cX12_init 355 = .ok (.aload_n 0, 1) := by decide +kernel
theorem dX12_init_356 : decode cX12_init 356 = .ok (.sipush 200, 3) := by decide +kernel
theorem dX12_init_359 : decode cX12_init 359 = .ok (.newarray .int, 2) := by decide +kernel
theorem dX12_init_361 : decode cX12_init 361 = .ok (.putfield 139, 3) := by decide +kernel
theorem dX12_init_364 : decode cX12_init 364 = .ok (.aload_n 0, 1) := by decide +kernel
theorem dX12_init_365 : decode cX12_init 365 = .ok (.sipush 1400, 3) := by decide +kernel
theorem dX12_init_368 : decode cX12_init 368 = .ok (.newarray .int, 2) := by decide +kernel
theorem dX12_init_370 : decode cX12_init 370 = .ok (.putfield 142, 3) := by decide +kernel
theorem dX12_init_373 : decode cX12_init 373 = .ok (.aload_n 0, 1) := by decide +kernel
theorem dX12_init_374 : decode cX12_init 374 = .ok (.iconst 4, 1) := by decide +kernel
theorem dX12_init_375 : decode cX12_init 375 = .ok (.newarray .int, 2) := by decide +kernel
theorem dX12_init_377 : decode cX12_init 377 = .ok (.putfield 145, 3) := by decide +kernel
theorem dX12_init_380 : decode cX12_init 380 = .ok (.aload_n 0, 1) := by decide +kernel
theorem dX12_init_381 : decode cX12_init 381 = .ok (.sipush 8000, 3) := by decide +kernel
theorem dX12_init_384 : decode cX12_init 384 = .ok (.newarray .int, 2) := by decide +kernel
theorem dX12_init_386 : decode cX12_init 386 = .ok (.putfield 148, 3) := by decide +kernel
theorem dX12_init_389 : decode cX12_init 389 = .ok (.return_, 1) := by decide +kernel
theorem fw_RX4_15 : Cond.fieldLink RX4 15 (a_rc 4) (a_tb 4 0).2.1 (a_tb 4 0).2.2.1 ∈ WS := ws_t 37 (by decide +kernel) rfl
theorem fw_RX10_14 : Cond.fieldLink RX10 14 (a_rc 10) (a_tb 10 0).2.1 (a_tb 10 0).2.2.1 ∈ WS := ws_t 170 (by decide +kernel) rfl
theorem fw_RX10_20 : Cond.fieldLink RX10 20 (a_rc 10) (a_tb 10 1).2.1 (a_tb 10 1).2.2.1 ∈ WS := ws_t 172 (by decide +kernel) rfl
theorem fw_RX10_23 : Cond.fieldLink RX10 23 (a_rc 10) (a_tb 10 2).2.1 (a_tb 10 2).2.2.1 ∈ WS := ws_t 174 (by decide +kernel) rfl
theorem fw_RX10_26 : Cond.fieldLink RX10 26 (a_rc 10) (a_tb 10 3).2.1 (a_tb 10 3).2.2.1 ∈ WS := ws_t 176 (by decide +kernel) rfl
theorem fw_RX10_29 : Cond.fieldLink RX10 29 (a_rc 10) (a_tb 10 4).2.1 (a_tb 10 4).2.2.1 ∈ WS := ws_t 178 (by decide +kernel) rfl
theorem fw_RX10_32 : Cond.fieldLink RX10 32 (a_rc 10) (a_tb 10 5).2.1 (a_tb 10 5).2.2.1 ∈ WS := ws_t 179 (by decide +kernel) rfl
theorem fw_RX10_35 : Cond.fieldLink RX10 35 (a_rc 10) (a_tb 10 6).2.1 (a_tb 10 6).2.2.1 ∈ WS := ws_t 180 (by decide +kernel) rfl
theorem fw_RX10_38 : Cond.fieldLink RX10 38 (a_rc 10) (a_tb 10 7).2.1 (a_tb 10 7).2.2.1 ∈ WS := ws_t 181 (by decide +kernel) rfl
theorem fw_RX8_14 : Cond.fieldLink RX8 14 (a_rc 8) (a_tb 8 0).2.1 (a_tb 8 0).2.2.1 ∈ WS := ws_t 207 (by decide +kernel) rfl
theorem fw_RX8_20 : Cond.fieldLink RX8 20 (a_rc 8) (a_tb 8 1).2.1 (a_tb 8 1).2.2.1 ∈ WS := ws_t 208 (by decide +kernel) rfl
theorem fw_RX8_23 : Cond.fieldLink RX8 23 (a_rc 8) (a_tb 8 2).2.1 (a_tb 8 2).2.2.1 ∈ WS := ws_t 209 (by decide +kernel) rfl
theorem fw_RX8_26 : Cond.fieldLink RX8 26 (a_rc 8) (a_tb 8 3).2.1 (a_tb 8 3).2.2.1 ∈ WS := ws_t 210 (by decide +kernel) rfl
theorem fw_RX8_29 : Cond.fieldLink RX8 29 (a_rc 8) (a_tb 8 4).2.1 (a_tb 8 4).2.2.1 ∈ WS := ws_t 211 (by decide +kernel) rfl
theorem fw_RX0_12 : Cond.fieldLink RX0 12 (a_rc 0) (a_tb 0 0).2.1 (a_tb 0 0).2.2.1 ∈ WS := ws_t 225 (by decide +kernel) rfl
theorem fw_RX0_21 : Cond.fieldLink RX0 21 (a_rc 0) (a_tb 0 1).2.1 (a_tb 0 1).2.2.1 ∈ WS := ws_t 229 (by decide +kernel) rfl
theorem fw_RX0_30 : Cond.fieldLink RX0 30 (a_rc 0) (a_tb 0 2).2.1 (a_tb 0 2).2.2.1 ∈ WS := ws_t 232 (by decide +kernel) rfl
theorem fw_RX0_34 : Cond.fieldLink RX0 34 (a_rc 0) (a_tb 0 3).2.1 (a_tb 0 3).2.2.1 ∈ WS := ws_t 236 (by decide +kernel) rfl
theorem fw_RX0_37 : Cond.fieldLink RX0 37 (a_rc 0) (a_tb 0 4).2.1 (a_tb 0 4).2.2.1 ∈ WS := ws_t 239 (by decide +kernel) rfl
theorem fw_RX0_40 : Cond.fieldLink RX0 40 (a_rc 0) (a_tb 0 5).2.1 (a_tb 0 5).2.2.1 ∈ WS := ws_t 243 (by decide +kernel) rfl
theorem fw_RX0_43 : Cond.fieldLink RX0 43 (a_rc 0) (a_tb 0 6).2.1 (a_tb 0 6).2.2.1 ∈ WS := ws_t 246 (by decide +kernel) rfl
theorem fw_RX0_46 : Cond.fieldLink RX0 46 (a_rc 0) (a_tb 0 7).2.1 (a_tb 0 7).2.2.1 ∈ WS := ws_t 249 (by decide +kernel) rfl
theorem fw_RX0_49 : Cond.fieldLink RX0 49 (a_rc 0) (a_tb 0 8).2.1 (a_tb 0 8).2.2.1 ∈ WS := ws_t 252 (by decide +kernel) rfl
theorem fw_RX0_52 : Cond.fieldLink RX0 52 (a_rc 0) (a_tb 0 9).2.1 (a_tb 0 9).2.2.1 ∈ WS := ws_t 255 (by decide +kernel) rfl
theorem fw_RX0_55 : Cond.fieldLink RX0 55 (a_rc 0) (a_tb 0 10).2.1 (a_tb 0 10).2.2.1 ∈ WS := ws_t 259 (by decide +kernel) rfl
theorem fw_RX0_58 : Cond.fieldLink RX0 58 (a_rc 0) (a_tb 0 11).2.1 (a_tb 0 11).2.2.1 ∈ WS := ws_t 261 (by decide +kernel) rfl
theorem fw_RX0_61 : Cond.fieldLink RX0 61 (a_rc 0) (a_tb 0 12).2.1 (a_tb 0 12).2.2.1 ∈ WS := ws_t 264 (by decide +kernel) rfl
theorem fw_RX0_64 : Cond.fieldLink RX0 64 (a_rc 0) (a_tb 0 13).2.1 (a_tb 0 13).2.2.1 ∈ WS := ws_t 267 (by decide +kernel) rfl
theorem fw_RX0_67 : Cond.fieldLink RX0 67 (a_rc 0) (a_tb 0 14).2.1 (a_tb 0 14).2.2.1 ∈ WS := ws_t 270 (by decide +kernel) rfl
theorem fw_RX0_70 : Cond.fieldLink RX0 70 (a_rc 0) (a_tb 0 15).2.1 (a_tb 0 15).2.2.1 ∈ WS := ws_t 273 (by decide +kernel) rfl
theorem fw_RX0_73 : Cond.fieldLink RX0 73 (a_rc 0) (a_tb 0 16).2.1 (a_tb 0 16).2.2.1 ∈ WS := ws_t 274 (by decide +kernel) rfl
theorem fw_RX0_76 : Cond.fieldLink RX0 76 (a_rc 0) (a_tb 0 17).2.1 (a_tb 0 17).2.2.1 ∈ WS := ws_t 276 (by decide +kernel) rfl
theorem fw_RX2_14 : Cond.fieldLink RX2 14 (a_rc 2) (a_tb 2 0).2.1 (a_tb 2 0).2.2.1 ∈ WS := ws_t 112 (by decide +kernel) rfl
theorem fw_RX2_20 : Cond.fieldLink RX2 20 (a_rc 2) (a_tb 2 1).2.1 (a_tb 2 1).2.2.1 ∈ WS := ws_t 113 (by decide +kernel) rfl
theorem fw_RX2_24 : Cond.fieldLink RX2 24 (a_rc 2) (a_tb 2 2).2.1 (a_tb 2 2).2.2.1 ∈ WS := ws_t 114 (by decide +kernel) rfl
theorem fw_RX2_27 : Cond.fieldLink RX2 27 (a_rc 2) (a_tb 2 3).2.1 (a_tb 2 3).2.2.1 ∈ WS := ws_t 115 (by decide +kernel) rfl
theorem fw_RX5_14 : Cond.fieldLink RX5 14 (a_rc 5) (a_tb 5 0).2.1 (a_tb 5 0).2.2.1 ∈ WS := ws_t 334 (by decide +kernel) rfl
theorem fw_RX5_20 : Cond.fieldLink RX5 20 (a_rc 5) (a_tb 5 1).2.1 (a_tb 5 1).2.2.1 ∈ WS := ws_t 335 (by decide +kernel) rfl
theorem fw_RX5_23 : Cond.fieldLink RX5 23 (a_rc 5) (a_tb 5 2).2.1 (a_tb 5 2).2.2.1 ∈ WS := ws_t 336 (by decide +kernel) rfl
theorem fw_RX9_14 : Cond.fieldLink RX9 14 (a_rc 9) (a_tb 9 1).2.1 (a_tb 9 1).2.2.1 ∈ WS := ws_t 356 (by decide +kernel) rfl
theorem fw_RX9_20 : Cond.fieldLink RX9 20 (a_rc 9) (a_tb 9 2).2.1 (a_tb 9 2).2.2.1 ∈ WS := ws_t 357 (by decide +kernel) rfl
theorem fw_RX9_23 : Cond.fieldLink RX9 23 (a_rc 9) (a_tb 9 0).2.1 (a_tb 9 0).2.2.1 ∈ WS := ws_t 355 (by decide +kernel) rfl
theorem fw_RX9_27 : Cond.fieldLink RX9 27 (a_rc 9) (a_tb 9 3).2.1 (a_tb 9 3).2.2.1 ∈ WS := ws_t 358 (by decide +kernel) rfl
theorem fw_RX7_9 : Cond.fieldLink RX7 9 (a_rc 7) (a_tb 7 0).2.1 (a_tb 7 0).2.2.1 ∈ WS := ws_t 377 (by decide +kernel) rfl
theorem fw_RX7_15 : Cond.fieldLink RX7 15 (a_rc 7) (a_tb 7 1).2.1 (a_tb 7 1).2.2.1 ∈ WS := ws_t 378 (by decide +kernel) rfl
theorem fw_RX7_19 : Cond.fieldLink RX7 19 (a_rc 7) (a_tb 7 2).2.1 (a_tb 7 2).2.2.1 ∈ WS := ws_t 379 (by decide +kernel) rfl
theorem fw_RX3_12 : Cond.fieldLink RX3 12 (a_rc 3) (a_tb 3 1).2.1 (a_tb 3 1).2.2.1 ∈ WS := ws_t 388 (by decide +kernel) rfl
theorem fw_RX3_22 : Cond.fieldLink RX3 22 (a_rc 3) (a_tb 3 0).2.1 (a_tb 3 0).2.2.1 ∈ WS := ws_t 387 (by decide +kernel) rfl
theorem fw_RX3_26 : Cond.fieldLink RX3 26 (a_rc 3) (a_tb 3 4).2.1 (a_tb 3 4).2.2.1 ∈ WS := ws_t 391 (by decide +kernel) rfl
theorem fw_RX3_35 : Cond.fieldLink RX3 35 (a_rc 3) (a_tb 3 2).2.1 (a_tb 3 2).2.2.1 ∈ WS := ws_t 389 (by decide +kernel) rfl
theorem fw_RX3_50 : Cond.fieldLink RX3 50 (a_rc 3) (a_tb 3 3).2.1 (a_tb 3 3).2.2.1 ∈ WS := ws_t 390 (by decide +kernel) rfl
theorem fw_RX1_14 : Cond.fieldLink RX1 14 (a_rc 1) (a_tb 1 0).2.1 (a_tb 1 0).2.2.1 ∈ WS := ws_t 423 (by decide +kernel) rfl
theorem fw_RX1_20 : Cond.fieldLink RX1 20 (a_rc 1) (a_tb 1 1).2.1 (a_tb 1 1).2.2.1 ∈ WS := ws_t 424 (by decide +kernel) rfl
theorem fw_RX1_23 : Cond.fieldLink RX1 23 (a_rc 1) (a_tb 1 2).2.1 (a_tb 1 2).2.2.1 ∈ WS := ws_t 425 (by decide +kernel) rfl
theorem fw_RX1_26 : Cond.fieldLink RX1 26 (a_rc 1) (a_tb 1 3).2.1 (a_tb 1 3).2.2.1 ∈ WS := ws_t 426 (by decide +kernel) rfl
theorem fw_RX1_29 : Cond.fieldLink RX1 29 (a_rc 1) (a_tb 1 4).2.1 (a_tb 1 4).2.2.1 ∈ WS := ws_t 427 (by decide +kernel) rfl
theorem fw_RX1_32 : Cond.fieldLink RX1 32 (a_rc 1) (a_tb 1 5).2.1 (a_tb 1 5).2.2.1 ∈ WS := ws_t 429 (by decide +kernel) rfl
theorem fw_RX1_35 : Cond.fieldLink RX1 35 (a_rc 1) (a_tb 1 6).2.1 (a_tb 1 6).2.2.1 ∈ WS := ws_t 431 (by decide +kernel) rfl
theorem fw_RX6_12 : Cond.fieldLink RX6 12 (a_rc 6) (a_tb 6 0).2.1 (a_tb 6 0).2.2.1 ∈ WS := ws_t 450 (by decide +kernel) rfl
theorem fw_RX6_23 : Cond.fieldLink RX6 23 (a_rc 6) (a_tb 6 1).2.1 (a_tb 6 1).2.2.1 ∈ WS := ws_t 452 (by decide +kernel) rfl
theorem fw_RX6_27 : Cond.fieldLink RX6 27 (a_rc 6) (a_tb 6 2).2.1 (a_tb 6 2).2.2.1 ∈ WS := ws_t 454 (by decide +kernel) rfl
theorem fw_RX6_30 : Cond.fieldLink RX6 30 (a_rc 6) (a_tb 6 3).2.1 (a_tb 6 3).2.2.1 ∈ WS := ws_t 455 (by decide +kernel) rfl
theorem fw_RX6_33 : Cond.fieldLink RX6 33 (a_rc 6) (a_tb 6 4).2.1 (a_tb 6 4).2.2.1 ∈ WS := ws_t 457 (by decide +kernel) rfl
theorem fw_RX6_36 : Cond.fieldLink RX6 36 (a_rc 6) (a_tb 6 5).2.1 (a_tb 6 5).2.2.1 ∈ WS := ws_t 459 (by decide +kernel) rfl
theorem fw_RX6_39 : Cond.fieldLink RX6 39 (a_rc 6) (a_tb 6 6).2.1 (a_tb 6 6).2.2.1 ∈ WS := ws_t 461 (by decide +kernel) rfl
theorem fw_RX6_42 : Cond.fieldLink RX6 42 (a_rc 6) (a_tb 6 7).2.1 (a_tb 6 7).2.2.1 ∈ WS := ws_t 463 (by decide +kernel) rfl
theorem fw_RX6_45 : Cond.fieldLink RX6 45 (a_rc 6) (a_tb 6 8).2.1 (a_tb 6 8).2.2.1 ∈ WS := ws_t 464 (by decide +kernel) rfl
theorem fw_RX6_48 : Cond.fieldLink RX6 48 (a_rc 6) (a_tb 6 9).2.1 (a_tb 6 9).2.2.1 ∈ WS := ws_t 465 (by decide +kernel) rfl
theorem fw_RX6_51 : Cond.fieldLink RX6 51 (a_rc 6) (a_tb 6 10).2.1 (a_tb 6 10).2.2.1 ∈ WS := ws_t 467 (by decide +kernel) rfl
theorem fw_RX6_54 : Cond.fieldLink RX6 54 (a_rc 6) (a_tb 6 11).2.1 (a_tb 6 11).2.2.1 ∈ WS := ws_t 469 (by decide +kernel) rfl
theorem fw_RX6_57 : Cond.fieldLink RX6 57 (a_rc 6) (a_tb 6 12).2.1 (a_tb 6 12).2.2.1 ∈ WS := ws_t 471 (by decide +kernel) rfl
theorem fw_RX11_14 : Cond.fieldLink RX11 14 (a_rc 11) (a_tb 11 0).2.1 (a_tb 11 0).2.2.1 ∈ WS := ws_t 511 (by decide +kernel) rfl
theorem fw_RX11_18 : Cond.fieldLink RX11 18 (a_rc 11) (a_tb 11 1).2.1 (a_tb 11 1).2.2.1 ∈ WS := ws_t 512 (by decide +kernel) rfl
theorem fw_RX11_24 : Cond.fieldLink RX11 24 (a_rc 11) (a_tb 11 2).2.1 (a_tb 11 2).2.2.1 ∈ WS := ws_t 513 (by decide +kernel) rfl
theorem fw_RX11_31 : Cond.fieldLink RX11 31 (a_rc 11) (a_tb 11 5).2.1 (a_tb 11 5).2.2.1 ∈ WS := ws_t 516 (by decide +kernel) rfl
theorem fw_RX11_35 : Cond.fieldLink RX11 35 (a_rc 11) (a_tb 11 6).2.1 (a_tb 11 6).2.2.1 ∈ WS := ws_t 517 (by decide +kernel) rfl
theorem fw_RX11_43 : Cond.fieldLink RX11 43 (a_rc 11) (a_tb 11 3).2.1 (a_tb 11 3).2.2.1 ∈ WS := ws_t 514 (by decide +kernel) rfl
theorem fw_RX11_52 : Cond.fieldLink RX11 52 (a_rc 11) (a_tb 11 4).2.1 (a_tb 11 4).2.2.1 ∈ WS := ws_t 515 (by decide +kernel) rfl
theorem fw_RX12_7 : Cond.fieldLink RX12 7 (a_rc 12) (a_tb 12 0).2.1 (a_tb 12 0).2.2.1 ∈ WS := ws_t 1306 (by decide +kernel) rfl
theorem fw_RX12_17 : Cond.fieldLink RX12 17 (a_rc 12) (a_tb 12 11).2.1 (a_tb 12 11).2.2.1 ∈ WS := ws_t 1317 (by decide +kernel) rfl
theorem fw_RX12_20 : Cond.fieldLink RX12 20 (a_rc 12) (a_tb 12 12).2.1 (a_tb 12 12).2.2.1 ∈ WS := ws_t 1318 (by decide +kernel) rfl
theorem fw_RX12_23 : Cond.fieldLink RX12 23 (a_rc 12) (a_tb 12 13).2.1 (a_tb 12 13).2.2.1 ∈ WS := ws_t 1319 (by decide +kernel) rfl
theorem fw_RX12_26 : Cond.fieldLink RX12 26 (a_rc 12) (a_tb 12 14).2.1 (a_tb 12 14).2.2.1 ∈ WS := ws_t 1320 (by decide +kernel) rfl
theorem fw_RX12_29 : Cond.fieldLink RX12 29 (a_rc 12) (a_tb 12 15).2.1 (a_tb 12 15).2.2.1 ∈ WS := ws_t 1321 (by decide +kernel) rfl
theorem fw_RX12_33 : Cond.fieldLink RX12 33 (a_rc 12) (a_tb 12 18).2.1 (a_tb 12 18).2.2.1 ∈ WS := ws_t 1324 (by decide +kernel) rfl
theorem fw_RX12_36 : Cond.fieldLink RX12 36 (a_rc 12) (a_tb 12 19).2.1 (a_tb 12 19).2.2.1 ∈ WS := ws_t 1325 (by decide +kernel) rfl
theorem fw_RX12_39 : Cond.fieldLink RX12 39 (a_rc 12) (a_tb 12 20).2.1 (a_tb 12 20).2.2.1 ∈ WS := ws_t 1326 (by decide +kernel) rfl
theorem fw_RX12_42 : Cond.fieldLink RX12 42 (a_rc 12) (a_tb 12 21).2.1 (a_tb 12 21).2.2.1 ∈ WS := ws_t 1327 (by decide +kernel) rfl
theorem fw_RX12_45 : Cond.fieldLink RX12 45 (a_rc 12) (a_tb 12 22).2.1 (a_tb 12 22).2.2.1 ∈ WS := ws_t 1328 (by decide +kernel) rfl
theorem fw_RX12_48 : Cond.fieldLink RX12 48 (a_rc 12) (a_tb 12 23).2.1 (a_tb 12 23).2.2.1 ∈ WS := ws_t 1329 (by decide +kernel) rfl
theorem fw_RX12_51 : Cond.fieldLink RX12 51 (a_rc 12) (a_tb 12 24).2.1 (a_tb 12 24).2.2.1 ∈ WS := ws_t 1330 (by decide +kernel) rfl
theorem fw_RX12_54 : Cond.fieldLink RX12 54 (a_rc 12) (a_tb 12 25).2.1 (a_tb 12 25).2.2.1 ∈ WS := ws_t 1331 (by decide +kernel) rfl
theorem fw_RX12_57 : Cond.fieldLink RX12 57 (a_rc 12) (a_tb 12 26).2.1 (a_tb 12 26).2.2.1 ∈ WS := ws_t 1332 (by decide +kernel) rfl
theorem fw_RX12_60 : Cond.fieldLink RX12 60 (a_rc 12) (a_tb 12 27).2.1 (a_tb 12 27).2.2.1 ∈ WS := ws_t 1333 (by decide +kernel) rfl
theorem fw_RX12_63 : Cond.fieldLink RX12 63 (a_rc 12) (a_tb 12 28).2.1 (a_tb 12 28).2.2.1 ∈ WS := ws_t 1334 (by decide +kernel) rfl
theorem fw_RX12_66 : Cond.fieldLink RX12 66 (a_rc 12) (a_tb 12 29).2.1 (a_tb 12 29).2.2.1 ∈ WS := ws_t 1335 (by decide +kernel) rfl
theorem fw_RX12_69 : Cond.fieldLink RX12 69 (a_rc 12) (a_tb 12 30).2.1 (a_tb 12 30).2.2.1 ∈ WS := ws_t 1336 (by decide +kernel) rfl
theorem fw_RX12_72 : Cond.fieldLink RX12 72 (a_rc 12) (a_tb 12 37).2.1 (a_tb 12 37).2.2.1 ∈ WS := ws_t 1343 (by decide +kernel) rfl
theorem fw_RX12_75 : Cond.fieldLink RX12 75 (a_rc 12) (a_tb 12 38).2.1 (a_tb 12 38).2.2.1 ∈ WS := ws_t 1344 (by decide +kernel) rfl
theorem fw_RX12_78 : Cond.fieldLink RX12 78 (a_rc 12) (a_tb 12 39).2.1 (a_tb 12 39).2.2.1 ∈ WS := ws_t 1345 (by decide +kernel) rfl
theorem fw_RX12_81 : Cond.fieldLink RX12 81 (a_rc 12) (a_tb 12 40).2.1 (a_tb 12 40).2.2.1 ∈ WS := ws_t 1346 (by decide +kernel) rfl
theorem fw_RX12_84 : Cond.fieldLink RX12 84 (a_rc 12) (a_tb 12 41).2.1 (a_tb 12 41).2.2.1 ∈ WS := ws_t 1347 (by decide +kernel) rfl
theorem fw_RX12_87 : Cond.fieldLink RX12 87 (a_rc 12) (a_tb 12 42).2.1 (a_tb 12 42).2.2.1 ∈ WS := ws_t 1348 (by decide +kernel) rfl
theorem fw_RX12_90 : Cond.fieldLink RX12 90 (a_rc 12) (a_tb 12 52).2.1 (a_tb 12 52).2.2.1 ∈ WS := ws_t 1358 (by decide +kernel) rfl
theorem fw_RX12_93 : Cond.fieldLink RX12 93 (a_rc 12) (a_tb 12 53).2.1 (a_tb 12 53).2.2.1 ∈ WS := ws_t 1359 (by decide +kernel) rfl
theorem fw_RX12_96 : Cond.fieldLink RX12 96 (a_rc 12) (a_tb 12 54).2.1 (a_tb 12 54).2.2.1 ∈ WS := ws_t 1360 (by decide +kernel) rfl
theorem fw_RX12_99 : Cond.fieldLink RX12 99 (a_rc 12) (a_tb 12 55).2.1 (a_tb 12 55).2.2.1 ∈ WS := ws_t 1361 (by decide +kernel) rfl
theorem fw_RX12_102 : Cond.fieldLink RX12 102 (a_rc 12) (a_tb 12 56).2.1 (a_tb 12 56).2.2.1 ∈ WS := ws_t 1362 (by decide +kernel) rfl
theorem fw_RX12_105 : Cond.fieldLink RX12 105 (a_rc 12) (a_tb 12 57).2.1 (a_tb 12 57).2.2.1 ∈ WS := ws_t 1363 (by decide +kernel) rfl
theorem fw_RX12_108 : Cond.fieldLink RX12 108 (a_rc 12) (a_tb 12 58).2.1 (a_tb 12 58).2.2.1 ∈ WS := ws_t 1364 (by decide +kernel) rfl
theorem fw_RX12_111 : Cond.fieldLink RX12 111 (a_rc 12) (a_tb 12 59).2.1 (a_tb 12 59).2.2.1 ∈ WS := ws_t 1365 (by decide +kernel) rfl
theorem fw_RX12_115 : Cond.fieldLink RX12 115 (a_rc 12) (a_tb 12 66).2.1 (a_tb 12 66).2.2.1 ∈ WS := ws_t 1372 (by decide +kernel) rfl
theorem fw_RX12_118 : Cond.fieldLink RX12 118 (a_rc 12) (a_tb 12 67).2.1 (a_tb 12 67).2.2.1 ∈ WS := ws_t 1373 (by decide +kernel) rfl
theorem fw_RX12_121 : Cond.fieldLink RX12 121 (a_rc 12) (a_tb 12 68).2.1 (a_tb 12 68).2.2.1 ∈ WS := ws_t 1374 (by decide +kernel) rfl
theorem fw_RX12_124 : Cond.fieldLink RX12 124 (a_rc 12) (a_tb 12 69).2.1 (a_tb 12 69).2.2.1 ∈ WS := ws_t 1375 (by decide +kernel) rfl
theorem fw_RX12_127 : Cond.fieldLink RX12 127 (a_rc 12) (a_tb 12 70).2.1 (a_tb 12 70).2.2.1 ∈ WS := ws_t 1376 (by decide +kernel) rfl
theorem fw_RX12_130 : Cond.fieldLink RX12 130 (a_rc 12) (a_tb 12 71).2.1 (a_tb 12 71).2.2.1 ∈ WS := ws_t 1377 (by decide +kernel) rfl
theorem fw_RX12_133 : Cond.fieldLink RX12 133 (a_rc 12) (a_tb 12 72).2.1 (a_tb 12 72).2.2.1 ∈ WS := ws_t 1378 (by decide +kernel) rfl
theorem fw_RX12_136 : Cond.fieldLink RX12 136 (a_rc 12) (a_tb 12 73).2.1 (a_tb 12 73).2.2.1 ∈ WS := ws_t 1379 (by decide +kernel) rfl
theorem fw_RX12_139 : Cond.fieldLink RX12 139 (a_rc 12) (a_tb 12 74).2.1 (a_tb 12 74).2.2.1 ∈ WS := ws_t 1380 (by decide +kernel) rfl
theorem fw_RX12_142 : Cond.fieldLink RX12 142 (a_rc 12) (a_tb 12 75).2.1 (a_tb 12 75).2.2.1 ∈ WS := ws_t 1381 (by decide +kernel) rfl
theorem fw_RX12_145 : Cond.fieldLink RX12 145 (a_rc 12) (a_tb 12 77).2.1 (a_tb 12 77).2.2.1 ∈ WS := ws_t 1383 (by decide +kernel) rfl
theorem fw_RX12_148 : Cond.fieldLink RX12 148 (a_rc 12) (a_tb 12 79).2.1 (a_tb 12 79).2.2.1 ∈ WS := ws_t 1385 (by decide +kernel) rfl
set_option maxRecDepth 100000 in
set_option maxHeartbeats 4000000 in
theorem nRow {l : Launch} {K : a_KT} {g : a_GT} (hko : a_kok K) {n a N : Nat} {I : iT} {J : jT} {F : fT} (hz : ZR n I J F) (ha : iz n a 4) (h1 : CLS (n + 1) = 100) (h2 : LEN (n + 1) = N) (hN : N ≤ 100000) (hn : n + 1 < 1000000) {x : Int32} (hx : x = nI N) : C l K g 1 1 N yX4_init cX4_init 2 none [.ref a, .int x] (hq n I J F) (fun r h2 => r = none ∧ h2 = hq (n + 1) I J (a_u2 F a 0 (n + 1))) := by
  subst hx
  have hx0 : (if nI N < 0 then (0 : Int32) else nI N) = nI N := if_neg (nI_pos (by omega))
  have haB : (decide (a ≤ n) || decide (1000000 ≤ a)) = true := by simp [ha.2.2]
  refine c_of [.ref a, .int (nI N)] (by decide) (Nat.le_of_ble_eq_true rfl) rfl ?_
  refine e_aload_n (i := 0) rfl dX4_init_0 ?_
  refine e_objInit dX4_init_1 ol_RX4_3 oi_init oc_init ha.2.1 (by decide) (Nat.le_of_ble_eq_true rfl) ?_
  refine e_aload_n (i := 0) rfl dX4_init_4 ?_
  refine e_iload_n (i := 1) rfl dX4_init_5 ?_
  refine e_iconst (v := 0) (by decide) dX4_init_6 ?_
  refine e_mmax dX4_init_7 ml_RX4_9 (by decide) (Nat.le_of_ble_eq_true rfl) ?_
  rw [hx0]
  have hnc : E l K g 1 (0 + 1) (0 + N) yX4_init cX4_init 2 none (0 + 1 + 3 + 1 + 1 + 1 + 3) [.ref a, .int (nI N)] [.int (nI N), .ref a] (hq n I J F) (fun r h2 => r = none ∧ h2 = hq (n + 1) I J (a_u2 F a 0 (n + 1))) := by
    refine q_newa hko 0 N dX4_init_10 (Or.inl ⟨rfl, rfl⟩) ac_int (nI_pos (by omega)) (nI_clamp (by omega)) hN hz h1 h2 hn (by simp only [a_okB, haB]; rfl) (by simp only [a_okB, haB]; rfl) ?_
    refine q_putF 4 0 dX4_init_12 fl_RX4_15 (Or.inr ⟨rfl, rfl, fw_RX4_15⟩) rfl ⟨ha.1, ha.2.1, by have := ha.2.2; omega⟩ ?_
    exact e_vret dX4_init_15 rfl ⟨rfl, rfl⟩
  rw [Nat.zero_add, Nat.zero_add] at hnc
  exact hnc
def isRowN (n : Nat) (F : fT) (a : Nat) : Prop := iz n a 4 ∧ iz n (a + 1) 100 ∧ F a 0 = a + 1
set_option maxRecDepth 100000 in
set_option maxHeartbeats 4000000 in
theorem uX4_add {l : Launch} {K : a_KT} {g : a_GT} {N0 : Nat} (hko : a_kok K) {F : fT} {a0 : Nat} (ha0 : isRowN N0 F a0) (I : iT) (J : jT) (hF : True) (x1 : Int32) (q : Int32 × iT) (hm : mX4_add a0 I x1 = some q) : C l K g 0 0 0 yX4_add cX4_add 2 (some .int) [.ref a0, .int x1] (hq N0 I J F) (fun r2 h2 => r2 = some (.int q.1) ∧ h2 = hq N0 q.2 J F) := by
  unfold mX4_add at hm
  refine c_of [.ref a0, .int x1] (by decide) (Nat.le_of_ble_eq_true rfl) rfl ?_
  refine e_aload_n (i := 0) rfl dX4_add_0 ?_
  refine q_getI 4 1 dX4_add_1 fl_RX4_21 rfl ha0.1 ?_
  refine e_aload_n (i := 0) rfl dX4_add_4 ?_
  refine q_getF 4 0 (a0 + 1) dX4_add_5 fl_RX4_15 rfl ha0.1 ha0.2.2 ?_
  refine q_alen dX4_add_8 ha0.2.1 ?_
  refine e_icmp_lt 14 dX4_add_9 (by decide) (fun c_9 => ?_) (fun c_9 => ?_)
  · have hm := it_p c_9 hm
    refine e_aload_n (i := 0) rfl dX4_add_14 ?_
    refine q_getF 4 0 (a0 + 1) dX4_add_15 fl_RX4_15 rfl ha0.1 ha0.2.2 ?_
    refine e_aload_n (i := 0) rfl dX4_add_18 ?_
    refine q_getI 4 1 dX4_add_19 fl_RX4_21 rfl ha0.1 ?_
    refine e_iload_n (i := 1) rfl dX4_add_22 ?_
    obtain ⟨c_23, hm⟩ := gd_s hm
    refine q_iast dX4_add_23 ha0.2.1 (inb_in rfl c_23) ?_
    refine e_aload_n (i := 0) rfl dX4_add_24 ?_
    refine e_dup rfl dX4_add_25 ?_
    refine q_getI 4 1 dX4_add_26 fl_RX4_21 rfl ha0.1 ?_
    refine e_iconst (v := 1) (by decide) dX4_add_29 ?_
    refine e_iadd dX4_add_30 ?_
    refine q_putI 4 1 dX4_add_31 fl_RX4_21 rfl rfl ha0.1 ?_
    refine e_aload_n (i := 0) rfl dX4_add_34 ?_
    refine q_getI 4 1 dX4_add_35 fl_RX4_21 rfl ha0.1 ?_
    refine e_iconst (v := 1) (by decide) dX4_add_38 ?_
    refine e_isub dX4_add_39 ?_
    refine e_iret dX4_add_40 rfl ?_
    have hm := some_in hm
    subst hm
    exact ⟨rfl, rfl⟩
  · have hm := it_n c_9 hm
    refine e_iconst (v := (-1)) (by decide) dX4_add_12 ?_
    refine e_iret dX4_add_13 rfl ?_
    have hm := some_in hm
    subst hm
    exact ⟨rfl, rfl⟩
set_option maxRecDepth 100000 in
set_option maxHeartbeats 4000000 in
theorem uX4_fill_2 {l : Launch} {K : a_KT} {g : a_GT} {N0 : Nat} (hko : a_kok K) {F : fT} {a0 : Nat} (ha0 : isRowN N0 F a0) {J : jT} : ∀ (n : Nat) (I : iT) (x1 : Int32) (x2 : Int32) (hF : True) (q : iT), mX4_fill_2 a0 n I x1 x2 = some q → E l K g 0 0 0 yX4_fill cX4_fill 3 none 2 [.ref a0, .int x1, .int x2] [] (hq N0 I J F) (fun r2 h2 => r2 = none ∧ h2 = hq N0 q J F) := by
  intro n
  induction n with
  | zero => intro I x1 x2 hF q hm; cases hm
  | succ n ih =>
    intro I x1 x2 hF q hm
    rw [mX4_fill_2] at hm
    refine e_iload_n (i := 2) rfl dX4_fill_2 ?_
    refine e_aload_n (i := 0) rfl dX4_fill_3 ?_
    refine q_getF 4 0 (a0 + 1) dX4_fill_4 fl_RX4_15 rfl ha0.1 ha0.2.2 ?_
    refine q_alen dX4_fill_7 ha0.2.1 ?_
    refine e_icmp_ge 24 dX4_fill_8 (by decide) (fun c_8 => ?_) (fun c_8 => ?_)
    · have hm := it_p c_8 hm
      refine e_aload_n (i := 0) rfl dX4_fill_24 ?_
      refine e_aload_n (i := 0) rfl dX4_fill_25 ?_
      refine q_getF 4 0 (a0 + 1) dX4_fill_26 fl_RX4_15 rfl ha0.1 ha0.2.2 ?_
      refine q_alen dX4_fill_29 ha0.2.1 ?_
      refine q_putI 4 1 dX4_fill_30 fl_RX4_21 rfl rfl ha0.1 ?_
      refine e_vret dX4_fill_33 rfl ?_
      have hm := some_in hm
      subst hm
      exact ⟨rfl, rfl⟩
    · have hm := it_n c_8 hm
      refine e_aload_n (i := 0) rfl dX4_fill_11 ?_
      refine q_getF 4 0 (a0 + 1) dX4_fill_12 fl_RX4_15 rfl ha0.1 ha0.2.2 ?_
      refine e_iload_n (i := 2) rfl dX4_fill_15 ?_
      refine e_iload_n (i := 1) rfl dX4_fill_16 ?_
      obtain ⟨c_17, hm⟩ := gd_s hm
      refine q_iast dX4_fill_17 ha0.2.1 (inb_in rfl c_17) ?_
      refine q_iinc (i := 2) (x2 + 1) rfl ic_1 rfl dX4_fill_18 ?_
      refine e_goto 2 dX4_fill_21 (by decide) ?_
      refine e_weak [.ref a0, .int x1, .int (x2 + 1)] ⟨rfl, ⟨rfl, ⟨rfl, trivial⟩⟩⟩ ?_
      exact ih (a_u2 I (a0 + 1) x2.toNatClampNeg x1) x1 (x2 + 1) hF _ hm
set_option maxRecDepth 100000 in
set_option maxHeartbeats 4000000 in
theorem uX4_fill {l : Launch} {K : a_KT} {g : a_GT} {N0 : Nat} (hko : a_kok K) {F : fT} {a0 : Nat} (ha0 : isRowN N0 F a0) (I : iT) (J : jT) (hF : True) (x1 : Int32) (q : iT) (hm : mX4_fill a0 I x1 = some q) : C l K g 0 0 0 yX4_fill cX4_fill 3 none [.ref a0, .int x1] (hq N0 I J F) (fun r2 h2 => r2 = none ∧ h2 = hq N0 q J F) := by
  unfold mX4_fill at hm
  refine c_of [.ref a0, .int x1, .null] (by decide) (Nat.le_of_ble_eq_true rfl) rfl ?_
  refine e_iconst (v := 0) (by decide) dX4_fill_0 ?_
  refine q_istore_n (i := 2) (by decide) rfl dX4_fill_1 ?_
  refine e_weak [.ref a0, .int x1, .int 0] ⟨rfl, ⟨rfl, ⟨rfl, trivial⟩⟩⟩ ?_
  exact uX4_fill_2 hko ha0 LF I x1 0 hF _ hm
set_option maxRecDepth 100000 in
set_option maxHeartbeats 4000000 in
theorem uX11_shiftOf {l : Launch} {K : a_KT} {g : a_GT} {N0 : Nat} (hko : a_kok K) (I : iT) (J : jT) (F : fT) (hF : True) (x0 : Int32) (q : Int32) (hm : mX11_shiftOf x0 = some q) : C l K g 0 0 0 yX11_shiftOf cX11_shiftOf 1 (some .int) [.int x0] (hq N0 I J F) (fun r2 h2 => r2 = some (.int q) ∧ h2 = hq N0 I J F) := by
  unfold mX11_shiftOf at hm
  refine c_of [.int x0] (by decide) (Nat.le_of_ble_eq_true rfl) rfl ?_
  refine e_iconst (v := 5) (by decide) dX11_shiftOf_0 ?_
  refine e_iconst (v := 5) (by decide) dX11_shiftOf_1 ?_
  refine e_iload_n (i := 0) rfl dX11_shiftOf_2 ?_
  refine e_isub dX11_shiftOf_3 ?_
  refine e_imul dX11_shiftOf_4 ?_
  refine e_iret dX11_shiftOf_5 rfl ?_
  have hm := some_in hm
  subst hm
  exact ⟨rfl, rfl⟩
set_option maxRecDepth 100000 in
set_option maxHeartbeats 4000000 in
theorem uX11_withLetter {l : Launch} {K : a_KT} {g : a_GT} {N0 : Nat} (hko : a_kok K) (I : iT) (J : jT) (F : fT) (hF : True) (x0 : Int32) (x1 : Int32) (x2 : Int32) (q : Int32) (hm : mX11_withLetter x0 x1 x2 = some q) : C l K g 1 0 0 yX11_withLetter cX11_withLetter 3 (some .int) [.int x0, .int x1, .int x2] (hq N0 I J F) (fun r2 h2 => r2 = some (.int q) ∧ h2 = hq N0 I J F) := by
  unfold mX11_withLetter at hm
  refine c_of [.int x0, .int x1, .int x2] (by decide) (Nat.le_of_ble_eq_true rfl) rfl ?_
  refine e_iload_n (i := 1) rfl dX11_withLetter_0 ?_
  refine e_if_lt 10 dX11_withLetter_1 (by decide) (fun c_1 => ?_) (fun c_1 => ?_)
  · have hm := it_p c_1 hm
    refine e_iload_n (i := 0) rfl dX11_withLetter_10 ?_
    refine e_iret dX11_withLetter_11 rfl ?_
    have hm := some_in hm
    subst hm
    exact ⟨rfl, rfl⟩
  · have hm := it_n c_1 hm
    refine e_iload_n (i := 1) rfl dX11_withLetter_4 ?_
    refine e_bipush (v := 6) (by decide) dX11_withLetter_5 ?_
    refine e_icmp_lt 12 dX11_withLetter_7 (by decide) (fun c_7 => ?_) (fun c_7 => ?_)
    · have hm := it_p c_7 hm
      refine e_iload_n (i := 0) rfl dX11_withLetter_12 ?_
      refine e_iload_n (i := 2) rfl dX11_withLetter_13 ?_
      refine e_bipush (v := 97) (by decide) dX11_withLetter_14 ?_
      refine e_isub dX11_withLetter_16 ?_
      refine e_iconst (v := 1) (by decide) dX11_withLetter_17 ?_
      refine e_iadd dX11_withLetter_18 ?_
      refine e_iload_n (i := 1) rfl dX11_withLetter_19 ?_
      obtain ⟨q1, eq1, hm⟩ := ob_some hm
      refine e_cS1 hko dX11_withLetter_20 ml_RX11_234 (by omega) (Nat.le_of_ble_eq_true rfl) (uX11_shiftOf hko I J F hF x1 _ eq1) ?_
      rintro _ _ ⟨rfl, rfl⟩
      refine e_ishl dX11_withLetter_23 ?_
      refine e_ior dX11_withLetter_24 ?_
      refine e_iret dX11_withLetter_25 rfl ?_
      have hm := some_in hm
      subst hm
      exact ⟨rfl, rfl⟩
    · have hm := it_n c_7 hm
      refine e_iload_n (i := 0) rfl dX11_withLetter_10 ?_
      refine e_iret dX11_withLetter_11 rfl ?_
      have hm := some_in hm
      subst hm
      exact ⟨rfl, rfl⟩
/-- a Row filled -/
def fillR (I : iT) (a : Nat) (x : Int32) : iT := a_u2 (fun b i => if b = a + 1 ∧ i < LEN (a + 1) then x else I b i) a 1 (nI (LEN (a + 1)))
theorem fill2_ok {a : Nat} {x : Int32} (hl : LEN (a + 1) < 2 ^ 31) : ∀ (k n j : Nat) (I : iT), LEN (a + 1) = j + k → k < n → mX4_fill_2 a n I x (nI j) = some (a_u2 (fun b i => if b = a + 1 ∧ j ≤ i ∧ i < LEN (a + 1) then x else I b i) a 1 (nI (LEN (a + 1)))) := by
  intro k
  induction k with
  | zero =>
    intro n j I hj hn
    obtain ⟨n, rfl⟩ : ∃ m, n = m + 1 := ⟨n - 1, by omega⟩
    rw [mX4_fill_2, if_pos (nI_le (by omega) (by omega))]
    congr 2
    funext b i
    rw [if_neg (by omega)]
  | succ k ih =>
    intro n j I hj hn
    obtain ⟨n, rfl⟩ : ∃ m, n = m + 1 := ⟨n - 1, by omega⟩
    rw [mX4_fill_2, if_neg (nI_ge (by omega) (by omega)), if_pos (show inb (nI j) (LEN (a + 1)) from vp_in_nI (by omega) (by omega)), nI_1, ih n (j + 1) _ (by omega) (by omega), nI_clamp (by omega)]
    congr 2
    funext b i
    by_cases h1 : b = a + 1 ∧ j ≤ i ∧ i < LEN (a + 1)
    · rw [if_pos h1]
      by_cases h2 : i = j
      · rw [if_neg (by omega), h1.1, h2, a_u2_s]
      · rw [if_pos (by omega)]
    · rw [if_neg h1, if_neg (by omega), a_u2_n _ _ (by omega)]
theorem fill_eq {a : Nat} {x : Int32} {I : iT} (hl : LEN (a + 1) < 100000) : mX4_fill a I x = some (fillR I a x) := by
  have h := fill2_ok (a := a) (x := x) (by omega) (LEN (a + 1)) LF 0 I (by omega) hl
  rw [nI_0] at h
  rw [mX4_fill, h]
  unfold fillR
  congr 2
  funext b i
  by_cases q : b = a + 1 ∧ i < LEN (a + 1)
  · rw [if_pos q, if_pos (by omega)]
  · rw [if_neg q, if_neg (by omega)]
theorem fillR_above {a n : Nat} {x : Int32} {I : iT} (ha : a + 1 ≤ n) : ∀ b, n < b → fillR I a x b = I b := by
  intro b hb
  unfold fillR
  rw [a_u2_r _ _ (by omega)]
  funext i
  rw [if_neg (by omega)]
def mX2_init_113 (k62 : iT → Int32 → Int32 → Int32 → Option (iT)) (I : iT) (x1 : Int32) (x2 : Int32) (x3 : Int32) : Option (iT) := k62 I x1 x2 (x3 + 1)
def mX2_init_62 : Nat → iT → Int32 → Int32 → Int32 → Option (iT)
  | 0, _, _, _, _ => none
  | n + 1, I, x1, x2, x3 => if (strLen 1000000) ≤ x3 then some I else if inb x3 (strLen 1000000).toNatClampNeg then if (strAt 1000000 x3) = 32 then (mX4_add 7 I x1).bind fun q2 => mX2_init_113 (mX2_init_62 n) q2.2 0 0 x3 else if inb x3 (strLen 1000000).toNatClampNeg then (mX11_withLetter x1 x2 (strAt 1000000 x3)).bind fun q1 => mX2_init_113 (mX2_init_62 n) I q1 (x2 + 1) x3 else none else none
set_option maxRecDepth 100000 in
set_option maxHeartbeats 4000000 in
theorem uX2_init_113 {l : Launch} {K : a_KT} {g : a_GT} {N0 : Nat} (hko : a_kok K) (hS : StrOK l K g) {J : jT} {F : fT} (hN : 11 ≤ N0) (hf60 : F 6 0 = 7) (hr7 : isRowN N0 F 7) {k62 : iT → Int32 → Int32 → Int32 → Option (iT)} (hk62 : ∀ (I : iT) (x1 : Int32) (x2 : Int32) (x3 : Int32) (_ : True) (q : iT), k62 I x1 x2 x3 = some q → E l K g 14 0 0 yX2_init cX2_init 4 none 62 [.ref 6, .int x1, .int x2, .int x3] [] (hq N0 I J F) (fun r2 h2 => r2 = none ∧ h2 = hq N0 q J F)) (I : iT) (x1 : Int32) (x2 : Int32) (x3 : Int32) (hF : True) (q : iT) (hm : mX2_init_113 k62 I x1 x2 x3 = some q) : E l K g 14 0 0 yX2_init cX2_init 4 none 113 [.ref 6, .int x1, .int x2, .int x3] [] (hq N0 I J F) (fun r2 h2 => r2 = none ∧ h2 = hq N0 q J F) := by
  unfold mX2_init_113 at hm
  refine q_iinc (i := 3) (x3 + 1) rfl ic_1 rfl dX2_init_113 ?_
  refine e_goto 62 dX2_init_116 (by decide) ?_
  refine e_weak [.ref 6, .int x1, .int x2, .int (x3 + 1)] ⟨rfl, ⟨rfl, ⟨rfl, ⟨rfl, trivial⟩⟩⟩⟩ ?_
  exact hk62 I x1 x2 (x3 + 1) hF _ hm
set_option maxRecDepth 100000 in
set_option maxHeartbeats 4000000 in
theorem uX2_init_62 {l : Launch} {K : a_KT} {g : a_GT} {N0 : Nat} (hko : a_kok K) (hS : StrOK l K g) {J : jT} {F : fT} (hN : 11 ≤ N0) (hf60 : F 6 0 = 7) (hr7 : isRowN N0 F 7) : ∀ (n : Nat) (I : iT) (x1 : Int32) (x2 : Int32) (x3 : Int32) (hF : True) (q : iT), mX2_init_62 n I x1 x2 x3 = some q → E l K g 14 0 0 yX2_init cX2_init 4 none 62 [.ref 6, .int x1, .int x2, .int x3] [] (hq N0 I J F) (fun r2 h2 => r2 = none ∧ h2 = hq N0 q J F) := by
  intro n
  induction n with
  | zero => intro I x1 x2 x3 hF q hm; cases hm
  | succ n ih =>
    intro I x1 x2 x3 hF q hm
    rw [mX2_init_62] at hm
    refine e_iload_n (i := 3) rfl dX2_init_62 ?_
    refine hS.2.2.2 0 dX2_init_63 (by decide) (by decide +kernel) ?_
    refine hS.1 1000000 dX2_init_65 ml_RX2_39 (by decide) ⟨by decide, by decide⟩ (Nat.le_of_ble_eq_true rfl) ?_
    refine e_icmp_ge 119 dX2_init_68 (by decide) (fun c_68 => ?_) (fun c_68 => ?_)
    · have hm := it_p c_68 hm
      refine e_vret dX2_init_119 rfl ?_
      have hm := some_in hm
      subst hm
      exact ⟨rfl, rfl⟩
    · have hm := it_n c_68 hm
      refine hS.2.2.2 0 dX2_init_71 (by decide) (by decide +kernel) ?_
      refine e_iload_n (i := 3) rfl dX2_init_73 ?_
      obtain ⟨c_74, hm⟩ := gd_s hm
      refine hS.2.1 1000000 dX2_init_74 ml_RX2_45 (by decide) ⟨by decide, by decide⟩ (Nat.le_of_ble_eq_true rfl) c_74 ?_
      refine e_bipush (v := 32) (by decide) dX2_init_77 ?_
      refine e_icmp_ne 98 dX2_init_79 (by decide) (fun c_79 => ?_) (fun c_79 => ?_)
      · have hm := it_n c_79 hm
        refine e_iload_n (i := 1) rfl dX2_init_98 ?_
        refine e_iload_n (i := 2) rfl dX2_init_99 ?_
        refine hS.2.2.2 0 dX2_init_100 (by decide) (by decide +kernel) ?_
        refine e_iload_n (i := 3) rfl dX2_init_102 ?_
        obtain ⟨c_103, hm⟩ := gd_s hm
        refine hS.2.1 1000000 dX2_init_103 ml_RX2_45 (by decide) ⟨by decide, by decide⟩ (Nat.le_of_ble_eq_true rfl) c_103 ?_
        obtain ⟨q1, eq1, hm⟩ := ob_some hm
        refine e_cS3 hko dX2_init_106 ml_RX2_53 (by omega) (Nat.le_of_ble_eq_true rfl) (uX11_withLetter hko I J F hF x1 x2 (strAt 1000000 x3) _ eq1) ?_
        rintro _ _ ⟨rfl, rfl⟩
        refine q_istore_n (i := 1) (by decide) rfl dX2_init_109 ?_
        refine q_iinc (i := 2) (x2 + 1) rfl ic_1 rfl dX2_init_110 ?_
        refine e_weak [.ref 6, .int q1, .int (x2 + 1), .int x3] ⟨rfl, ⟨rfl, ⟨rfl, ⟨rfl, trivial⟩⟩⟩⟩ ?_
        exact uX2_init_113 hko hS hN hf60 hr7 (ih) I q1 (x2 + 1) x3 hF _ hm
      · have hm := it_p c_79 hm
        refine e_aload_n (i := 0) rfl dX2_init_82 ?_
        refine q_getF 2 0 7 dX2_init_83 fl_RX2_14 rfl (show iz N0 6 2 from ⟨by decide +kernel, by decide, by omega⟩) hf60 ?_
        refine e_iload_n (i := 1) rfl dX2_init_86 ?_
        obtain ⟨q2, eq2, hm⟩ := ob_some hm
        refine e_cV1 hko dX2_init_87 ml_RX2_49 (show iz N0 7 4 from ⟨by decide +kernel, by decide, by omega⟩) (by decide) rfl (by omega) (Nat.le_of_ble_eq_true rfl) (uX4_add hko hr7 I J trivial x1 _ eq2) ?_
        rintro _ _ ⟨rfl, rfl⟩
        refine e_pop rfl dX2_init_90 ?_
        refine e_iconst (v := 0) (by decide) dX2_init_91 ?_
        refine q_istore_n (i := 1) (by decide) rfl dX2_init_92 ?_
        refine e_iconst (v := 0) (by decide) dX2_init_93 ?_
        refine q_istore_n (i := 2) (by decide) rfl dX2_init_94 ?_
        refine e_goto 113 dX2_init_95 (by decide) ?_
        refine e_weak [.ref 6, .int 0, .int 0, .int x3] ⟨rfl, ⟨rfl, ⟨rfl, ⟨rfl, trivial⟩⟩⟩⟩ ?_
        exact uX2_init_113 hko hS hN hf60 hr7 (ih) q2.2 0 0 x3 hF _ hm
