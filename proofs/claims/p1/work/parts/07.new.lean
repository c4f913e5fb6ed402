/-! NEW CELLS -/
theorem a_nofd : ∀ c, c < 13 → ∀ j, j < a_nf c → a_ty c j ≠ .float ∧ a_ty c j ≠ .double :=
  a_all13 (by decide +kernel) (by decide +kernel) (by decide +kernel) (by decide +kernel) (by decide +kernel) (by decide +kernel) (by decide +kernel) (by decide +kernel) (by decide +kernel) (by decide +kernel) (by decide +kernel) (by decide +kernel) (by decide +kernel)
theorem a_u1_s {α : Type} (f : Nat → α) (a : Nat) (v : α) : a_u1 f a v a = v := by simp [a_u1]
theorem a_u1_n {α : Type} (f : Nat → α) {a : Nat} (v : α) {x : Nat} (h : x ≠ a) : a_u1 f a v x = f x := by simp [a_u1, h]
theorem a_new_cell_o {g : a_GT} {σ : Nat → Nat} {h : aH} {c n : Nat} (hc : c < 13) : a_cell g σ (aNew h c n) (aN h + 1) = .inr (c, (List.range (a_nf c)).map (fun j => defaultValue (a_ty c j))) := by
  have h1 : aC (aNew h c n) (aN h + 1) = c := a_u1_s _ _ _
  rw [a_cell_o h1 hc]
  unfold a_fs
  congr 2
  refine List.map_congr_left (fun j hj => ?_)
  have i1 : aI (aNew h c n) (aN h + 1) = (fun _ => 0) := a_u1_s _ _ _
  have i2 : aJ (aNew h c n) (aN h + 1) = (fun _ => 0) := a_u1_s _ _ _
  have i3 : aF (aNew h c n) (aN h + 1) = (fun _ => 0) := a_u1_s _ _ _
  obtain ⟨f1, f2⟩ := a_nofd c hc j (List.mem_range.mp hj)
  unfold a_av
  rw [i1, i2, i3]
  cases ht : a_ty c j <;> first | rfl | exact absurd ht f1 | exact absurd ht f2
theorem a_new_cell_i {g : a_GT} {σ : Nat → Nat} {h : aH} {n : Nat} : a_cell g σ (aNew h 100 n) (aN h + 1) = .inl (g.2 0, n, .inl (fun _ => 0)) := by
  have h1 : aC (aNew h 100 n) (aN h + 1) = 100 := a_u1_s _ _ _
  have i1 : aI (aNew h 100 n) (aN h + 1) = (fun _ => 0) := a_u1_s _ _ _
  have i2 : aL (aNew h 100 n) (aN h + 1) = n := a_u1_s _ _ _
  rw [a_cell_i h1, i1, i2]
theorem a_new_cell_j {g : a_GT} {σ : Nat → Nat} {h : aH} {n : Nat} : a_cell g σ (aNew h 101 n) (aN h + 1) = .inl (g.2 1, n, .inr (.inl (fun _ => 0))) := by
  have h1 : aC (aNew h 101 n) (aN h + 1) = 101 := a_u1_s _ _ _
  have i1 : aJ (aNew h 101 n) (aN h + 1) = (fun _ => 0) := a_u1_s _ _ _
  have i2 : aL (aNew h 101 n) (aN h + 1) = n := a_u1_s _ _ _
  rw [a_cell_j h1, i1, i2]
theorem a_new_cell_z {g : a_GT} {σ : Nat → Nat} {h : aH} {n : Nat} : a_cell g σ (aNew h 102 n) (aN h + 1) = .inl (g.2 2, n, .inl (fun _ => 0)) := by
  have h1 : aC (aNew h 102 n) (aN h + 1) = 102 := a_u1_s _ _ _
  have i1 : aI (aNew h 102 n) (aN h + 1) = (fun _ => 0) := a_u1_s _ _ _
  have i2 : aL (aNew h 102 n) (aN h + 1) = n := a_u1_s _ _ _
  rw [a_cell_z h1, i1, i2]
section
variable {l : Launch} {K : a_KT} {g : a_GT} {d nc ns : Nat} {y : MethodName} {cc : ByteArray} {nL : Nat} {ret : Option FieldType} {pc : Nat} {ls st : List Value} {h : aH} {Q : Option Value → aH → Prop}
theorem a_newlow {σ : Nat → Nat} {n q : Nat} (hsz : n + 1 < 1000000) : ∀ a, (a ≤ n ∨ 1000000 ≤ a) → a_u1 σ (n + 1) q a = σ a := by
  intro a ha
  exact a_u1_n _ _ (by omega)
theorem a_newext {σ : Nat → Nat} {n q : Nat} (hsz : n + 1 < 1000000) : a_ext σ n (a_u1 σ (n + 1) q) (n + 1) := ⟨by omega, Or.inr hsz, fun a ha => a_u1_n _ _ (by omega)⟩
theorem e_new (hko : a_kok K) (hy : a_lays) {idx : Nat} (c : Nat) (hd : decode cc pc = .ok (.new idx, 3)) (hc : c < 13) (hw : Cond.classLink y.cls idx (a_rc c) ∈ WS ∧ Cond.instantiable (a_rc c) (a_nf c) ∈ WS ∧ Cond.initialized (a_rc c) ∈ WS) (hh : a_hok h) (hsz : aN h + 1 < 1000000) (hok : a_okl (aN h) ls ∧ a_okl (aN h) st)
    (k : E l K g d nc ns y cc nL ret (pc + 3) ls (.ref (aN h + 1) :: st) (aNew h c 0) Q) : E l K g d (nc + 1) (ns + a_nf c) y cc nL ret pc ls st h Q := by
  intro p e s m args below meth cd cx R hR1 hR2 σ A H locs lsA cells slots Qw hcl hs ha hl hk
  obtain ⟨hP, hD, hS, hA, hKc⟩ := ha
  refine va_new (C := a_rc c) (T := a_tb c) (N := a_nf c) (ci := c) (fs := (List.range (a_nf c)).map (fun j => defaultValue (a_ty c j))) cx.1 cx.2.1 cx.2.2.2.2.2.1 (hy c hc) (a_ty c) (a_tyok c hc) cx.2.2.2.2.1 (cx.2.2.2.2.2.1 _ hw.1) (cx.2.2.2.2.2.1 _ hw.2.1) (cx.2.2.2.2.2.1 _ hw.2.2) cx.2.2.2.2.2.2.2.2.2 hP hD hS hA (a_clc c hc) (fun j hj => ?_) (by omega) (by omega) hd (fun q H1 hP1 hD1 hS1 => ?_)
  · unfold vp_V
    rw [List.getD_eq_getElem?_getD, List.getElem?_map, List.getElem?_range hj]
    rfl
  · have hw1 := a_w_new (g := g) (σ := σ) (c := c) (n := 0) (q := q) hh hsz
    rw [a_new_cell_o hc] at hw1
    rw [← hw1] at hP1 hD1
    have hm : Value.ref q :: st.map (a_cv σ) = (Value.ref (aN h + 1) :: st).map (a_cv (a_u1 σ (aN h + 1) q)) := by
      rw [List.map_cons, a_map_ext hok.2 (a_newlow hsz), a_cvr (by omega), a_u1_s]
    rw [hm]
    exact k p e s m args below meth cd cx R hR1 hR2 (a_u1 σ (aN h + 1) q) A H1 locs lsA (cells + 1) (slots + a_nf c) Qw (by omega) (by omega) ⟨hP1, hD1, hS1, hA, hko.2.2.2.2 _ _ _ _ _ hKc (a_newext hsz).big⟩ (a_lv_ext hok.1 (a_newlow hsz) hl)
      (fun r2 h2 σ2 H2 locs2 ls2 pc2 c2 s2 q1 q2 q3 q4 q5 q6 q7 => hk r2 h2 σ2 H2 locs2 ls2 pc2 c2 s2 q1 q2 ((a_newext hsz).tr q3) (by omega) (by omega) (fun z => by omega) q7)
theorem a_arrK {s : State} (hK : va_K g.1 vwCl (a_tys g) s) {t : Nat} {ty : FieldType} (ht : (a_tys g)[t]? = some (g.2 t, ty)) (hty : ty = .int ∨ ty = .long ∨ ty = .boolean) {cA : ClassId} (hK1 : va_K g.1 vwCl (a_tys g ++ [(cA, ty)]) s) : cA = g.2 t := by
  have h1 := (hK.2 t _ ht).2
  have h2 := (hK1.2 3 (cA, ty) (by rfl)).2
  rcases hty with rfl | rfl | rfl
  · exact Option.some.inj ((show s.vm.findClass _ = some cA from h2).symm.trans h1)
  · exact Option.some.inj ((show s.vm.findClass _ = some cA from h2).symm.trans h1)
  · exact Option.some.inj ((show s.vm.findClass _ = some cA from h2).symm.trans h1)
theorem e_newa (hko : a_kok K) {atype : ArrayType} (t : Nat) {x : Int32} (N : Nat) (hd : decode cc pc = .ok (.newarray atype, 2)) (ht : (t = 0 ∧ atype = .int) ∨ (t = 1 ∧ atype = .long) ∨ (t = 2 ∧ atype = .boolean)) (hw : Cond.arrayClass (newarray.typeOf atype) ∈ WS) (hx : ¬ x < 0) (hN : x.toNatClampNeg = N) (hN2 : N ≤ 100000) (hh : a_hok h) (hsz : aN h + 1 < 1000000) (hok : a_okl (aN h) ls ∧ a_okl (aN h) st)
    (k : E l K g d nc ns y cc nL ret (pc + 2) ls (.ref (aN h + 1) :: st) (aNew h (100 + t) N) Q) : E l K g d (nc + 1) (ns + N) y cc nL ret pc ls (.int x :: st) h Q := by
  intro p e s m args below meth cd cx R hR1 hR2 σ A H locs lsA cells slots Qw hcl hs ha hl hk
  obtain ⟨hP, hD, hS, hA, hKc⟩ := ha
  have hK := cx.2.2.2.2.2.2.2.2.2
  have fin : ∀ (q : Nat) (H1 : Heap) (e1 : va_E), e1 = a_cell g (a_u1 σ (aN h + 1) q) (aNew h (100 + t) N) (aN h + 1) → va_P g.1 vwCl (a_w g σ h ++ [(q, e1)]) H1 → va_D A (a_w g σ h ++ [(q, e1)]) → va_S A s.heap H1 locs → W p l e R s m args below meth cd H1 locs (cells + 1) (slots + N) Qw (F0 m (pc + 2) lsA (.ref q :: st.map (a_cv σ))) := by
    intro q H1 e1 he hP1 hD1 hS1
    subst he
    rw [← a_w_new hh hsz] at hP1 hD1
    have hm : Value.ref q :: st.map (a_cv σ) = (Value.ref (aN h + 1) :: st).map (a_cv (a_u1 σ (aN h + 1) q)) := by
      rw [List.map_cons, a_map_ext hok.2 (a_newlow hsz), a_cvr (by omega), a_u1_s]
    rw [hm]
    exact k p e s m args below meth cd cx R hR1 hR2 (a_u1 σ (aN h + 1) q) A H1 locs lsA (cells + 1) (slots + N) Qw (by omega) (by omega) ⟨hP1, hD1, hS1, hA, hko.2.2.2.2 _ _ _ _ _ hKc (a_newext hsz).big⟩ (a_lv_ext hok.1 (a_newlow hsz) hl)
      (fun r2 h2 σ2 H2 locs2 ls2 pc2 c2 s2 q1 q2 q3 q4 q5 q6 q7 => hk r2 h2 σ2 H2 locs2 ls2 pc2 c2 s2 q1 q2 ((a_newext hsz).tr q3) (by omega) (by omega) (fun z => by omega) q7)
  rcases ht with ⟨rfl, rfl⟩ | ⟨rfl, rfl⟩ | ⟨rfl, rfl⟩
  · refine va_newa (a0 := (N, .inl (fun _ => 0))) cx.1 cx.2.1 (cx.2.2.2.2.2.1 _ hw) rfl hK hP hD hS hA (fun _ => rfl) hx hN (by show N * 4 ≤ _; omega) (by omega) (by omega) hd (fun q cA H1 hK1 hP1 hD1 hS1 => ?_)
    have e1 : cA = g.2 0 := a_arrK hK (t := 0) rfl (Or.inl rfl) hK1
    subst e1
    exact fin q H1 _ (by rw [a_new_cell_i]) hP1 hD1 hS1
  · refine va_newa (a0 := (N, .inr (.inl (fun _ => 0)))) cx.1 cx.2.1 (cx.2.2.2.2.2.1 _ hw) rfl hK hP hD hS hA (fun _ => rfl) hx hN (by show N * 8 ≤ _; omega) (by omega) (by omega) hd (fun q cA H1 hK1 hP1 hD1 hS1 => ?_)
    have e1 : cA = g.2 1 := a_arrK hK (t := 1) rfl (Or.inr (Or.inl rfl)) hK1
    subst e1
    exact fin q H1 _ (by rw [a_new_cell_j]) hP1 hD1 hS1
  · refine va_newa (a0 := (N, .inl (fun _ => 0))) cx.1 cx.2.1 (cx.2.2.2.2.2.1 _ hw) rfl hK hP hD hS hA (fun _ => rfl) hx hN (by show N * 1 ≤ _; omega) (by omega) (by omega) hd (fun q cA H1 hK1 hP1 hD1 hS1 => ?_)
    have e1 : cA = g.2 2 := a_arrK hK (t := 2) rfl (Or.inr (Or.inr rfl)) hK1
    subst e1
    exact fin q H1 _ (by rw [a_new_cell_z]) hP1 hD1 hS1
end
