/-! FIELDS, ARRAYS, NEW -/
/-- the link of a field: own's entry idx is field j of class c -/
def a_fl (own : String) (idx c j : Nat) : Prop := c < 13 ∧ j < a_nf c ∧ (a_tb c j).1 = a_rc c ∧ (Cond.fieldLink own idx (a_rc c) (a_tb c j).2.1 (a_tb c j).2.2.1 ∈ WS ∨ ∃ host, Cond.fieldLinkNest own idx (a_rc c) (a_tb c j).2.1 (a_tb c j).2.2.1 host ∈ NW)
/-- the words that lay the fields of every class -/
def a_lays : Prop := ∀ c, c < 13 → ∀ w ∈ u_ws (a_rc c) (a_tb c) (a_nf c), w ∈ WS
section
variable {l : Launch} {K : a_KT} {g : a_GT} {d nc ns : Nat} {y : MethodName} {cc : ByteArray} {nL : Nat} {ret : Option FieldType} {pc : Nat} {ls st : List Value} {h : aH} {Q : Option Value → aH → Prop}
theorem a_cvr {σ : Nat → Nat} {a : Nat} (h0 : 0 < a) : a_cv σ (.ref a) = .ref (σ a) := by simp only [a_cv, if_neg (Nat.ne_of_gt h0)]
theorem e_get (hy : a_lays) {idx c j a : Nat} {v : Value} (hd : decode cc pc = .ok (.getfield idx, 3)) (hf : a_fl y.cls idx c j) (hc : a_is h a c) (hv : a_av h a (a_ty c j) j = v) (k : E l K g d nc ns y cc nL ret (pc + 3) ls (v :: st) h Q) : E l K g d nc ns y cc nL ret pc ls (.ref a :: st) h Q := by
  subst hv
  obtain ⟨hc1, hj, hown, hlk⟩ := hf
  obtain ⟨hc2, h0, h1⟩ := hc
  intro p e s m args below meth cd cx R hR1 hR2 σ A H locs lsA cells slots Qw hcl hs ha hl hk
  have kk := k p e s m args below meth cd cx R hR1 hR2 σ A H locs lsA cells slots Qw hcl hs ha hl hk
  obtain ⟨hP, hD, hS, hA, hKc⟩ := ha
  have he := a_w_at (g := g) (σ := σ) h0 h1
  rw [a_cell_o hc2 hc1] at he
  have hm : (Value.ref a :: st).map (a_cv σ) = .ref (σ a) :: st.map (a_cv σ) := by rw [List.map_cons, a_cvr h0]
  rw [hm]
  rcases hlk with hw | ⟨host, hw⟩
  · exact va_get (C := a_rc c) (T := a_tb c) (N := a_nf c) (ci := c) cx.1 cx.2.1 cx.2.2.2.2.2.1 (hy c hc1) cx.2.2.2.2.1 cx.2.2.2.2.2.2.2.2.2 hP (a - 1) he (a_clc c hc1) j hj (cx.2.2.2.2.2.1 _ hw) (fun x hx => by rw [hown] at hx; exact hx) (a_fs_at hj) hd kk
  · exact va_getN (C := a_rc c) (T := a_tb c) (N := a_nf c) (ci := c) cx.1 cx.2.1 cx.2.2.2.2.2.1 (hy c hc1) cx.2.2.2.2.1 cx.2.2.2.2.2.2.2.2.2 hP (a - 1) he (a_clc c hc1) j hj (va_Nw.use rfl (cx.2.2.2.2.2.2.1 _ hw)) (fun x hx => by rw [hown] at hx; exact hx) (a_fs_at hj) hd kk
/-- putfield, in the heap's words: h' is h with the field's value v -/
theorem e_put (hy : a_lays) {idx c j a : Nat} {v : Value} (h' : aH) (hd : decode cc pc = .ok (.putfield idx, 3)) (hf : a_fl y.cls idx c j) (hfin : (a_tb c j).2.2.2 = false ∨ y.name = "<init>" ∧ y.cls = a_rc c ∧ Cond.fieldLink y.cls idx (a_rc c) (a_tb c j).2.1 (a_tb c j).2.2.1 ∈ WS) (hc : a_is h a c) (hn : ∀ σ, narrow (a_ty c j) (a_cv σ v) = a_cv σ v) (hfit : ∀ σ, fits (a_ty c j) (a_cv σ v) = true)
    (hv : a_av h' a (a_ty c j) j = v) (hN : aN h' = aN h) (hC : aC h' a = aC h a) (ho : ∀ i, i ≠ j → ∀ ty, a_av h' a ty i = a_av h a ty i) (hb : ∀ (g : a_GT) (σ : Nat → Nat) (b : Nat), b ≠ a → a_cell g σ h' b = a_cell g σ h b) (k : E l K g d nc ns y cc nL ret (pc + 3) ls st h' Q) : E l K g d nc ns y cc nL ret pc ls (v :: .ref a :: st) h Q := by
  obtain ⟨hc1, hj, hown, hlk⟩ := hf
  obtain ⟨hc2, h0, h1⟩ := hc
  intro p e s m args below meth cd cx R hR1 hR2 σ A H locs lsA cells slots Qw hcl hs ha hl hk
  obtain ⟨hP, hD, hS, hA, hKc⟩ := ha
  have he := a_w_at (g := g) (σ := σ) h0 h1
  rw [a_cell_o hc2 hc1] at he
  have hset : (a_w g σ h).set (a - 1) (σ a, .inr (c, (a_fs σ h a c).set j (a_cv σ v))) = a_w g σ h' := by
    refine a_w_set h0 hN ?_ (hb g σ)
    rw [a_cell_o (hC.trans hc2) hc1, a_fs_set (h' := h') (by rw [hv]) ho]
  have hm : (v :: Value.ref a :: st).map (a_cv σ) = a_cv σ v :: .ref (σ a) :: st.map (a_cv σ) := by rw [List.map_cons, List.map_cons, a_cvr h0]
  rw [hm]
  have hk' : ∀ (r : Option Value) (h'' : aH) (σ' : Nat → Nat) (H' : Heap) (locs' : List Loc) (lsA' : Array Slot) (pc' cells' slots' : Nat), Q r h'' → a_at K g s σ' A h'' H' locs' → a_ext σ (aN h') σ' (aN h'') → cells' ≤ cells + nc → slots' ≤ slots + ns → (nc = 0 → σ' = σ) → a_ret cc ret pc' r →
    W p l e R s m args below meth cd H' locs' cells' slots' Qw (F0 m pc' lsA' (r.map (a_cv σ')).toList) := by
    rw [hN]; exact hk
  have kk : ∀ (H1 : Heap) (locs1 : List Loc), va_P g.1 vwCl ((a_w g σ h).set (a - 1) (σ a, .inr (c, (a_fs σ h a c).set j (a_cv σ v)))) H1 → va_D A ((a_w g σ h).set (a - 1) (σ a, .inr (c, (a_fs σ h a c).set j (a_cv σ v)))) → va_S A s.heap H1 locs1 → W p l e R s m args below meth cd H1 locs1 cells slots Qw (F0 m (pc + 3) lsA (st.map (a_cv σ))) := by
    intro H1 locs1 hP1 hD1 hS1
    rw [hset] at hP1 hD1
    exact k p e s m args below meth cd cx R hR1 hR2 σ A H1 locs1 lsA cells slots Qw hcl hs ⟨hP1, hD1, hS1, hA, hKc⟩ hl hk'
  rcases hfin with hfin | ⟨hin, hcl2, hw⟩
  · rcases hlk with hw | ⟨host, hw⟩
    · exact va_put (C := a_rc c) (T := a_tb c) (N := a_nf c) (ci := c) cx.1 cx.2.1 cx.2.2.2.2.2.1 (hy c hc1) (a_ty c) (a_tyok c hc1) (a_nmok c hc1) cx.2.2.2.2.1 cx.2.2.2.2.2.2.2.2.2 hP hD hS (a - 1) he (a_clc c hc1) j hj (cx.2.2.2.2.2.1 _ hw) (fun x hx => by rw [hown] at hx; exact hx) hfin (a_tyok c hc1 j hj) (hn σ) (hfit σ) (by rw [a_fs_len]; exact hj) hd kk
    · exact va_putN (C := a_rc c) (T := a_tb c) (N := a_nf c) (ci := c) cx.1 cx.2.1 cx.2.2.2.2.2.1 (hy c hc1) (a_ty c) (a_tyok c hc1) (a_nmok c hc1) cx.2.2.2.2.1 cx.2.2.2.2.2.2.2.2.2 hP hD hS (a - 1) he (a_clc c hc1) j hj (va_Nw.use rfl (cx.2.2.2.2.2.2.1 _ hw)) (fun x hx => by rw [hown] at hx; exact hx) hfin (a_tyok c hc1 j hj) (hn σ) (hfit σ) (by rw [a_fs_len]; exact hj) hd kk
  · cases hb2 : (a_tb c j).2.2.2 with
    | false => exact va_put (C := a_rc c) (T := a_tb c) (N := a_nf c) (ci := c) cx.1 cx.2.1 cx.2.2.2.2.2.1 (hy c hc1) (a_ty c) (a_tyok c hc1) (a_nmok c hc1) cx.2.2.2.2.1 cx.2.2.2.2.2.2.2.2.2 hP hD hS (a - 1) he (a_clc c hc1) j hj (cx.2.2.2.2.2.1 _ hw) (fun x hx => by rw [hown] at hx; exact hx) hb2 (a_tyok c hc1 j hj) (hn σ) (hfit σ) (by rw [a_fs_len]; exact hj) hd kk
    | true => exact va_putF (C := a_rc c) (T := a_tb c) (N := a_nf c) (ci := c) cx.1 cx.2.1 cx.2.2.2.2.2.1 (hy c hc1) (a_ty c) (a_tyok c hc1) (a_nmok c hc1) cx.2.2.2.2.1 cx.2.2.2.2.2.2.2.2.2 hP hD hS (a - 1) he (a_clc c hc1) j hj (cx.2.2.2.2.2.1 _ hw) (fun x hx => by rw [hown] at hx; exact hx) hb2 (cx.2.2.2.2.2.2.2.2.1 hin) (hown.trans hcl2.symm) (a_tyok c hc1 j hj) (hn σ) (hfit σ) (by rw [a_fs_len]; exact hj) hd kk
theorem a_av_SI {h : aH} {a j i : Nat} {x : Int32} (hi : i ≠ j) (ty : FieldType) : a_av (aSI h a j x) a ty i = a_av h a ty i := by
  cases ty <;> first | rfl | (show Value.int (a_u2 (aI h) a j x a i) = .int (aI h a i); rw [a_u2_n _ _ (fun q => hi q.2)])
theorem a_av_SJ {h : aH} {a j i : Nat} {x : Int64} (hi : i ≠ j) (ty : FieldType) : a_av (aSJ h a j x) a ty i = a_av h a ty i := by
  cases ty <;> first | rfl | (show Value.long (a_u2 (aJ h) a j x a i) = .long (aJ h a i); rw [a_u2_n _ _ (fun q => hi q.2)])
theorem a_av_SF {h : aH} {a j i : Nat} {x : Nat} (hi : i ≠ j) (ty : FieldType) : a_av (aSF h a j x) a ty i = a_av h a ty i := by
  cases ty <;> first | rfl | (show Value.ref (a_u2 (aF h) a j x a i) = .ref (aF h a i); rw [a_u2_n _ _ (fun q => hi q.2)])
def a_kI : FieldType → Bool
  | .long => false
  | .object _ => false
  | .array _ => false
  | _ => true
def a_kF : FieldType → Bool
  | .object _ => true
  | .array _ => true
  | _ => false
theorem a_avI {h : aH} {a j : Nat} {ty : FieldType} (ht : a_kI ty = true) : a_av h a ty j = .int (aI h a j) := by
  cases ty <;> first | rfl | cases ht
theorem a_avF {h : aH} {a j : Nat} {ty : FieldType} (ht : a_kF ty = true) : a_av h a ty j = .ref (aF h a j) := by
  cases ty <;> first | rfl | cases ht
theorem e_getI (hy : a_lays) {idx : Nat} (c j : Nat) {a : Nat} (hd : decode cc pc = .ok (.getfield idx, 3)) (hf : a_fl y.cls idx c j) (ht : a_kI (a_ty c j) = true) (hc : a_is h a c) (k : E l K g d nc ns y cc nL ret (pc + 3) ls (.int (aI h a j) :: st) h Q) : E l K g d nc ns y cc nL ret pc ls (.ref a :: st) h Q := e_get hy hd hf hc (a_avI ht) k
theorem e_getJ (hy : a_lays) {idx : Nat} (c j : Nat) {a : Nat} (hd : decode cc pc = .ok (.getfield idx, 3)) (hf : a_fl y.cls idx c j) (ht : a_ty c j = .long) (hc : a_is h a c) (k : E l K g d nc ns y cc nL ret (pc + 3) ls (.long (aJ h a j) :: st) h Q) : E l K g d nc ns y cc nL ret pc ls (.ref a :: st) h Q := e_get hy hd hf hc (by rw [ht]; rfl) k
theorem e_getF (hy : a_lays) {idx : Nat} (c j : Nat) {a : Nat} (hd : decode cc pc = .ok (.getfield idx, 3)) (hf : a_fl y.cls idx c j) (ht : a_kF (a_ty c j) = true) (hc : a_is h a c) (k : E l K g d nc ns y cc nL ret (pc + 3) ls (.ref (aF h a j) :: st) h Q) : E l K g d nc ns y cc nL ret pc ls (.ref a :: st) h Q := e_get hy hd hf hc (a_avF ht) k
theorem e_putI (hy : a_lays) {idx : Nat} (c j : Nat) {a : Nat} {x : Int32} (hd : decode cc pc = .ok (.putfield idx, 3)) (hf : a_fl y.cls idx c j) (hfin : (a_tb c j).2.2.2 = false) (ht : a_ty c j = .int) (hc : a_is h a c) (k : E l K g d nc ns y cc nL ret (pc + 3) ls st (aSI h a j x) Q) : E l K g d nc ns y cc nL ret pc ls (.int x :: .ref a :: st) h Q :=
  e_put hy (aSI h a j x) hd hf (Or.inl hfin) hc (fun σ => by rw [ht]; rfl) (fun σ => by rw [ht]; rfl) (by rw [ht]; show Value.int (a_u2 (aI h) a j x a j) = _; rw [a_u2_s]) rfl rfl (fun i hi ty => a_av_SI hi ty) (fun _ _ _ hb => a_cell_SI hb) k
theorem e_putZ (hy : a_lays) {idx : Nat} (c j : Nat) {a : Nat} {x : Int32} (hd : decode cc pc = .ok (.putfield idx, 3)) (hf : a_fl y.cls idx c j) (hfin : (a_tb c j).2.2.2 = false) (ht : a_ty c j = .boolean) (hx : x = 0 ∨ x = 1) (hc : a_is h a c) (k : E l K g d nc ns y cc nL ret (pc + 3) ls st (aSI h a j x) Q) : E l K g d nc ns y cc nL ret pc ls (.int x :: .ref a :: st) h Q :=
  e_put hy (aSI h a j x) hd hf (Or.inl hfin) hc (fun σ => by rw [ht]; rcases hx with rfl | rfl <;> rfl) (fun σ => by rw [ht]; rcases hx with rfl | rfl <;> rfl) (by rw [ht]; show Value.int (a_u2 (aI h) a j x a j) = _; rw [a_u2_s]) rfl rfl (fun i hi ty => a_av_SI hi ty) (fun _ _ _ hb => a_cell_SI hb) k
theorem e_putJ (hy : a_lays) {idx : Nat} (c j : Nat) {a : Nat} {x : Int64} (hd : decode cc pc = .ok (.putfield idx, 3)) (hf : a_fl y.cls idx c j) (hfin : (a_tb c j).2.2.2 = false) (ht : a_ty c j = .long) (hc : a_is h a c) (k : E l K g d nc ns y cc nL ret (pc + 3) ls st (aSJ h a j x) Q) : E l K g d nc ns y cc nL ret pc ls (.long x :: .ref a :: st) h Q :=
  e_put hy (aSJ h a j x) hd hf (Or.inl hfin) hc (fun σ => by rw [ht]; rfl) (fun σ => by rw [ht]; rfl) (by rw [ht]; show Value.long (a_u2 (aJ h) a j x a j) = _; rw [a_u2_s]) rfl rfl (fun i hi ty => a_av_SJ hi ty) (fun _ _ _ hb => a_cell_SJ hb) k
theorem a_ref_nar {ty : FieldType} (ht : a_kF ty = true) (σ : Nat → Nat) (x : Nat) : narrow ty (a_cv σ (.ref x)) = a_cv σ (.ref x) ∧ fits ty (a_cv σ (.ref x)) = true := by
  have h1 : a_cv σ (.ref x) = .null ∨ a_cv σ (.ref x) = .ref (σ x) := by
    simp only [a_cv]
    split
    · exact Or.inl rfl
    · exact Or.inr rfl
  cases ty <;> first | (rcases h1 with q | q <;> rw [q] <;> exact ⟨rfl, rfl⟩) | exact absurd ht (by decide)
theorem e_putF (hy : a_lays) {idx : Nat} (c j : Nat) {a x : Nat} (hd : decode cc pc = .ok (.putfield idx, 3)) (hf : a_fl y.cls idx c j) (hfin : (a_tb c j).2.2.2 = false ∨ y.name = "<init>" ∧ y.cls = a_rc c ∧ Cond.fieldLink y.cls idx (a_rc c) (a_tb c j).2.1 (a_tb c j).2.2.1 ∈ WS) (ht : a_kF (a_ty c j) = true) (hc : a_is h a c) (k : E l K g d nc ns y cc nL ret (pc + 3) ls st (aSF h a j x) Q) : E l K g d nc ns y cc nL ret pc ls (.ref x :: .ref a :: st) h Q :=
  e_put hy (aSF h a j x) hd hf hfin hc (fun σ => (a_ref_nar ht σ x).1) (fun σ => (a_ref_nar ht σ x).2) (by rw [a_avF ht]; show Value.ref (a_u2 (aF h) a j x a j) = _; rw [a_u2_s]) rfl rfl (fun i hi ty => a_av_SF hi ty) (fun _ _ _ hb => a_cell_SF hb) k
theorem e_iald {a : Nat} {i : Int32} (hd : decode cc pc = .ok (.iaload, 1)) (hc : a_is h a 100) (hi : vp_in i (aL h a)) (k : E l K g d nc ns y cc nL ret (pc + 1) ls (.int (aI h a i.toNatClampNeg) :: st) h Q) : E l K g d nc ns y cc nL ret pc ls (.int i :: .ref a :: st) h Q := by
  obtain ⟨hc2, h0, h1⟩ := hc
  intro p e s m args below meth cd cx R hR1 hR2 σ A H locs lsA cells slots Qw hcl hs ha hl hk
  have kk := k p e s m args below meth cd cx R hR1 hR2 σ A H locs lsA cells slots Qw hcl hs ha hl hk
  obtain ⟨hP, hD, hS, hA, hKc⟩ := ha
  have he := a_w_at (g := g) (σ := σ) h0 h1
  rw [a_cell_i hc2] at he
  have hm : (Value.int i :: Value.ref a :: st).map (a_cv σ) = .int i :: .ref (σ a) :: st.map (a_cv σ) := by rw [List.map_cons, List.map_cons, a_cvr h0]; rfl
  rw [hm]
  exact va_iald cx.1 cx.2.1 cx.2.2.2.2.2.2.2.2.2 hP (a - 1) 0 he rfl hi hd kk
theorem e_lald {a : Nat} {i : Int32} (hd : decode cc pc = .ok (.laload, 1)) (hc : a_is h a 101) (hi : vp_in i (aL h a)) (k : E l K g d nc ns y cc nL ret (pc + 1) ls (.long (aJ h a i.toNatClampNeg) :: st) h Q) : E l K g d nc ns y cc nL ret pc ls (.int i :: .ref a :: st) h Q := by
  obtain ⟨hc2, h0, h1⟩ := hc
  intro p e s m args below meth cd cx R hR1 hR2 σ A H locs lsA cells slots Qw hcl hs ha hl hk
  have kk := k p e s m args below meth cd cx R hR1 hR2 σ A H locs lsA cells slots Qw hcl hs ha hl hk
  obtain ⟨hP, hD, hS, hA, hKc⟩ := ha
  have he := a_w_at (g := g) (σ := σ) h0 h1
  rw [a_cell_j hc2] at he
  have hm : (Value.int i :: Value.ref a :: st).map (a_cv σ) = .int i :: .ref (σ a) :: st.map (a_cv σ) := by rw [List.map_cons, List.map_cons, a_cvr h0]; rfl
  rw [hm]
  exact va_lald cx.1 cx.2.1 cx.2.2.2.2.2.2.2.2.2 hP (a - 1) 1 he rfl hi hd kk
theorem e_zald {a : Nat} {i : Int32} (hd : decode cc pc = .ok (.baload, 1)) (hc : a_is h a 102) (hi : vp_in i (aL h a)) (k : E l K g d nc ns y cc nL ret (pc + 1) ls (.int (aI h a i.toNatClampNeg) :: st) h Q) : E l K g d nc ns y cc nL ret pc ls (.int i :: .ref a :: st) h Q := by
  obtain ⟨hc2, h0, h1⟩ := hc
  intro p e s m args below meth cd cx R hR1 hR2 σ A H locs lsA cells slots Qw hcl hs ha hl hk
  have kk := k p e s m args below meth cd cx R hR1 hR2 σ A H locs lsA cells slots Qw hcl hs ha hl hk
  obtain ⟨hP, hD, hS, hA, hKc⟩ := ha
  have he := a_w_at (g := g) (σ := σ) h0 h1
  rw [a_cell_z hc2] at he
  have hm : (Value.int i :: Value.ref a :: st).map (a_cv σ) = .int i :: .ref (σ a) :: st.map (a_cv σ) := by rw [List.map_cons, List.map_cons, a_cvr h0]; rfl
  rw [hm]
  exact va_zald cx.1 cx.2.1 cx.2.2.2.2.2.2.2.2.2 hP (a - 1) 2 he rfl hi hd kk
theorem e_iast {a : Nat} {i : Int32} {x : Int32} (hd : decode cc pc = .ok (.iastore, 1)) (hc : a_is h a 100) (hi : vp_in i (aL h a)) (k : E l K g d nc ns y cc nL ret (pc + 1) ls st (aSI h a i.toNatClampNeg x) Q) : E l K g d nc ns y cc nL ret pc ls (.int x :: .int i :: .ref a :: st) h Q := by
  obtain ⟨hc2, h0, h1⟩ := hc
  intro p e s m args below meth cd cx R hR1 hR2 σ A H locs lsA cells slots Qw hcl hs ha hl hk
  obtain ⟨hP, hD, hS, hA, hKc⟩ := ha
  have he := a_w_at (g := g) (σ := σ) h0 h1
  rw [a_cell_i hc2] at he
  have hm : (Value.int x :: Value.int i :: Value.ref a :: st).map (a_cv σ) = .int x :: .int i :: .ref (σ a) :: st.map (a_cv σ) := by rw [List.map_cons, List.map_cons, List.map_cons, a_cvr h0]; rfl
  rw [hm]
  refine va_iast cx.1 cx.2.1 cx.2.2.2.2.2.2.2.2.2 hP hD hS (a - 1) 0 he rfl hi hd (fun H1 locs1 hP1 hD1 hS1 => ?_)
  have hset : (a_w g σ h).set (a - 1) (σ a, .inl (g.2 0, aL h a, .inl (upd (aI h a) i.toNatClampNeg x))) = a_w g σ (aSI h a i.toNatClampNeg x) := by
    refine a_w_set h0 rfl ?_ (fun b hb => a_cell_SI hb)
    rw [a_cell_i (show aC (aSI h a i.toNatClampNeg x) a = 100 from hc2)]
    have hf : aI (aSI h a i.toNatClampNeg x) a = upd (aI h a) i.toNatClampNeg x := by
      funext q
      show a_u2 (aI h) a i.toNatClampNeg x a q = _
      by_cases hq : q = i.toNatClampNeg
      · subst hq
        rw [a_u2_s]
        simp [upd]
      · rw [a_u2_n _ _ (fun z => hq z.2)]
        simp [upd, hq]
    rw [hf]
    rfl
  rw [hset] at hP1 hD1
  exact k p e s m args below meth cd cx R hR1 hR2 σ A H1 locs1 lsA cells slots Qw hcl hs ⟨hP1, hD1, hS1, hA, hKc⟩ hl hk
theorem e_last {a : Nat} {i : Int32} {x : Int64} (hd : decode cc pc = .ok (.lastore, 1)) (hc : a_is h a 101) (hi : vp_in i (aL h a)) (k : E l K g d nc ns y cc nL ret (pc + 1) ls st (aSJ h a i.toNatClampNeg x) Q) : E l K g d nc ns y cc nL ret pc ls (.long x :: .int i :: .ref a :: st) h Q := by
  obtain ⟨hc2, h0, h1⟩ := hc
  intro p e s m args below meth cd cx R hR1 hR2 σ A H locs lsA cells slots Qw hcl hs ha hl hk
  obtain ⟨hP, hD, hS, hA, hKc⟩ := ha
  have he := a_w_at (g := g) (σ := σ) h0 h1
  rw [a_cell_j hc2] at he
  have hm : (Value.long x :: Value.int i :: Value.ref a :: st).map (a_cv σ) = .long x :: .int i :: .ref (σ a) :: st.map (a_cv σ) := by rw [List.map_cons, List.map_cons, List.map_cons, a_cvr h0]; rfl
  rw [hm]
  refine va_last cx.1 cx.2.1 cx.2.2.2.2.2.2.2.2.2 hP hD hS (a - 1) 1 he rfl hi hd (fun H1 locs1 hP1 hD1 hS1 => ?_)
  have hset : (a_w g σ h).set (a - 1) (σ a, .inl (g.2 1, aL h a, .inr (.inl (vp_updL (aJ h a) i.toNatClampNeg x)))) = a_w g σ (aSJ h a i.toNatClampNeg x) := by
    refine a_w_set h0 rfl ?_ (fun b hb => a_cell_SJ hb)
    rw [a_cell_j (show aC (aSJ h a i.toNatClampNeg x) a = 101 from hc2)]
    have hf : aJ (aSJ h a i.toNatClampNeg x) a = vp_updL (aJ h a) i.toNatClampNeg x := by
      funext q
      show a_u2 (aJ h) a i.toNatClampNeg x a q = _
      by_cases hq : q = i.toNatClampNeg
      · subst hq
        rw [a_u2_s]
        simp [vp_updL]
      · rw [a_u2_n _ _ (fun z => hq z.2)]
        simp [vp_updL, hq]
    rw [hf]
    rfl
  rw [hset] at hP1 hD1
  exact k p e s m args below meth cd cx R hR1 hR2 σ A H1 locs1 lsA cells slots Qw hcl hs ⟨hP1, hD1, hS1, hA, hKc⟩ hl hk
theorem e_zast {a : Nat} {i : Int32} {x : Int32} (hd : decode cc pc = .ok (.bastore, 1)) (hc : a_is h a 102) (hi : vp_in i (aL h a)) (hx : x = 0 ∨ x = 1) (k : E l K g d nc ns y cc nL ret (pc + 1) ls st (aSI h a i.toNatClampNeg x) Q) : E l K g d nc ns y cc nL ret pc ls (.int x :: .int i :: .ref a :: st) h Q := by
  obtain ⟨hc2, h0, h1⟩ := hc
  intro p e s m args below meth cd cx R hR1 hR2 σ A H locs lsA cells slots Qw hcl hs ha hl hk
  obtain ⟨hP, hD, hS, hA, hKc⟩ := ha
  have he := a_w_at (g := g) (σ := σ) h0 h1
  rw [a_cell_z hc2] at he
  have hm : (Value.int x :: Value.int i :: Value.ref a :: st).map (a_cv σ) = .int x :: .int i :: .ref (σ a) :: st.map (a_cv σ) := by rw [List.map_cons, List.map_cons, List.map_cons, a_cvr h0]; rfl
  rw [hm]
  refine va_zast cx.1 cx.2.1 cx.2.2.2.2.2.2.2.2.2 hP hD hS (a - 1) 2 he rfl hi hd (fun H1 locs1 hP1 hD1 hS1 => ?_)
  have hnz : vp_nar .boolean x = x := by rcases hx with rfl | rfl <;> rfl
  rw [hnz] at hP1 hD1
  have hset : (a_w g σ h).set (a - 1) (σ a, .inl (g.2 2, aL h a, .inl (upd (aI h a) i.toNatClampNeg x))) = a_w g σ (aSI h a i.toNatClampNeg x) := by
    refine a_w_set h0 rfl ?_ (fun b hb => a_cell_SI hb)
    rw [a_cell_z (show aC (aSI h a i.toNatClampNeg x) a = 102 from hc2)]
    have hf : aI (aSI h a i.toNatClampNeg x) a = upd (aI h a) i.toNatClampNeg x := by
      funext q
      show a_u2 (aI h) a i.toNatClampNeg x a q = _
      by_cases hq : q = i.toNatClampNeg
      · subst hq
        rw [a_u2_s]
        simp [upd]
      · rw [a_u2_n _ _ (fun z => hq z.2)]
        simp [upd, hq]
    rw [hf]
    rfl
  rw [hset] at hP1 hD1
  exact k p e s m args below meth cd cx R hR1 hR2 σ A H1 locs1 lsA cells slots Qw hcl hs ⟨hP1, hD1, hS1, hA, hKc⟩ hl hk
theorem e_alen {a : Nat} (hd : decode cc pc = .ok (.arraylength, 1)) (hc : aC h a = 100 ∨ aC h a = 101 ∨ aC h a = 102) (h0 : 0 < a) (h1 : a ≤ aN h) (k : E l K g d nc ns y cc nL ret (pc + 1) ls (.int (Int32.ofNat (aL h a)) :: st) h Q) : E l K g d nc ns y cc nL ret pc ls (.ref a :: st) h Q := by
  intro p e s m args below meth cd cx R hR1 hR2 σ A H locs lsA cells slots Qw hcl hs ha hl hk
  have kk := k p e s m args below meth cd cx R hR1 hR2 σ A H locs lsA cells slots Qw hcl hs ha hl hk
  obtain ⟨hP, hD, hS, hA, hKc⟩ := ha
  have he := a_w_at (g := g) (σ := σ) h0 h1
  have hm : (Value.ref a :: st).map (a_cv σ) = .ref (σ a) :: st.map (a_cv σ) := by rw [List.map_cons, a_cvr h0]
  rw [hm]
  rcases hc with hc | hc | hc
  · rw [a_cell_i hc] at he
    exact va_alen cx.1 cx.2.1 cx.2.2.2.2.2.2.2.2.2 hP (a - 1) 0 he rfl rfl hd kk
  · rw [a_cell_j hc] at he
    exact va_alen cx.1 cx.2.1 cx.2.2.2.2.2.2.2.2.2 hP (a - 1) 1 he rfl rfl hd kk
  · rw [a_cell_z hc] at he
    exact va_alen cx.1 cx.2.1 cx.2.2.2.2.2.2.2.2.2 hP (a - 1) 2 he rfl rfl hd kk
end
