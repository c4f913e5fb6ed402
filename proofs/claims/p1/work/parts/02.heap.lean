/-! THE ABSTRACT HEAP: size, class codes, lengths, ints, longs, references; addresses are numbers from 1 on, 0 is null. -/
abbrev aH : Type := Nat × (Nat → Nat) × (Nat → Nat) × (Nat → Nat → Int32) × (Nat → Nat → Int64) × (Nat → Nat → Nat)
def aN (h : aH) : Nat := h.1
def aC (h : aH) : Nat → Nat := h.2.1
def aL (h : aH) : Nat → Nat := h.2.2.1
def aI (h : aH) : Nat → Nat → Int32 := h.2.2.2.1
def aJ (h : aH) : Nat → Nat → Int64 := h.2.2.2.2.1
def aF (h : aH) : Nat → Nat → Nat := h.2.2.2.2.2
def a_u2 {α : Type} (f : Nat → Nat → α) (a j : Nat) (v : α) : Nat → Nat → α := fun x i => if x = a ∧ i = j then v else f x i
def a_u1 {α : Type} (f : Nat → α) (a : Nat) (v : α) : Nat → α := fun x => if x = a then v else f x
def aSI (h : aH) (a j : Nat) (v : Int32) : aH := (aN h, aC h, aL h, a_u2 (aI h) a j v, aJ h, aF h)
def aSJ (h : aH) (a j : Nat) (v : Int64) : aH := (aN h, aC h, aL h, aI h, a_u2 (aJ h) a j v, aF h)
def aSF (h : aH) (a j : Nat) (v : Nat) : aH := (aN h, aC h, aL h, aI h, aJ h, a_u2 (aF h) a j v)
/-- a new cell of class code c and length n -/
def aNew (h : aH) (c n : Nat) : aH := (aN h + 1, a_u1 (aC h) (aN h + 1) c, a_u1 (aL h) (aN h + 1) n, a_u1 (aI h) (aN h + 1) (fun _ => 0), a_u1 (aJ h) (aN h + 1) (fun _ => 0), a_u1 (aF h) (aN h + 1) (fun _ => 0))
/-- an abstract value at the addresses σ -/
def a_cv (σ : Nat → Nat) (v : Value) : Value := match v with
  | .ref a => if a = 0 then .null else .ref (σ a)
  | .int x => .int x
  | .long x => .long x
  | .float x => .float x
  | .double x => .double x
  | .null => .null
  | .retAddr x => .retAddr x
def a_nf (c : Nat) : Nat := match c with
  | 0 => 18
  | 1 => 7
  | 2 => 11
  | 3 => 7
  | 4 => 2
  | 5 => 4
  | 6 => 16
  | 7 => 3
  | 8 => 5
  | 9 => 5
  | 10 => 8
  | 11 => 8
  | _ => 81
def a_ty (c : Nat) : Nat → FieldType := match c with
  | 0 => tyX0
  | 1 => tyX1
  | 2 => tyX2
  | 3 => tyX3
  | 4 => tyX4
  | 5 => tyX5
  | 6 => tyX6
  | 7 => tyX7
  | 8 => tyX8
  | 9 => tyX9
  | 10 => tyX10
  | 11 => tyX11
  | _ => tyX12
def a_tb (c : Nat) : u_T := match c with
  | 0 => TX0
  | 1 => TX1
  | 2 => TX2
  | 3 => TX3
  | 4 => TX4
  | 5 => TX5
  | 6 => TX6
  | 7 => TX7
  | 8 => TX8
  | 9 => TX9
  | 10 => TX10
  | 11 => TX11
  | _ => TX12
def a_rc (c : Nat) : String := match c with
  | 0 => RX0
  | 1 => RX1
  | 2 => RX2
  | 3 => RX3
  | 4 => RX4
  | 5 => RX5
  | 6 => RX6
  | 7 => RX7
  | 8 => RX8
  | 9 => RX9
  | 10 => RX10
  | 11 => RX11
  | _ => RX12
theorem a_all13 {P : Nat → Prop} (h0 : P 0) (h1 : P 1) (h2 : P 2) (h3 : P 3) (h4 : P 4) (h5 : P 5) (h6 : P 6) (h7 : P 7) (h8 : P 8) (h9 : P 9) (h10 : P 10) (h11 : P 11) (h12 : P 12) : ∀ c, c < 13 → P c := by
  intro c hc
  match c, hc with
  | 0, _ => exact h0
  | 1, _ => exact h1
  | 2, _ => exact h2
  | 3, _ => exact h3
  | 4, _ => exact h4
  | 5, _ => exact h5
  | 6, _ => exact h6
  | 7, _ => exact h7
  | 8, _ => exact h8
  | 9, _ => exact h9
  | 10, _ => exact h10
  | 11, _ => exact h11
  | 12, _ => exact h12
theorem a_clc : ∀ c, c < 13 → vwCl[c]? = some (a_rc c, a_tb c, a_nf c) := a_all13 rfl rfl rfl rfl rfl rfl rfl rfl rfl rfl rfl rfl rfl
theorem a_tyok : ∀ c, c < 13 → ∀ k, k < a_nf c → parseFieldDescriptor (a_tb c k).2.2.1 = some (a_ty c k) := a_all13 tyX0_ok tyX1_ok tyX2_ok tyX3_ok tyX4_ok tyX5_ok tyX6_ok tyX7_ok tyX8_ok tyX9_ok tyX10_ok tyX11_ok tyX12_ok
theorem a_nmok : ∀ c, c < 13 → ∀ a, a < a_nf c → ∀ b, b < a_nf c → a ≠ b → (a_tb c a).2.1 ≠ (a_tb c b).2.1 := a_all13 nmX0 nmX1 nmX2 nmX3 nmX4 nmX5 nmX6 nmX7 nmX8 nmX9 nmX10 nmX11 nmX12
/-- a field's abstract value -/
def a_av (h : aH) (a : Nat) (ty : FieldType) (j : Nat) : Value := match ty with
  | .long => .long (aJ h a j)
  | .object _ => .ref (aF h a j)
  | .array _ => .ref (aF h a j)
  | _ => .int (aI h a j)
abbrev a_GT : Type := va_G × (Nat → ClassId)
abbrev a_KT : Type := State → Heap → (Nat → Prop) → (Nat → Nat) → Prop
def a_tys (g : a_GT) : List (ClassId × FieldType) := [(g.2 0, .int), (g.2 1, .long), (g.2 2, .boolean)]
def a_fs (σ : Nat → Nat) (h : aH) (a c : Nat) : List Value := (List.range (a_nf c)).map (fun j => a_cv σ (a_av h a (a_ty c j) j))
def a_cell (g : a_GT) (σ : Nat → Nat) (h : aH) (a : Nat) : va_E :=
  if aC h a < 13 then .inr (aC h a, a_fs σ h a (aC h a)) else if aC h a = 101 then .inl (g.2 1, aL h a, .inr (.inl (aJ h a))) else if aC h a = 102 then .inl (g.2 2, aL h a, .inl (aI h a)) else .inl (g.2 0, aL h a, .inl (aI h a))
def a_w (g : a_GT) (σ : Nat → Nat) (h : aH) : va_W := (List.range (aN h)).map (fun k => (σ (k + 1), a_cell g σ h (k + 1)))
/-- a is a cell of class code c -/
def a_is (h : aH) (a c : Nat) : Prop := aC h a = c ∧ 0 < a ∧ a ≤ aN h
theorem a_w_at {g : a_GT} {σ : Nat → Nat} {h : aH} {a : Nat} (h0 : 0 < a) (h1 : a ≤ aN h) : (a_w g σ h)[a - 1]? = some (σ a, a_cell g σ h a) := by
  unfold a_w
  rw [List.getElem?_map, List.getElem?_range (by omega)]
  simp [show a - 1 + 1 = a by omega]
theorem a_cell_o {g : a_GT} {σ : Nat → Nat} {h : aH} {a c : Nat} (hc : aC h a = c) (hlt : c < 13) : a_cell g σ h a = .inr (c, a_fs σ h a c) := by
  unfold a_cell
  rw [hc, if_pos hlt]
theorem a_cell_i {g : a_GT} {σ : Nat → Nat} {h : aH} {a : Nat} (hc : aC h a = 100) : a_cell g σ h a = .inl (g.2 0, aL h a, .inl (aI h a)) := by
  unfold a_cell
  rw [hc]
  rfl
theorem a_cell_j {g : a_GT} {σ : Nat → Nat} {h : aH} {a : Nat} (hc : aC h a = 101) : a_cell g σ h a = .inl (g.2 1, aL h a, .inr (.inl (aJ h a))) := by
  unfold a_cell
  rw [hc]
  rfl
theorem a_cell_z {g : a_GT} {σ : Nat → Nat} {h : aH} {a : Nat} (hc : aC h a = 102) : a_cell g σ h a = .inl (g.2 2, aL h a, .inl (aI h a)) := by
  unfold a_cell
  rw [hc]
  rfl
theorem a_mrs {α : Type} (f f' : Nat → α) (n k : Nat) (v : α) (hk : k < n → f' k = v) (hn : ∀ i, i < n → i ≠ k → f' i = f i) : ((List.range n).map f).set k v = (List.range n).map f' := by
  apply List.ext_getElem?
  intro i
  rw [List.getElem?_set]
  by_cases hi : i < n
  · rw [List.getElem?_map, List.getElem?_map, List.getElem?_range hi]
    by_cases e : k = i
    · subst e
      rw [if_pos rfl, if_pos (by simpa using hi)]
      show some v = some (f' k)
      rw [hk hi]
    · rw [if_neg e]
      show some (f i) = some (f' i)
      rw [hn i hi (fun q => e q.symm)]
  · have h1 : (List.map f (List.range n))[i]? = none := by simp; omega
    have h2 : (List.map f' (List.range n))[i]? = none := by simp; omega
    rw [h1, h2]
    by_cases e : k = i
    · rw [if_pos e, if_neg (by simp; omega)]
    · rw [if_neg e]
/-- one cell of the world changes -/
theorem a_w_set {g : a_GT} {σ : Nat → Nat} {h h' : aH} {a : Nat} {e : va_E} (h0 : 0 < a) (hn : aN h' = aN h) (he : a_cell g σ h' a = e) (ho : ∀ b, b ≠ a → a_cell g σ h' b = a_cell g σ h b) : (a_w g σ h).set (a - 1) (σ a, e) = a_w g σ h' := by
  unfold a_w
  rw [hn]
  refine a_mrs _ _ _ _ _ (fun _ => ?_) (fun i _ hi => ?_)
  · show (σ (a - 1 + 1), a_cell g σ h' (a - 1 + 1)) = (σ a, e)
    rw [show a - 1 + 1 = a by omega, he]
  · show (σ (i + 1), a_cell g σ h' (i + 1)) = (σ (i + 1), a_cell g σ h (i + 1))
    rw [ho (i + 1) (by omega)]
theorem a_u2_s {α : Type} (f : Nat → Nat → α) (a j : Nat) (v : α) : a_u2 f a j v a j = v := by simp [a_u2]
theorem a_u2_n {α : Type} (f : Nat → Nat → α) {a j : Nat} (v : α) {x i : Nat} (h : ¬ (x = a ∧ i = j)) : a_u2 f a j v x i = f x i := by simp only [a_u2, if_neg h]
theorem a_u2_r {α : Type} (f : Nat → Nat → α) {a j : Nat} (v : α) {x : Nat} (h : x ≠ a) : a_u2 f a j v x = f x := by
  funext i
  exact a_u2_n f v (fun q => h q.1)
theorem a_fs_at {σ : Nat → Nat} {h : aH} {a c j : Nat} (hj : j < a_nf c) : (a_fs σ h a c)[j]? = some (a_cv σ (a_av h a (a_ty c j) j)) := by
  unfold a_fs
  rw [List.getElem?_map, List.getElem?_range hj]
  rfl
theorem a_fs_len {σ : Nat → Nat} {h : aH} {a c : Nat} : (a_fs σ h a c).length = a_nf c := by simp [a_fs]
theorem a_fs_set {σ : Nat → Nat} {h h' : aH} {a c j : Nat} {v : Value} (hv : a_cv σ (a_av h' a (a_ty c j) j) = v) (ho : ∀ i, i ≠ j → ∀ ty, a_av h' a ty i = a_av h a ty i) : (a_fs σ h a c).set j v = a_fs σ h' a c := by
  unfold a_fs
  exact a_mrs _ _ _ _ _ (fun _ => hv) (fun i _ hi => by rw [ho i hi])
/-- the cell of another address -/
theorem a_cell_eq {g : a_GT} {σ : Nat → Nat} {h h' : aH} {b : Nat} (h1 : aC h' b = aC h b) (h2 : aL h' b = aL h b) (h3 : aI h' b = aI h b) (h4 : aJ h' b = aJ h b) (h5 : aF h' b = aF h b) : a_cell g σ h' b = a_cell g σ h b := by
  have hv : ∀ ty j, a_av h' b ty j = a_av h b ty j := by
    intro ty j
    unfold a_av
    rw [h3, h4, h5]
  unfold a_cell a_fs
  simp only [h1, h2, h3, h4, hv]
theorem a_cell_SI {g : a_GT} {σ : Nat → Nat} {h : aH} {a j : Nat} {x : Int32} {b : Nat} (hb : b ≠ a) : a_cell g σ (aSI h a j x) b = a_cell g σ h b := a_cell_eq rfl rfl (a_u2_r _ _ hb) rfl rfl
theorem a_cell_SJ {g : a_GT} {σ : Nat → Nat} {h : aH} {a j : Nat} {x : Int64} {b : Nat} (hb : b ≠ a) : a_cell g σ (aSJ h a j x) b = a_cell g σ h b := a_cell_eq rfl rfl rfl (a_u2_r _ _ hb) rfl
theorem a_cell_SF {g : a_GT} {σ : Nat → Nat} {h : aH} {a j x : Nat} {b : Nat} (hb : b ≠ a) : a_cell g σ (aSF h a j x) b = a_cell g σ h b := a_cell_eq rfl rfl rfl rfl (a_u2_r _ _ hb)
/-- references in range -/
def a_okv (n : Nat) (v : Value) : Prop := match v with
  | .ref a => a ≤ n ∨ 1000000 ≤ a
  | _ => True
def a_okl (n : Nat) (l : List Value) : Prop := ∀ v ∈ l, a_okv n v
def a_hok (h : aH) : Prop := ∀ a j, a ≤ aN h → aF h a j ≤ aN h ∨ 1000000 ≤ aF h a j
def a_ext (σ : Nat → Nat) (n : Nat) (σ' : Nat → Nat) (n' : Nat) : Prop := n ≤ n' ∧ (n = n' ∨ n' < 1000000) ∧ ∀ a, (a ≤ n ∨ n' < a) → σ' a = σ a
theorem a_cv_ext {σ σ' : Nat → Nat} {n : Nat} {v : Value} (hv : a_okv n v) (h : ∀ a, (a ≤ n ∨ 1000000 ≤ a) → σ' a = σ a) : a_cv σ' v = a_cv σ v := by
  cases v with
  | ref a =>
    have h1 : σ' a = σ a := h a hv
    simp only [a_cv, h1]
  | _ => rfl
theorem a_map_ext {σ σ' : Nat → Nat} {n : Nat} {l : List Value} (hv : a_okl n l) (h : ∀ a, (a ≤ n ∨ 1000000 ≤ a) → σ' a = σ a) : l.map (a_cv σ') = l.map (a_cv σ) := List.map_congr_left (fun v hm => a_cv_ext (hv v hm) h)
theorem a_w_ext {g : a_GT} {σ σ' : Nat → Nat} {h : aH} (hh : a_hok h) (he : ∀ a, (a ≤ aN h ∨ 1000000 ≤ a) → σ' a = σ a) : a_w g σ' h = a_w g σ h := by
  unfold a_w
  refine List.map_congr_left (fun k hk => ?_)
  have hk' : k < aN h := List.mem_range.mp hk
  have e1 : σ' (k + 1) = σ (k + 1) := he _ (Or.inl (by omega))
  have e2 : a_cell g σ' h (k + 1) = a_cell g σ h (k + 1) := by
    unfold a_cell a_fs
    have hv : ∀ ty j, a_cv σ' (a_av h (k + 1) ty j) = a_cv σ (a_av h (k + 1) ty j) := by
      intro ty j
      refine a_cv_ext (n := aN h) ?_ he
      unfold a_av
      cases ty <;> first | exact trivial | exact hh (k + 1) j (by omega)
    simp only [hv]
  rw [e1, e2]
/-- a new cell at the end of the world -/
theorem a_w_new {g : a_GT} {σ : Nat → Nat} {h : aH} {c n q : Nat} (hh : a_hok h) (hs : aN h + 1 < 1000000) : a_w g (a_u1 σ (aN h + 1) q) (aNew h c n) = a_w g σ h ++ [(q, a_cell g (a_u1 σ (aN h + 1) q) (aNew h c n) (aN h + 1))] := by
  have he : ∀ a, (a ≤ aN h ∨ 1000000 ≤ a) → a_u1 σ (aN h + 1) q a = σ a := by
    intro a ha
    unfold a_u1
    rw [if_neg (by omega)]
  rw [← a_w_ext hh he]
  unfold a_w
  rw [show aN (aNew h c n) = aN h + 1 from rfl, List.range_succ, List.map_append]
  congr 1
  · refine List.map_congr_left (fun k hk => ?_)
    have hk' : k < aN h := List.mem_range.mp hk
    have hne : k + 1 ≠ aN h + 1 := by omega
    have e2 : a_cell g (a_u1 σ (aN h + 1) q) (aNew h c n) (k + 1) = a_cell g (a_u1 σ (aN h + 1) q) h (k + 1) := by
      refine a_cell_eq ?_ ?_ ?_ ?_ ?_
      · show a_u1 (aC h) (aN h + 1) c (k + 1) = aC h (k + 1)
        simp only [a_u1, if_neg hne]
      · show a_u1 (aL h) (aN h + 1) n (k + 1) = aL h (k + 1)
        simp only [a_u1, if_neg hne]
      · show a_u1 (aI h) (aN h + 1) (fun _ => 0) (k + 1) = aI h (k + 1)
        simp only [a_u1, if_neg hne]
      · show a_u1 (aJ h) (aN h + 1) (fun _ => 0) (k + 1) = aJ h (k + 1)
        simp only [a_u1, if_neg hne]
      · show a_u1 (aF h) (aN h + 1) (fun _ => 0) (k + 1) = aF h (k + 1)
        simp only [a_u1, if_neg hne]
    rw [e2]
  · simp [a_u1]
theorem a_ext.rf {σ : Nat → Nat} {n : Nat} : a_ext σ n σ n := ⟨Nat.le_refl _, Or.inl rfl, fun _ _ => rfl⟩
theorem a_ext.tr {σ σ1 σ2 : Nat → Nat} {n n1 n2 : Nat} (h1 : a_ext σ n σ1 n1) (h2 : a_ext σ1 n1 σ2 n2) : a_ext σ n σ2 n2 := by
  obtain ⟨a1, a2, a3⟩ := h1
  obtain ⟨b1, b2, b3⟩ := h2
  refine ⟨by omega, by omega, fun a ha => ?_⟩
  rw [b3 a (by omega), a3 a (by omega)]
theorem a_ext.big {σ σ1 : Nat → Nat} {n n1 : Nat} (h1 : a_ext σ n σ1 n1) : ∀ a, 1000000 ≤ a → σ1 a = σ a := by
  obtain ⟨a1, a2, a3⟩ := h1
  intro a ha
  exact a3 a (by omega)
theorem a_ext.low {σ σ1 : Nat → Nat} {n n1 : Nat} (h1 : a_ext σ n σ1 n1) : ∀ a, (a ≤ n ∨ 1000000 ≤ a) → σ1 a = σ a := by
  intro a ha
  rcases ha with ha | ha
  · exact h1.2.2 a (Or.inl ha)
  · exact h1.big a ha
