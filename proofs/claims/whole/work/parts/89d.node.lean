/-! A NODE OF A P BEGINS IN THE CLASS (pure) -/
theorem lenN {k : Nat} (hk : k = 12 ∨ k = 73) : LEN (k + 47 + 1) = 250 ∧ LEN (k + 49 + 1) = 250 ∧ LEN (k + 51 + 1) = 250 ∧ LEN (k + 53 + 1) = 250 ∧ LEN (k + 55 + 1) = 500 ∧ LEN (k + 57 + 1) = 500 ∧ LEN (k + 59 + 1) = 500 := by
  rcases hk with rfl | rfl <;> decide +kernel
def ad4 (k : Nat) (L : lT) (op : Int32) : lT := upL (upL (upL (upL L (k + 49) (L (k + 49) ++ [-1])) (k + 51) (L (k + 51) ++ [-1])) (k + 53) (L (k + 53) ++ [-1])) (k + 47) (L (k + 47) ++ [op])
section
variable {k h M n : Nat} {D : List Df} {F : fT} {I B : iT} {J : jT} {L : lT} {P md nest wd b z : Nat} {S : List Sl} {a6 a8 a0 : List Int32}
theorem ad4_47 (op : Int32) : ad4 k L op (k + 47) = L (k + 47) ++ [op] := upL_s _ _ _
theorem ad4_53 (op : Int32) : ad4 k L op (k + 53) = L (k + 53) ++ [-1] := by unfold ad4; rw [upL_n _ _ (by omega), upL_s]
theorem ad4_51 (op : Int32) : ad4 k L op (k + 51) = L (k + 51) ++ [-1] := by unfold ad4; rw [upL_n _ _ (by omega), upL_n _ _ (by omega), upL_s]
theorem ad4_49 (op : Int32) : ad4 k L op (k + 49) = L (k + 49) ++ [-1] := by unfold ad4; rw [upL_n _ _ (by omega), upL_n _ _ (by omega), upL_n _ _ (by omega), upL_s]
theorem ad4_n (op : Int32) {a : Nat} (h : a ≠ k + 47 ∧ a ≠ k + 49 ∧ a ≠ k + 51 ∧ a ≠ k + 53) : ad4 k L op a = L a := by unfold ad4; rw [upL_n _ _ h.1, upL_n _ _ h.2.2.2, upL_n _ _ h.2.2.1, upL_n _ _ h.2.1]
theorem addN_ok (h : RS I k L) (hn : nodL k L) (hr : (L (k + 47)).length < 250) (op : Int32) : ∃ I', mX0_addNode k I op = some (nI (L (k + 47)).length, I') ∧ RS I' k (ad4 k L op) ∧ (∀ q, ¬ (k + 47 ≤ q ∧ q ≤ k + 54) → I' q = I q) := by
  obtain ⟨z1, z2, z3, z4, z5, z6, z7⟩ := lenN h.1
  obtain ⟨a1, a2, a3, a4⟩ := hn
  obtain ⟨I1, e1, r1, f1⟩ := rs_add h (a := k + 49) (by unfold rowA; omega) (by omega) (-1)
  obtain ⟨I2, e2, r2, f2⟩ := rs_add r1 (a := k + 51) (by unfold rowA; omega) (by rw [upL_n _ _ (by omega)]; omega) (-1)
  rw [upL_n _ _ (by omega)] at e2 r2
  obtain ⟨I3, e3, r3, f3⟩ := rs_add r2 (a := k + 53) (by unfold rowA; omega) (by rw [upL_n _ _ (by omega), upL_n _ _ (by omega)]; omega) (-1)
  rw [upL_n _ _ (by omega), upL_n _ _ (by omega)] at e3 r3
  obtain ⟨I4, e4, r4, f4⟩ := rs_add r3 (a := k + 47) (by unfold rowA; omega) (by rw [upL_n _ _ (by omega), upL_n _ _ (by omega), upL_n _ _ (by omega)]; omega) op
  rw [upL_n _ _ (by omega), upL_n _ _ (by omega), upL_n _ _ (by omega)] at e4 r4
  refine ⟨I4, ?_, r4, fun q w => ?_⟩
  · unfold mX0_addNode
    rw [e1, sb, e2, sb, e3, sb, e4, sb]
  · rw [f4 q (by omega) (by omega), f3 q (by omega) (by omega), f2 q (by omega) (by omega), f1 q (by omega) (by omega)]
/-- the class's rows of nodes change -/
theorem ps_L (H : PS k h M n D F I B J L P md nest S a6 a8 a0 wd b z) {I' : iT} {L' : lT} {z' : Nat} (hR : RS I' k L') (hL : ∀ a, ¬ (k + 47 ≤ a ∧ a ≤ k + 59) → L' a = L a) (hI : ∀ q, ¬ (k + 47 ≤ q ∧ q ≤ k + 60) → I' q = I q) (hn : nodL k L') (b1 : 4 * (L' (k + 47)).length ≤ P + z') (b2 : 2 * (L' (k + 59)).length ≤ P) (b3 : 3 * (L' (k + 55)).length ≤ P + 18 * nest) : PS k h M n D F I' B J L' P md nest S a6 a8 a0 wd b z' := by
  obtain ⟨⟨x1, x2, x3, x4, x5, x6, x7, x8, x9⟩, h2, h4, h5, ⟨h6, h7, h8, h9⟩, h10, h13⟩ := H
  have hk := x1.1
  have hTE : TE k L L' := TE_eq (fun a q1 q2 => hL a (by omega))
  refine ⟨⟨hR, x2, tab_eq (fun a q1 q2 => hL a (by omega)) x3, ?_, x5, sr_to x6 x3 hTE (fun q q1 q2 => hI q (by omega)) rfl (fun _ => rfl) (fun _ => rfl) (fun _ => rfl) (fun _ _ _ => ⟨rfl, rfl, rfl, rfl, rfl⟩), x7, by rw [hL _ (by omega)]; exact x8, x9⟩, h2, hn, dd_to h5 x3 hTE (hL _ (by omega)) (fun f _ => by rw [hL _ (by omega)]) (fun f _ => by rw [hL _ (by omega)]) (fun f _ => by rw [hL _ (by omega)]) (fun _ _ _ => ⟨rfl, rfl, rfl, rfl, rfl⟩) (fun _ _ _ => rfl) (fun _ => rfl), ⟨h6, by rw [hI 134 (by omega)]; exact h7, h8, h9⟩, ⟨b1, b2, b3⟩, h13⟩
  unfold sumL
  rw [hL _ (by omega), hL _ (by omega), hL _ (by omega), hL _ (by omega), hL _ (by omega)]
  exact x4
/-- the class begins a node -/
theorem ps_node (H : PS k h M n D F I B J L P md nest S a6 a8 a0 wd b 0) (hP : P < 1000) (op : Int32) : ∃ I', mX0_addNode k I op = some (nI (L (k + 47)).length, I') ∧ PS k h M n D F I' B J (ad4 k L op) P md nest S a6 a8 a0 wd b 4 ∧ (∀ q, ¬ (k + 47 ≤ q ∧ q ≤ k + 54) → I' q = I q) := by
  have hb := H.2.2.2.2.2.1
  obtain ⟨I', e1, e2, e3⟩ := addN_ok H.1.1 H.2.2.1 (by omega) op
  obtain ⟨a1, a2, a3, a4⟩ := H.2.2.1
  have hlen : (ad4 k L op (k + 47)).length = (L (k + 47)).length + 1 := by rw [ad4_47]; simp
  refine ⟨I', e1, ps_L H e2 (fun a q => ad4_n _ (by omega)) (fun q w => e3 q (by omega)) ?_ (by rw [hlen]; omega) (by rw [ad4_n _ (by omega)]; exact hb.2.1) (by rw [ad4_n _ (by omega)]; exact hb.2.2), e3⟩
  unfold nodL
  rw [ad4_47, ad4_49, ad4_51, ad4_53, ad4_n _ (by omega), ad4_n _ (by omega)]
  simp
  omega
/-- a field of a node -/
theorem ps_put (H : PS k h M n D F I B J L P md nest S a6 a8 a0 wd b z) {a : Nat} (ha : a = k + 49 ∨ a = k + 51 ∨ a = k + 53 ∨ a = k + 57) {j : Nat} (hj : j < 2 ^ 31) (v : Int32) : ∃ I', mX4_put a I (nI j) v = some I' ∧ PS k h M n D F I' B J (upL L a ((L a).set j v)) P md nest S a6 a8 a0 wd b z ∧ (∀ q, ¬ (k + 47 ≤ q ∧ q ≤ k + 58) → I' q = I q) := by
  obtain ⟨I', e1, e2, e3⟩ := rs_put H.1.1 (a := a) (by unfold rowA; omega) (nI j) v
  rw [lput_nI _ hj] at e2
  have hb := H.2.2.2.2.2.1
  obtain ⟨a1, a2, a3, a4⟩ := H.2.2.1
  have hlen : ∀ c, (upL L a ((L a).set j v) c).length = (L c).length := by
    intro c
    by_cases q : c = a
    · subst q; rw [upL_s, List.length_set]
    · rw [upL_n _ _ q]
  refine ⟨I', e1, ps_L H e2 (fun c q => upL_n _ _ (by omega)) (fun q w => e3 q (by omega) (by omega)) ?_ (by rw [hlen]; exact hb.1) (by rw [hlen]; exact hb.2.1) (by rw [hlen]; exact hb.2.2), fun q w => e3 q (by omega) (by omega)⟩
  unfold nodL
  rw [hlen, hlen, hlen, hlen, hlen, hlen]
  exact ⟨a1, a2, a3, a4⟩
end
