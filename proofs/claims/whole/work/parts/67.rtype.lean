/-! WHAT THE REFERENCE DOES WITH ITS NODES (pure) -/
theorem nIm {x : Nat} (h : x < 2 ^ 31) : ¬ nI x = -1 := by
  intro q
  have e1 : (nI x).toInt = x := nI_toInt h
  rw [q] at e1
  have e2 : (-1 : Int32).toInt = -1 := by decide
  omega
theorem in28 {u : Nat} (h : u < 2800) : inb (nI u) 2800 := vp_in_nI h (by omega)
theorem cl28 {u : Nat} (h : u < 2800) : (nI u).toNatClampNeg = u := nI_clamp (by omega)
/-- a new node -/
theorem node_ok {B : iT} {J : jT} {bs m : Nat} (hb : B 186 16 = nI bs) (hm : B 186 17 = nI m) (hr : bs + m < 2800) (x1 x2 x3 : Int32) (w : Int64) : ∃ B' J', mX12_node B J x1 x2 x3 w = some (nI (bs + m), B', J') ∧ B' 186 17 = nI (m + 1) ∧ B' 188 (bs + m) = x1 ∧ B' 189 (bs + m) = x2 ∧ B' 190 (bs + m) = x3 ∧ B' 191 (bs + m) = -1 ∧ J' 192 (bs + m) = w ∧ (∀ b i, ¬ (b = 186 ∧ i = 17) → ¬ (188 ≤ b ∧ b ≤ 191 ∧ i = bs + m) → B' b i = B b i) ∧ (∀ b i, ¬ (b = 192 ∧ i = bs + m) → J' b i = J b i) := by
  have hi : inb (nI (bs + m)) 2800 := in28 hr
  have hc : (nI (bs + m)).toNatClampNeg = bs + m := cl28 hr
  refine ⟨_, _, by unfold mX12_node; rw [hb, hm, nI_add, if_pos hi, if_pos hi, if_pos hi, if_pos hi, if_pos hi, hc, nI_1], ?_, ?_, ?_, ?_, ?_, a_u2_s _ _ _ _, fun b i h1 h2 => ?_, fun b i h1 => a_u2_n _ _ h1⟩
  · rw [a_u2_n _ _ (by omega), a_u2_n _ _ (by omega), a_u2_n _ _ (by omega), a_u2_n _ _ (by omega), a_u2_s]
  · rw [a_u2_n _ _ (by omega), a_u2_n _ _ (by omega), a_u2_n _ _ (by omega), a_u2_s]
  · rw [a_u2_n _ _ (by omega), a_u2_n _ _ (by omega), a_u2_s]
  · rw [a_u2_n _ _ (by omega), a_u2_s]
  · rw [a_u2_s]
  · rw [a_u2_n _ _ (by omega), a_u2_n _ _ (by omega), a_u2_n _ _ (by omega), a_u2_n _ _ (by omega), a_u2_n _ _ (by omega)]
theorem po_succ (n : Nat) (I : iT) (x : Int32) : mX12_partsOf (n + 1) I x = bX12_partsOf (sc_12partsOf n) I x := rfl
section
variable {k : Nat} {L : lT} {B : iT} {J : jT} {Q : Nat → Prop}
/-- the parts of a row of branches -/
theorem po_chain : ∀ (bl : List Br) (x : Int32) (n : Nat), bl ≠ [] → chain B J x bl → (∀ e ∈ bl, 1 ≤ e.2.2.2.2 ∧ e.2.2.1 < 2800 ∧ ∀ n, 2 * e.2.2.2.2 ≤ n → mX12_partsOf n B (nI e.2.2.1) = some (nI e.2.2.2.2)) → 2 * psm bl + 1 ≤ n → mX12_partsOf n B x = some (nI (psm bl)) := by
  intro bl
  induction bl with
  | nil => intro x n h; exact (h rfl).elim
  | cons e l ih =>
    intro x n _ hc he hn
    obtain ⟨n, rfl⟩ : ∃ m, n = m + 1 := ⟨n - 1, by omega⟩
    obtain ⟨h1, h2, h3, h4, h5, h6, h7⟩ := hc
    obtain ⟨p1, p2, p3⟩ := he e (by simp)
    have hps : psm (e :: l) = e.2.2.2.2 + psm l := rfl
    have hi := in28 h2
    have hcl := cl28 h2
    rw [po_succ, h1]
    unfold bX12_partsOf
    rw [if_pos hi, congrArg (B 188) hcl, h3, if_pos rfl]
    unfold mX12_partsOf_16
    rw [if_pos hi, congrArg (B 189) hcl, h4, if_neg (nIm (by omega)), if_pos hi]
    have e1 : sc_12partsOf n B (nI e.2.2.1) = some (nI e.2.2.2.2) := p3 n (by omega)
    rw [e1, sb]
    unfold mX12_partsOf_40
    rw [if_pos hi, congrArg (B 190) hcl, h5, if_pos rfl]
    unfold mX12_partsOf_63
    rw [if_pos hi, congrArg (B 188) hcl, h3, if_pos rfl, if_pos hi, congrArg (B 191) hcl]
    cases l with
    | nil =>
      have e2 : B 191 e.1 = -1 := h7
      rw [e2, if_pos rfl, Int32.zero_add]
      rfl
    | cons e' l' =>
      have e2 : B 191 e.1 = nI e'.1 := h7.1
      have e3 : ¬ B 191 e.1 = -1 := by rw [e2]; exact nIm (by have := h7.2.1; omega)
      have hp' : 1 ≤ psm (e' :: l') := by have := (he e' (by simp)).1; show 1 ≤ e'.2.2.2.2 + psm l'; omega
      have e4 : sc_12partsOf n B (B 191 e.1) = some (nI (psm (e' :: l'))) := ih (B 191 e.1) n (by simp) h7 (fun x hx => he x (by simp [hx])) (by omega)
      rw [if_neg e3, if_pos hi, e4, sb, Int32.zero_add, nI_add]
      rfl
theorem po_ok : ∀ (d u t p n : Nat), TR k L B J Q d u t p → 2 * p ≤ n → mX12_partsOf n B (nI u) = some (nI p) := by
  intro d
  induction d with
  | zero => intro u t p n h; exact h.elim
  | succ d ih =>
    intro u t p n h hn
    have hp := tr_p h
    obtain ⟨n, rfl⟩ : ∃ m, n = m + 1 := ⟨n - 1, by omega⟩
    obtain ⟨h1, h2, h3, h4, h5⟩ := h
    have hi := in28 h1
    have hcl := cl28 h1
    have st : ∀ w : Int32, B 188 u = w → ¬ w = 8 → mX12_partsOf (n + 1) B (nI u) = mX12_partsOf_16 (sc_12partsOf n) B (nI u) 1 ∧ ∀ y, mX12_partsOf_63 (sc_12partsOf n) B (nI u) y = some y := by
      intro w hw h8
      constructor
      · rw [po_succ]
        unfold bX12_partsOf
        rw [if_pos hi, congrArg (B 188) hcl, hw, if_neg h8]
      · intro y
        unfold mX12_partsOf_63
        rw [if_pos hi, congrArg (B 188) hcl, hw, if_neg h8]
    have s16n : ∀ {o : Nat}, B 189 u = nI o → o < 2800 → ∀ y v, sc_12partsOf n B (nI o) = some v → mX12_partsOf_16 (sc_12partsOf n) B (nI u) y = mX12_partsOf_40 (sc_12partsOf n) B (nI u) (y + v) := by
      intro o ho hol y v hv
      unfold mX12_partsOf_16
      rw [if_pos hi, congrArg (B 189) hcl, ho, if_neg (nIm (by omega)), if_pos hi, hv, sb]
    have s16z : B 189 u = -1 → ∀ y, mX12_partsOf_16 (sc_12partsOf n) B (nI u) y = mX12_partsOf_40 (sc_12partsOf n) B (nI u) y := by
      intro ho y
      unfold mX12_partsOf_16
      rw [if_pos hi, congrArg (B 189) hcl, ho, if_pos rfl]
    have s40z : B 190 u = -1 → ∀ y, mX12_partsOf_40 (sc_12partsOf n) B (nI u) y = mX12_partsOf_63 (sc_12partsOf n) B (nI u) y := by
      intro ho y
      unfold mX12_partsOf_40
      rw [if_pos hi, congrArg (B 190) hcl, ho, if_pos rfl]
    have s40n : ∀ {o : Nat}, B 190 u = nI o → o < 2800 → ∀ y v, sc_12partsOf n B (nI o) = some v → mX12_partsOf_40 (sc_12partsOf n) B (nI u) y = mX12_partsOf_63 (sc_12partsOf n) B (nI u) (y + v) := by
      intro o ho hol y v hv
      unfold mX12_partsOf_40
      rw [if_pos hi, congrArg (B 190) hcl, ho, if_neg (nIm (by omega)), if_pos hi, hv, sb]
    rcases h5 with h | ⟨kd, w, u1, t1, p1, c1, c2, c3, c4, c5, c6, c7, c8, c9⟩ | ⟨kd, w, u1, t1, p1, u2, t2, p2, c1, c2, c3, c4, c5, c6, c7, c8, c9, c10⟩ | ⟨kd, w, f, bl, c1, c2, c3, c4, c5, c6, c7, c8, c9, c10, c11, c12, c13⟩
    · obtain ⟨s1, s2⟩ := st 1 h.2.1 (by decide)
      rw [s1, s16z h.2.2.1, s40z h.2.2.2.1, s2, h.2.2.2.2.2.2]; rfl
    · obtain ⟨s1, s2⟩ := st (nI w) c3 (by rcases c1 with ⟨_, q⟩ | ⟨_, q⟩ <;> subst q <;> decide)
      rw [s1, s16n c4 (tr_u c9).1 1 (nI p1) (ih u1 t1 p1 n c9 (by omega)), s40z c5, s2, c8, ← nI_add]; rfl
    · obtain ⟨s1, s2⟩ := st (nI w) c3 (by rcases c1 with ⟨_, q⟩ | ⟨_, q⟩ <;> subst q <;> decide)
      rw [s1, s16n c4 (tr_u c9).1 1 (nI p1) (ih u1 t1 p1 n c9 (by omega)), s40n c5 (tr_u c10).1 _ (nI p2) (ih u2 t2 p2 n c10 (by omega)), s2, c8, ← nI_add, ← nI_add]; rfl
    · obtain ⟨s1, s2⟩ := st (nI w) c3 (by rcases c1 with ⟨_, q⟩ | ⟨_, q⟩ <;> subst q <;> decide)
      have hne : bl ≠ [] := by intro q; rw [q] at c7; exact absurd c7 (by decide)
      have hch := po_chain bl (B 189 u) n hne c10 (fun e he => by
        obtain ⟨i, hi'⟩ := List.getElem?_of_mem he
        have d5 := (c13 i e hi').2.2.2.2
        exact ⟨tr_p d5, (tr_u d5).1, fun n hn => ih _ _ _ n d5 hn⟩) (by omega)
      obtain ⟨e, l, rfl⟩ : ∃ e l, bl = e :: l := by
        cases bl with
        | nil => exact (hne rfl).elim
        | cons e l => exact ⟨e, l, rfl⟩
      have e1 : B 189 u = nI e.1 := c10.1
      rw [e1] at hch
      rw [s1, s16n e1 c10.2.1 1 (nI (psm (e :: l))) hch, s40z c4, s2, c12, ← nI_add]; rfl
end
/-- a row of branches is searched for a NAME -/
theorem chain_find {B : iT} {J : jT} (x1 : Int32) {w0 : List Nat} (h0 : isN w0) : ∀ (bl : List Br) (x : Int32) (n : Nat), chain B J x bl → (∀ e ∈ bl, isN e.2.1) → bl.length < n →
    (∃ (i : Nat) (e : Br), bl[i]? = some e ∧ e.2.1 = w0 ∧ mX12_branch_8 n B J x1 (lN (rN w0)) x = some (nI e.1)) ∨ ((∀ e ∈ bl, e.2.1 ≠ w0) ∧ mX12_branch_8 n B J x1 (lN (rN w0)) x = some (-1)) := by
  intro bl
  induction bl with
  | nil =>
    intro x n hc _ hn
    obtain ⟨n, rfl⟩ : ∃ m, n = m + 1 := ⟨n - 1, by omega⟩
    right
    have hx : x = -1 := hc
    exact ⟨fun e he => (by cases he), by rw [mX12_branch_8, if_pos hx]⟩
  | cons e l ih =>
    intro x n hc he hn
    obtain ⟨n, rfl⟩ : ∃ m, n = m + 1 := ⟨n - 1, by omega⟩
    obtain ⟨h1, h2, h3, h4, h5, h6, h7⟩ := hc
    have hi := in28 h2
    have hcl := cl28 h2
    have hne := he e (by simp)
    rw [mX12_branch_8, h1, if_neg (nIm (by omega)), if_pos hi, congrArg (J 192) hcl, h6]
    by_cases q : e.2.1 = w0
    · left
      refine ⟨0, e, rfl, q, ?_⟩
      rw [if_pos ((lg_eq0 _ _).mpr (by rw [q]))]
    · rw [if_neg (fun z => q ((rN_inj hne.1 h0.1 hne.2.2 h0.2.2).mp ((lg_eq0 _ _).mp z))), if_pos hi, congrArg (B 191) hcl]
      rcases ih (B 191 e.1) n h7 (fun e' h' => he e' (by simp [h'])) (by simp at hn; omega) with ⟨i, e', g1, g2, g3⟩ | ⟨g1, g2⟩
      · exact Or.inl ⟨i + 1, e', by rw [List.getElem?_cons_succ]; exact g1, g2, g3⟩
      · refine Or.inr ⟨fun e' h' => ?_, g2⟩
        rcases List.mem_cons.mp h' with z | z
        · rw [z]; exact q
        · exact g1 e' z
/-- a TYPE of the text: its NAME, node, number, parts -/
abbrev Ent : Type := List Nat × Nat × Nat × Nat
def NT (k h M : Nat) (L : lT) (B : iT) (J : jT) (W : List Ent) : Prop := L (k + 29) = W.map (fun e => nI (cN e.1)) ∧ L (k + 31) = W.map (fun e => nI e.2.2.1) ∧ B 204 h = nI W.length ∧ W.length ≤ 12 ∧ ∀ i e, W[i]? = some e → J 193 (12 * h + i) = lN (rN e.1) ∧ B 197 (12 * h + i) = nI e.2.1 ∧ isN e.1 ∧ e.2.2.2 ≤ 200 ∧ TR k L B J (fun v => 1400 * h ≤ v ∧ v < M) e.2.2.2 e.2.1 e.2.2.1 e.2.2.2
theorem nt_find {k h M : Nat} {L : lT} {B : iT} {J : jT} {W : List Ent} (hN : NT k h M L B J W) (hh : h < 2) (h32 : B 186 32 = nI h) {w0 : List Nat} (h0 : isN w0) :
    (∃ (i : Nat) (e : Ent), W[i]? = some e ∧ e.1 = w0 ∧ mX12_findType B J (lN (rN w0)) = some (nI e.2.1) ∧ lfind (L (k + 29)) (nI (cN w0)) = nI i) ∨ (mX12_findType B J (lN (rN w0)) = some (-1) ∧ lfind (L (k + 29)) (nI (cN w0)) = -1) := by
  obtain ⟨a1, a2, a3, a4, a5⟩ := hN
  have loop : ∀ (l : List Ent) (j n : Nat), W.drop j = l → l.length < n → j < 1000 → (∃ (i : Nat) (e : Ent), W[i]? = some e ∧ e.1 = w0 ∧ mX12_findType_2 n B J (lN (rN w0)) (nI j) = some (nI e.2.1) ∧ lfindF (nI (cN w0)) (l.map (fun e => nI (cN e.1))) j = nI i) ∨ (mX12_findType_2 n B J (lN (rN w0)) (nI j) = some (-1) ∧ lfindF (nI (cN w0)) (l.map (fun e => nI (cN e.1))) j = -1) := by
    intro l
    induction l with
    | nil =>
      intro j n hd hn hj1
      have hj : j < 2 ^ 31 := by omega
      obtain ⟨n, rfl⟩ : ∃ m, n = m + 1 := ⟨n - 1, by omega⟩
      right
      have hz : W.length ≤ j := List.drop_eq_nil_iff.mp hd
      exact ⟨by rw [mX12_findType_2, h32, if_pos (show inb (nI h) 2 from vp_in_nI hh (by omega)), nI_clamp (by omega), a3, if_pos (nI_le hz hj)], rfl⟩
    | cons e l ih =>
      intro j n hd hn hj1
      obtain ⟨n, rfl⟩ : ∃ m, n = m + 1 := ⟨n - 1, by omega⟩
      have hlt : j < W.length := by
        rcases Nat.lt_or_ge j W.length with q | q
        · exact q
        · rw [List.drop_eq_nil_of_le q] at hd; cases hd
      have hge : W[j]? = some e := by rw [← List.head?_drop, hd]; rfl
      have hdn : W.drop (j + 1) = l := by rw [← List.tail_drop, hd]; rfl
      obtain ⟨b1, b2, b3, b4, b5⟩ := a5 j e hge
      have e12 : (12 : Int32) * nI h + nI j = nI (12 * h + j) := by
        have : (12 : Int32) * nI h = nI (12 * h) := pk_mul 12 h
        rw [this, nI_add]
      have hi : inb (nI (12 * h + j)) 24 := vp_in_nI (by omega) (by omega)
      rw [mX12_findType_2, h32, if_pos (show inb (nI h) 2 from vp_in_nI hh (by omega)), nI_clamp (by omega), a3, if_neg (nI_ge hlt (by omega)), e12, if_pos hi, congrArg (J 193) (nI_clamp (n := 12 * h + j) (by omega)), b1, List.map_cons, lfindF]
      by_cases q : e.1 = w0
      · left
        exact ⟨j, e, hge, q, by rw [if_pos ((lg_eq0 _ _).mpr (by rw [q])), if_pos hi, congrArg (B 197) (nI_clamp (n := 12 * h + j) (by omega)), b2], by rw [if_pos (by rw [q])]⟩
      · rw [if_neg (fun z => q ((rN_inj b3.1 h0.1 b3.2.2 h0.2.2).mp ((lg_eq0 _ _).mp z))), if_neg (fun z => q ((cN_inj b3.1 h0.1 b3.2.2 h0.2.2).mp z)), nI_1]
        exact ih (j + 1) n hdn (by simp at hn; omega) (by omega)
  have := loop W 0 LF rfl (by unfold LF; omega) (by omega)
  rw [nI_0] at this
  unfold mX12_findType lfind
  rw [a1]
  exact this
