/-! THE BRANCHES OF A CHOICE, in both (pure) -/
theorem lat_ch {l : List Int32} {x : Int32} (h : lat l x ≠ -1) : ∃ t, t < l.length ∧ ∀ l', lat l' x = gI l' t := by
  unfold lat at h
  by_cases q : x < 0
  · rw [if_pos q] at h; exact (h rfl).elim
  · rw [if_neg q] at h
    refine ⟨x.toNatClampNeg, gI_lt h, fun l' => ?_⟩
    unfold lat
    rw [if_neg q]; rfl
theorem isCh_any (y : Int32) : mX10_isChoice y = some (if y = 43 ∨ y = 38 then 1 else 0) := by
  unfold mX10_isChoice mX10_isChoice_12
  by_cases q : y = 43
  · rw [if_pos q, if_pos (Or.inl q)]
  · rw [if_neg q]
    by_cases q2 : y = 38
    · rw [if_pos q2, if_pos (Or.inr q2)]
    · rw [if_neg q2, if_neg (fun z => z.elim q q2)]
section
variable {k : Nat} {I : iT} {L : lT}
theorem len10 (h : RS I k L) : (L (k + 10)).length ≤ 500 := by
  have hl := rs_len h (a := k + 10) (by unfold rowA; omega)
  have : LEN (k + 10 + 1) = 500 := by
    rcases h.1 with rfl | rfl <;> decide +kernel
  omega
theorem br_any (h : RS I k L) (hT : tabL k L) (x : Int32) : ∃ m, m ≤ 500 ∧ mX10_branches (k + 1) I x = some (nI m) := by
  have h2 : mX4_at (k + 1 + 1) I x = some (lat (L (k + 2)) x) := rs_at h (a := k + 2) (by unfold rowA; omega) x
  have h6 : mX4_at (k + 1 + 5) I x = some (lat (L (k + 6)) x) := rs_at h (a := k + 6) (by unfold rowA; omega) x
  unfold mX10_branches
  rw [h2, sb, isCh_any, sb]
  by_cases q : lat (L (k + 2)) x = 43 ∨ lat (L (k + 2)) x = 38
  · obtain ⟨t, t1, t2⟩ := lat_ch (l := L (k + 2)) (x := x) (by
      intro z
      rw [z] at q
      revert q
      decide)
    rw [t2] at q
    obtain ⟨f, m, c1, c2, c3, c4⟩ := hT.2.2.1 t t1 q
    have := len10 h
    rw [t2 (L (k + 2)), if_pos q, if_neg i10, h6, sb, t2, c2]
    exact ⟨m, by omega, rfl⟩
  · rw [if_neg q, if_pos rfl]
    exact ⟨0, by omega, rfl⟩
theorem bn_any (h : RS I k L) (x y : Int32) : ∃ v, mX10_branchName (k + 1) I x y = some v := by
  have h2 : mX4_at (k + 1 + 3) I x = some (lat (L (k + 4)) x) := rs_at h (a := k + 4) (by unfold rowA; omega) x
  have h6 : ∀ z, mX4_at (k + 1 + 9) I z = some (lat (L (k + 10)) z) := fun z => rs_at h (a := k + 10) (by unfold rowA; omega) z
  unfold mX10_branchName
  rw [h2, sb, h6, sb]
  exact ⟨_, rfl⟩
theorem bt_any (h : RS I k L) (x y : Int32) : ∃ v, mX10_branchT (k + 1) I x y = some v := by
  have h2 : mX4_at (k + 1 + 3) I x = some (lat (L (k + 4)) x) := rs_at h (a := k + 4) (by unfold rowA; omega) x
  have h6 : ∀ z, mX4_at (k + 1 + 11) I z = some (lat (L (k + 12)) z) := fun z => rs_at h (a := k + 12) (by unfold rowA; omega) z
  unfold mX10_branchT
  rw [h2, sb, h6, sb]
  exact ⟨_, rfl⟩
theorem fb_any (h : RS I k L) (hT : tabL k L) (x y : Int32) : ∃ v, mX10_findBranch (k + 1) I x y = some v := by
  obtain ⟨m, m1, m2⟩ := br_any h hT x
  have loop : ∀ d j n, j + d = m → d < n → ∃ v, mX10_findBranch_2 (k + 1) n I x y (nI j) = some v := by
    intro d
    induction d with
    | zero =>
      intro j n hj hn
      obtain ⟨n, rfl⟩ : ∃ z, n = z + 1 := ⟨n - 1, by omega⟩
      exact ⟨-1, by rw [mX10_findBranch_2, m2, sb, if_pos (nI_le (by omega) (by omega))]⟩
    | succ d ih =>
      intro j n hj hn
      obtain ⟨n, rfl⟩ : ∃ z, n = z + 1 := ⟨n - 1, by omega⟩
      obtain ⟨v, e⟩ := bn_any h x (nI j)
      rw [mX10_findBranch_2, m2, sb, if_neg (nI_ge (by omega) (by omega)), e, sb, nI_1]
      by_cases q : v = y
      · rw [if_pos q]; exact ⟨_, rfl⟩
      · rw [if_neg q]
        exact ih (j + 1) n (by omega) (by omega)
  have := loop m 0 LF (by omega) (by unfold LF; omega)
  rw [nI_0] at this
  exact this
/-- the class's branches of a CHOICE -/
theorem brs_c (h : RS I k L) {t kd m : Nat} (ht : t < 2 ^ 31) (hk : gI (L (k + 2)) t = nI kd) (hkd : kd = 43 ∨ kd = 38) (hm : gI (L (k + 6)) t = nI m) : mX10_branches (k + 1) I (nI t) = some (nI m) := by
  have h2 : mX4_at (k + 1 + 1) I (nI t) = some (gI (L (k + 2)) t) := rs_g h (a := k + 2) (by unfold rowA; omega) ht
  have h6 : mX4_at (k + 1 + 5) I (nI t) = some (gI (L (k + 6)) t) := rs_g h (a := k + 6) (by unfold rowA; omega) ht
  unfold mX10_branches
  rw [h2, sb, isCh_any, sb, if_pos (show gI (L (k + 2)) t = 43 ∨ gI (L (k + 2)) t = 38 from by rw [hk]; exact hkd.elim (fun z => Or.inl (by rw [z]; rfl)) (fun z => Or.inr (by rw [z]; rfl))), if_neg i10, h6, sb, hm]
theorem bn_c (h : RS I k L) {t f : Nat} (ht : t < 2 ^ 31) (hf : gI (L (k + 4)) t = nI f) (j : Nat) (hj : f + j < 2 ^ 31) : mX10_branchName (k + 1) I (nI t) (nI j) = some (gI (L (k + 10)) (f + j)) := by
  have h2 : mX4_at (k + 1 + 3) I (nI t) = some (gI (L (k + 4)) t) := rs_g h (a := k + 4) (by unfold rowA; omega) ht
  have h6 : mX4_at (k + 1 + 9) I (nI (f + j)) = some (gI (L (k + 10)) (f + j)) := rs_g h (a := k + 10) (by unfold rowA; omega) hj
  unfold mX10_branchName
  rw [h2, sb, hf, nI_add, h6, sb]
theorem bt_c (h : RS I k L) {t f : Nat} (ht : t < 2 ^ 31) (hf : gI (L (k + 4)) t = nI f) (j : Nat) (hj : f + j < 2 ^ 31) : mX10_branchT (k + 1) I (nI t) (nI j) = some (gI (L (k + 12)) (f + j)) := by
  have h2 : mX4_at (k + 1 + 3) I (nI t) = some (gI (L (k + 4)) t) := rs_g h (a := k + 4) (by unfold rowA; omega) ht
  have h6 : mX4_at (k + 1 + 11) I (nI (f + j)) = some (gI (L (k + 12)) (f + j)) := rs_g h (a := k + 12) (by unfold rowA; omega) hj
  unfold mX10_branchT
  rw [h2, sb, hf, nI_add, h6, sb]
theorem chain_get {B : iT} {J : jT} : ∀ (bl : List Br) (x : Int32), chain B J x bl → ∀ e ∈ bl, e.1 < 2800 ∧ B 188 e.1 = 8 ∧ B 189 e.1 = nI e.2.2.1 ∧ B 190 e.1 = -1 ∧ J 192 e.1 = lN (rN e.2.1) := by
  intro bl
  induction bl with
  | nil => intro x _ e he; cases he
  | cons a l ih =>
    intro x hc e he
    obtain ⟨h1, h2, h3, h4, h5, h6, h7⟩ := hc
    rcases List.mem_cons.mp he with z | z
    · subst z; exact ⟨h2, h3, h4, h5, h6⟩
    · exact ih _ h7 e z
theorem bl_inj {bl : List Br} (hP : bl.Pairwise (fun a b => dlt a.2.1 b.2.1)) : ∀ (i j : Nat) (a b : Br), bl[i]? = some a → bl[j]? = some b → a.2.1 = b.2.1 → i = j := by
  intro i j a b h1 h2 h3
  obtain ⟨g1, g2⟩ := List.getElem?_eq_some_iff.mp h1
  obtain ⟨g3, g4⟩ := List.getElem?_eq_some_iff.mp h2
  have hp := List.pairwise_iff_getElem.mp hP
  rcases Nat.lt_trichotomy i j with q | q | q
  · exfalso
    have := hp i j g1 g3 q
    rw [g2, g4, h3] at this
    exact dlt_irr _ this
  · exact q
  · exfalso
    have := hp j i g3 g1 q
    rw [g2, g4, h3] at this
    exact dlt_irr _ this
/-- a CHOICE by its branches -/
def CHO (k : Nat) (L : lT) (B : iT) (J : jT) (Q : Nat → Prop) (u t f : Nat) (bl : List Br) : Prop :=
  u < 2800 ∧ t < (L (k + 2)).length ∧ gI (L (k + 4)) t = nI f ∧ gI (L (k + 6)) t = nI bl.length ∧ 1 ≤ bl.length ∧ bl.length ≤ 6 ∧ f + bl.length ≤ (L (k + 10)).length ∧ chain B J (B 189 u) bl ∧ bl.Pairwise (fun a b => dlt a.2.1 b.2.1) ∧ ∀ (i : Nat) (e : Br), bl[i]? = some e → Q e.1 ∧ isN e.2.1 ∧ gI (L (k + 10)) (f + i) = nI (cN e.2.1) ∧ gI (L (k + 12)) (f + i) = nI e.2.2.2.1 ∧ e.2.2.2.2 ≤ 200 ∧ TR k L B J Q e.2.2.2.2 e.2.2.1 e.2.2.2.1 e.2.2.2.2
theorem tr_cho {B : iT} {J : jT} {Q : Nat → Prop} {d u t p kd : Nat} (h : TR k L B J Q d u t p) (hp : p ≤ 200) (hk : gI (L (k + 2)) t = nI kd) (hkd : kd = 43 ∨ kd = 38) : ∃ f bl, CHO k L B J Q u t f bl := by
  cases d with
  | zero => exact h.elim
  | succ d =>
    obtain ⟨h1, h2, h3, h4, h5⟩ := h
    have ne : ∀ c, c < 1000 → c ≠ 43 → c ≠ 38 → gI (L (k + 2)) t ≠ nI c := by
      intro c c0 c1 c2 z
      clear h5
      rw [hk] at z
      have := (nI_eq (a := kd) (b := c) (by omega) (by omega)).mp z
      omega
    rcases h5 with ⟨c1, _⟩ | ⟨kd', w, u1, t1, p1, c1, c2, _⟩ | ⟨kd', w, u1, t1, p1, u2, t2, p2, c1, c2, _⟩ | ⟨kd', w, f, bl, c1, c2, c3, c4, c5, c6, c7, c8, c9, c10, c11, c12, c13⟩
    · exact (ne 302 (by omega) (by omega) (by omega) c1).elim
    · exact (ne kd' (by omega) (by omega) (by omega) c2).elim
    · exact (ne kd' (by omega) (by omega) (by omega) c2).elim
    · refine ⟨f, bl, h1, h3, c5, c6, c7, c8, c9, c10, c11, fun i e he => ?_⟩
      obtain ⟨x1, x2, x3, x4, x5⟩ := c13 i e he
      have := psm_le bl e (List.mem_of_getElem? he)
      exact ⟨x1, x2, x3, x4, by omega, tr_fuel _ _ _ _ x5⟩
/-- both look a NAME up among the branches -/
theorem cho_find {B : iT} {J : jT} {Q : Nat → Prop} {u t f kd : Nat} {bl : List Br} (h : RS I k L) (H : CHO k L B J Q u t f bl) (hk : gI (L (k + 2)) t = nI kd) (hkd : kd = 43 ∨ kd = 38) {w : List Nat} (hw : isN w) :
    (∃ (j : Nat) (e : Br), bl[j]? = some e ∧ e.2.1 = w ∧ mX10_findBranch (k + 1) I (nI t) (nI (cN w)) = some (nI j) ∧ mX12_branch B J (nI u) (lN (rN w)) = some (nI e.1)) ∨ ((∀ e ∈ bl, e.2.1 ≠ w) ∧ mX10_findBranch (k + 1) I (nI t) (nI (cN w)) = some (-1) ∧ mX12_branch B J (nI u) (lN (rN w)) = some (-1)) := by
  obtain ⟨c1, c2, c3, c4, c5, c6, c7, c8, c9, c10⟩ := H
  have hK := rs_K h
  have hN := len10 h
  have loop : ∀ d j n, j + d = bl.length → d < n → (∀ (i : Nat) (e : Br), i < j → bl[i]? = some e → e.2.1 ≠ w) → (∃ (i : Nat) (e : Br), bl[i]? = some e ∧ e.2.1 = w ∧ mX10_findBranch_2 (k + 1) n I (nI t) (nI (cN w)) (nI j) = some (nI i)) ∨ ((∀ (i : Nat) (e : Br), bl[i]? = some e → e.2.1 ≠ w) ∧ mX10_findBranch_2 (k + 1) n I (nI t) (nI (cN w)) (nI j) = some (-1)) := by
    intro d
    induction d with
    | zero =>
      intro j n hj hn hno
      obtain ⟨n, rfl⟩ : ∃ z, n = z + 1 := ⟨n - 1, by omega⟩
      right
      refine ⟨fun i e he => hno i e (by have := (List.getElem?_eq_some_iff.mp he).1; omega) he, ?_⟩
      rw [mX10_findBranch_2, brs_c h (by omega) hk hkd c4, sb, if_pos (nI_le (by omega) (by omega))]
    | succ d ih =>
      intro j n hj hn hno
      obtain ⟨n, rfl⟩ : ∃ z, n = z + 1 := ⟨n - 1, by omega⟩
      have hjl : j < bl.length := by omega
      obtain ⟨x1, x2, x3, x4, x5⟩ := c10 j bl[j] (List.getElem?_eq_getElem hjl)
      rw [mX10_findBranch_2, brs_c h (by omega) hk hkd c4, sb, if_neg (nI_ge (by omega) (by omega)), bn_c h (by omega) c3 j (by omega), sb, x3, nI_1]
      by_cases q : bl[j].2.1 = w
      · rw [if_pos (by rw [q])]
        exact Or.inl ⟨j, bl[j], List.getElem?_eq_getElem hjl, q, rfl⟩
      · rw [if_neg (fun z => q ((cN_inj x2.1 hw.1 x2.2.2 hw.2.2).mp z))]
        refine ih (j + 1) n (by omega) (by omega) (fun i e hi he => ?_)
        by_cases z : i = j
        · subst z
          rw [List.getElem?_eq_getElem hjl] at he
          rw [← Option.some.inj he]; exact q
        · exact hno i e (by omega) he
  have e1 := loop bl.length 0 LF (by omega) (by unfold LF; omega) (fun i e hi => by omega)
  rw [nI_0] at e1
  have e2 := chain_find (B := B) (J := J) (nI u) hw bl (B 189 u) LF c8 (fun e he => by
    obtain ⟨i, hi, rfl⟩ := List.getElem_of_mem he
    exact (c10 i _ (List.getElem?_eq_getElem hi)).2.1) (by unfold LF; omega)
  have e3 : mX12_branch B J (nI u) (lN (rN w)) = mX12_branch_8 LF B J (nI u) (lN (rN w)) (B 189 u) := by
    unfold mX12_branch
    rw [if_pos (in28 c1), congrArg (B 189) (cl28 c1)]
  rw [e3]
  rcases e1 with ⟨i, e, a1, a2, a3⟩ | ⟨a1, a2⟩
  · rcases e2 with ⟨i', e', b1, b2, b3⟩ | ⟨b1, b2⟩
    · have : i = i' := bl_inj c9 i i' e e' a1 b1 (by rw [a2, b2])
      subst this
      have : e = e' := Option.some.inj (a1.symm.trans b1)
      subst this
      exact Or.inl ⟨i, e, a1, a2, a3, b3⟩
    · exact (b1 e (List.mem_of_getElem? a1) a2).elim
  · rcases e2 with ⟨i', e', b1, b2, b3⟩ | ⟨b1, b2⟩
    · exact (a1 i' e' b1 b2).elim
    · exact Or.inr ⟨b1, a2, b2⟩
end
