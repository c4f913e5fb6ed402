/-! THE STATE WHILE A TYPE IS READ (pure) -/
def rT (h md : Nat) (B : iT) (J : jT) (B' : iT) (J' : jT) : Prop := (∀ b i, ¬ (b = 186 ∧ ((2 ≤ i ∧ i ≤ 5) ∨ i = 17 ∨ (34 ≤ i ∧ i ≤ 36))) → ¬ (188 ≤ b ∧ b ≤ 191 ∧ 1400 * h + md ≤ i ∧ i < 1400 * h + 1400) → B' b i = B b i) ∧ (∀ b i, ¬ (b = 186 ∧ i = 6) → ¬ (b = 192 ∧ 1400 * h + md ≤ i ∧ i < 1400 * h + 1400) → J' b i = J b i)
theorem rT.rfl {h md : Nat} {B : iT} {J : jT} : rT h md B J B J := ⟨fun _ _ _ _ => Eq.refl _, fun _ _ _ _ => Eq.refl _⟩
theorem rT.trans {h md md1 : Nat} {B B1 B2 : iT} {J J1 J2 : jT} (a : rT h md B J B1 J1) (b : rT h md1 B1 J1 B2 J2) (hm : md ≤ md1) : rT h md B J B2 J2 :=
  ⟨fun x i p q => (b.1 x i p (by omega)).trans (a.1 x i p q), fun x i p q => (b.2 x i p (by omega)).trans (a.2 x i p q)⟩
theorem rT_RX {h md : Nat} {B B1 : iT} {J J1 : jT} (a : rT h md B J B1 J1) : RX h B J B1 J1 := by
  intro b i q
  unfold touR at q
  exact ⟨a.1 b i (by omega) (by omega), a.2 b i (by omega) (by omega)⟩
theorem rf_rT {h md : Nat} {B B1 : iT} {J J1 : jT} (a : rf B J B1 J1) : rT h md B J B1 J1 := ⟨fun b i p _ => a.1 b i (by omega), fun b i p _ => a.2 b i p⟩
def cT (k : Nat) (I I' : iT) : Prop := ∀ b, b ≠ 6 → b ≠ 142 → ¬ (k + 2 ≤ b ∧ b ≤ k + 13) → ¬ (143 ≤ b ∧ b ≤ 146) → I' b = I b
theorem cT.rfl {k : Nat} {I : iT} : cT k I I := fun _ _ _ _ _ => Eq.refl _
theorem cT.trans {k : Nat} {I I1 I2 : iT} (a : cT k I I1) (b : cT k I1 I2) : cT k I I2 := fun x p q r s => (b x p q r s).trans (a x p q r s)
theorem cT_FX {k : Nat} {I I1 : iT} (a : cT k I I1) : FX k I I1 := fun x p q r => a x p (by omega) (by omega) (by omega)
theorem cf_cT {k : Nat} {I I1 : iT} (a : cf I I1) : cT k I I1 := fun x p _ _ _ => cf_b a p
theorem sc_cT {k : Nat} {I : iT} (j : Nat) (v : Int32) : cT k I (a_u2 I 142 j v) := fun x _ p _ _ => a_u2_r _ _ p
/-- all but the cursors -/
def TS (k h M : Nat) (W : List Ent) (F : fT) (I B : iT) (J : jT) (L : lT) (P c md op : Nat) : Prop :=
  RS I k L ∧ F 142 3 = k ∧ tabL k L ∧ NT k h M L B J W ∧ (h < 2 ∧ B 186 32 = nI h ∧ B 186 16 = nI (1400 * h) ∧ B 186 17 = nI md ∧ M ≤ 1400 * h + md) ∧ (B 186 34 = nI c ∧ I 142 4 = nI c ∧ c ≤ 200) ∧ (B 186 35 = nI op ∧ op ≤ 12 ∧ (L 145).length = (L 143).length ∧ (L 143).length ≤ 6 * op) ∧ ((L (k + 2)).length ≤ P ∧ 2 * (L (k + 10)).length ≤ P ∧ md ≤ P)
theorem nt_to {k h M : Nat} {L L' : lT} {B B' : iT} {J J' : jT} {W : List Ent} (hN : NT k h M L B J W) (hT : tabL k L) (hE : TE k L L') (h29 : L' (k + 29) = L (k + 29)) (h31 : L' (k + 31) = L (k + 31)) (hA : ∀ v, 1400 * h ≤ v → v < M → (B' 188 v = B 188 v ∧ B' 189 v = B 189 v ∧ B' 190 v = B 190 v ∧ B' 191 v = B 191 v ∧ J' 192 v = J 192 v)) (h4 : B' 204 h = B 204 h) (h3 : ∀ i, J' 193 i = J 193 i) (h7 : ∀ i, B' 197 i = B 197 i) : NT k h M L' B' J' W := by
  obtain ⟨a1, a2, a3, a4, a5⟩ := hN
  refine ⟨by rw [h29]; exact a1, by rw [h31]; exact a2, by rw [h4]; exact a3, a4, fun i e he => ?_⟩
  obtain ⟨b1, b2, b3, b4, b5⟩ := a5 i e he
  exact ⟨by rw [h3]; exact b1, by rw [h7]; exact b2, b3, b4, tr_to hT hE (fun v hv => hA v hv.1 hv.2) (fun v hv => hv) _ _ _ _ _ (Nat.le_refl _) b5⟩
theorem TE.rfl {k : Nat} {L : lT} : TE k L L := fun a _ _ => ⟨[], (List.append_nil _).symm⟩
theorem TE.trans {k : Nat} {L L1 L2 : lT} (h : TE k L L1) (g : TE k L1 L2) : TE k L L2 := by
  intro a h1 h2
  obtain ⟨r, e⟩ := h a h1 h2
  obtain ⟨r', e'⟩ := g a h1 h2
  exact ⟨r ++ r', by rw [e', e, List.append_assoc]⟩
theorem TE_eq {k : Nat} {L L' : lT} (h : ∀ a, k + 2 ≤ a → a ≤ k + 12 → L' a = L a) : TE k L L' := fun a h1 h2 => ⟨[], by rw [h a h1 h2, List.append_nil]⟩
theorem tab_eq {k : Nat} {L L' : lT} (h : ∀ a, k + 2 ≤ a → a ≤ k + 12 → L' a = L a) (hT : tabL k L) : tabL k L' := by
  unfold tabL
  rw [h _ (by omega) (by omega), h _ (by omega) (by omega), h _ (by omega) (by omega), h _ (by omega) (by omega), h _ (by omega) (by omega), h _ (by omega) (by omega)]
  exact hT
section
variable {k h M : Nat} {W : List Ent} {F : fT} {I B : iT} {J : jT} {L : lT} {P c md op : Nat}
/-- the cursors may go on -/
theorem ts_cur (H : TS k h M W F I B J L P c md op) {I' B' : iT} {J' : jT} {P' : Nat} (a : cf I I') (b : rf B J B' J') (hP : P ≤ P') : TS k h M W F I' B' J' L P' c md op := by
  obtain ⟨h1, h2, h3, h4, ⟨h5, h6, h7, h8, h9⟩, ⟨h10, h11, h12⟩, ⟨h13, h14, h15, h16⟩, h17, h18, h19⟩ := H
  refine ⟨cf_RS a h1, h2, h3, ?_, ⟨h5, by rw [b.1 _ _ (by omega)]; exact h6, by rw [b.1 _ _ (by omega)]; exact h7, by rw [b.1 _ _ (by omega)]; exact h8, h9⟩, ⟨by rw [b.1 _ _ (by omega)]; exact h10, by rw [a _ _ (by omega)]; exact h11, h12⟩, ⟨by rw [b.1 _ _ (by omega)]; exact h13, h14, h15, h16⟩, by omega, by omega, by omega⟩
  exact nt_to h4 h3 TE.rfl rfl rfl (fun v _ _ => ⟨b.1 _ _ (by omega), b.1 _ _ (by omega), b.1 _ _ (by omega), b.1 _ _ (by omega), b.2 _ _ (by omega)⟩) (b.1 _ _ (by omega)) (fun i => b.2 _ _ (by omega)) (fun i => b.1 _ _ (by omega))
/-- what a T that was read well leaves -/
def TG (k h M : Nat) (W : List Ent) (F : fT) (I B : iT) (J : jT) (L : lT) (bs : List Nat) (P c md op : Nat) (I' B' : iT) (J' : jT) (u tt p : Nat) : Prop :=
  ∃ L' t' r' md', CR I' B' J' bs t' r' ∧ TS k h M W F I' B' J' L' t'.2.2 (c + p) md' op ∧ EXT k L L' ∧ TR k L' B' J' (fun v => (1400 * h ≤ v ∧ v < M) ∨ (1400 * h + md ≤ v ∧ v < 1400 * h + md')) p u tt p ∧ B' 186 36 = nI u ∧ md ≤ md' ∧ (L' (k + 2)).length + P ≤ (L (k + 2)).length + t'.2.2 ∧ 2 * (L' (k + 10)).length + P ≤ 2 * (L (k + 10)).length + t'.2.2 ∧ md' + P ≤ md + t'.2.2 ∧ P < t'.2.2 ∧ cT k I I' ∧ rT h md B J B' J'
/-- class and reference read a T alike -/
def TO (k h M : Nat) (W : List Ent) (F : fT) (I B : iT) (J : jT) (L : lT) (bs : List Nat) (P c md op : Nat) (oc : Option (Int32 × iT)) (or : Option (Int32 × iT × jT)) : Prop :=
  ∃ x I' v B' J', oc = some (x, I') ∧ or = some (v, B', J') ∧ ((v = 0 ∧ FAIL k h I B J I' B' J') ∨ (v = 1 ∧ ∃ u tt p, x = nI tt ∧ TG k h M W F I B J L bs P c md op I' B' J' u tt p))
/-- the class has gone on, the reference has not: both refuse -/
theorem jbad2 {bs : List Nat} {t : Tok} {r : List Tok} (hC : CR I B J bs t r) {I1 : iT} {L1 : lT} (hR : RS I1 k L1) (h9 : I1 6 9 = 0) (hX : FX k I I1) (h : Nat) {f : Int32} (hn : f ≠ 0) (p : Int32) : ∃ I' B', mX2_refuse I1 f p = some I' ∧ mX12_bad B f p = some (0, B') ∧ FAIL k h I B J I' B' J := by
  obtain ⟨I', a1, a2, a3, _⟩ := refuse_ok hR h9 hn p
  obtain ⟨B', b1, b2, b3, b4⟩ := bad_ok hC f p
  refine ⟨I', B', a1, b1, ⟨f, p, a2, hX.trans a3, b2, b3, fun b i q => ⟨b4 b i ?_, rfl⟩⟩⟩
  unfold touR at q
  omega
/-- behind a failed class -/
theorem fmo_FAIL {hf : Nat} {I I1 B1 : iT} {J1 : jT} (H : FAIL k hf I B J I1 B1 J1) {o : Option (Int32 × iT)} (ho : ∀ f p, FM k f p I1 → FMo k f p I1 o) : ∃ x I', o = some (x, I') ∧ FAIL k hf I B J I' B1 J1 := by
  obtain ⟨f, p, c1, c2, c3, c4, c5⟩ := H
  obtain ⟨x, I', e1, e2, e3⟩ := ho f p c1
  exact ⟨x, I', e1, f, p, e2, c2.trans (FY_FX e3), c3, c4, c5⟩
end
/-! the type reader, failed -/
section
variable {k : Nat} {f p : Int32}
theorem fm_93 {I : iT} (R : sc_9readChoiceT) (F : fT) (h : FM k f p I) (x1 x2 x3 x4 : Int32) : FMo k f p I (mX9_readChoice_93 R I F x1 x2 x3 x4) := by
  unfold mX9_readChoice_93
  rw [fm_want h (by decide), sb, fm_failed h, sb, if_neg i10]
  exact fmo_ret h _
theorem fm_20 {I : iT} (R : sc_9readChoiceT) (F : fT) (h : FM k f p I) (n : Nat) (x1 x2 x3 x4 : Int32) : FMo k f p I (mX9_readChoice_20 R (n + 1) I F x1 x2 x3 x4) := by
  rw [mX9_readChoice_20]
  refine fmo_if (fm_93 R F h _ _ _ _) ?_
  rw [fm_failed h, sb, if_neg i10]
  exact fm_93 R F h _ _ _ _
theorem m1_le {n : Nat} (h : n < 2 ^ 31) : (-1 : Int32) ≤ nI n := by
  rw [Int32.le_iff_toInt_le, nI_toInt h]
  have e2 : (-1 : Int32).toInt = -1 := by decide
  omega
theorem fm_sort {I : iT} (h : FM k f p I) {from0 : Nat} (hf : from0 < 2 ^ 31) : FMu k f p I (mX9_sortLast I (nI from0)) := by
  have loop : ∀ (j n : Nat) (I : iT), j < 20000 → j < n → FM k f p I → FMu k f p I (mX9_sortLast_10 n I (nI from0) (nI j)) := by
    intro j
    induction j with
    | zero =>
      intro n I hj hn h
      obtain ⟨n, rfl⟩ : ∃ m, n = m + 1 := ⟨n - 1, by omega⟩
      rw [mX9_sortLast_10, if_pos (nI_le (Nat.zero_le _) hf)]
      exact fmu_ret h
    | succ j ih =>
      intro n I hj hn h
      obtain ⟨n, rfl⟩ : ∃ m, n = m + 1 := ⟨n - 1, by omega⟩
      rw [mX9_sortLast_10]
      refine fmu_if (fmu_ret h) ?_
      refine fmu_r (fm_at h (by unfold rowA; omega) _) (fun v1 => fmu_r (fm_at h (by unfold rowA; omega) _) (fun v2 => fmu_r (fm_at h (by unfold rowA; omega) _) (fun v3 => fmu_if ?_ (fmu_ret h))))
      refine fmu_r (fm_at h (by unfold rowA; omega) _) (fun v4 => fmu_u (fm_put h (by unfold rowB; omega) _ _) (fun I1 h1 => fmu_r (fm_at h1 (by unfold rowA; omega) _) (fun v5 => fmu_u (fm_put h1 (by unfold rowB; omega) _ _) (fun I2 h2 => fmu_u (fm_put h2 (by unfold rowB; omega) _ _) (fun I3 h3 => fmu_u (fm_put h3 (by unfold rowB; omega) _ _) (fun I4 h4 => ?_))))))
      have e : nI (j + 1) + (-1) = nI j := by
        rw [← nI_pred j, Int32.sub_eq_add_neg]
      rw [e]
      exact ih n I4 (by omega) (by omega) h4
  obtain ⟨L, hL⟩ := h.1
  have hs := rs_len hL (a := 143) (by unfold rowA; omega)
  have hs2 := LEN_le (143 + 1)
  unfold mX9_sortLast
  rw [rs_size hL (by unfold rowA; omega), sb]
  rcases Nat.eq_zero_or_pos (L 143).length with q | q
  · have e : nI 0 - 1 = (-1 : Int32) := by decide
    have eLF : LF = 99999 + 1 := rfl
    rw [q, e, eLF, mX9_sortLast_10, if_pos (m1_le hf)]
    exact fmu_ret h
  · obtain ⟨j, hj⟩ : ∃ j, (L 143).length = j + 1 := ⟨(L 143).length - 1, by omega⟩
    rw [hj, nI_pred]
    exact loop j LF I (by omega) (by unfold LF; omega) h
theorem fm_rb19 {I : iT} (h : FM k f p I) (j n : Nat) (hj : j < 1000) (hn : 20000 < n) (x1 x2 x3 : Int32) : FMo k f p I (mX9_readBranchName_19 n I x1 x2 x3 (nI j)) := by
  obtain ⟨L, hL⟩ := h.1
  have hs := rs_len hL (a := 143) (by unfold rowA; omega)
  have hs2 := LEN_le (143 + 1)
  have h82 : ∀ x1 x2 x3 x4, FMo k f p I (mX9_readBranchName_82 I x1 x2 x3 x4) := by
    intro x1 x2 x3 x4
    unfold mX9_readBranchName_82
    exact fmo_o (fm_add h (by unfold rowB; omega) _) (fun v I1 h1 => fmo_o (fm_add h1 (by unfold rowB; omega) _) (fun v2 I2 h2 => fmo_ret h2 _))
  have loop : ∀ (d j n : Nat) (x1 x2 x3 : Int32), (L 143).length ≤ j + d → d < n → j + d < 100000 → FMo k f p I (mX9_readBranchName_19 n I x1 x2 x3 (nI j)) := by
    intro d
    induction d with
    | zero =>
      intro j n x1 x2 x3 hj hn hb
      obtain ⟨n, rfl⟩ : ∃ m, n = m + 1 := ⟨n - 1, by omega⟩
      rw [mX9_readBranchName_19, rs_size hL (by unfold rowA; omega), sb, if_pos (nI_le (by omega) (by omega)), sb, fm_refuse h, sb]
      exact fmo_if (h82 _ _ _ _) (h82 _ _ _ _)
    | succ d ih =>
      intro j n x1 x2 x3 hj hn hb
      obtain ⟨n, rfl⟩ : ∃ m, n = m + 1 := ⟨n - 1, by omega⟩
      rw [mX9_readBranchName_19, rs_size hL (by unfold rowA; omega), sb, sb, fm_refuse h, sb]
      refine fmo_if (fmo_if (h82 _ _ _ _) (h82 _ _ _ _)) ?_
      refine fmo_r (fm_at h (by unfold rowA; omega) _) (fun v => ?_)
      rw [fm_refuse h, sb]
      unfold mX9_readBranchName_53
      rw [nI_1]
      exact fmo_if (ih (j + 1) n x1 x2 x3 (by omega) (by omega) (by omega)) (ih (j + 1) n x1 x2 x3 (by omega) (by omega) (by omega))
  exact loop (L 143).length j n _ _ _ (by omega) (by omega) (by omega)
theorem fm_82 {I : iT} (h : FM k f p I) (x1 x2 x3 x4 : Int32) : FMo k f p I (mX9_readBranchName_82 I x1 x2 x3 x4) := by
  unfold mX9_readBranchName_82
  exact fmo_o (fm_add h (by unfold rowB; omega) _) (fun v I1 h1 => fmo_o (fm_add h1 (by unfold rowB; omega) _) (fun v2 I2 h2 => fmo_ret h2 _))
/-- a turn of readChoice behind its T -/
theorem fm_turn {I : iT} (R : sc_9readChoiceT) (F : fT) (n : Nat) (h : FM k f p I) (x1 x2 : Int32) {from0 : Nat} (hf : from0 < 1000) (x4 d v : Int32) : FMo k f p I ((mX4_put 145 I d v).bind fun q10 => (mX9_sortLast q10 (nI from0)).bind fun q11 => (mX2_skip q11 44).bind fun q12 => if q12.1 = 0 then mX9_readChoice_93 R q12.2 F x1 x2 (nI from0) x4 else mX9_readChoice_20 R n q12.2 F x1 x2 (nI from0) (x4 + 1)) := by
  refine fmo_u (fm_put h (by unfold rowB; omega) _ _) (fun I1 h1 => fmo_u (fm_sort h1 (by omega)) (fun I2 h2 => ?_))
  rw [fm_skip h2 (by decide), sb, if_pos rfl]
  exact fm_93 R F h2 _ _ _ _
end
