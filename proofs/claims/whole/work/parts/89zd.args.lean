/-! ARGS, in both (pure) -/
/-- what leads to the next ARG: the list, or the last ARG's node -/
def hdT (o : Option Nat) (B : iT) : Int32 := match o with
  | none => B 186 50
  | some bt => B 191 bt
def upT (o : Option Nat) (B : iT) (v : Int32) : iT := match o with
  | none => B
  | some bt => a_u2 B 191 bt v
def TLc (o : Option Nat) (B : iT) (h M md : Nat) (x3 : Int32) : Prop := match o with
  | none => x3 = -1 ∧ B 186 50 = -1
  | some bt => x3 = nI bt ∧ M ≤ bt ∧ 1400 * h ≤ bt ∧ bt < 1400 * h + md ∧ ∃ b0, b0 < 2800 ∧ B 186 50 = nI b0
section
variable {k h M n : Nat} {D : List Df} {F : fT} {I B : iT} {J : jT} {L : lT} {bs : List Nat} {t : Tok} {r : List Tok} {P md nest wd b z : Nat} {S : List Sl} {a6 a8 a0 : List Int32}
/-- a node's next is set -/
theorem ps_191 (H : PS k h M n D F I B J L P md nest S a6 a8 a0 wd b z) {bt : Nat} (hb : M ≤ bt) (v : Int32) : PS k h M n D F I (a_u2 B 191 bt v) J L P md nest S a6 a8 a0 wd b z := by
  obtain ⟨⟨x1, x2, x3, x4, ⟨y1, y2, y3, y4⟩, x6, ⟨y5, y6⟩, x8⟩, ⟨h2, h3⟩, h4, h5, ⟨h6, h7⟩, h10, h13⟩ := H
  have fB : ∀ q j, ¬ (q = 191 ∧ j = bt) → (a_u2 B 191 bt v) q j = B q j := fun q j w => a_u2_n _ _ w
  exact ⟨⟨x1, x2, x3, x4, ⟨y1, by rw [fB _ _ (by omega)]; exact y2, by rw [fB _ _ (by omega)]; exact y3, y4⟩, sr_to x6 x3 TE.rfl (fun _ _ _ => rfl) (fB _ _ (by omega)) (fun _ => fB _ _ (by omega)) (fun _ => fB _ _ (by omega)) (fun _ => rfl) (fun _ _ _ => ⟨fB _ _ (by omega), fB _ _ (by omega), fB _ _ (by omega), fB _ _ (by omega), rfl⟩), ⟨by rw [fB _ _ (by omega)]; exact y5, y6⟩, x8⟩, ⟨h2, by rw [fB _ _ (by omega)]; exact h3⟩, h4, dd_to h5 x3 TE.rfl rfl (fun _ _ => rfl) (fun _ _ => rfl) (fun _ _ => rfl) (fun _ _ _ => ⟨fB _ _ (by omega), fB _ _ (by omega), fB _ _ (by omega), fB _ _ (by omega), rfl⟩) (fun q j hq => fB _ _ (by omega)) (fun _ => rfl), ⟨by rw [fB _ _ (by omega)]; exact h6, h7⟩, h10, h13⟩
theorem rP_191 {B8 : iT} {J8 : jT} (H : rP h md nest B J B8 J8) (bt : Nat) (v : Int32) : rP h md nest (a_u2 B 191 bt v) J (a_u2 B8 191 bt v) J8 := by
  refine ⟨fun c j w1 w2 w3 w4 => ?_, H.2⟩
  by_cases q : c = 191 ∧ j = bt
  · obtain ⟨rfl, rfl⟩ := q
    rw [a_u2_s, a_u2_s]
  · rw [a_u2_n _ _ q, a_u2_n _ _ q]
    exact H.1 c j w1 w2 w3 w4
theorem rP_s191 {bt : Nat} (hb : 1400 * h + md ≤ bt ∧ bt < 1400 * h + 1400) (v : Int32) : rP h md nest B J (a_u2 B 191 bt v) J := ⟨fun c j _ w2 _ _ => a_u2_n _ _ (by omega), fun _ _ _ _ _ _ => rfl⟩
theorem rP_rfl : rP h md nest B J B J := ⟨fun _ _ _ _ _ _ => rfl, fun _ _ _ _ _ _ => rfl⟩
theorem one_to {L' : lT} {B' : iT} {md8 : Nat} {S8 : List Sl} {q : Nat × Nat} {x : Nat} (hS : sumL k L) (hE : SE k L L') (hB : ∀ v, v < 1400 * h + md8 + 1 → (B' 188 v = B 188 v ∧ B' 189 v = B 189 v ∧ B' 190 v = B 190 v)) (H : ONE k h n L B md md8 S S8 q x) : ONE k h n L' B' md md8 S S8 q x := by
  have hb := hB (1400 * h + md8) (by omega)
  rcases H with ⟨c1, c2, c3, e, f, d, c4, c5⟩ | ⟨c1, c2, c3, c4, c5, c6⟩
  · exact Or.inl ⟨c1, by rw [hb.1]; exact c2, c3, e, f, d, by rw [hb.2.1]; exact c4, er_to hS hE (fun v hv => hB v (by omega)) (fun v hv => hv) _ _ _ _ _ _ _ (Nat.le_refl _) (Nat.le_refl _) c5⟩
  · exact Or.inr ⟨c1, by rw [hb.1]; exact c2, c3, c4, c5, by rw [hb.2.1]; exact c6⟩
theorem arg_mono {Q Q' : Nat → Prop} (hS : sumL k L) (hQ : ∀ v, Q v → Q' v) : ∀ (ps Γ : Gm) (x : Int32) (a : Nat) (Γ' : Gm), argR k n L B Q ps Γ x a Γ' → argR k n L B Q' ps Γ x a Γ' := by
  intro ps
  induction ps with
  | nil => intro Γ x a Γ' h; exact h
  | cons q ps ih =>
    intro Γ x a Γ' h
    obtain ⟨b, b1, b2, b3, b4, hb⟩ := h
    refine ⟨b, b1, b2, hQ b b3, b4, ?_⟩
    rcases hb with ⟨c1, c2, e, root, f, d, c3, c4, c5, c6⟩ | ⟨c1, c2, i, c3, c4, c5, c6, c7⟩
    · exact Or.inl ⟨c1, c2, e, root, f, d, c3, c4, er_to hS SE.rfl (fun _ _ => ⟨rfl, rfl, rfl⟩) hQ _ _ _ _ _ _ _ (Nat.le_refl _) (Nat.le_refl _) c5, ih _ _ _ _ c6⟩
    · exact Or.inr ⟨c1, c2, i, c3, c4, c5, c6, ih _ _ _ _ c7⟩
theorem arg_cons {Q : Nat → Prop} {md8 : Nat} {S8 : List Sl} {q : Nat × Nat} {x a : Nat} {ps Γ' : Gm} (hS : sumL k L) (H : ONE k h n L B md md8 S S8 q x) (hb : 1400 * h + md8 < 2800) (hQb : Q (1400 * h + md8)) (hQ : ∀ v, 1400 * h + md ≤ v → v < 1400 * h + md8 → Q v) (ha : a < (L (k + 59)).length) (hx : gI (L (k + 59)) a = nI x) (hr : argR k n L B Q ps (gm S8) (B 191 (1400 * h + md8)) (a + 1) Γ') : argR k n L B Q (q :: ps) (gm S) (nI (1400 * h + md8)) a Γ' := by
  refine ⟨_, rfl, hb, hQb, ha, ?_⟩
  rcases H with ⟨c1, c2, c3, e, f, d, c4, c5⟩ | ⟨c1, c2, c3, c4, c5, c6⟩
  · subst c3
    exact Or.inl ⟨c1, c2, e, x, f, d, c4, hx, er_to hS SE.rfl (fun _ _ => ⟨rfl, rfl, rfl⟩) (fun v hv => hQ v hv.1 hv.2) _ _ _ _ _ _ _ (Nat.le_refl _) (Nat.le_refl _) c5, hr⟩
  · subst c3
    rw [gm_set] at hr
    exact Or.inr ⟨c1, c2, x, c4, c5, c6, hx, hr⟩
/-- behind an ARG its node is told -/
theorem arg_step (hC : CR I B J bs t r) (H : PS k h M n D F I B J L t.2.2 md nest S a6 a8 a0 wd b z) (hmd : md + 1 ≤ t.2.2) (h59 : 2 * (L (k + 59)).length + 1 ≤ t.2.2) {fd i : Nat} {df : Df} {q : Nat × Nat} (hd : D[fd]? = some df) (hq : df.2.1[i]? = some q) (K : iT → jT → Int32 → Int32 → Int32 → Int32 → Option (Int32 × iT × jT)) (x2 : Int32) {x3 : Int32} {o : Option Nat} (ho : TLc o B h M md x3) :
    ∃ q6, mX0_paramT k I (nI fd) (nI i) = some q6 ∧
    ((∃ x I' B' J', cArg I F (nI nest) q6 = some (x, I') ∧ mX12_call_149 K B J (nI fd) x2 x3 (nI i) = some (0, B', J') ∧ PL k h b I B J I' B' J') ∨
     (∃ x I8 I9 B9 J9 t8 r8 L9 S8 md8 c6 c8, cArg I F (nI nest) q6 = some (nI x, I8) ∧ mX4_add (k + 59) I8 (nI x) = some (nI (L (k + 59)).length, I9) ∧ mX12_call_149 K B J (nI fd) x2 x3 (nI i) = K B9 J9 (nI fd) x2 (nI (1400 * h + md8)) (nI (i + 1)) ∧ CR I9 B9 J9 bs t8 r8 ∧ PS k h M n D F I9 B9 J9 L9 t8.2.2 (md8 + 1) nest S8 c6 c8 a0 wd b z ∧ TLc (some (1400 * h + md8)) B9 h M (md8 + 1) (nI (1400 * h + md8)) ∧ ONE k h n L9 B9 md md8 S S8 q x ∧ L9 (k + 59) = L (k + 59) ++ [nI x] ∧ hdT o B9 = nI (1400 * h + md8) ∧ (∀ bt, o = some bt → B9 186 50 = B 186 50) ∧ B9 186 46 = B 186 46 ∧ B9 191 (1400 * h + md8) = -1 ∧ md ≤ md8 ∧ SE k L L9 ∧ (∀ a, ¬ (k + 19 ≤ a ∧ a ≤ k + 27) → a ≠ k + 59 → L9 a = L a) ∧ (L9 (k + 19)).length + t.2.2 ≤ (L (k + 19)).length + t8.2.2 ∧ md8 + t.2.2 ≤ md + t8.2.2 ∧ t.2.2 + 1 ≤ t8.2.2 ∧ cQ k I I9 ∧ rP h md nest (upT o B (nI (1400 * h + md8))) J B9 J9 ∧ LK nest a6 a8 a0 c6 c8 a0)) := by
  have hk0 := H.1.1.1
  have hh := H.1.2.2.2.2.1
  obtain ⟨q6, e0, HO⟩ := arg_ok hC H hmd hd hq K x2 x3
  refine ⟨q6, e0, ?_⟩
  rcases HO with hf | ⟨x, I8, B8, J8, t8, r8, L8, S8, md8, c6, c8, x5, x7, g1, g2, g3, g4, g5, g6, g7, g8, g9, g10, g11, g12, g13, g14, g15, g16, g17⟩
  · exact Or.inl hf
  · right
    have hP8 := cr_end g3
    have h59' : L8 (k + 59) = L (k + 59) := g11 _ (by omega)
    obtain ⟨I9, p1, p2, p3⟩ := ps_a59 g4 (by rw [h59']; omega) hP8 (nI x)
    rw [h59'] at p1 p2
    have hC9 : CR I9 B8 J8 bs t8 r8 := CR_I g3 (p3 6 (by omega)) (p3 9 (by omega)) (p3 10 (by omega)) (p3 11 (by omega))
    have hM8 : M ≤ 1400 * h + md8 := by omega
    have hSE9 : SE k L (upL L8 (k + 59) (L (k + 59) ++ [nI x])) := fun a w1 w2 => by rw [upL_n _ _ (by omega)]; exact g10 a w1 w2
    have hL9 : ∀ a, ¬ (k + 19 ≤ a ∧ a ≤ k + 27) → a ≠ k + 59 → (upL L8 (k + 59) (L (k + 59) ++ [nI x])) a = L a := fun a w1 w2 => by rw [upL_n _ _ w2]; exact g11 a w1
    have hSE8 : SE k L8 (upL L8 (k + 59) (L (k + 59) ++ [nI x])) := fun a w1 w2 => ⟨[], by rw [upL_n _ _ (by omega), List.append_nil]⟩
    have e19 : (upL L8 (k + 59) (L (k + 59) ++ [nI x])) (k + 19) = L8 (k + 19) := upL_n _ _ (by omega)
    have hcq : cQ k I I9 := g15.trans (fun c w1 w2 w3 => p3 c (by omega))
    cases o with
    | none =>
      obtain ⟨o1, o2⟩ := ho
      have hC10 : CR I9 (a_u2 B8 186 50 (nI (1400 * h + md8))) J8 bs t8 r8 := CR_B hC9 (fun j _ _ => a_u2_n _ _ (by omega)) (funext fun j => a_u2_n _ _ (by omega)) rfl
      refine ⟨x, I8, I9, a_u2 B8 186 50 (nI (1400 * h + md8)), J8, t8, r8, _, S8, md8, c6, c8, g1, p1, ?_, hC10, ps_49 p2 50 (by omega) _, ⟨rfl, hM8, by omega, by omega, 1400 * h + md8, by omega, a_u2_s _ _ _ _⟩, one_to g4.1.2.2.2.1 hSE8 (fun v hv => ⟨a_u2_n _ _ (by omega), a_u2_n _ _ (by omega), a_u2_n _ _ (by omega)⟩) g9, upL_s _ _ _, a_u2_s _ _ _ _, fun bt hbt => (by cases hbt), by rw [a_u2_n _ _ (by omega)]; exact g6, by rw [a_u2_n _ _ (by omega)]; exact g8, g7, hSE9, hL9, by rw [e19]; exact g12, g13, g14, hcq, g16.trans (rP_sc (by omega) _) (Nat.le_refl md) (Nat.le_refl nest), g17⟩
      rw [g2]
      unfold mX12_call_329 mX12_call_354
      rw [if_pos (by rw [g5]; exact o2), nI_1]
    | some bt =>
      obtain ⟨o1, o2, o3, o4, b0, o5, o6⟩ := ho
      have hne : bt ≠ 1400 * h + md8 := by omega
      have hC10 : CR I9 (a_u2 B8 191 bt (nI (1400 * h + md8))) J8 bs t8 r8 := CR_B hC9 (fun j _ _ => a_u2_n _ _ (by omega)) (funext fun j => a_u2_n _ _ (by omega)) rfl
      refine ⟨x, I8, I9, a_u2 B8 191 bt (nI (1400 * h + md8)), J8, t8, r8, _, S8, md8, c6, c8, g1, p1, ?_, hC10, ps_191 p2 o2 _, ⟨rfl, hM8, by omega, by omega, b0, o5, by rw [a_u2_n _ _ (by omega), g5]; exact o6⟩, one_to g4.1.2.2.2.1 hSE8 (fun v hv => ⟨a_u2_n _ _ (by omega), a_u2_n _ _ (by omega), a_u2_n _ _ (by omega)⟩) g9, upL_s _ _ _, a_u2_s _ _ _ _, fun _ _ => by rw [a_u2_n _ _ (by omega)]; exact g5, by rw [a_u2_n _ _ (by omega)]; exact g6, by rw [a_u2_n _ _ (by omega)]; exact g8, g7, hSE9, hL9, by rw [e19]; exact g12, g13, g14, hcq, rP_191 g16 _ _, g17⟩
      rw [g2]
      unfold mX12_call_329 mX12_call_354
      rw [if_neg (by rw [g5, o6]; exact nIm (by omega)), o1, if_pos (in28 (by omega)), cl28 (by omega), nI_1]
end
