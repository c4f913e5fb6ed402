/-! A NEW TEXT IS READ, in both (pure): the Rows are cleared; all DEFS -/
section
variable {k : Nat} {I0 I I1 : iT}
/-- the Rows at Z are empty -/
def RZ (k : Nat) (I0 I : iT) (Z : List Nat) : Prop := (∃ L, RS I k L ∧ ∀ a, a ∈ Z → L a = []) ∧ ∀ q, ¬ (k ≤ q ∧ q ≤ k + 60) → ¬ (143 ≤ q ∧ q ≤ 146) → I q = I0 q
theorem rz_cl {Z : List Nat} (H : RZ k I0 I Z) (a : Nat) (ha : rowA k a) : ∃ I', mX4_clear a I = some I' ∧ RZ k I0 I' (a :: Z) := by
  obtain ⟨⟨L, hR, hZ⟩, hf⟩ := H
  obtain ⟨I', e, hR', hf'⟩ := rs_clear hR ha
  refine ⟨I', e, ⟨_, hR', fun x hx => ?_⟩, fun q q1 q2 => ?_⟩
  · by_cases w : x = a
    · subst w
      exact upL_s _ _ _
    · rw [upL_n _ _ w]
      rcases List.mem_cons.mp hx with z | z
      · exact absurd z w
      · exact hZ x z
  · unfold rowA at ha
    rw [hf' q (by omega) (by omega)]
    exact hf q q1 q2
theorem use_ok {F : fT} {L0 : lT} (hR : RS I k L0) : ∃ I' L', mX3_use k I F = some (I', a_u2 (a_u2 (a_u2 F 134 4 k) 142 3 k) 147 2 (k + 18)) ∧ RS I' k L' ∧ (∀ a, rowA k a → a ≠ k + 14 → a ≠ k + 16 → L' a = []) ∧ (∀ q, ¬ (k ≤ q ∧ q ≤ k + 60) → ¬ (143 ≤ q ∧ q ≤ 146) → q ≠ 134 → I' q = I q) ∧ I' 134 6 = -1 ∧ (∀ i, i ≠ 6 → I' 134 i = I 134 i) := by
  have hk := hR.1
  have h0 : RZ k I I [] := ⟨⟨L0, hR, fun a z => (by cases z)⟩, fun _ _ _ => rfl⟩
  unfold mX3_use mX0_clear mX10_clear mX8_clear mX9_use mX7_use
  obtain ⟨I101, e1, h1⟩ := rz_cl h0 (k + 1 + 1) (by unfold rowA; omega)
  rw [e1, sb]
  obtain ⟨I102, e2, h2⟩ := rz_cl h1 (k + 1 + 3) (by unfold rowA; omega)
  rw [e2, sb]
  obtain ⟨I103, e3, h3⟩ := rz_cl h2 (k + 1 + 5) (by unfold rowA; omega)
  rw [e3, sb]
  obtain ⟨I104, e4, h4⟩ := rz_cl h3 (k + 1 + 7) (by unfold rowA; omega)
  rw [e4, sb]
  obtain ⟨I105, e5, h5⟩ := rz_cl h4 (k + 1 + 9) (by unfold rowA; omega)
  rw [e5, sb]
  obtain ⟨I106, e6, h6⟩ := rz_cl h5 (k + 1 + 11) (by unfold rowA; omega)
  rw [e6, sb]
  rw [sb]
  obtain ⟨I107, e7, h7⟩ := rz_cl h6 (k + 18 + 1) (by unfold rowA; omega)
  rw [e7, sb]
  obtain ⟨I108, e8, h8⟩ := rz_cl h7 (k + 18 + 3) (by unfold rowA; omega)
  rw [e8, sb]
  obtain ⟨I109, e9, h9⟩ := rz_cl h8 (k + 18 + 5) (by unfold rowA; omega)
  rw [e9, sb]
  obtain ⟨I110, e10, h10⟩ := rz_cl h9 (k + 18 + 7) (by unfold rowA; omega)
  rw [e10, sb]
  obtain ⟨I111, e11, h11⟩ := rz_cl h10 (k + 18 + 9) (by unfold rowA; omega)
  rw [e11, sb]
  rw [sb]
  obtain ⟨I112, e12, h12⟩ := rz_cl h11 (k + 29) (by unfold rowA; omega)
  rw [e12, sb]
  obtain ⟨I113, e13, h13⟩ := rz_cl h12 (k + 31) (by unfold rowA; omega)
  rw [e13, sb]
  obtain ⟨I114, e14, h14⟩ := rz_cl h13 (k + 33) (by unfold rowA; omega)
  rw [e14, sb]
  obtain ⟨I115, e15, h15⟩ := rz_cl h14 (k + 35) (by unfold rowA; omega)
  rw [e15, sb]
  obtain ⟨I116, e16, h16⟩ := rz_cl h15 (k + 37) (by unfold rowA; omega)
  rw [e16, sb]
  obtain ⟨I117, e17, h17⟩ := rz_cl h16 (k + 39) (by unfold rowA; omega)
  rw [e17, sb]
  obtain ⟨I118, e18, h18⟩ := rz_cl h17 (k + 41) (by unfold rowA; omega)
  rw [e18, sb]
  obtain ⟨I119, e19, h19⟩ := rz_cl h18 (k + 43) (by unfold rowA; omega)
  rw [e19, sb]
  obtain ⟨I120, e20, h20⟩ := rz_cl h19 (k + 45) (by unfold rowA; omega)
  rw [e20, sb]
  obtain ⟨I121, e21, h21⟩ := rz_cl h20 (k + 47) (by unfold rowA; omega)
  rw [e21, sb]
  obtain ⟨I122, e22, h22⟩ := rz_cl h21 (k + 49) (by unfold rowA; omega)
  rw [e22, sb]
  obtain ⟨I123, e23, h23⟩ := rz_cl h22 (k + 51) (by unfold rowA; omega)
  rw [e23, sb]
  obtain ⟨I124, e24, h24⟩ := rz_cl h23 (k + 53) (by unfold rowA; omega)
  rw [e24, sb]
  obtain ⟨I125, e25, h25⟩ := rz_cl h24 (k + 55) (by unfold rowA; omega)
  rw [e25, sb]
  obtain ⟨I126, e26, h26⟩ := rz_cl h25 (k + 57) (by unfold rowA; omega)
  rw [e26, sb]
  obtain ⟨I127, e27, h27⟩ := rz_cl h26 (k + 59) (by unfold rowA; omega)
  rw [e27, sb]
  rw [sb]
  obtain ⟨I128, e28, h28⟩ := rz_cl h27 (143) (by unfold rowA; omega)
  rw [e28, sb]
  obtain ⟨I129, e29, h29⟩ := rz_cl h28 (145) (by unfold rowA; omega)
  rw [e29, sb]
  rw [sb]
  rw [sb]
  obtain ⟨⟨L', hR', hZ⟩, hf⟩ := h29
  refine ⟨_, L', rfl, rs_sc hR' (by omega) _ _, fun a ha w1 w2 => hZ a ?_, fun q q1 q2 q3 => ?_, a_u2_s _ _ _ _, fun i hi => ?_⟩
  · unfold rowA at ha
    simp only [List.mem_cons, List.not_mem_nil, or_false]
    omega
  · rw [au2_b _ _ q3]
    exact hf q q1 q2
  · rw [a_u2_n _ _ (by omega)]
    exact congrFun (hf 134 (by omega) (by omega)) i
end
section
variable {k h : Nat} {W : List Ent} {D : List Df} {F : fT} {I B : iT} {J : jT} {L : lT} {bs : List Nat} {t : Tok} {r : List Tok} {P md b : Nat} {f p : Int32}
/-- the class's end of a text that failed -/
theorem pf_83 (hp : PF k f p b I) (x : Int32) : mX11_load_83 I F x = some (-1, I, F) := by
  unfold mX11_load_83 mX3_judgeLast
  by_cases q : I 134 6 = -1
  · rw [if_pos q, sb, fm_failed hp.1, sb, if_neg i10]
  · rw [if_neg q, fm_refuse hp.1, sb, sb, fm_failed hp.1, sb, if_neg i10]
theorem pf_38 (hp : PF k f p b I) (n : Nat) (x : Int32) : mX11_load_38 (n + 1) I F x = some (-1, I, F) := by
  rw [mX11_load_38, fm_failed hp.1, sb, if_neg i10, pf_83 hp, ite_self]
/-- what a text that was read leaves -/
def LOK (k h : Nat) (F : fT) (I B : iT) (J : jT) (bs : List Nat) (b : Nat) (I' B' : iT) (J' : jT) : Prop :=
  ∃ (W : List Ent) (D : List Df) (e : Df) (L' : lT) (t' : Tok) (r' : List Tok) (md' : Nat), CR I' B' J' bs t' r' ∧ BS k h W (D ++ [e]) F I' B' J' L' t'.2.2 md' b ∧ e.2.1 = [] ∧ FQ k I I' ∧ RX h B J B' J'
/-- both go on behind the text, or both refuse it -/
def LDO (k h : Nat) (F : fT) (I B : iT) (J : jT) (bs : List Nat) (b : Nat) (oc : Option (Int32 × iT × fT)) (or : Option (Int32 × iT × jT)) : Prop :=
  (∃ I' B' J', oc = some (-1, I', F) ∧ or = some (0, B', J') ∧ PL k h (b + 2) I B J I' B' J') ∨ (∃ I' B' J', oc = ((mX11_takeSpare I' F).bind fun q3 => (mX4_size ((q3.2 1 5) + 33) q3.1).bind fun q5 => some (q5, q3.1, q3.2)) ∧ or = some (1, B', J') ∧ LOK k h F I B J bs b I' B' J')
theorem LDO.pre {I1 B1 : iT} {J1 : jT} {oc : Option (Int32 × iT × fT)} {or : Option (Int32 × iT × jT)} (a : FQ k I I1) (c : RX h B J B1 J1) (H : LDO k h F I1 B1 J1 bs b oc or) : LDO k h F I B J bs b oc or := by
  rcases H with ⟨I', B', J', e1, e2, e3⟩ | ⟨I', B', J', e1, e2, W, D, e, L', t', r', md', d1, d2, d3, d4, d5⟩
  · exact Or.inl ⟨I', B', J', e1, e2, PL.pre a c e3⟩
  · exact Or.inr ⟨I', B', J', e1, e2, W, D, e, L', t', r', md', d1, d2, d3, a.trans d4, c.trans d5⟩
/-- the reference's end of a text -/
def txE (B : iT) (J : jT) : Option (Int32 × iT × jT) := if inb (B 186 32) 2 then if inb (((12 * (B 186 32)) + (B 205 (B 186 32).toNatClampNeg)) - 1) 24 then if (B 198 (((12 * (B 186 32)) + (B 205 (B 186 32).toNatClampNeg)) - 1).toNatClampNeg) = 0 then mX12_text_78 B J (((12 * (B 186 32)) + (B 205 (B 186 32).toNatClampNeg)) - 1) else if inb (((12 * (B 186 32)) + (B 205 (B 186 32).toNatClampNeg)) - 1) 24 then (mX12_bad B 7 (B 203 (((12 * (B 186 32)) + (B 205 (B 186 32).toNatClampNeg)) - 1).toNatClampNeg)).bind fun q2 => if q2.1 = 0 then some (0, q2.2, J) else mX12_text_78 q2.2 J (((12 * (B 186 32)) + (B 205 (B 186 32).toNatClampNeg)) - 1) else none else none else none
theorem dl_loop (hb : b + 2 ≤ 9000) : ∀ (d : Nat) (D : List Df) (I B : iT) (J : jT) (L : lT) (t : Tok) (r : List Tok) (md n1 n2 : Nat), D.length + d = 12 → CR I B J bs t r → BS k h W D F I B J L t.2.2 md b → LDO k h F I B J bs b (mX11_load_38 (n1 + d + 2) I F (nI D.length)) (mX12_text_18 (n2 + d + 1) B J) := by
  intro d
  induction d with
  | zero =>
    intro D I B J L t r md n1 n2 hd hC H
    left
    rw [mX11_load_38, if_neg (show ¬ (12 : Int32) < nI D.length from nI_nlt (a := 12) (by omega) (by omega)), cr_failed hC, sb, if_pos rfl, mX12_text_18]
    rcases df_one hC H hb with ⟨I', B', J', e1, e2, e3⟩ | ⟨I', B', J', t', r', e1, e2, e, L', md', h1, _⟩
    · rw [e1, sb, e2, sb, if_pos rfl]
      refine ⟨I', B', J', ?_, rfl, e3⟩
      obtain ⟨f, p, g, _⟩ := e3
      rw [fm_is g.1 (by decide), sb, if_pos rfl]
      exact pf_38 g _ _
    · omega
  | succ d ih =>
    intro D I B J L t r md n1 n2 hd hC H
    have hh := H.1.2.2.2.2.1
    rw [mX11_load_38, if_neg (show ¬ (12 : Int32) < nI D.length from nI_nlt (a := 12) (by omega) (by omega)), cr_failed hC, sb, if_pos rfl, mX12_text_18]
    rcases df_one hC H hb with ⟨I', B', J', e1, e2, e3⟩ | ⟨I', B', J', t', r', e1, e2, e, L', md', h1, h2, h3, h4, h5, h6, h7⟩
    · left
      rw [e1, sb, e2, sb, if_pos rfl]
      refine ⟨I', B', J', ?_, rfl, e3⟩
      obtain ⟨f, p, g, _⟩ := e3
      rw [fm_is g.1 (by decide), sb, if_pos rfl]
      exact pf_38 g _ _
    · have hlen : (D ++ [e]).length = D.length + 1 := by rw [List.length_append]; rfl
      have i260 : mX2_is I' 260 = some (if t'.1 = 260 then 1 else 0) := cr_is h2 260 (by omega)
      have er : B' 186 3 = 0 ↔ t'.1 = 260 := cr_r h2 260 (by decide)
      rw [e1, sb, e2, sb, if_neg i10, i260, sb]
      show LDO k h F I B J bs b _ (if B' 186 3 = 0 then txE B' J' else mX12_text_18 (n2 + (d + 1)) B' J')
      by_cases q : t'.1 = 260
      · rw [if_pos q, if_neg i10, if_pos (er.mpr q)]
        have hh' := h3.1.2.2.2.2.1
        have e205 : B' 205 h = nI (D.length + 1) := by rw [h3.2.2.2.2.1.2.1, hlen]
        have i2 : inb (B' 186 32) 2 := by rw [hh'.2.1]; exact vp_in_nI hh.1 (by omega)
        have c2 : (nI h).toNatClampNeg = h := nI_clamp (by omega)
        have e12 : ((12 : Int32) * nI h + nI (D.length + 1)) - 1 = nI (12 * h + D.length) := by
          rw [i12m]
          exact nI_m1 (12 * h + D.length)
        have i24 : inb (nI (12 * h + D.length)) 24 := vp_in_nI (by omega) (by omega)
        have c24 : (nI (12 * h + D.length)).toNatClampNeg = 12 * h + D.length := nI_clamp (by omega)
        have hle : (D ++ [e])[D.length]? = some e := by rw [List.getElem?_append_right (Nat.le_refl _), Nat.sub_self]; rfl
        have e198 : B' 198 (12 * h + D.length) = nI e.2.1.length := (h3.2.2.2.2.1.2.2.2 D.length e hle).2.2.2.2.2.1
        have he4 : e.2.1.length ≤ 4 := (h3.2.2.2.2.1.2.2.2 D.length e hle).2.2.2.2.2.2.1
        unfold txE
        rw [if_pos i2, hh'.2.1, c2, e205, e12, if_pos i24, show B' 198 (nI (12 * h + D.length)).toNatClampNeg = nI e.2.1.length from (congrArg (B' 198) c24).trans e198]
        rcases h7 with ⟨g1, g2⟩ | ⟨g1, p, g2, g3, g4⟩
        · right
          refine ⟨I', B', J', ?_, ?_, W, D, e, L', t', r', md', h2, h3, List.eq_nil_of_length_eq_zero g1, h5, h6⟩
          · unfold mX11_load_83 mX3_judgeLast
            rw [if_pos g2, sb, cr_failed h2, sb, if_pos rfl]
          · rw [if_pos (by rw [g1]; rfl)]
            rfl
        · left
          have n0 : ¬ nI e.2.1.length = 0 := fun z => g1 ((nI_eq (b := 0) (by omega) (by omega)).mp z)
          obtain ⟨I9, B9, b1, b2, b3, b4⟩ := jbad h2 h3.1.1 h (f := 7) (by decide) (nI p)
          have hPL := fail_PL b3 (c := b) h3.2.2.2.2.2.2.1.1 (by omega)
          refine ⟨I9, B9, J', ?_, ?_, (PL.pre h5 h6 hPL).mono (by omega) (by omega)⟩
          · obtain ⟨f, p', g, _⟩ := hPL
            unfold mX11_load_83 mX3_judgeLast
            rw [if_neg (by rw [g3]; exact nIm (by omega)), g3, b1, sb, sb, fm_failed g.1, sb, if_neg i10]
          · rw [if_neg n0, if_pos i24, show B' 203 (nI (12 * h + D.length)).toNatClampNeg = nI p from (congrArg (B' 203) c24).trans g4, b2, sb, if_pos rfl]
      · rw [if_neg q, if_pos rfl, if_neg (fun z => q (er.mp z)), nI_1, ← hlen]
        exact LDO.pre h5 h6 (ih (D ++ [e]) I' B' J' L' t' r' md' n1 n2 (by omega) h2 h3)
/-- the whole text, in both -/
theorem ld_read (hF : F 134 4 = k ∧ F 142 3 = k ∧ F 147 2 = k + 18) (hh : h < 2) (hC : CR I B J bs t r) (hR : RS I k L) (hz : ∀ a, rowA k a → a ≠ k + 14 → a ≠ k + 16 → L a = []) (hs : SCP b I) (hb : 85 ≤ b ∧ b + 2 ≤ 9000) (e32 : B 186 32 = nI h) (e16 : B 186 16 = nI (1400 * h)) (e17 : B 186 17 = 0) (e204 : B 204 h = 0) (e205 : B 205 h = 0) :
    LDO k h F I B J bs b ((mX3_readTypes I F).bind fun q13 => mX11_load_38 LF q13 F 0) (mX12_text B J) := by
  have hk := hR.1
  have z0 : ∀ a, (k + 2 ≤ a ∧ a ≤ k + 12 ∧ (a - k) % 2 = 0) ∨ (k + 19 ≤ a ∧ a ≤ k + 59 ∧ (a - k) % 2 = 1) ∨ a = 143 ∨ a = 145 → L a = [] := fun a ha => hz a (by unfold rowA; omega) (by omega) (by omega)
  have hT : tabL k L := by
    unfold tabL
    rw [z0 (k + 2) (by omega), z0 (k + 4) (by omega), z0 (k + 6) (by omega), z0 (k + 8) (by omega), z0 (k + 10) (by omega), z0 (k + 12) (by omega)]
    exact ⟨⟨rfl, rfl, rfl, rfl⟩, fun t ht => absurd ht (Nat.not_lt_zero _), fun t ht => absurd ht (Nat.not_lt_zero _), fun t ht => absurd ht (Nat.not_lt_zero _), fun t u ht => absurd ht (Nat.not_lt_zero _), fun t u f g m ht => absurd ht (Nat.not_lt_zero _)⟩
  have hNT : NT k h (1400 * h + 0) L B J [] := ⟨z0 _ (by omega), z0 _ (by omega), e204, Nat.zero_le _, fun i e he => (by cases he)⟩
  have hBT : BT k h (1400 * h + 0) [] F I B J L t.2.2 0 := ⟨hR, hF.2.1, hT, hNT, ⟨hh, e32, e16, e17, Nat.le_refl _⟩, ⟨z0 _ (by omega), z0 _ (by omega)⟩, ⟨by rw [z0 _ (by omega)]; exact Nat.zero_le _, by rw [z0 _ (by omega)]; exact Nat.zero_le _, Nat.zero_le _⟩⟩
  have e1 : LF = 99986 + 12 + 2 := rfl
  have e2 : LF = 99987 + 12 + 1 := rfl
  unfold mX3_readTypes mX12_text
  rcases ty_all hF.1 12 [] I B J L t r 0 99986 99987 rfl hC hBT with ⟨I', B', J', a1, a2, a3⟩ | ⟨W', I', B', J', L', t', r', md', a1, a2, a3, a4, a5⟩
  · left
    have hPL := (fail_PL a3 hs (by omega)).mono (c' := b + 2) (by omega) (by omega)
    refine ⟨I', B', J', ?_, a2, hPL⟩
    rw [show mX3_readTypes_2 LF I F 0 = some I' from a1, sb]
    obtain ⟨f, p, g, _⟩ := hPL
    exact pf_38 (n := 99999) g _
  · obtain ⟨f1, f2, f3, f4⟩ := a5
    have z1 : ∀ a, (k + 19 ≤ a ∧ a ≤ k + 27 ∧ (a - k) % 2 = 1) ∨ (k + 33 ≤ a ∧ a ≤ k + 59 ∧ (a - k) % 2 = 1) → L' a = [] := fun a ha => by rw [f1 a (by omega) (by omega) (by omega)]; exact z0 a (by omega)
    have hBS : BS k h W' [] F I' B' J' L' t'.2.2 md' b := by
      refine ⟨a4, ⟨hF.1, hF.2.2⟩, ?_, ?_, ⟨z1 _ (by omega), by rw [f3]; exact e205, Nat.zero_le _, fun f e he => (by cases he)⟩, ⟨fun j hj => by rw [z1 (k + 47) (by omega)] at hj; exact absurd hj (Nat.not_lt_zero _), fun f e he => (by cases he)⟩, ⟨hs.keep (fun q q1 q2 => f2 q (by omega) (by omega) (by omega) (by omega)), by omega, by omega⟩, ?_, ?_⟩
      · unfold sumL
        rw [z1 (k + 19) (by omega), z1 (k + 21) (by omega), z1 (k + 23) (by omega), z1 (k + 25) (by omega), z1 (k + 27) (by omega)]
        exact ⟨rfl, rfl, rfl, rfl, fun i => Or.inl rfl⟩
      · unfold nodL
        rw [z1 (k + 47) (by omega), z1 (k + 49) (by omega), z1 (k + 51) (by omega), z1 (k + 53) (by omega), z1 (k + 55) (by omega), z1 (k + 57) (by omega)]
        exact ⟨rfl, rfl, rfl, rfl⟩
      · rw [z1 (k + 19) (by omega), z1 (k + 47) (by omega), z1 (k + 59) (by omega), z1 (k + 55) (by omega)]
        exact ⟨Nat.zero_le _, Nat.zero_le _, Nat.zero_le _, Nat.zero_le _⟩
      · rw [z1 (k + 35) (by omega), z1 (k + 37) (by omega), z1 (k + 39) (by omega), z1 (k + 41) (by omega), z1 (k + 43) (by omega), z1 (k + 45) (by omega)]
        exact ⟨rfl, rfl, rfl, rfl, rfl, rfl⟩
    rw [show mX3_readTypes_2 LF I F 0 = some I' from a1, sb, show mX12_text_0 LF B J = mX12_text_18 LF B' J' from a2]
    have hfq : FQ k I I' := fun q q1 q2 q3 => f2 q (by omega) (by omega) (by omega) (by omega)
    exact LDO.pre hfq f4 (dl_loop (W := W') hb.2 12 [] I' B' J' L' t' r' md' 99986 99987 rfl a3 hBS)
end
