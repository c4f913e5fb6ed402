/-! A DEF BEHIND ITS PARAMS, in both (pure) -/
section
variable {k h : Nat} {W : List Ent} {D : List Df} {F : fT} {I B : iT} {J : jT} {L : lT} {bs : List Nat} {t : Tok} {r : List Tok} {P md b : Nat} {S : List Sl} {a6 a8 a0 : List Int32}
/-- what stands beside the PARAMS while a DEF is read -/
def OF (k h : Nat) (D : List Df) (F : fT) (B : iT) (J : jT) (L : lT) (P md n : Nat) : Prop :=
  F 147 2 = k + 18 ∧ sumL k L ∧ nodL k L ∧ DD k h (1400 * h + md) L B J D ∧ DX k h md L B J D ∧ ((L (k + 19)).length ≤ P ∧ 4 * (L (k + 47)).length ≤ P ∧ 2 * (L (k + 59)).length ≤ P ∧ 3 * (L (k + 55)).length ≤ P) ∧ ((L (k + 35)).length = D.length ∧ (L (k + 37)).length = D.length ∧ (L (k + 39)).length = D.length ∧ (L (k + 41)).length = D.length ∧ (L (k + 43)).length = D.length + 1 ∧ gI (L (k + 43)) D.length = nI n) ∧ (B 186 44 = nI 0 ∧ B 186 45 = nI 0)
/-- behind the = of a DEF -/
theorem df_steps {g w : List Nat} {uu tt p P0 : Nat} {a6' a8' : List Int32} (hw : isN w) (hO : OF k h D F B J L P0 md S.length) (hF : F 134 4 = k) (hC : CR I B J bs t r) (hBT : BT k h (1400 * h + md) W F I B J L t.2.2 md) (hSR : SR k h (1400 * h + md) L I B J S.length 0 ((2, g, uu, tt, p) :: S) a6' a8' a0) (hsz : (∀ i, i < 9 → ∃ s, s ≤ b ∧ gI a0 i = nI s) ∧ 85 ≤ b ∧ b ≤ 9000) (hP0 : P0 ≤ t.2.2) (hl : D.length < 12)
    (hp2 : p ≤ 200) (hTR : TR k L B J (fun v => 1400 * h ≤ v ∧ v < 1400 * h + md) p uu tt p) (e200 : B 200 (12 * h + D.length) = nI uu) (e198 : B 198 (12 * h + D.length) = nI S.length) (e194 : J 194 (12 * h + D.length) = lN (rN w)) (h45 : (L (k + 45)).length = 4 * D.length + 4) (hprm : ∀ (i : Nat) (s : Sl), S[i]? = some s → gI (L (k + 45)) (4 * D.length + i) = (if s.1 = 2 then nI s.2.2.2.1 else -1) ∧ B 199 (4 * (12 * h + D.length) + i) = (if s.1 = 2 then nI s.2.2.1 else -1) ∧ (s.1 = 1 ∨ s.1 = 2) ∧ (s.1 = 2 → s.2.2.2.2 ≤ 200 ∧ TR k L B J (fun v => 1400 * h ≤ v ∧ v < 1400 * h + md) s.2.2.2.2 s.2.2.1 s.2.2.2.1 s.2.2.2.2)) (hprn : ∀ i, S.length ≤ i → i < 4 → gI (L (k + 45)) (4 * D.length + i) = -1) (hS4 : S.length ≤ 4) :
    (∃ I' B' J', D6 k I F (nI (cN w)) (nI tt) = some I' ∧ dfP B J (nI (12 * h + D.length)) = some (0, B', J') ∧ PL k h (b + 1) I B J I' B' J') ∨
    (∃ (e : Df) (I' B' : iT) (J' : jT) (L' : lT) (t' : Tok) (r' : List Tok) (md' : Nat), D6 k I F (nI (cN w)) (nI tt) = some I' ∧ dfP B J (nI (12 * h + D.length)) = some (1, B', J') ∧ CR I' B' J' bs t' r' ∧ BS k h W (D ++ [e]) F I' B' J' L' t'.2.2 md' b ∧ e.2.1.length = S.length ∧ t.2.2 < t'.2.2 ∧ FQ k I I' ∧ RX h B J B' J' ∧ I' 134 6 = I 134 6 ∧ (∀ i, B' 203 i = B 203 i)) := by
  obtain ⟨f147, hsum, hnod, hDD, hDX, ⟨u1, u2, u3, u4⟩, ⟨n35, n37, n39, n41, n43, n43b⟩, ⟨w44, w45⟩⟩ := hO
  have hk0 := hBT.1.1
  have hT := hBT.2.2.1
  have hh := hBT.2.2.2.2.1
  have hbd := hBT.2.2.2.2.2.2
  obtain ⟨z1, z2, z3, z4, z5, z6, z7, z8, z9⟩ := lenW hk0
  have hend := cr_end hC
  -- the class's rows
  have fI7 : ∀ q, q ≠ 134 → (a_u2 I 134 5 0) q = I q := fun q w => au2_b _ _ w
  have hR7 : RS (a_u2 I 134 5 0) k L := rs_sc hBT.1 (by omega) _ _
  obtain ⟨I8, a1, a2, a3⟩ := rs_add hR7 (a := k + 35) (by unfold rowA; omega) (by rw [z4, n35]; exact hl) (nI tt)
  have e47 : mX4_size (k + 47) I8 = some (nI (L (k + 47)).length) := by rw [rs_size a2 (by unfold rowA; omega), upL_n _ _ (by omega)]
  obtain ⟨I9, b1, b2, b3⟩ := rs_add a2 (a := k + 37) (by unfold rowA; omega) (by rw [upL_n _ _ (by omega), z5, n37]; exact hl) (nI (L (k + 47)).length)
  have fL9 : ∀ a, a ≠ k + 35 → a ≠ k + 37 → (upL (upL L (k + 35) (L (k + 35) ++ [nI tt])) (k + 37) (upL L (k + 35) (L (k + 35) ++ [nI tt]) (k + 37) ++ [nI (L (k + 47)).length])) a = L a := fun a w1 w2 => by rw [upL_n _ _ w2, upL_n _ _ w1]
  have g35 : (upL (upL L (k + 35) (L (k + 35) ++ [nI tt])) (k + 37) (upL L (k + 35) (L (k + 35) ++ [nI tt]) (k + 37) ++ [nI (L (k + 47)).length])) (k + 35) = L (k + 35) ++ [nI tt] := by rw [upL_n _ _ (by omega), upL_s]
  have g37 : (upL (upL L (k + 35) (L (k + 35) ++ [nI tt])) (k + 37) (upL L (k + 35) (L (k + 35) ++ [nI tt]) (k + 37) ++ [nI (L (k + 47)).length])) (k + 37) = L (k + 37) ++ [nI (L (k + 47)).length] := by rw [upL_s, upL_n _ _ (by omega)]
  generalize (upL (upL L (k + 35) (L (k + 35) ++ [nI tt])) (k + 37) (upL L (k + 35) (L (k + 35) ++ [nI tt]) (k + 37) ++ [nI (L (k + 47)).length])) = L9 at b2 fL9 g35 g37
  have fI9 : ∀ q, q ≠ 134 → ¬ (k + 35 ≤ q ∧ q ≤ k + 38) → I9 q = I q := fun q w1 w2 => by rw [b3 q (by omega) (by omega), a3 q (by omega) (by omega), fI7 q w1]
  have i134 : ∀ i, i ≠ 5 → I9 134 i = I 134 i := fun i w => by rw [b3 134 (by omega) (by omega), a3 134 (by omega) (by omega), a_u2_n _ _ (by omega)]
  have e134 : I9 134 5 = nI 0 := by rw [b3 134 (by omega) (by omega), a3 134 (by omega) (by omega), a_u2_s]; rfl
  have hTE9 : TE k L L9 := TE_eq (fun a w1 w2 => fL9 a (by omega) (by omega))
  have hT9 : tabL k L9 := tab_eq (fun a w1 w2 => fL9 a (by omega) (by omega)) hT
  have hS9 : sumL k L9 := by
    unfold sumL
    rw [fL9 _ (by omega) (by omega), fL9 _ (by omega) (by omega), fL9 _ (by omega) (by omega), fL9 _ (by omega) (by omega), fL9 _ (by omega) (by omega)]
    exact hsum
  have hN9 : nodL k L9 := by
    unfold nodL
    rw [fL9 _ (by omega) (by omega), fL9 _ (by omega) (by omega), fL9 _ (by omega) (by omega), fL9 _ (by omega) (by omega), fL9 _ (by omega) (by omega), fL9 _ (by omega) (by omega)]
    exact hnod
  have l35 : ∀ f, f < D.length → gI (L9 (k + 35)) f = gI (L (k + 35)) f := fun f w => by rw [g35, gI_l _ (by omega)]
  have hDD9 : DD k h (1400 * h + md) L9 B J D := dd_to hDD hT hTE9 (fL9 _ (by omega) (by omega)) l35 (fun f _ => by rw [fL9 _ (by omega) (by omega)]) (fun f _ => by rw [fL9 _ (by omega) (by omega)]) (fun _ _ _ => ⟨rfl, rfl, rfl, rfl, rfl⟩) (fun _ _ _ => rfl) (fun _ => rfl)
  have hSR9 : SR k h (1400 * h + md) L9 I9 B J S.length 0 ((2, g, uu, tt, p) :: S) a6' a8' a0 := sr_to hSR hT hTE9 (fun c q1 q2 => fI9 c (by omega) (by omega)) rfl (fun _ => rfl) (fun _ => rfl) (fun _ => rfl) (fun _ _ _ => ⟨rfl, rfl, rfl, rfl, rfl⟩)
  have hC9 : CR I9 B J bs t r := CR_I hC (fI9 _ (by omega) (by omega)) (fI9 _ (by omega) (by omega)) (fI9 _ (by omega) (by omega)) (fI9 _ (by omega) (by omega))
  have hPS : PS k h (1400 * h + md) S.length D F I9 B J L9 t.2.2 md 0 ((2, g, uu, tt, p) :: S) a6' a8' a0 0 b 0 := ⟨⟨b2, f147, hT9, hS9, ⟨hh.1, hh.2.2.1, hh.2.2.2.1, Nat.le_refl _⟩, hSR9, ⟨w45, by omega⟩, by rw [fL9 _ (by omega) (by omega)]; omega, hbd.2.2⟩, ⟨hF, hh.2.1⟩, hN9, hDD9, ⟨w44, e134, by omega, by rw [List.length_cons]; omega⟩, ⟨by rw [fL9 _ (by omega) (by omega)]; omega, by rw [fL9 _ (by omega) (by omega)]; omega, by rw [fL9 _ (by omega) (by omega)]; omega⟩, hsz⟩
  have hFQ9 : FQ k I I9 := fun q w1 w2 w3 => fI9 q (by omega) (by omega)
  have eD6 : D6 k I F (nI (cN w)) (nI tt) = (mX3_readSteps SF I9 F (nI 0)).bind fun q13 => D7 k q13.2 (nI (cN w)) q13.1 := by
    unfold D6
    rw [a1, sb]
    show ((mX4_size (k + 47) I8).bind _) = _
    rw [e47, sb]
    show ((mX4_add (k + 37) I8 (nI (L (k + 47)).length)).bind _) = _
    rw [b1, sb]
    rfl
  obtain ⟨x, I10, v, B10, J10, c1, c2, ho⟩ := p_all (k := k) (h := h) (M := 1400 * h + md) (n := S.length) (D := D) (F := F) (bs := bs) (b := b) 8 0 rfl SF SF (by unfold SF; omega) (by unfold SF; omega) I9 B J L9 t r md ((2, g, uu, tt, p) :: S) a6' a8' a0 0 hC9 hPS
  rw [eD6, c1, sb]
  unfold dfP
  rw [c2, sb]
  rcases ho with ⟨rfl, hpl⟩ | ⟨rfl, l, rfl, u, L10, t10, r10, md10, d6, d8, d0, wd, m, v1, v2, v3, v4, v5, v6, v7, v8, v9, v10⟩
  · left
    obtain ⟨I', d1, d2⟩ := pfu_PL (PL.pre hFQ9 RX.rfl hpl) (c' := b + 1) (fun f p hf => pf_D7 hf (nI (cN w)) x)
    exact ⟨I', B10, J10, d1, by rw [if_pos rfl], d2⟩
  · right
    rw [if_neg i10]
    have hend10 := cr_end v1
    obtain ⟨q1, q2, q3, q4, q5, q6, q7, q8, q9, q10, q11, q12⟩ := v2
    have gl := pgr_lt v7
    have hg : PGr k L9 L10 t.2.2 t10.2.2 md md10 := v7
    obtain ⟨s1, s2, ⟨s3, s3x⟩, s4, s5, s6, s7, s8, s9, s10, s11, s12, s13, s14, s15⟩ := hg
    have e41 : ∀ a, k + 29 ≤ a → a ≤ k + 46 → a ≠ k + 35 → a ≠ k + 37 → L10 a = L a := fun a w1 w2 w3 w4 => by rw [s3 a w1 w2, fL9 a w3 w4]
    have r35 : L10 (k + 35) = L (k + 35) ++ [nI tt] := by rw [s3 _ (by omega) (by omega)]; exact g35
    have r37 : L10 (k + 37) = L (k + 37) ++ [nI (L (k + 47)).length] := by rw [s3 _ (by omega) (by omega)]; exact g37
    obtain ⟨I11, k1, k2, k3⟩ := rs_add q1 (a := k + 41) (by unfold rowA; omega) (by rw [e41 _ (by omega) (by omega) (by omega) (by omega), z7, n41]; exact hl) (nI l)
    obtain ⟨I12, l1, l2, l3⟩ := rs_add k2 (a := k + 39) (by unfold rowA; omega) (by rw [upL_n _ _ (by omega), e41 _ (by omega) (by omega) (by omega) (by omega), z6, n39]; exact hl) (nI wd)
    have n33 : (L (k + 33)).length = D.length := by rw [hDD.1, List.length_map]
    obtain ⟨I13, m1, m2, m3⟩ := rs_add l2 (a := k + 33) (by unfold rowA; omega) (by rw [upL_n _ _ (by omega), upL_n _ _ (by omega), e41 _ (by omega) (by omega) (by omega) (by omega), z3, n33]; exact hl) (nI (cN w))
    have e134' : I11 134 5 = nI wd := by rw [k3 134 (by omega) (by omega)]; exact q10.2.1
    have eD7 : D7 k I10 (nI (cN w)) (nI l) = some I13 := by
      unfold D7
      rw [k1, sb]
      show ((mX4_add (k + 39) I11 (I11 134 5)).bind _) = _
      rw [e134', l1, sb]
      show ((mX4_add (k + 33) I12 (nI (cN w))).bind _) = _
      rw [m1, sb]
    have eA : ∀ a, k + 29 ≤ a → a ≤ k + 46 → L10 a = L9 a := fun a w1 w2 => s3 a w1 w2
    have fL : ∀ a, a ≠ k + 33 → a ≠ k + 39 → a ≠ k + 41 → (upL (upL (upL L10 (k + 41) (L10 (k + 41) ++ [nI l])) (k + 39) (upL L10 (k + 41) (L10 (k + 41) ++ [nI l]) (k + 39) ++ [nI wd])) (k + 33) (upL (upL L10 (k + 41) (L10 (k + 41) ++ [nI l])) (k + 39) (upL L10 (k + 41) (L10 (k + 41) ++ [nI l]) (k + 39) ++ [nI wd]) (k + 33) ++ [nI (cN w)])) a = L10 a := fun a w1 w2 w3 => by rw [upL_n _ _ w1, upL_n _ _ w2, upL_n _ _ w3]
    have h41 : (upL (upL (upL L10 (k + 41) (L10 (k + 41) ++ [nI l])) (k + 39) (upL L10 (k + 41) (L10 (k + 41) ++ [nI l]) (k + 39) ++ [nI wd])) (k + 33) (upL (upL L10 (k + 41) (L10 (k + 41) ++ [nI l])) (k + 39) (upL L10 (k + 41) (L10 (k + 41) ++ [nI l]) (k + 39) ++ [nI wd]) (k + 33) ++ [nI (cN w)])) (k + 41) = L (k + 41) ++ [nI l] := by rw [upL_n _ _ (by omega), upL_n _ _ (by omega), upL_s, e41 _ (by omega) (by omega) (by omega) (by omega)]
    have h39 : (upL (upL (upL L10 (k + 41) (L10 (k + 41) ++ [nI l])) (k + 39) (upL L10 (k + 41) (L10 (k + 41) ++ [nI l]) (k + 39) ++ [nI wd])) (k + 33) (upL (upL L10 (k + 41) (L10 (k + 41) ++ [nI l])) (k + 39) (upL L10 (k + 41) (L10 (k + 41) ++ [nI l]) (k + 39) ++ [nI wd]) (k + 33) ++ [nI (cN w)])) (k + 39) = L (k + 39) ++ [nI wd] := by rw [upL_n _ _ (by omega), upL_s, upL_n _ _ (by omega), e41 _ (by omega) (by omega) (by omega) (by omega)]
    have h33 : (upL (upL (upL L10 (k + 41) (L10 (k + 41) ++ [nI l])) (k + 39) (upL L10 (k + 41) (L10 (k + 41) ++ [nI l]) (k + 39) ++ [nI wd])) (k + 33) (upL (upL L10 (k + 41) (L10 (k + 41) ++ [nI l])) (k + 39) (upL L10 (k + 41) (L10 (k + 41) ++ [nI l]) (k + 39) ++ [nI wd]) (k + 33) ++ [nI (cN w)])) (k + 33) = L (k + 33) ++ [nI (cN w)] := by rw [upL_s, upL_n _ _ (by omega), upL_n _ _ (by omega), e41 _ (by omega) (by omega) (by omega) (by omega)]
    generalize (upL (upL (upL L10 (k + 41) (L10 (k + 41) ++ [nI l])) (k + 39) (upL L10 (k + 41) (L10 (k + 41) ++ [nI l]) (k + 39) ++ [nI wd])) (k + 33) (upL (upL L10 (k + 41) (L10 (k + 41) ++ [nI l])) (k + 39) (upL L10 (k + 41) (L10 (k + 41) ++ [nI l]) (k + 39) ++ [nI wd]) (k + 33) ++ [nI (cN w)])) = LZ at m2 fL h41 h39 h33
    have fBZ : ∀ q i, ¬ ((q = 201 ∨ q = 202) ∧ i = 12 * h + D.length) → ¬ (q = 205 ∧ i = h) → (a_u2 (a_u2 (a_u2 B10 201 (12 * h + D.length) (B10 186 49)) 202 (12 * h + D.length) (B10 186 44)) 205 h (nI (D.length + 1))) q i = B10 q i := fun q i w1 w2 => by rw [a_u2_n _ _ w2, a_u2_n _ _ (by omega), a_u2_n _ _ (by omega)]
    have g201 : (a_u2 (a_u2 (a_u2 B10 201 (12 * h + D.length) (B10 186 49)) 202 (12 * h + D.length) (B10 186 44)) 205 h (nI (D.length + 1))) 201 (12 * h + D.length) = nI u := by rw [a_u2_n _ _ (by omega), a_u2_n _ _ (by omega), a_u2_s]; exact v3
    have g202 : (a_u2 (a_u2 (a_u2 B10 201 (12 * h + D.length) (B10 186 49)) 202 (12 * h + D.length) (B10 186 44)) 205 h (nI (D.length + 1))) 202 (12 * h + D.length) = nI wd := by rw [a_u2_n _ _ (by omega), a_u2_s]; exact q10.1
    have g205 : (a_u2 (a_u2 (a_u2 B10 201 (12 * h + D.length) (B10 186 49)) 202 (12 * h + D.length) (B10 186 44)) 205 h (nI (D.length + 1))) 205 h = nI (D.length + 1) := a_u2_s _ _ _ _
    have eBZ : dfE h (12 * h + D.length) D.length B10 J10 = some (1, a_u2 (a_u2 (a_u2 B10 201 (12 * h + D.length) (B10 186 49)) 202 (12 * h + D.length) (B10 186 44)) 205 h (nI (D.length + 1)), J10) := rfl
    have e205 : B10 205 h = nI D.length := by rw [v9.1 205 h (by omega) (by omega) (by omega) (by omega)]; exact hDD.2.1
    show ∃ (e : Df) (I' B' : iT) (J' : jT) (L' : lT) (t' : Tok) (r' : List Tok) (md' : Nat), _ ∧ dfG B10 J10 (nI (12 * h + D.length)) = some (1, B', J') ∧ _
    rw [dfG_eq hh.1 (by omega) q7.2.2.2.2 e205, eBZ]
    generalize (a_u2 (a_u2 (a_u2 B10 201 (12 * h + D.length) (B10 186 49)) 202 (12 * h + D.length) (B10 186 44)) 205 h (nI (D.length + 1))) = BZ at fBZ g201 g202 g205 ⊢
    have fB10 : ∀ q i, 193 ≤ q → q ≤ 205 → B10 q i = B q i := fun q i w1 w2 => v9.1 q i (by omega) (by omega) (by omega) (by omega)
    have fJ10 : ∀ q i, 193 ≤ q → q ≤ 205 → J10 q i = J q i := fun q i w1 w2 => v9.2 q i (by omega) (by omega) (by omega) (by omega)
    have nB : ∀ c v, 188 ≤ c → c ≤ 191 → v < 1400 * h + md → BZ c v = B c v := fun c v w1 w2 w3 => by rw [fBZ c v (by omega) (by omega), v9.1 c v (by omega) (by omega) (by omega) (by omega)]
    have nJ : ∀ v, v < 1400 * h + md → J10 192 v = J 192 v := fun v w3 => v9.2 192 v (by omega) (by omega) (by omega) (by omega)
    have hlZ : ∀ a, ¬ (k + 33 ≤ a ∧ a ≤ k + 41) → LZ a = L10 a := fun a w => fL a (by omega) (by omega) (by omega)
    have hTE10 : TE k L LZ := TE_eq (fun a w1 w2 => by rw [hlZ a (by omega), s2 a (by omega), fL9 a (by omega) (by omega)])
    have hTZ : tabL k LZ := tab_eq (fun a w1 w2 => hlZ a (by omega)) q3
    have hA : ∀ v, (1400 * h ≤ v ∧ v < 1400 * h + md) → (BZ 188 v = B 188 v ∧ BZ 189 v = B 189 v ∧ BZ 190 v = B 190 v ∧ BZ 191 v = B 191 v ∧ J10 192 v = J 192 v) := fun v hv => ⟨nB _ _ (by omega) (by omega) hv.2, nB _ _ (by omega) (by omega) hv.2, nB _ _ (by omega) (by omega) hv.2, nB _ _ (by omega) (by omega) hv.2, nJ _ hv.2⟩
    have l9 : ∀ a, k + 47 ≤ a → L9 a = L a := fun a w => fL9 a (by omega) (by omega)
    have hFRD : FRD k h D.length md L LZ B BZ J J10 := by
      refine ⟨⟨hT, hTE10, hsum, fun a w1 w2 => ?_, ?_, ?_, ?_, hA, fun κ hκ => ?_, fun c hc => ?_⟩, fun f hf => ⟨?_, ?_, ?_, ?_, ?_⟩, fun f hf => ?_, fun f hf => ⟨?_, ?_, ?_, ?_, ?_, fun i hi => ?_⟩⟩
      · obtain ⟨y, e⟩ := s1 a w1 w2
        exact ⟨y, by rw [hlZ a (by omega), e, fL9 a (by omega) (by omega)]⟩
      · obtain ⟨y, e⟩ := s6
        exact ⟨y, by rw [hlZ _ (by omega), e, l9 _ (by omega)]⟩
      · rw [hlZ _ (by omega)]; rw [l9 _ (by omega)] at s7; exact s7
      · rw [hlZ _ (by omega)]; rw [l9 _ (by omega)] at s8; exact s8
      · have := s4 κ (by rw [l9 _ (by omega)]; exact hκ)
        rw [l9 _ (by omega), l9 _ (by omega), l9 _ (by omega), l9 _ (by omega)] at this
        rw [hlZ _ (by omega), hlZ _ (by omega), hlZ _ (by omega), hlZ _ (by omega)]
        exact this
      · have := s5 c (by rw [l9 _ (by omega)]; exact hc)
        rw [l9 _ (by omega), l9 _ (by omega)] at this
        rw [hlZ _ (by omega), hlZ _ (by omega)]
        exact this
      · rw [fL _ (by omega) (by omega) (by omega), r35, gI_l _ (by omega)]
      · rw [fL _ (by omega) (by omega) (by omega), r37, gI_l _ (by omega)]
      · rw [h39, gI_l _ (by omega)]
      · rw [h41, gI_l _ (by omega)]
      · rw [hlZ _ (by omega), e41 _ (by omega) (by omega) (by omega) (by omega)]
      · rw [hlZ _ (by omega), e41 _ (by omega) (by omega) (by omega) (by omega)]
      · rw [fBZ _ _ (by omega) (by omega), fB10 _ _ (by omega) (by omega)]
      · rw [fBZ _ _ (by omega) (by omega), fB10 _ _ (by omega) (by omega)]
      · rw [fBZ _ _ (by omega) (by omega), fB10 _ _ (by omega) (by omega)]
      · rw [fBZ _ _ (by omega) (by omega), fB10 _ _ (by omega) (by omega)]
      · exact fJ10 _ _ (by omega) (by omega)
      · rw [fBZ _ _ (by omega) (by omega), fB10 _ _ (by omega) (by omega)]
    have tr2 : ∀ {p u t : Nat}, TR k L B J (fun v => 1400 * h ≤ v ∧ v < 1400 * h + md) p u t p → TR k LZ BZ J10 (fun v => 1400 * h ≤ v ∧ v < 1400 * h + md10) p u t p := fun z => tr_to hT hTE10 hA (fun v hv => ⟨hv.1, by omega⟩) _ _ _ _ _ (Nat.le_refl _) z
    have hgl : (gm S).length = S.length := gm_len S
    have z45 : LZ (k + 45) = L (k + 45) := by rw [hlZ _ (by omega), e41 _ (by omega) (by omega) (by omega) (by omega)]
    have z43 : LZ (k + 43) = L (k + 43) := by rw [hlZ _ (by omega), e41 _ (by omega) (by omega) (by omega) (by omega)]
    have hDDZ : DD k h (1400 * h + md10) LZ BZ J10 (D ++ [(w, gm S, tt)]) := by
      refine dd_snoc (e := (w, gm S, tt)) (u := uu) (p := p) hDD hFRD gl.2 hl h33 g205 (by rw [fJ10 _ _ (by omega) (by omega)]; exact e194) hw ?_ (by rw [fBZ _ _ (by omega) (by omega), fB10 _ _ (by omega) (by omega)]; exact e200) hp2 (tr2 hTR) ?_ ?_ ?_ ?_
      · show gI (LZ (k + 35)) D.length = nI tt
        rw [fL _ (by omega) (by omega) (by omega), r35, ← n35, gI_e]
      · show gI (LZ (k + 43)) D.length = nI (gm S).length
        rw [z43, hgl]; exact n43b
      · show BZ 198 (12 * h + D.length) = nI (gm S).length
        rw [fBZ _ _ (by omega) (by omega), fB10 _ _ (by omega) (by omega), hgl]; exact e198
      · show (gm S).length ≤ 4
        rw [hgl]; exact hS4
      · intro i q hq
        have hq : (gm S)[i]? = some q := hq
        have hi : i < S.length := by
          have := (List.getElem?_eq_some_iff.mp hq).1
          omega
        obtain ⟨s, hs⟩ : ∃ s, S[i]? = some s := ⟨_, List.getElem?_eq_getElem hi⟩
        have hqs : q = (s.1, s.2.2.2.1) := by
          rw [gm_get hs] at hq
          exact (Option.some.inj hq).symm
        obtain ⟨p1, p2, p3, p4⟩ := hprm i s hs
        subst hqs
        rw [z45, show D.length * 4 + i = 4 * D.length + i by omega, p1, fBZ _ _ (by omega) (by omega), fB10 _ _ (by omega) (by omega), p2]
        rcases p3 with y | y
        · exact Or.inl ⟨y, by rw [if_neg (by omega)], by rw [if_neg (by omega)]⟩
        · obtain ⟨y1, y2⟩ := p4 y
          exact Or.inr ⟨y, by rw [if_pos y], s.2.2.1, s.2.2.2.2, by rw [if_pos y], y1, tr2 y2⟩
    have hPRZ : PR k (gm S).length D LZ BZ J10 (fun v => 1400 * h ≤ v ∧ v < 1400 * h + md10) (fun κ => κ < (LZ (k + 47)).length) (fun c => c < (LZ (k + 55)).length) m u (L (k + 47)).length l ((2, tt) :: gm S) := by
      rw [hgl]
      have hPK : PK k L10 LZ B10 BZ J10 J10 (fun v => 1400 * h + md ≤ v ∧ v < 1400 * h + md10) (fun κ => (L9 (k + 47)).length ≤ κ ∧ κ < (L10 (k + 47)).length) (fun c => (L9 (k + 55)).length ≤ c ∧ c < (L10 (k + 55)).length) := by
        refine ⟨q3, TE_eq (fun a w1 w2 => hlZ a (by omega)), q4, fun a w1 w2 => ⟨[], by rw [hlZ a (by omega), List.append_nil]⟩, ⟨[], by rw [hlZ _ (by omega), List.append_nil]⟩, by rw [hlZ _ (by omega)]; exact Nat.le_refl _, by rw [hlZ _ (by omega)]; exact Nat.le_refl _, fun v hv => ⟨fBZ _ _ (by omega) (by omega), fBZ _ _ (by omega) (by omega), fBZ _ _ (by omega) (by omega), fBZ _ _ (by omega) (by omega), rfl⟩, fun κ _ => ?_, fun c _ => ?_⟩
        · rw [hlZ _ (by omega), hlZ _ (by omega), hlZ _ (by omega), hlZ _ (by omega)]
          exact ⟨rfl, rfl, rfl, rfl⟩
        · rw [hlZ _ (by omega), hlZ _ (by omega)]
          exact ⟨rfl, rfl⟩
      have := pr_to hPK (Q' := fun v => 1400 * h ≤ v ∧ v < 1400 * h + md10) (Rn' := fun κ => κ < (LZ (k + 47)).length) (Rc' := fun c => c < (LZ (k + 55)).length) (fun v hv => ⟨by omega, hv.2⟩) (fun v hv => by rw [hlZ _ (by omega)]; exact hv.2) (fun v hv => by rw [hlZ _ (by omega)]; exact hv.2) m m (Nat.le_refl _) _ _ _ _ v4
      rw [l9 _ (by omega)] at this
      exact this
    have hXZ : EXB k L LZ := by
      intro H0 j hj
      rw [hlZ (k + 47) (by omega)] at hj
      rw [hlZ (k + 53) (by omega)]
      exact s3x (by rw [l9 (k + 47) (by omega), l9 (k + 53) (by omega)]; exact H0) j hj
    have hDXZ : DX k h md10 LZ BZ J10 (D ++ [(w, gm S, tt)]) := by
      refine dx_snoc (e := (w, gm S, tt)) (u := u) (κ := (L (k + 47)).length) (l := l) (m := m) (w := wd) hDX hFRD gl.2 g201 (by rw [fL _ (by omega) (by omega) (by omega), r37, ← n37, gI_e]) (by rw [h41, ← n41, gI_e]) (by rw [h39, ← n39, gI_e]) g202 (by have := v5.1; omega) v5.2 hPRZ (fun i w1 w2 => ?_) hXZ
      have w1 : (gm S).length ≤ i := w1
      rw [z45, show D.length * 4 + i = 4 * D.length + i by omega]
      exact hprn i (by omega) w2
    have fI13 : ∀ q, ¬ (k + 33 ≤ q ∧ q ≤ k + 34) → ¬ (k + 39 ≤ q ∧ q ≤ k + 42) → I13 q = I10 q := fun q w1 w2 => by rw [m3 q (by omega) (by omega), l3 q (by omega) (by omega), k3 q (by omega) (by omega)]
    have hCZ : CR I13 BZ J10 bs t10 r10 := CR_B (CR_I v1 (fI13 _ (by omega) (by omega)) (fI13 _ (by omega) (by omega)) (fI13 _ (by omega) (by omega)) (fI13 _ (by omega) (by omega))) (fun j _ _ => fBZ _ _ (by omega) (by omega)) (funext fun j => fBZ _ _ (by omega) (by omega)) rfl
    obtain ⟨x1, x2, x3, x4, ⟨x5, x6, x7, x8, x9⟩, ⟨x10, x11⟩, ⟨x12, x13, x14⟩⟩ := hBT
    have hNTZ : NT k h (1400 * h + md10) LZ BZ J10 W := nt_M hTZ (nt_to x4 hT hTE10 (by rw [hlZ _ (by omega), e41 _ (by omega) (by omega) (by omega) (by omega)]) (by rw [hlZ _ (by omega), e41 _ (by omega) (by omega) (by omega) (by omega)]) (fun v w1 w2 => hA v ⟨w1, w2⟩) (by rw [fBZ _ _ (by omega) (by omega), fB10 _ _ (by omega) (by omega)]) (fun i => fJ10 _ _ (by omega) (by omega)) (fun i => by rw [fBZ _ _ (by omega) (by omega), fB10 _ _ (by omega) (by omega)])) (by omega)
    have hlen : (D ++ [(w, gm S, tt)]).length = D.length + 1 := by rw [List.length_append]; rfl
    have s2' : ∀ a, ¬ (k + 19 ≤ a ∧ a ≤ k + 59) → LZ a = L a := fun a w => by rw [hlZ a (by omega), s2 a w, fL9 a (by omega) (by omega)]
    have hBTZ : BT k h (1400 * h + md10) W F I13 BZ J10 LZ t10.2.2 md10 := ⟨m2, x2, hTZ, hNTZ, ⟨x5, by rw [fBZ _ _ (by omega) (by omega)]; exact q7.2.2.2.2, by rw [fBZ _ _ (by omega) (by omega)]; exact q7.2.1, by rw [fBZ _ _ (by omega) (by omega)]; exact q7.2.2.1, Nat.le_refl _⟩, ⟨by rw [s2' _ (by omega)]; exact x10, by rw [s2' _ (by omega)]; exact x11⟩, ⟨by rw [s2' _ (by omega)]; omega, by rw [s2' _ (by omega)]; omega, q11.2.1⟩⟩
    have hSCP : SCP b I13 := (pe_scp (n := S.length) ⟨q1, q2, q3, q4, q5, q6, q7, q8, q9, q10, q11, q12⟩).keep (fun c w1 w2 => fI13 c (by omega) (by omega))
    have hsumZ : sumL k LZ := by
      unfold sumL
      rw [hlZ _ (by omega), hlZ _ (by omega), hlZ _ (by omega), hlZ _ (by omega), hlZ _ (by omega)]
      exact q4
    have hnodZ : nodL k LZ := by
      unfold nodL
      rw [hlZ _ (by omega), hlZ _ (by omega), hlZ _ (by omega), hlZ _ (by omega), hlZ _ (by omega), hlZ _ (by omega)]
      exact q5
    refine ⟨(w, gm S, tt), I13, BZ, J10, LZ, t10, r10, md10, eD7, rfl, hCZ, ⟨hBTZ, ⟨hF, f147⟩, hsumZ, hnodZ, hDDZ, hDXZ, ⟨hSCP, hsz.2⟩, ⟨by rw [hlZ _ (by omega)]; exact q11.1, by rw [hlZ _ (by omega)]; exact q11.2.2.1, by rw [hlZ _ (by omega)]; exact q11.2.2.2.1, by rw [hlZ _ (by omega)]; have := q11.2.2.2.2; omega⟩, ⟨?_, ?_, ?_, ?_, ?_, ?_⟩⟩, hgl, by omega, ?_, ?_, ?_, fun i => ?_⟩
    · rw [fL _ (by omega) (by omega) (by omega), r35, List.length_append, n35, hlen]; rfl
    · rw [fL _ (by omega) (by omega) (by omega), r37, List.length_append, n37, hlen]; rfl
    · rw [h39, List.length_append, n39, hlen]; rfl
    · rw [h41, List.length_append, n41, hlen]; rfl
    · rw [z43, hlen]; exact n43
    · rw [z45, hlen]; omega
    · intro q w1 w2 w3
      rw [fI13 q (by omega) (by omega), v8.1 q w1 (by omega) (by omega)]
      exact hFQ9 q w1 w2 w3
    · refine RX.trans (rP_RX v9) (fun q i w => ⟨fBZ q i (fun z => w ?_) (fun z => w ?_), rfl⟩)
      · unfold touR; omega
      · unfold touR; omega
    · rw [fI13 134 (by omega) (by omega), v8.2 6 (by omega)]
      exact i134 6 (by omega)
    · rw [fBZ _ _ (by omega) (by omega)]
      exact fB10 _ _ (by omega) (by omega)
end
