/-! A PROCESS acts (pure) -/
section
variable {sp : Int32} {k h md : Nat} {D : List Df} {L : lT} {B0 : iT} {J0 : jT} {F : fT} {I B : iT} {J : jT} {np nm dn sd : Nat} {R : lT} {z : Nat → Prop} {p : Nat}
theorem str_of {Γ : Nat → Gm} {ch : Nat → Nat → Nat} {rl dp : Nat → Nat} {ow : Nat → Nat × Nat × Nat} {Gt Ht : Nat → Nat} {q : Nat → List Nat} {mr rk : Nat → Nat} {f : Nat} {e : Df} {u κ : Nat} (hBK : BK k h md D L B0 J0) (hSB : SB h B0 J0 B J) (hF : F 148 12 = k) (hK : RK I k L) (hN : RN I R) (hPC : PCc np R B) (hSC : SCA sp np nm dn sd I B) (hSA : SAI sd R B) (hT : TLK k D L B0 J0 np nm R B J z Γ ch rl dp ow Gt Ht q mr rk) (hp : p < np) (hal : gI (R 168) p = 0) (hnm : nm < dn) (hsd : sd < dn) (hu : u < 2800) (hκ : κ + 1 < 2 ^ 31) (a1 : D[f]? = some e) (a2 : gI (R 164) p = nI f) (a3 : gI (R 166) p = nI κ) (a4 : B 213 p = nI u) (a7 : e.2.1.length + 1 ≤ (Γ p).length) (a8 : (Γ p).length ≤ 85) (a9 : ∀ (i t : Nat), (Γ p)[i]? = some (2, t) → TRX k L B0 J0 t) (a10 : SLX np rl ch R B p e.2.1.length (Γ p)) :
    ∃ I1 R1, STR1 sp k h md D L B0 J0 F I1 (a_u2 B 213 p (B0 191 u)) J np nm dn sd R1 z p f e Γ ch rl dp ow Gt Ht q mr rk ∧ mX6_doStep I F (nI p) = dsK I1 F (nI p) (nI κ) (gI (L (k + 51)) κ) (gI (L (k + 47)) κ) ∧ mX12_goesOn B J (nI p) = goK (a_u2 B 213 p (B0 191 u)) J p u (B0 189 u) (B0 190 u) (J0 192 u) (B0 188 u) ∧ gI (R1 166) p = nI (κ + 1) := by
  obtain ⟨h1, h2, h3, h4, h5, h6⟩ := hT
  have h80 := ty_80 h1
  have hk := hK.1
  obtain ⟨I1, c1, c2, c3, c4⟩ := ds_eq hF hK hN (show p < 80 by omega) hκ a3
  have c5 := go_eq (J := J) (show p < 80 by omega) hu a4
  have e191 : B 191 u = B0 191 u := by rw [hSB.1 191 (by omega) (by omega)]
  have e189 : B 189 u = B0 189 u := by rw [hSB.1 189 (by omega) (by omega)]
  have e190 : B 190 u = B0 190 u := by rw [hSB.1 190 (by omega) (by omega)]
  have e188 : B 188 u = B0 188 u := by rw [hSB.1 188 (by omega) (by omega)]
  have e192 : J 192 u = J0 192 u := by rw [hSB.2.1 192 (by omega) (by omega)]
  rw [e191, e189, e190, e188, e192] at c5
  obtain ⟨⟨z1, z2, z3, z4, z5, z6, z7⟩, z8⟩ := hPC
  obtain ⟨n1, n2, n3, n4, n5, n6, n7, n8, n9, n10, n11, n12⟩ := hSC
  obtain ⟨R1, hR1⟩ : ∃ X, X = upL R 166 ((R 166).set p (nI (κ + 1))) := ⟨_, rfl⟩
  rw [← hR1] at c2
  have fR : ∀ a, a ≠ 166 → R1 a = R a := fun a w => by rw [hR1, upL_n _ _ w]
  have e166 : R1 166 = (R 166).set p (nI (κ + 1)) := by rw [hR1, upL_s]
  have fB : ∀ q i, ¬ (q = 213 ∧ i = p) → a_u2 B 213 p (B0 191 u) q i = B q i := fun q i w => a_u2_n _ _ w
  have f148 : I1 148 = I 148 := c3 148 (by omega) (by omega)
  have hT1 := h1
  rw [← fR 158 (by omega), ← fR 160 (by omega), show (fun x => gI (R 168) x = 0) = (fun x => gI (R1 168) x = 0) by rw [fR 168 (by omega)]] at hT1
  refine ⟨I1, R1, ⟨hBK, ⟨fun q w1 w2 => ?_, hSB.2.1, by rw [fB _ _ (by omega)]; exact hSB.2.2.1, by rw [fB _ _ (by omega)]; exact hSB.2.2.2.1, by rw [fB _ _ (by omega)]; exact hSB.2.2.2.2⟩, hF, c1, c2, ⟨⟨by rw [fR 164 (by omega)]; exact z1, by rw [e166, List.length_set]; exact z2, by rw [fR 168 (by omega)]; exact z3, by rw [fR 170 (by omega)]; exact z4, by rw [fR 172 (by omega)]; exact z5, by rw [fR 174 (by omega)]; exact z6, by rw [fR 176 (by omega)]; exact z7⟩, fun x hx => ?_⟩, ⟨by rw [fB _ _ (by omega)]; exact n1, by rw [fB _ _ (by omega)]; exact n2, by rw [f148]; exact n3, by rw [fB _ _ (by omega)]; exact n4, n5, n6, by rw [fB _ _ (by omega)]; exact n7, by rw [f148]; exact n8, by rw [fB _ _ (by omega)]; exact n9, n10, by rw [f148, fB _ _ (by omega)]; exact n11, by rw [fB _ _ (by omega)]; exact n12⟩, ?_, hT1, chc_keep h2 (fR 150 (by omega)) (fun i => fB _ _ (by omega)), fun x hx => by rw [fR 168 (by omega)]; exact h3 x hx, chl_keep h4 (fun a _ _ => fR a (by omega)), qal_keep h5 (fun a _ _ => fR a (by omega)) (fun a i _ _ => fB _ _ (by omega)) (fun _ => rfl), fun x hx hxp hal' => ?_, ⟨hp, by rw [fR 168 (by omega)]; exact hal, a1, by rw [fR 164 (by omega)]; exact a2, a7, a8, a9, ?_⟩, hnm, hsd⟩, c4, c5, by rw [e166]; exact gI_se (by omega) _⟩
  · rw [← hSB.1 q w1 w2]
    exact funext fun i => fB _ _ (by omega)
  · rw [fR 168 (by omega), fR 170 (by omega), fR 174 (by omega), fR 164 (by omega), fR 172 (by omega), fR 176 (by omega), fB 219 _ (by omega), fB 215 _ (by omega), fB 216 _ (by omega), fB 214 _ (by omega), fB 212 _ (by omega), fB 217 _ (by omega)]
    exact z8 x hx
  · unfold SAI
    rw [fR 182 (by omega), fR 184 (by omega)]
    refine ⟨hSA.1, hSA.2.1, fun i hi => ?_⟩
    rw [fB _ _ (by omega), fB _ _ (by omega)]
    exact hSA.2.2 i hi
  · rw [fR 168 (by omega)] at hal'
    exact prc_keep (σ := id) (h6 x hx hal') (fun f e hf => (bk_def hBK hf).2.1) (by rw [fR 164 (by omega)]) (by rw [e166]; exact gI_sn hxp _) (fB _ _ (by omega)) (fun i _ => by rw [fR 176 (by omega)]) (fun i _ => fB _ _ (by omega)) (Nat.le_refl _) (fun x _ => rfl) (fun i t _ => rfl) (fun hz => hz)
  · refine ⟨fun i t hi => ?_, fun i t hi => ?_⟩
    · rw [fR 176 (by omega), fB _ _ (by omega)]
      exact a10.1 i t hi
    · rw [fR 176 (by omega), fB _ _ (by omega)]
      exact a10.2 i t hi
/-- one step of p without going through ifs -/
theorem act_ok (H : RUN sp k h md D L B0 J0 F I B J np nm dn sd R z) (hp : p < np) (hal : gI (R 168) p = 0) (hz : z p) (hw : mX12_waits B (nI p) = some 0) (hnm : nm < dn) (hsd : sd < dn) (h80 : ∀ κ : Nat, gI (R 166) p = nI κ → κ < 2 ^ 31 → gI (L (k + 47)) κ = 309 → np < 80) :
    OUT sp k h md D L B0 J0 F np dn z p (mX6_doStep I F (nI p)) (mX12_goesOn B J (nI p)) ∨ ∃ I' B' R', mX6_doStep I F (nI p) = some I' ∧ mX12_goesOn B J (nI p) = (mX12_settles B' J (nI np)).bind (fun q19 => some (q19, J)) ∧ RUN sp k h md D L B0 J0 F I' B' J (np + 1) nm dn sd R' (fun x => z x ∧ x ≠ p ∧ x ≠ np) ∧ gI (R' 168) p = 0 ∧ gI (R' 168) np = 0 := by
  obtain ⟨s1, s2, s3, s4, s5, s6, s7, s8, Γ, ch, rl, dp, ow, Gt, Ht, q, mr, rk, hT⟩ := H
  have hk := s4.1
  have hT0 := hT
  obtain ⟨h1, h2, h3, h4, h5, h6⟩ := hT
  have hPp := h6 p hp hal
  obtain ⟨w, w1, w2, w3, w4⟩ := wait_ok s3 s1 s2 s4 s5 s6 h1 h2 h4.2.1 h5 hp hal hPp
  have w0 : w = 0 := by rw [hw] at w2; exact (Option.some.inj w2).symm
  have w5 := w4 w0
  obtain ⟨f, e, u, κ, l, m, Q, Rn, Rc, a1, a2, a3, a4, a5, a6, a7, a8, a9, a10, a11, a12⟩ := hPp
  obtain ⟨m, rfl⟩ : ∃ y, m = y + 1 := by
    cases m with
    | zero => exact a5.elim
    | succ m => exact ⟨m, rfl⟩
  have hu : u < 2800 := a5.1
  have hκ' : κ + 1 < 2 ^ 31 := by
    have := a5.2.2.1
    have := s1.2.2.2.2.2.2.2.2.1.2.1
    omega
  have hκ : κ < 2 ^ 31 := by omega
  obtain ⟨I1, R1, S, dq, gq, h166⟩ := str_of s1 s2 s3 s4 s5 s6 s7 s8 hT0 hp hal hnm hsd hu hκ' a1 a2 a3 a4 a7 a8 a9 ⟨a10, a11⟩
  have a60 := a6.1
  have hm : m ≤ 250 ∧ QH B0 Q := ⟨by omega, a6.2⟩
  have lt : ∀ (i : Nat) (x : Nat × Nat), (Γ p)[i]? = some x → i < 85 := fun i x hx => by have := (List.getElem?_eq_some_iff.mp hx).1; omega
  have e213 : ∀ u', B0 191 u = nI u' → a_u2 B 213 p (B0 191 u) 213 p = nI u' := fun u' hu' => by rw [a_u2_s]; exact hu'
  have e189 : a_u2 B 213 p (B0 191 u) 189 u = B0 189 u := by rw [a_u2_n _ _ (by omega), s2.1 189 (by omega) (by omega)]
  have e190 : a_u2 B 213 p (B0 191 u) 190 u = B0 190 u := by rw [a_u2_n _ _ (by omega), s2.1 190 (by omega) (by omega)]
  rw [dq, gq]
  obtain ⟨_, _, _, _, hh⟩ := a5
  rcases hh with ⟨t, b1, b2, b3, b4, b5, b6, b7, b8⟩ | ⟨i, t, u', l', b1, b2, b3, b4, b5, b6, b7, b8, b9, b10⟩ | ⟨i, t, t', ex, root, f1, d, u', l', b1, b2, b3, b4, b5, b6, ⟨b7, b8⟩, b9, b10, b11, b12, b13, b14⟩ | ⟨i, t, t', u', l', b1, b2, b3, b4, b5, b6, ⟨b7, b8⟩, ⟨b9, b10⟩, b11, b12, b13, b14⟩ | ⟨i, j, t, t1, t2, u', l', b1, b2, b3, b4, b5, b6, b7, ⟨b8, b9⟩, b10, b11, b12, b13, b14, b15, b16, b17⟩ | ⟨i, t, t1, t2, u', l', b1, b2, b3, b4, b5, b6, b7, b8, ⟨b9, b10⟩, b11, b12, b13, b14⟩ | ⟨i, t, fs, mm, j, w, t', u', l', b1, b2, b3, b4, b5, b6, b7, b8, b9, b10, b11, b12, b13, b14, b15, b16, b17⟩ | ⟨i, t, fs, mm, a, bl, b1, b2, b3, b4, b5, b6, b7, b8, b9, b10, b11, b12, b13, b14, b15, b16, b17, b18⟩ | ⟨fd, df, a, Γ1, u', l', b1, b2, b3, b4, b5, b6, b7, ⟨b8, b9⟩, b10, b11, b12, b13⟩ | ⟨fd, df, a, Γ1, b1, b2, b3, b4, b5, b6, b7, b8, b9, b10⟩ | ⟨j, t, b1, b2, b3, b4, b5, b6, b7, b8, b9, b10, b11⟩ | ⟨ex, root, f1, d, u', l', b1, b2, b3, b4, b5, b6, b7, b8⟩ | ⟨ex, root, f1, d, uy, un, κ2, l1, l2, b1, b2, _⟩
  · left
    rw [b1, b2, b3]
    exact k_close S hκ b5 b4 b6 u _ _ _
  · left
    obtain ⟨m', l2, hq⟩ := w5 0 u κ i t a4 a3 (by omega) hκ (Or.inl b2) b4 (lt i _ b6)
    rw [b1, b2, b3]
    exact k_wait S hκ b6 b4 b2 b5 h166 (e213 _ b8) b10 hm b7 hq u _ _ _
  · left
    rw [b1, b2, b3, b9, b10]
    exact k_put S hκ b5 b4 h166 (e213 _ b12) b14 hm b6 b7 b8 b11 u _
  · left
    obtain ⟨m', l2, hq⟩ := w5 0 u κ i t a4 a3 (by omega) hκ (Or.inr (Or.inl b2)) b4 (lt i _ b5)
    rw [b1, b2, b3, b9]
    exact k_get S hκ b5 b4 b11 b2 b10 h166 (e213 _ b12) b14 hm b6 b7 b8 hq u _ _
  · left
    rw [b1, b2, b3, b13, b14]
    exact k_send S hκ b5 b4 h166 (e213 _ b15) b17 hm b6 b7 b8 b9 b10 b11 b12 u _
  · left
    obtain ⟨m', l2, hq⟩ := w5 0 u κ i t a4 a3 (by omega) hκ (Or.inr (Or.inr (Or.inl b2))) b4 (lt i _ b5)
    rw [b1, b2, b3, b9]
    exact k_take S hκ b5 b4 b11 b2 b10 h166 (e213 _ b12) b14 hm b6 b7 b8 hq u _ _
  · left
    rw [b1, b2, b3, b13, b14]
    exact k_pick S hκ b5 b4 h166 (e213 _ b15) b17 hm b6 b7 b8 b9 b10 b11 b12 u _
  · left
    obtain ⟨m', l2, hq⟩ := w5 0 u κ i t a4 a3 (by omega) hκ (Or.inr (Or.inr (Or.inr b2))) b4 (lt i _ b5)
    rw [b1, b2, b3]
    exact k_case S hκ b5 b4 b11 b12 b2 hm b6 b7 b8 b10 b13 b14 b15.1 b17 (fun ee he => by
      obtain ⟨y1, y2, y3, y4, y5, y6, y7, y8⟩ := b18 ee he
      exact ⟨y1, y2, y4, y5, y6, y7, y8⟩) hq _ _ _
  · right
    rw [b1, b2]
    exact k_new S (h80 κ a3 hκ b2) hκ hu b3 b5 b6 b10 b4 b8 b7 b9 h166 (e213 _ b11) b13 hm _ _ _ _
  · left
    rw [b1, b2, b4, b5]
    exact k_go S hκ b3 b5 b6 b7 b8 u _
  · left
    rw [b1, b2, b10]
    exact k_same S hκ hu b4 (by rw [e189]; exact b3) (by rw [e190]; exact b9) b5 b6 b7 _ _ _
  · left
    rw [b1, b2, b3, b4]
    exact k_say S h166 (e213 _ b6) b8 hm b5 u _ _
  · exact absurd b1 (a12 hz).1
end
