/-! THE types OF A TEXT, in both (pure) -/
theorem i12m (h m : Nat) : (12 : Int32) * nI h + nI m = nI (12 * h + m) := by
  have : (12 : Int32) * nI h = nI (12 * h) := pk_mul 12 h
  rw [this, nI_add]
theorem lenW {k : Nat} (hk : k = 12 ∨ k = 73) : LEN (k + 29 + 1) = 12 ∧ LEN (k + 31 + 1) = 12 ∧ LEN (k + 33 + 1) = 12 ∧ LEN (k + 35 + 1) = 12 ∧ LEN (k + 37 + 1) = 12 ∧ LEN (k + 39 + 1) = 12 ∧ LEN (k + 41 + 1) = 12 ∧ LEN (k + 43 + 1) = 12 ∧ LEN (k + 45 + 1) = 48 := by
  rcases hk with rfl | rfl <;> decide
section
variable {k h : Nat} {f p : Int32} {I B : iT} {J : jT} {F : fT} {L : lT}
theorem fmu_FAIL {hf : Nat} {I I1 B1 : iT} {J1 : jT} (H : FAIL k hf I B J I1 B1 J1) {o : Option iT} (ho : ∀ f p, FM k f p I1 → FMu k f p I1 o) : ∃ I', o = some I' ∧ FAIL k hf I B J I' B1 J1 := by
  obtain ⟨f, p, g1, g2, g3⟩ := H
  obtain ⟨I', a1, a2, a3⟩ := ho f p g1
  exact ⟨I', a1, f, p, a2, g2.trans (FY_FX a3), g3⟩
theorem fm_f36 (hp : FM k f p I) {a : Nat} (ha : rowA k a) (x2 x3 x4 : Int32) : mX3_readFresh_36 a I x2 x3 x4 = some (x4, I) := by
  unfold mX3_readFresh_36
  obtain ⟨v, hv⟩ := fm_size hp ha
  rw [hv, sb, fm_refuse hp, sb, ite_self]
def tyC (k n : Nat) (I : iT) (F : fT) (x y x1 : Int32) : Option iT := (mX2_want I 59).bind fun q5 => (mX4_add (k + 29) q5 x).bind fun q6 => (mX4_add (k + 31) q6.2 y).bind fun q7 => mX3_readTypes_2 n q7.2 F x1
def tyB (k n : Nat) (I : iT) (F : fT) (x x1 : Int32) : Option iT := (mX9_readWhole I F).bind fun q4 => tyC k n q4.2 F x q4.1 x1
def tyA (k n : Nat) (I : iT) (F : fT) (x x1 : Int32) : Option iT := (mX2_want I 61).bind fun q3 => tyB k n q3 F x x1
theorem fm_rt2 (hp : FM k f p I) (n : Nat) (x1 : Int32) : mX3_readTypes_2 (n + 1) I F x1 = some I := by
  rw [mX3_readTypes_2, fm_skip hp (by decide), sb, if_pos rfl, ite_self]
theorem fm_tyC (hp : FM k f p I) (n : Nat) (x y x1 : Int32) : FMu k f p I (tyC k (n + 1) I F x y x1) := by
  have hk := hp.1.elim fun _ z => z.1
  unfold tyC
  rw [fm_want hp (by decide), sb]
  refine fmu_o (fm_add hp (a := k + 29) (by unfold rowB; omega) x) (fun v I1 h1 => fmu_o (fm_add h1 (a := k + 31) (by unfold rowB; omega) y) (fun v2 I2 h2 => ?_))
  rw [fm_rt2 h2]
  exact fmu_ret h2
theorem fm_tyB (hp : FM k f p I) (n : Nat) (x x1 : Int32) : FMu k f p I (tyB k (n + 1) I F x x1) := by
  unfold tyB
  exact fmu_o (fm_whole hp) (fun v I1 h1 => fm_tyC h1 n _ _ _)
theorem fm_tyA (hp : FM k f p I) (n : Nat) (x x1 : Int32) : FMu k f p I (tyA k (n + 1) I F x x1) := by
  unfold tyA
  rw [fm_want hp (by decide), sb]
  exact fm_tyB hp n _ _
/-- the reference behind the NAME of a type -/
def tyE (h m : Nat) (w : Int64) (B : iT) (J : jT) : Option (Int32 × iT × jT) := (mX12_need (a_u2 (a_u2 B 197 (12 * h + m) (B 186 36)) 204 h (nI (m + 1))) (a_u2 J 193 (12 * h + m) w) 59).bind fun q6 => if q6.1 = 0 ∨ q6.1 = 1 then some (q6.1, q6.2.1, q6.2.2) else none
def tyR (h m : Nat) (w : Int64) (B : iT) (J : jT) : Option (Int32 × iT × jT) := (mX12_need B J 61).bind fun q4 => if q4.1 = 0 then some (0, q4.2.1, q4.2.2) else (mX12_wholeType q4.2.1 q4.2.2).bind fun q5 => if q5.1 = 0 then some (0, q5.2.1, q5.2.2) else tyE h m w q5.2.1 q5.2.2
def tyG (w : Int64) (B : iT) (J : jT) : Option (Int32 × iT × jT) := if inb (B 186 32) 2 then if inb ((12 * (B 186 32)) + (B 204 (B 186 32).toNatClampNeg)) 24 then if inb ((12 * (B 186 32)) + (B 204 (B 186 32).toNatClampNeg)) 24 then if inb ((a_u2 B 197 ((12 * (B 186 32)) + (B 204 (B 186 32).toNatClampNeg)).toNatClampNeg (B 186 36)) 186 32) 2 then if inb ((a_u2 B 197 ((12 * (B 186 32)) + (B 204 (B 186 32).toNatClampNeg)).toNatClampNeg (B 186 36)) 186 32) 2 then (mX12_need (a_u2 (a_u2 B 197 ((12 * (B 186 32)) + (B 204 (B 186 32).toNatClampNeg)).toNatClampNeg (B 186 36)) 204 ((a_u2 B 197 ((12 * (B 186 32)) + (B 204 (B 186 32).toNatClampNeg)).toNatClampNeg (B 186 36)) 186 32).toNatClampNeg (((a_u2 B 197 ((12 * (B 186 32)) + (B 204 (B 186 32).toNatClampNeg)).toNatClampNeg (B 186 36)) 204 ((a_u2 B 197 ((12 * (B 186 32)) + (B 204 (B 186 32).toNatClampNeg)).toNatClampNeg (B 186 36)) 186 32).toNatClampNeg) + 1)) (a_u2 J 193 ((12 * (B 186 32)) + (B 204 (B 186 32).toNatClampNeg)).toNatClampNeg w) 59).bind fun q6 => if q6.1 = 0 ∨ q6.1 = 1 then some (q6.1, q6.2.1, q6.2.2) else none else none else none else none else none else none
def tyN (B : iT) (J : jT) : Option (Int32 × iT × jT) := if (B 186 3) = 2 then (mX12_findType B J (J 186 6)).bind fun q2 => if q2 = ((-1)) then if inb (B 186 32) 2 then if (B 204 (B 186 32).toNatClampNeg) = 12 then rBad B J 5 (B 186 4) else (mX12_look0 B J).bind fun q3 => (mX12_need q3.1 q3.2 61).bind fun q4 => if q4.1 = 0 then some (0, q4.2.1, q4.2.2) else (mX12_wholeType q4.2.1 q4.2.2).bind fun q5 => if q5.1 = 0 then some (0, q5.2.1, q5.2.2) else tyG (J 186 6) q5.2.1 q5.2.2 else none else rBad B J 2 (B 186 4) else rBad B J 1 (B 186 4)
theorem tyN_eq (B : iT) (J : jT) : mX12_typeText B J = (mX12_look0 B J).bind fun q1 => tyN q1.1 q1.2 := rfl
theorem tyE_eq {m : Nat} (hh : h < 2) (hm : m < 12) (e32 : B 186 32 = nI h) (e204 : B 204 h = nI m) (w : Int64) : tyG w B J = tyE h m w B J := by
  have c2 : (nI h).toNatClampNeg = h := nI_clamp (by omega)
  have c24 : (nI (12 * h + m)).toNatClampNeg = 12 * h + m := nI_clamp (by omega)
  have i2 : inb (nI h) 2 := vp_in_nI hh (by omega)
  have i24 : inb (nI (12 * h + m)) 24 := vp_in_nI (by omega) (by omega)
  have f1 : ∀ x v, (a_u2 B 197 x v) 186 32 = nI h := fun x v => by rw [a_u2_n _ _ (by omega)]; exact e32
  have f2 : ∀ x v, (a_u2 B 197 x v) 204 h = nI m := fun x v => by rw [a_u2_n _ _ (by omega)]; exact e204
  unfold tyG
  simp only [e32, c2, e204, i12m, c24, f1, f2, nI_1, if_pos i2, if_pos i24]
  rfl
end
section
variable {k h : Nat} {W : List Ent} {F : fT} {I B : iT} {J : jT} {L : lT} {bs : List Nat} {t : Tok} {r : List Tok} {P md : Nat}
theorem bt_cur {M : Nat} (H : BT k h M W F I B J L P md) {I' B' : iT} {J' : jT} {P' : Nat} (a : cf I I') (c : rf B J B' J') (hP : P ≤ P') : BT k h M W F I' B' J' L P' md := by
  obtain ⟨h1, h2, h3, h4, ⟨y1, y2, y3, y4, y5⟩, h6, ⟨w1, w2, w3⟩⟩ := H
  exact ⟨cf_RS a h1, h2, h3, nt_to h4 h3 TE.rfl rfl rfl (fun v _ _ => ⟨c.1 _ _ (by omega), c.1 _ _ (by omega), c.1 _ _ (by omega), c.1 _ _ (by omega), c.2 _ _ (by omega)⟩) (c.1 _ _ (by omega)) (fun i => c.2 _ _ (by omega)) (fun i => c.1 _ _ (by omega)), ⟨y1, by rw [c.1 _ _ (by omega)]; exact y2, by rw [c.1 _ _ (by omega)]; exact y3, by rw [c.1 _ _ (by omega)]; exact y4, y5⟩, h6, ⟨by omega, by omega, by omega⟩⟩
/-- what the types leave -/
def TF (k h : Nat) (I B : iT) (J : jT) (L : lT) (I' B' : iT) (J' : jT) (L' : lT) : Prop := (∀ a, ¬ (k + 2 ≤ a ∧ a ≤ k + 12) → a ≠ k + 29 → a ≠ k + 31 → L' a = L a) ∧ (∀ q, q ≠ 6 → ¬ (142 ≤ q ∧ q ≤ 146) → ¬ (k + 2 ≤ q ∧ q ≤ k + 13) → ¬ (k + 29 ≤ q ∧ q ≤ k + 32) → I' q = I q) ∧ B' 205 h = B 205 h ∧ RX h B J B' J'
theorem TF.rfl : TF k h I B J L I B J L := ⟨fun _ _ _ _ => Eq.refl _, fun _ _ _ _ _ => Eq.refl _, Eq.refl _, RX.rfl⟩
theorem TF.trans {I1 B1 I2 B2 : iT} {J1 J2 : jT} {L1 L2 : lT} (a : TF k h I B J L I1 B1 J1 L1) (c : TF k h I1 B1 J1 L1 I2 B2 J2 L2) : TF k h I B J L I2 B2 J2 L2 := ⟨fun x p q r => (c.1 x p q r).trans (a.1 x p q r), fun x p q r s => (c.2.1 x p q r s).trans (a.2.1 x p q r s), c.2.2.1.trans a.2.2.1, a.2.2.2.trans c.2.2.2⟩
/-- one type -/
theorem ty_one {n : Nat} (hF : F 134 4 = k) (hC : CR I B J bs t r) (H : BT k h (1400 * h + md) W F I B J L t.2.2 md) (q : t.1 = 300) :
    (∃ I' B' J', mX3_readTypes_2 (n + 2) I F (nI W.length) = some I' ∧ mX12_typeText B J = some (0, B', J') ∧ FAIL k h I B J I' B' J') ∨
    (∃ (e : Ent) (I' B' : iT) (J' : jT) (L' : lT) (t' : Tok) (r' : List Tok) (md' : Nat), W.length < 12 ∧ mX3_readTypes_2 (n + 2) I F (nI W.length) = mX3_readTypes_2 (n + 1) I' F (nI (W ++ [e]).length) ∧ mX12_typeText B J = some (1, B', J') ∧ CR I' B' J' bs t' r' ∧ BT k h (1400 * h + md') (W ++ [e]) F I' B' J' L' t'.2.2 md' ∧ TF k h I B J L I' B' J' L' ∧ t.2.2 + 4 ≤ t'.2.2) := by
  have hk0 := H.1.1
  have hh := H.2.2.2.2.1
  have hNT := H.2.2.2.1
  have hW := hNT.2.2.2.1
  have htl : tl 300 = 4 := by decide
  obtain ⟨z1, z2, _⟩ := lenW hk0
  have e300 : I 6 6 = 300 ↔ t.1 = 300 := cr_c hC 300 (by omega)
  obtain ⟨u, r1, I1, B1, J1, k1, k2, k3, k4, k5, k6, k7⟩ := jadv hC (by omega)
  rw [q, htl] at k5
  have H1 := bt_cur H k6 k7 (P' := u.2.2) (by omega)
  have hN1 := H1.2.2.2.1
  have hh1 := H1.2.2.2.2.1
  have eC : mX3_readTypes_2 (n + 2) I F (nI W.length) = (mX3_readFresh (k + 29) I1 12).bind fun q2 => tyA k (n + 1) q2.2 F q2.1 (nI (W.length + 1)) := by
    rw [mX3_readTypes_2, if_neg (show ¬ (12 : Int32) < nI W.length from nI_nlt (a := 12) (by omega) (by omega))]
    unfold mX2_skip
    rw [if_pos (e300.mpr q), k2, sb, sb, if_neg i10, hF, nI_1]
    rfl
  have er : B1 186 3 = 2 ↔ u.1 = 256 := cr_r k4 256 (by decide)
  have ec : I1 6 6 = 256 ↔ u.1 = 256 := cr_c k4 256 (by omega)
  have fx1 : FX k I I1 := cf_FX k6
  have rx1 : RX h B J B1 J1 := rf_RX k7
  rw [eC, tyN_eq, k3, sb]
  show (∃ I' B' J', _ ∧ tyN B1 J1 = some (0, B', J') ∧ _) ∨ (∃ (e : Ent) (I' B' : iT) (J' : jT) (L' : lT) (t' : Tok) (r' : List Tok) (md' : Nat), _ ∧ _ ∧ tyN B1 J1 = some (1, B', J') ∧ _)
  by_cases q2 : u.1 = 256
  · have hwN : isN u.2.1 := (cr_wf k4).2.1 q2
    have hval : I1 6 7 = nI (cN u.2.1) := k4.1.2.2.1.1 q2
    have hJ6 : J1 186 6 = lN (rN u.2.1) := k4.2.1.2.2.2.1 q2
    have htl2 : tl u.1 = 1 := by rw [q2]; decide
    obtain ⟨u2, r2, I2, B2, J2, l1, l2, l3, l4, l5, l6, l7⟩ := jadv k4 (by omega)
    rw [htl2] at l5
    have H2 := bt_cur H1 l6 l7 (P' := u2.2.2) (by omega)
    have hR2 := H2.1
    have eT : mX2_takeName I1 = some (nI (cN u.2.1), I2) := by
      unfold mX2_takeName
      rw [if_pos (ec.mpr q2), l2, sb, hval]
    have eF : mX3_readFresh (k + 29) I1 12 = if lfind (L (k + 29)) (nI (cN u.2.1)) = -1 then mX3_readFresh_36 (k + 29) I2 12 (nI u.2.2) (nI (cN u.2.1)) else (mX2_refuse I2 2 (nI u.2.2)).bind fun q5 => mX3_readFresh_36 (k + 29) q5 12 (nI u.2.2) (nI (cN u.2.1)) := by
      unfold mX3_readFresh
      rw [eT, sb]
      show ((mX4_find (k + 29) I2 (nI (cN u.2.1))).bind _) = _
      rw [rs_find hR2 (by unfold rowA; omega), sb, cr_8 k4]
    -- both refuse at the NAME
    have fail : ∀ {fc : Int32}, fc ≠ 0 → ∃ I9 I' B', mX2_refuse I2 fc (nI u.2.2) = some I9 ∧ (∃ f p, FM k f p I9) ∧ tyA k (n + 1) I9 F (nI (cN u.2.1)) (nI (W.length + 1)) = some I' ∧ rBad B1 J1 fc (B1 186 4) = some (0, B', J1) ∧ FAIL k h I B J I' B' J1 := by
      intro fc hfc
      obtain ⟨I9, B9, b1, b2, b3⟩ := jbad2 k4 hR2 (cr_9 l4) (cf_FX l6) h (f := fc) hfc (nI u.2.2)
      obtain ⟨I', d1, d2⟩ := fmu_FAIL (FAIL.pre fx1 rx1 b3) (fun f p hf => fm_tyA (F := F) hf n (nI (cN u.2.1)) (nI (W.length + 1)))
      obtain ⟨f, p, g, _⟩ := b3
      exact ⟨I9, I', B9, b1, ⟨f, p, g⟩, d1, by rw [cr_4 k4]; exact rBad_ok b2, d2⟩
    rcases nt_find hN1 hh1.1 hh1.2.1 hwN with ⟨i, e, f1, f2, f3, f4⟩ | ⟨f3, f4⟩
    · -- there already
      left
      have hi : i < W.length := (List.getElem?_eq_some_iff.mp f1).1
      have heb := (tr_u (hN1.2.2.2.2 i e f1).2.2.2.2).1
      obtain ⟨I9, I', B', c1, ⟨f, p, hfm⟩, c2, c3, c4⟩ := fail (fc := 2) (by decide)
      refine ⟨I', B', J1, ?_, ?_, c4⟩
      · rw [eF, f4, if_neg (nIm (by omega)), c1, sb, fm_f36 hfm (by unfold rowA; omega), sb]
        exact c2
      · unfold tyN
        rw [if_pos (er.mpr q2), hJ6, f3, sb, if_neg (nIm (by omega))]
        exact c3
    · have esz : mX4_size (k + 29) I2 = some (nI W.length) := by
        rw [rs_size hR2 (by unfold rowA; omega), hNT.1, List.length_map]
      have e36 : mX3_readFresh (k + 29) I1 12 = if nI W.length < 12 then some (nI (cN u.2.1), I2) else (mX2_refuse I2 5 (nI u.2.2)).bind fun q2 => some (nI (cN u.2.1), q2) := by
        rw [eF, f4, if_pos rfl]
        unfold mX3_readFresh_36
        rw [esz, sb]
      have c2 : (nI h).toNatClampNeg = h := nI_clamp (by omega)
      have i2 : inb (nI h) 2 := vp_in_nI hh.1 (by omega)
      have hRf : tyN B1 J1 = if B1 204 h = 12 then rBad B1 J1 5 (B1 186 4) else (mX12_look0 B1 J1).bind fun q3 => (mX12_need q3.1 q3.2 61).bind fun q4 => if q4.1 = 0 then some (0, q4.2.1, q4.2.2) else (mX12_wholeType q4.2.1 q4.2.2).bind fun q5 => if q5.1 = 0 then some (0, q5.2.1, q5.2.2) else tyG (J1 186 6) q5.2.1 q5.2.2 := by
        unfold tyN
        rw [if_pos (er.mpr q2), show mX12_findType B1 J1 (J1 186 6) = some (-1) by rw [hJ6]; exact f3, sb, if_pos rfl, if_pos (by rw [hh1.2.1]; exact i2), show (B1 186 32).toNatClampNeg = h by rw [hh1.2.1]; exact c2]
      have e204 : B1 204 h = nI W.length := hN1.2.2.1
      rw [hRf, e36]
      rcases Nat.lt_or_ge W.length 12 with hl | hl
      · have n12 : ¬ B1 204 h = 12 := by
          rw [e204]
          intro z
          have := (nI_eq (b := 12) (by omega) (by omega)).mp z
          omega
        rw [if_pos (show nI W.length < 12 from nI_lt (b := 12) hl (by omega)), sb, if_neg n12, l3, sb]
        show (∃ I' B' J', tyA k (n + 1) I2 F (nI (cN u.2.1)) (nI (W.length + 1)) = some I' ∧ ((mX12_need B2 J2 61).bind fun q4 => if q4.1 = 0 then some (0, q4.2.1, q4.2.2) else (mX12_wholeType q4.2.1 q4.2.2).bind fun q5 => if q5.1 = 0 then some (0, q5.2.1, q5.2.2) else tyG (J1 186 6) q5.2.1 q5.2.2) = some (0, B', J') ∧ _) ∨ (∃ (e : Ent) (I' B' : iT) (J' : jT) (L' : lT) (t' : Tok) (r' : List Tok) (md' : Nat), _ ∧ tyA k (n + 1) I2 F (nI (cN u.2.1)) (nI (W.length + 1)) = _ ∧ ((mX12_need B2 J2 61).bind fun q4 => if q4.1 = 0 then some (0, q4.2.1, q4.2.2) else (mX12_wholeType q4.2.1 q4.2.2).bind fun q5 => if q5.1 = 0 then some (0, q5.2.1, q5.2.2) else tyG (J1 186 6) q5.2.1 q5.2.2) = some (1, B', J') ∧ _)
        have fx2 : FX k I I2 := fx1.trans (cf_FX l6)
        have rx2 : RX h B J B2 J2 := rx1.trans (rf_RX l7)
        rcases jneed l4 hR2 h 61 (by omega) with ⟨w1, u3, r3, I3, B3, J3, s1, s2, s3, s4, s5, s6, s7⟩ | ⟨w1, I3, B3, s2, s3, s4⟩
        · have htl3 : tl u2.1 = 1 := by rw [w1]; decide
          rw [htl3] at s5
          have s2' : mX2_want I2 61 = some I3 := s2
          have s3' : mX12_need B2 J2 61 = some (1, B3, J3) := s3
          have H3 := bt_cur H2 s6 s7 (P' := u3.2.2) (by omega)
          have fx3 : FX k I I3 := fx2.trans (cf_FX s6)
          have rx3 : RX h B J B3 J3 := rx2.trans (rf_RX s7)
          unfold tyA
          rw [s2', sb, s3', sb, if_neg i10]
          obtain ⟨x, I4, v, B4, J4, a1, a2, ho⟩ := wh_ok s4 H3
          unfold tyB
          rw [a1, sb]
          show (∃ I' B' J', _ ∧ ((mX12_wholeType B3 J3).bind fun q5 => if q5.1 = 0 then some (0, q5.2.1, q5.2.2) else tyG (J1 186 6) q5.2.1 q5.2.2) = some (0, B', J') ∧ _) ∨ (∃ (e : Ent) (I' B' : iT) (J' : jT) (L' : lT) (t' : Tok) (r' : List Tok) (md' : Nat), _ ∧ _ ∧ ((mX12_wholeType B3 J3).bind fun q5 => if q5.1 = 0 then some (0, q5.2.1, q5.2.2) else tyG (J1 186 6) q5.2.1 q5.2.2) = some (1, B', J') ∧ _)
          rw [a2, sb]
          rcases ho with ⟨rfl, hf⟩ | ⟨rfl, uu, tt, p, L4, t4, r4, md4, o1, o2, o3, o4, o5, o6, o7, o8, o9, o10, o11, o12, o13, o14⟩
          · left
            obtain ⟨I', d1, d2⟩ := fmu_FAIL (FAIL.pre fx3 rx3 hf) (fun f p hf => fm_tyC (F := F) hf n (nI (cN u.2.1)) x (nI (W.length + 1)))
            exact ⟨I', B4, J4, d1, by rw [if_pos rfl], d2⟩
          · subst o1
            rw [if_neg i10]
            have e32 : B4 186 32 = nI h := o3.2.2.2.2.1.2.1
            have hN4 := o3.2.2.2.1
            have e204' : B4 204 h = nI W.length := hN4.2.2.1
            have hTR4 := o5
            have hT4 := o3.2.2.1
            show (∃ I' B' J', _ ∧ tyG (J1 186 6) B4 J4 = some (0, B', J') ∧ _) ∨ (∃ (e : Ent) (I' B' : iT) (J' : jT) (L' : lT) (t' : Tok) (r' : List Tok) (md' : Nat), _ ∧ _ ∧ tyG (J1 186 6) B4 J4 = some (1, B', J') ∧ _)
            rw [tyE_eq hh.1 hl e32 e204', hJ6]
            unfold tyE tyC
            rw [o7]
            have fB : ∀ q i, ¬ (q = 197 ∧ i = 12 * h + W.length) → ¬ (q = 204 ∧ i = h) → (a_u2 (a_u2 B4 197 (12 * h + W.length) (nI uu)) 204 h (nI (W.length + 1))) q i = B4 q i := fun q i p1 p2 => by rw [a_u2_n _ _ p2, a_u2_n _ _ p1]
            have fJ : ∀ q i, ¬ (q = 193 ∧ i = 12 * h + W.length) → (a_u2 J4 193 (12 * h + W.length) (lN (rN u.2.1))) q i = J4 q i := fun q i p1 => a_u2_n _ _ p1
            have g197 : (a_u2 (a_u2 B4 197 (12 * h + W.length) (nI uu)) 204 h (nI (W.length + 1))) 197 (12 * h + W.length) = nI uu := by rw [a_u2_n _ _ (by omega), a_u2_s]
            have g204 : (a_u2 (a_u2 B4 197 (12 * h + W.length) (nI uu)) 204 h (nI (W.length + 1))) 204 h = nI (W.length + 1) := a_u2_s _ _ _ _
            have g193 : (a_u2 J4 193 (12 * h + W.length) (lN (rN u.2.1))) 193 (12 * h + W.length) = lN (rN u.2.1) := a_u2_s _ _ _ _
            generalize (a_u2 (a_u2 B4 197 (12 * h + W.length) (nI uu)) 204 h (nI (W.length + 1))) = B5 at fB g197 g204 ⊢
            generalize (a_u2 J4 193 (12 * h + W.length) (lN (rN u.2.1))) = J5 at fJ g193 ⊢
            have hC5 : CR I4 B5 J5 bs t4 r4 := CR_B o2 (fun j _ _ => fB _ _ (by omega) (by omega)) (funext fun j => fB _ _ (by omega) (by omega)) (fJ _ _ (by omega))
            have rx5 : RX h B4 J4 B5 J5 := fun q i w => by
              unfold touR at w
              exact ⟨fB q i (by omega) (by omega), fJ q i (by omega)⟩
            have fx4 : FX k I I4 := fx3.trans (cT_FX o13)
            have rx4 : RX h B J B5 J5 := (rx3.trans (rT_RX o14)).trans rx5
            have hR4 := o3.1
            rcases jneed hC5 hR4 h 59 (by omega) with ⟨w1, u6, r6, I6, B6, J6, m1, m2, m3, m4, m5, m6, m7⟩ | ⟨w1, I6, B6, m2, m3, m4⟩
            · right
              have htl4 : tl t4.1 = 1 := by rw [w1]; decide
              rw [htl4] at m5
              have m2' : mX2_want I4 59 = some I6 := m2
              have m3' : mX12_need B5 J5 59 = some (1, B6, J6) := m3
              have hR6 := cf_RS m6 hR4
              have h29 : L4 (k + 29) = W.map (fun e => nI (cN e.1)) := hN4.1
              have h31 : L4 (k + 31) = W.map (fun e => nI e.2.2.1) := hN4.2.1
              obtain ⟨I7, p1, p2, p3⟩ := rs_add hR6 (a := k + 29) (by unfold rowA; omega) (by rw [h29, List.length_map, z1]; exact hl) (nI (cN u.2.1))
              obtain ⟨I8, q1, q2', q3⟩ := rs_add p2 (a := k + 31) (by unfold rowA; omega) (by rw [upL_n _ _ (by omega), h31, List.length_map, z2]; exact hl) (nI tt)
              have fL : ∀ a, a ≠ k + 29 → a ≠ k + 31 → (upL (upL L4 (k + 29) (L4 (k + 29) ++ [nI (cN u.2.1)])) (k + 31) (upL L4 (k + 29) (L4 (k + 29) ++ [nI (cN u.2.1)]) (k + 31) ++ [nI tt])) a = L4 a := fun a w1 w2 => by rw [upL_n _ _ w2, upL_n _ _ w1]
              have g29 : (upL (upL L4 (k + 29) (L4 (k + 29) ++ [nI (cN u.2.1)])) (k + 31) (upL L4 (k + 29) (L4 (k + 29) ++ [nI (cN u.2.1)]) (k + 31) ++ [nI tt])) (k + 29) = L4 (k + 29) ++ [nI (cN u.2.1)] := by rw [upL_n _ _ (by omega), upL_s]
              have g31 : (upL (upL L4 (k + 29) (L4 (k + 29) ++ [nI (cN u.2.1)])) (k + 31) (upL L4 (k + 29) (L4 (k + 29) ++ [nI (cN u.2.1)]) (k + 31) ++ [nI tt])) (k + 31) = L4 (k + 31) ++ [nI tt] := by rw [upL_s, upL_n _ _ (by omega)]
              generalize (upL (upL L4 (k + 29) (L4 (k + 29) ++ [nI (cN u.2.1)])) (k + 31) (upL L4 (k + 29) (L4 (k + 29) ++ [nI (cN u.2.1)]) (k + 31) ++ [nI tt])) = L8 at q2' fL g29 g31
              have fB6 : ∀ q i, q ≠ 186 → B6 q i = B5 q i := fun q i w => m7.1 _ _ (by omega)
              have fJ6 : ∀ q i, q ≠ 186 → J6 q i = J5 q i := fun q i w => m7.2 _ _ (by omega)
              have hA : ∀ v, (B6 188 v = B4 188 v ∧ B6 189 v = B4 189 v ∧ B6 190 v = B4 190 v ∧ B6 191 v = B4 191 v ∧ J6 192 v = J4 192 v) := fun v => ⟨by rw [fB6 _ _ (by omega), fB _ _ (by omega) (by omega)], by rw [fB6 _ _ (by omega), fB _ _ (by omega) (by omega)], by rw [fB6 _ _ (by omega), fB _ _ (by omega) (by omega)], by rw [fB6 _ _ (by omega), fB _ _ (by omega) (by omega)], by rw [fJ6 _ _ (by omega), fJ _ _ (by omega)]⟩
              have hTE : TE k L4 L8 := TE_eq (fun a w1 w2 => fL a (by omega) (by omega))
              have hNT8 : NT k h (1400 * h + md4) L8 B6 J6 (W ++ [(u.2.1, uu, tt, p)]) := by
                refine ⟨by rw [g29, h29, List.map_append]; rfl, by rw [g31, h31, List.map_append]; rfl, by rw [fB6 _ _ (by omega), g204, List.length_append]; rfl, by rw [List.length_append]; show W.length + 1 ≤ 12; omega, fun i e he => ?_⟩
                rcases Nat.lt_or_ge i W.length with x | x
                · rw [List.getElem?_append_left x] at he
                  obtain ⟨y1, y2, y3, y4, y5⟩ := hN4.2.2.2.2 i e he
                  exact ⟨by rw [fJ6 _ _ (by omega), fJ _ _ (by omega)]; exact y1, by rw [fB6 _ _ (by omega), fB _ _ (by omega) (by omega)]; exact y2, y3, y4, tr_to hT4 hTE (fun v _ => hA v) (fun v hv => hv) _ _ _ _ _ (Nat.le_refl _) y5⟩
                · rw [List.getElem?_append_right x] at he
                  have hi0 : i = W.length := by
                    have := (List.getElem?_eq_some_iff.mp he).1
                    rw [List.length_singleton] at this
                    omega
                  subst hi0
                  rw [Nat.sub_self] at he
                  have he : (u.2.1, uu, tt, p) = e := Option.some.inj he
                  subst he
                  exact ⟨by rw [fJ6 _ _ (by omega)]; exact g193, by rw [fB6 _ _ (by omega)]; exact g197, hwN, o6, tr_to hT4 hTE (fun v _ => hA v) (fun v hv => hv) _ _ _ _ _ (Nat.le_refl _) hTR4⟩
              have hb4 := o3.2.2.2.2.2.2
              have hd4 := o3.2.2.2.2.2.1
              have hh4 := o3.2.2.2.2.1
              refine ⟨(u.2.1, uu, tt, p), I8, B6, J6, L8, u6, r6, md4, hl, ?_, ?_, ?_, ⟨q2', o3.2.1, tab_eq (fun a w1 w2 => fL a (by omega) (by omega)) hT4, hNT8, ⟨hh4.1, by rw [m7.1 _ _ (by omega), fB _ _ (by omega) (by omega)]; exact hh4.2.1, by rw [m7.1 _ _ (by omega), fB _ _ (by omega) (by omega)]; exact hh4.2.2.1, by rw [m7.1 _ _ (by omega), fB _ _ (by omega) (by omega)]; exact hh4.2.2.2.1, Nat.le_refl _⟩, ⟨by rw [fL _ (by omega) (by omega)]; exact hd4.1, by rw [fL _ (by omega) (by omega)]; exact hd4.2⟩, ⟨by rw [fL _ (by omega) (by omega)]; omega, by rw [fL _ (by omega) (by omega)]; omega, by omega⟩⟩, ⟨fun a w1 w2 w3 => by rw [fL a w2 w3]; exact o4.2 a w1, fun c w1 w2 w3 w4 => ?_, ?_, rx4.trans (rf_RX m7)⟩, by omega⟩
              · rw [m2', sb, p1, sb]
                show ((mX4_add (k + 31) I7 (nI tt)).bind _) = _
                rw [q1, sb, List.length_append]
                rfl
              · rw [m3', sb, if_pos (Or.inr rfl)]
              · exact CR_I m4 (by rw [q3 _ (by omega) (by omega), p3 _ (by omega) (by omega)]) (by rw [q3 _ (by omega) (by omega), p3 _ (by omega) (by omega)]) (by rw [q3 _ (by omega) (by omega), p3 _ (by omega) (by omega)]) (by rw [q3 _ (by omega) (by omega), p3 _ (by omega) (by omega)])
              · rw [q3 c (by omega) (by omega), p3 c (by omega) (by omega), cf_b m6 w1, o13 c w1 (by omega) (by omega) (by omega), cf_b s6 w1, cf_b l6 w1, cf_b k6 w1]
              · rw [fB6 _ _ (by omega), fB _ _ (by omega) (by omega), o14.1 _ _ (by omega) (by omega), s7.1 _ _ (by omega), l7.1 _ _ (by omega), k7.1 _ _ (by omega)]
            · left
              have m2' : mX2_want I4 59 = some I6 := m2
              have m3' : mX12_need B5 J5 59 = some (0, B6, J5) := m3
              obtain ⟨I', d1, d2⟩ := fmu_FAIL (FAIL.pre fx4 rx4 m4) (o := (mX4_add (k + 29) I6 (nI (cN u.2.1))).bind fun q6 => (mX4_add (k + 31) q6.2 (nI tt)).bind fun q7 => mX3_readTypes_2 (n + 1) q7.2 F (nI (W.length + 1))) (fun f p hf => by
                have := fm_tyC (F := F) hf n (nI (cN u.2.1)) (nI tt) (nI (W.length + 1))
                unfold tyC at this
                rw [fm_want hf (by decide), sb] at this
                exact this)
              exact ⟨I', B6, J5, by rw [m2', sb]; exact d1, by rw [m3', sb, if_pos (Or.inl rfl)], d2⟩
        · left
          have s2' : mX2_want I2 61 = some I3 := s2
          have s3' : mX12_need B2 J2 61 = some (0, B3, J2) := s3
          obtain ⟨I', d1, d2⟩ := fmu_FAIL (FAIL.pre fx2 rx2 s4) (fun f p hf => fm_tyB (F := F) hf n (nI (cN u.2.1)) (nI (W.length + 1)))
          exact ⟨I', B3, J2, by unfold tyA; rw [s2', sb]; exact d1, by rw [s3', sb, if_pos rfl], d2⟩
      · left
        obtain ⟨I9, I', B', c1, ⟨f, p, hfm⟩, c2', c3, c4⟩ := fail (fc := 5) (by decide)
        refine ⟨I', B', J1, ?_, ?_, c4⟩
        · rw [if_neg (show ¬ nI W.length < 12 from nI_nlt (b := 12) hl (by omega)), c1, sb, sb]
          exact c2'
        · rw [if_pos (by rw [e204, show W.length = 12 by omega]; rfl)]
          exact c3
  · left
    obtain ⟨I9, B9, b1, b2, b3, b4⟩ := jbad k4 H1.1 h (f := 1) (by decide) (nI u.2.2)
    obtain ⟨I', d1, d2⟩ := fmu_FAIL (FAIL.pre fx1 rx1 b3) (fun f p hf => fm_tyA (F := F) hf n 0 (nI (W.length + 1)))
    have hfm : ∃ f p, FM k f p I9 := by
      obtain ⟨f, p, g, _⟩ := b3
      exact ⟨f, p, g⟩
    obtain ⟨f, p, hfm⟩ := hfm
    have eT : mX2_takeName I1 = some (0, I9) := by
      unfold mX2_takeName
      rw [if_neg (fun z => q2 (ec.mp z)), cr_8 k4, b1, sb]
    refine ⟨I', B9, J1, ?_, ?_, d2⟩
    · unfold mX3_readFresh
      rw [eT, sb]
      obtain ⟨v, hv⟩ := fm_find hfm (a := k + 29) (by unfold rowA; omega) 0
      show (((mX4_find (k + 29) I9 0).bind _).bind _) = _
      rw [hv, sb, fm_refuse hfm, sb, fm_f36 hfm (by unfold rowA; omega), ite_self, sb]
      exact d1
    · unfold tyN
      rw [if_neg (fun z => q2 (er.mp z)), cr_4 k4]
      exact rBad_ok b2
/-- all types -/
theorem ty_all (hF : F 134 4 = k) : ∀ (d : Nat) (W : List Ent) (I B : iT) (J : jT) (L : lT) (t : Tok) (r : List Tok) (md n1 n2 : Nat), W.length + d = 12 → CR I B J bs t r → BT k h (1400 * h + md) W F I B J L t.2.2 md →
    (∃ I' B' J', mX3_readTypes_2 (n1 + d + 2) I F (nI W.length) = some I' ∧ mX12_text_0 (n2 + d + 1) B J = some (0, B', J') ∧ FAIL k h I B J I' B' J') ∨
    (∃ (W' : List Ent) (I' B' : iT) (J' : jT) (L' : lT) (t' : Tok) (r' : List Tok) (md' : Nat), mX3_readTypes_2 (n1 + d + 2) I F (nI W.length) = some I' ∧ mX12_text_0 (n2 + d + 1) B J = mX12_text_18 LF B' J' ∧ CR I' B' J' bs t' r' ∧ BT k h (1400 * h + md') W' F I' B' J' L' t'.2.2 md' ∧ TF k h I B J L I' B' J' L') := by
  intro d
  induction d with
  | zero =>
    intro W I B J L t r md n1 n2 hW hC H
    have e300 : I 6 6 = 300 ↔ t.1 = 300 := cr_c hC 300 (by omega)
    have r300 : B 186 3 = 100 ↔ t.1 = 300 := cr_r hC 300 (by decide)
    by_cases q : t.1 = 300
    · rcases ty_one (n := n1) hF hC H q with ⟨I', B', J', a1, a2, a3⟩ | ⟨e, I', B', J', L', t', r', md', a1, _⟩
      · left
        exact ⟨I', B', J', a1, by rw [mX12_text_0, if_pos (r300.mpr q), a2, sb, if_pos rfl], a3⟩
      · omega
    · right
      refine ⟨W, I, B, J, L, t, r, md, ?_, ?_, hC, H, TF.rfl⟩
      · rw [mX3_readTypes_2, if_neg (show ¬ (12 : Int32) < nI W.length from nI_nlt (a := 12) (by omega) (by omega))]
        unfold mX2_skip
        rw [if_neg (fun z => q (e300.mp z)), sb, if_pos rfl]
      · rw [mX12_text_0, if_neg (fun z => q (r300.mp z))]
  | succ d ih =>
    intro W I B J L t r md n1 n2 hW hC H
    have e300 : I 6 6 = 300 ↔ t.1 = 300 := cr_c hC 300 (by omega)
    have r300 : B 186 3 = 100 ↔ t.1 = 300 := cr_r hC 300 (by decide)
    by_cases q : t.1 = 300
    · rcases ty_one (n := n1 + d + 1) hF hC H q with ⟨I', B', J', a1, a2, a3⟩ | ⟨e, I', B', J', L', t', r', md', a1, a2, a3, a4, a5, a6, a7⟩
      · left
        exact ⟨I', B', J', a1, by rw [mX12_text_0, if_pos (r300.mpr q), a2, sb, if_pos rfl], a3⟩
      · have eT : mX12_text_0 (n2 + (d + 1) + 1) B J = mX12_text_0 (n2 + d + 1) B' J' := by
          show mX12_text_0 ((n2 + d + 1) + 1) B J = _
          rw [mX12_text_0, if_pos (r300.mpr q), a3, sb, if_neg i10]
        have eC : mX3_readTypes_2 (n1 + (d + 1) + 2) I F (nI W.length) = mX3_readTypes_2 (n1 + d + 2) I' F (nI (W ++ [e]).length) := a2
        rw [eT, eC]
        have hfx : FX k I I' := fun c w1 w2 w3 => a6.2.1 c w1 (by omega) (by omega) (by omega)
        rcases ih (W ++ [e]) I' B' J' L' t' r' md' n1 n2 (by rw [List.length_append]; show W.length + 1 + d = 12; omega) a4 a5 with ⟨I2, B2, J2, b1, b2, b3⟩ | ⟨W2, I2, B2, J2, L2, t2, r2, md2, b1, b2, b3, b4, b5⟩
        · exact Or.inl ⟨I2, B2, J2, b1, b2, FAIL.pre hfx a6.2.2.2 b3⟩
        · exact Or.inr ⟨W2, I2, B2, J2, L2, t2, r2, md2, b1, b2, b3, b4, a6.trans b5⟩
    · right
      refine ⟨W, I, B, J, L, t, r, md, ?_, ?_, hC, H, TF.rfl⟩
      · rw [mX3_readTypes_2, if_neg (show ¬ (12 : Int32) < nI W.length from nI_nlt (a := 12) (by omega) (by omega))]
        unfold mX2_skip
        rw [if_neg (fun z => q (e300.mp z)), sb, if_pos rfl]
      · rw [mX12_text_0, if_neg (fun z => q (r300.mp z))]
end
