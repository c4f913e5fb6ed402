/-! WAIT; what the Ts of talks say (pure) -/
def SO (k h M n : Nat) (D : List Df) (F : fT) (I B : iT) (J : jT) (L : lT) (bs : List Nat) (P md nest : Nat) (S : List Sl) (a6 a8 a0 : List Int32) (wd b : Nat) (oc : Option iT) (or : Option (Int32 × iT × jT)) : Prop :=
  ∃ I' v B' J', oc = some I' ∧ or = some (v, B', J') ∧ ((v = 0 ∧ PL k h (b + 1) I B J I' B' J') ∨ (v = 1 ∧ SG k h M n D F I B J L bs P md nest S a6 a8 a0 wd b I' B' J'))
section
variable {k : Nat} {L : lT} {B : iT} {J : jT} {Q : Nat → Prop} {d u t p : Nat}
theorem tr_end (h : TR k L B J Q d u t p) (hk : gI (L (k + 2)) t = 302) : gI (L (k + 6)) t = -1 := by
  cases d with
  | zero => exact h.elim
  | succ d =>
    obtain ⟨h1, h2, h3, h4, h5⟩ := h
    have ne : ∀ c, c < 302 → gI (L (k + 2)) t ≠ nI c := by
      intro c c0 z
      clear h5
      rw [hk] at z
      have := (nI_eq (a := 302) (b := c) (by omega) (by omega)).mp z
      omega
    rcases h5 with ⟨c1, c2, c3, c4, c5, c6, c7⟩ | ⟨kd', w, u1, t1, p1, c1, c2, _⟩ | ⟨kd', w, u1, t1, p1, u2, t2, p2, c1, c2, _⟩ | ⟨kd', w, f, bl, c1, c2, _⟩
    · exact c6
    · exact (ne kd' (by omega) c2).elim
    · exact (ne kd' (by omega) c2).elim
    · exact (ne kd' (by omega) c2).elim
theorem tr_one {kd : Nat} (h : TR k L B J Q d u t p) (hp : p ≤ 200) (hk : gI (L (k + 2)) t = nI kd) (hkd : kd = 33 ∨ kd = 63) : ∃ u1 t1 p1, B 189 u = nI u1 ∧ gI (L (k + 4)) t = -1 ∧ gI (L (k + 6)) t = nI t1 ∧ p1 ≤ 200 ∧ TR k L B J Q p1 u1 t1 p1 := by
  cases d with
  | zero => exact h.elim
  | succ d =>
    obtain ⟨h1, h2, h3, h4, h5⟩ := h
    have ne : ∀ c, c < 303 → c ≠ 33 → c ≠ 63 → gI (L (k + 2)) t ≠ nI c := by
      intro c c0 c1 c2 z
      clear h5
      rw [hk] at z
      have := (nI_eq (a := kd) (b := c) (by omega) (by omega)).mp z
      omega
    rcases h5 with ⟨c1, c2, c3, c4, c5, c6, c7⟩ | ⟨kd', w, u1, t1, p1, c1, c2, c3, c4, c5, c6, c7, c8, c9⟩ | ⟨kd', w, u1, t1, p1, u2, t2, p2, c1, c2, _⟩ | ⟨kd', w, f, bl, c1, c2, _⟩
    · exact (ne 302 (by omega) (by omega) (by omega) c1).elim
    · exact ⟨u1, t1, p1, c4, c6, c7, by omega, tr_fuel _ _ _ _ c9⟩
    · exact (ne kd' (by omega) (by omega) (by omega) c2).elim
    · exact (ne kd' (by omega) (by omega) (by omega) c2).elim
theorem tr_two {kd : Nat} (h : TR k L B J Q d u t p) (hp : p ≤ 200) (hk : gI (L (k + 2)) t = nI kd) (hkd : kd = 62 ∨ kd = 60) : ∃ u1 t1 p1 u2 t2 p2, B 189 u = nI u1 ∧ B 190 u = nI u2 ∧ gI (L (k + 4)) t = nI t1 ∧ gI (L (k + 6)) t = nI t2 ∧ p1 ≤ 200 ∧ p2 ≤ 200 ∧ TR k L B J Q p1 u1 t1 p1 ∧ TR k L B J Q p2 u2 t2 p2 := by
  cases d with
  | zero => exact h.elim
  | succ d =>
    obtain ⟨h1, h2, h3, h4, h5⟩ := h
    have ne : ∀ c, c < 303 → c ≠ 62 → c ≠ 60 → gI (L (k + 2)) t ≠ nI c := by
      intro c c0 c1 c2 z
      clear h5
      rw [hk] at z
      have := (nI_eq (a := kd) (b := c) (by omega) (by omega)).mp z
      omega
    rcases h5 with ⟨c1, c2, c3, c4, c5, c6, c7⟩ | ⟨kd', w, u1, t1, p1, c1, c2, _⟩ | ⟨kd', w, u1, t1, p1, u2, t2, p2, c1, c2, c3, c4, c5, c6, c7, c8, c9, c10⟩ | ⟨kd', w, f, bl, c1, c2, _⟩
    · exact (ne 302 (by omega) (by omega) (by omega) c1).elim
    · exact (ne kd' (by omega) (by omega) (by omega) c2).elim
    · exact ⟨u1, t1, p1, u2, t2, p2, c4, c5, c6, c7, by omega, by omega, tr_fuel _ _ _ _ c9, tr_fuel _ _ _ _ c10⟩
    · exact (ne kd' (by omega) (by omega) (by omega) c2).elim
end
section
variable {k h M n : Nat} {D : List Df} {F : fT} {I B : iT} {J : jT} {L : lT} {bs : List Nat} {t : Tok} {r : List Tok} {P md nest wd b z : Nat} {S : List Sl} {a6 a8 a0 : List Int32}
theorem rP_sc {i : Nat} (hi : 43 ≤ i ∧ i ≤ 51) (v : Int32) : rP h md nest B J (a_u2 B 186 i v) J := ⟨fun c j w1 _ _ _ => a_u2_n _ _ (by omega), fun _ _ _ _ _ _ => rfl⟩
theorem rP_206 (i : Nat) (v : Int64) : rP h md nest B J B (a_u2 J 206 i v) := ⟨fun _ _ _ _ _ _ => rfl, fun c j _ _ w3 _ => a_u2_n _ _ (by omega)⟩
theorem rP_209 (i : Nat) (v : Int32) : rP h md nest B J (a_u2 B 209 i v) J := ⟨fun c j _ _ w3 _ => a_u2_n _ _ (by omega), fun _ _ _ _ _ _ => rfl⟩
theorem ps_st1 {i : Nat} (H : PS k h M n D F I B J L P md nest S a6 (a8.set (nest * 85 + i) (-1)) a0 wd b z) (hi : i < 85) : ∃ I', mX5_setTalk I (nI i) (-1) = some I' ∧ PS k h M n D F I' B J L P md nest S a6 (a8.set (nest * 85 + i) (-1)) a0 wd b z ∧ (∀ q, ¬ (136 ≤ q ∧ q ≤ 139) → I' q = I q) := by
  have hsr := H.1.2.2.2.2.2.1
  obtain ⟨I', e1, e2, e3⟩ := sw_setTalk hsr.1 hsr.2.1.1 hsr.2.1.2.1 hi (-1)
  rw [List.set_set] at e2
  refine ⟨I', e1, ps_sr H ⟨e2, ⟨by rw [e3 135 (by omega)]; exact hsr.2.1.1, hsr.2.1.2⟩, hsr.2.2⟩ (fun q w => e3 q (by omega)) (fun _ _ _ _ => rfl) (fun _ _ _ => rfl) H.2.2.2.2.1.2.2.2 H.2.2.2.2.2.2.1, e3⟩
theorem st_wait (R : sc_12actT) (hC : CR I B J bs t r) (H : PS k h M n D F I B J L t.2.2 md nest S a6 a8 a0 wd b 0) (q : t.1 = 316) (x2 : Int32) : SO k h M n D F I B J L bs t.2.2 md nest S a6 a8 a0 wd b (mX3_readTalk I F 316 x2) (bX12_act R B J 116) := by
  have hk0 := H.1.1.1
  have hnod := H.2.2.1
  have bb := H.1.2.2.2.2.2.2.2
  have bn := H.2.2.2.2.2.1
  have htl : tl 316 = 4 := by decide
  have hh := H.1.2.2.2.2.1.1
  obtain ⟨B2, J2, e3, HO⟩ := tk_ok hC H (w := 316) (gc := -1) (hc := 1) (gk := 259) (hk := 302) (Or.inr (Or.inl ⟨rfl, rfl, rfl, rfl, rfl⟩)) q x2
  have eR : bX12_act R B J 116 = (mX12_aChannel B2 J2 (-1) 1).bind fun q38 => if q38.1 = 0 then some (0, q38.2.1, q38.2.2) else (mX12_node q38.2.1 q38.2.2 41 (q38.2.1 186 48) (-1) 0).bind fun q39 => if inb ((a_u2 q39.2.1 186 49 q39.1) 186 48) 128 then some (1, a_u2 q39.2.1 186 49 q39.1, a_u2 q39.2.2 206 ((a_u2 q39.2.1 186 49 q39.1) 186 48).toNatClampNeg 0) else none := by
    unfold bX12_act
    rw [if_neg (by decide), if_neg (by decide), e3, sb]
    rfl
  rw [eR]
  rcases HO with ⟨I', B3, J3, c1, c2, c3⟩ | ⟨i, s, kd, wc, I7, B3, J3, t3, r3, L7, d1, d2, d3, d4, d5, d6, d7, d8, d9, d10, d11, d12, d13, d14, d15, d16, d17⟩
  · exact ⟨I', 0, B3, J3, c1, by rw [c2, sb, if_pos rfl], Or.inl ⟨rfl, c3⟩⟩
  · have hi : 1 ≤ i := by
      rcases Nat.eq_zero_or_pos i with z | z
      · rw [if_pos z] at d6
        exfalso
        unfold KW kw6 at d3
        have := (nI_eq (a := kd) (b := 259) (by omega) (by omega)).mp d6
        omega
      · exact z
    rw [if_neg (by omega)] at d6
    have hkd : gI (L (k + 2)) s.2.2.2.1 = 302 := by rw [d4]; exact d6
    have hsr := d10.1.2.2.2.2.2.1
    obtain ⟨y1, y2, y3⟩ := (hsr.2.2.1 i s d1).2.2.2.2 d2
    have hil : i < S.length := (List.getElem?_eq_some_iff.mp d1).1
    have hsl := hsr.2.1.2.2.2.2.2.1
    have h6 : gI (L (k + 6)) s.2.2.2.1 = -1 := by
      have := tr_end y3 (by rw [d12 _ (by omega)]; exact hkd)
      rw [d12 _ (by omega)] at this
      exact this
    have hP3 := cr_end d9
    obtain ⟨B5, J5, m1, m2, m3, m4, m5, m6, m7, m8, m9, m10⟩ := ps_rnode d10 (by omega) (by omega) 41 (nI (sg n i)) (-1) 0
    have H6 := ps_49 m2 49 (by omega) (nI (1400 * h + md))
    obtain ⟨I8, p1, H8, p3⟩ := ps_drop0 H6 d1 hi
    obtain ⟨I9, s1, H9, s3⟩ := ps_st1 H8 (by omega)
    have e48 : (a_u2 B5 186 49 (nI (1400 * h + md))) 186 48 = nI (sg n i) := by rw [a_u2_n _ _ (by omega), m9 _ _ (by omega) (by omega)]; exact d13
    have hC9 : CR I9 (a_u2 B5 186 49 (nI (1400 * h + md))) (a_u2 J5 206 (sg n i) 0) bs t3 r3 := CR_B (CR_I d9 (by rw [s3 6 (by omega), p3 6 (by omega)]) (by rw [s3 9 (by omega), p3 9 (by omega)]) (by rw [s3 10 (by omega), p3 10 (by omega)]) (by rw [s3 11 (by omega), p3 11 (by omega)])) (fun j _ _ => by rw [a_u2_n _ _ (by omega), m9 _ _ (by omega) (by omega)]) (funext fun j => by rw [a_u2_n _ _ (by omega), m9 _ _ (by omega) (by omega)]) (by rw [a_u2_n _ _ (by omega), m10 _ _ (by omega)])
    have hg := ng_g hnod d11
    refine ⟨I9, 1, a_u2 B5 186 49 (nI (1400 * h + md)), a_u2 J5 206 (sg n i) 0, ?_, ?_, Or.inr ⟨rfl, sg_of hnod d11 hC9 H9 (by omega) (by omega) (by rw [d12 _ (by omega)]; omega) (by omega) (by omega) (by rw [d12 _ (by omega)]; omega) (a_u2_s _ _ _ _) (by omega) (by omega) (by rw [a_u2_n _ _ (by omega)]; exact m6) ⟨by omega, by omega, ⟨Nat.le_refl _, by omega⟩, Or.inl ⟨i, s.2.2.2.1, by rw [a_u2_n _ _ (by omega)]; exact m3, hg.1, by rw [a_u2_n _ _ (by omega)]; exact m4, hg.2.1, hi, by rw [gm_get d1, d2], by rw [d12 _ (by omega)]; exact hkd, by rw [gm_set]⟩⟩ (d16.trans (fun c w1 w2 w3 => by rw [s3 c (by omega), p3 c (by omega)])) (((d17.trans (rS_rP m8) (Nat.le_refl _) (Nat.le_refl nest)).trans (rP_sc (by omega) _) (Nat.le_refl md) (Nat.le_refl nest)).trans (rP_206 _ _) (Nat.le_refl md) (Nat.le_refl nest)) (by repeat (first | exact lk_rfl | apply lk_6 | apply lk_8 | apply lk_0))⟩⟩
    · show mX3_readTalk I F (nI 316) x2 = some I9
      rw [d7]
      unfold tkR
      rw [if_neg (by decide), if_neg (by decide), if_neg (by decide), if_pos (by decide), p1, sb]
      unfold mX3_readTalk_229
      rw [h6, s1, sb]
    · rw [d8, sb, if_neg i10]
      show ((mX12_node B3 J3 41 (B3 186 48) (-1) 0).bind _) = _
      rw [d13, m1, sb]
      have c128 := cl128 (show sg n i < 128 by omega)
      have i128' : inb ((a_u2 B5 186 49 (nI (1400 * h + md))) 186 48) 128 := by rw [e48]; exact in128 (by omega)
      rw [if_pos i128']
      rw [e48, c128]
end
