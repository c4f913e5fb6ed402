/-! ONE STEP: same (pure) -/
section
variable {np : Nat} {R : lT} {B : iT} {rl dp : Nat → Nat}
theorem rl_rw (H : CHC np R B rl dp) : ∀ (d x : Nat), x < np → dp x ≤ d → gI (R 150) (rl x) = -1 ∧ B 220 (rl x) = nI (rl x) := by
  intro d
  induction d with
  | zero =>
    intro x hx hd
    obtain ⟨_, _, a | ⟨y, _, _, _, _, _, y6⟩⟩ := H.2.2 x hx
    · rw [a.2.2]; exact ⟨a.1, a.2.1⟩
    · omega
  | succ d ih =>
    intro x hx hd
    obtain ⟨_, _, a | ⟨y, y1, _, _, _, y5, y6⟩⟩ := H.2.2 x hx
    · rw [a.2.2]; exact ⟨a.1, a.2.1⟩
    · rw [y5]; exact ih y y1 (by omega)
/-- two CHANNELS become one: what their names come to -/
theorem chc_jn (H : CHC np R B rl dp) {a b : Nat} (ha : a < np) (hb : b < np) (hab : a ≠ b) (ra : rl a = a) (rb : rl b = b) {R' : lT} {B' : iT} (h1 : R' 150 = (R 150).set b (nI a)) (h2 : B' 220 b = nI a) (h3 : ∀ i, i ≠ b → B' 220 i = B 220 i) {m : Nat} (hm : ∀ x, x < np → dp x ≤ m) (hm1 : m + 1 ≤ 80) : ∃ dp' : Nat → Nat, CHC np R' B' (fun x => if rl x = b then a else rl x) dp' ∧ ∀ x, x < np → dp' x ≤ m + 1 := by
  obtain ⟨c1, c2, c3⟩ := H
  have H : CHC np R B rl dp := ⟨c1, c2, c3⟩
  have wa := rl_rw H _ a ha (Nat.le_refl _)
  have wb := rl_rw H _ b hb (Nat.le_refl _)
  rw [ra] at wa
  rw [rb] at wb
  have bd : ∀ x, x < np → (if rl x = b then (if x = b then 1 else dp x + 1) else (if x = a then 0 else dp x)) ≤ m + 1 := fun x hx => by
    have := hm x hx
    split <;> split <;> omega
  refine ⟨fun x => if rl x = b then (if x = b then 1 else dp x + 1) else (if x = a then 0 else dp x), ⟨by rw [h1, List.length_set]; exact c1, c2, fun x hx => ⟨?_, Nat.le_trans (bd x hx) hm1, ?_⟩⟩, bd⟩
  · show (if rl x = b then a else rl x) < np
    split
    · exact ha
    · exact (c3 x hx).1
  · show (gI (R' 150) x = -1 ∧ B' 220 x = nI x ∧ (if rl x = b then a else rl x) = x) ∨ ∃ y, y < np ∧ y ≠ x ∧ gI (R' 150) x = nI y ∧ B' 220 x = nI y ∧ (if rl x = b then a else rl x) = (if rl y = b then a else rl y) ∧ (if rl y = b then (if y = b then 1 else dp y + 1) else (if y = a then 0 else dp y)) < (if rl x = b then (if x = b then 1 else dp x + 1) else (if x = a then 0 else dp x))
    by_cases e : x = b
    · subst e
      refine Or.inr ⟨a, ha, hab, by rw [h1]; exact gI_se (by omega) _, h2, ?_, ?_⟩
      · rw [if_pos rb, ra, if_neg hab]
      · rw [ra, if_neg hab, if_pos rfl, if_pos rb, if_pos rfl]
        exact Nat.zero_lt_one
    · rw [h1, gI_sn e, h3 x e]
      obtain ⟨g1, g2, ⟨g3, g4, g5⟩ | ⟨y, y1, y2, y3, y4, y5, y6⟩⟩ := c3 x hx
      · exact Or.inl ⟨g3, g4, by rw [g5, if_neg e]⟩
      · refine Or.inr ⟨y, y1, y2, y3, y4, by rw [y5], ?_⟩
        have exa : x ≠ a := fun z => by
          subst z
          rw [wa.1] at y3
          exact nIm (show y < 2 ^ 31 by omega) y3.symm
        rw [y5, if_neg e, if_neg exa]
        by_cases q : rl y = b
        · rw [if_pos q, if_pos q]
          split <;> omega
        · rw [if_neg q, if_neg q]
          split <;> omega
end
section
variable {sp : Int32} {k h md : Nat} {D : List Df} {L : lT} {B0 : iT} {J0 : jT} {F : fT} {I B : iT} {J : jT} {np nm dn sd : Nat} {R : lT} {z : Nat → Prop} {p f : Nat} {e : Df} {Γ : Nat → Gm} {ch : Nat → Nat → Nat} {rl dp : Nat → Nat} {ow : Nat → Nat × Nat × Nat} {Gt Ht : Nat → Nat} {q : Nat → List Nat} {mr rk : Nat → Nat} {Q Rn Rc : Nat → Prop}
theorem k_same (S : STR1 sp k h md D L B0 J0 F I B J np nm dn sd R z p f e Γ ch rl dp ow Gt Ht q mr rk) {κ j t u : Nat} (hκ : κ < 2 ^ 31) (hu : u < 2800) (h49 : gI (L (k + 49)) κ = 0) (h189 : B 189 u = nI e.2.1.length) (h190 : B 190 u = nI (sg e.2.1.length j)) (h0 : (Γ p)[0]? = some (2, t)) (hj : 1 ≤ j) (hΓ : (Γ p)[j]? = some (2, t)) (a b : Int32) (c : Int64) :
    OUT sp k h md D L B0 J0 F np dn z p (dsK I F (nI p) (nI κ) (nI j) 310) (goK B J p u a b c 50) := by
  obtain ⟨k1, k2, k3, k4, k5, k6, k7, k8, k9⟩ := st_hk S
  obtain ⟨s1, s2, s3, s4, s5, s6, s7, s8, s9, s10, s11, s12, s13, s14, ⟨t1, t2, t3, t4, t5, t6, t7, t8⟩, s15, s16⟩ := S
  obtain ⟨n1, n2, n3, n4, n5, n6, n7, n8, n9, n10, n11, n12⟩ := s7
  obtain ⟨⟨z1, z2, z3, z4, z5, z6, z7⟩, z8⟩ := s6
  obtain ⟨g1, g2, g3, g4, g5, g6, g7, g8, g9⟩ := z8 p t1
  have h80 := ty_80 s9
  have hj85 : j < 85 := by have := (List.getElem?_eq_some_iff.mp hΓ).1; omega
  obtain ⟨x0, y0, x1, x2, x3, x4, x5, x6⟩ := t8.2 0 t h0
  obtain ⟨xj, yj, w1, w2, w3, w4, w5, w6⟩ := t8.2 j t hΓ
  have e0 : chX rl ch p 0 = rl p := rfl
  have ej : chX rl ch p j = ch p j := by unfold chX; rw [if_neg (by omega)]
  rw [e0] at x5 x6
  rw [ej] at w5 w6
  have hsg0 : sg e.2.1.length 0 = e.2.1.length := rfl
  have hsgj := sg_spec e.2.1.length j
  obtain ⟨cb1, cb2, cb3, cb4⟩ := s9.2.2.2.1 p t1 t2 j t hj hΓ
  have ha : rl p < np := rl_lt s10 t1
  have ra : rl (rl p) = rl p := rl_root s10 t1
  have hab : rl p ≠ ch p j := fun y => by have := ty_ne s9 t1 t2 hj hΓ; rw [y] at this; omega
  -- rows
  have Q1 := s13 _ ha ra 0 (by omega)
  have Q2 := s13 _ ha ra 1 (by omega)
  have Q3 := s13 _ cb1 cb2 0 (by omega)
  have Q4 := s13 _ cb1 cb2 1 (by omega)
  have N1 := ty_q s9 ha ra (s := 0) (by omega)
  have N2 := ty_q s9 ha ra (s := 1) (by omega)
  have N3 := ty_q s9 cb1 cb2 (s := 0) (by omega)
  have N4 := ty_q s9 cb1 cb2 (s := 1) (by omega)
  have dj := fun {a b s s' : Nat} (ha : a < np) (hb : b < np) (ra : rl a = a) (rb : rl b = b) (hs : s < 2) (hs' : s' < 2) (hne : 2 * a + s ≠ 2 * b + s') => ty_dj s9 ha hb ra rb hs hs' hne
  simp only [Nat.add_zero] at Q1 Q3 N1 N3
  have m1 : ∀ {l : List Nat} {r : Nat}, (l.Nodup ∧ ∀ m, m ∈ l → m < nm ∧ mr m = r) → l.Nodup ∧ ∀ m ∈ l, m < nm := fun h => ⟨h.1, fun m hm => (h.2 m hm).1⟩
  have d1 : ∀ m ∈ q (2 * ch p j), ¬ m ∈ q (2 * rl p) := dj cb1 ha cb2 ra (s := 0) (s' := 0) (by omega) (by omega) (by omega)
  have d2 : ∀ m ∈ q (2 * ch p j + 1), ¬ m ∈ q (2 * rl p) := dj cb1 ha cb2 ra (s := 1) (s' := 0) (by omega) (by omega) (by omega)
  have d3 : ∀ m ∈ q (2 * rl p + 1), ¬ m ∈ q (2 * rl p) := dj ha ha ra ra (s := 1) (s' := 0) (by omega) (by omega) (by omega)
  have d4 : ∀ m ∈ q (2 * rl p + 1), ¬ m ∈ q (2 * ch p j + 1) := dj ha cb1 ra cb2 (s := 1) (s' := 1) (by omega) (by omega) (by omega)
  have d5 : ∀ m ∈ q (2 * ch p j), ¬ m ∈ q (2 * ch p j + 1) := dj cb1 cb1 cb2 cb2 (s := 0) (s' := 1) (by omega) (by omega) (by omega)
  obtain ⟨I1, R1, a1, a2, a3, a4, a5, a6, a7, a8, a9⟩ := jn_c s5 s12 s10.1 ha cb1 hab Q1.1 Q2.1 Q3.1 Q4.1 (m1 N1) (m1 N2) (m1 N3) (m1 N4) d1 d2 d3 d4 d5
  obtain ⟨B1, B2, b1, b2, b3, b4, b5, b6⟩ := jn_r (nm := nm) (show rl p < 80 by omega) (show ch p j < 80 by omega) hab (by have := s12.2.1; omega) Q1.2.1 Q2.2.1 Q3.2.1 Q4.2.1 (m1 N1) (m1 N4) d1 d2 d3 d4 d5
  obtain ⟨I', R', c1, c2, c3, c4, c5, c6⟩ := fin_ok a2 k2
  rw [a7 168 (by omega) (by omega) (by omega) (by omega) (by omega)] at c3
  rw [a7 172 (by omega) (by omega) (by omega) (by omega) (by omega)] at c4
  obtain ⟨B', hB'⟩ : ∃ B', B' = a_u2 (a_u2 B2 220 (ch p j) (nI (rl p))) 219 p 1 := ⟨_, rfl⟩
  have f1 : ∀ q i, ¬ (q = 220 ∧ i = ch p j) → ¬ (q = 219 ∧ i = p) → B' q i = B2 q i := fun q i y1 y2 => by rw [hB', a_u2_n _ _ y2, a_u2_n _ _ y1]
  have fB : ∀ q i, ¬ (q = 220 ∧ i = ch p j) → ¬ (q = 219 ∧ i = p) → q ≠ 221 → q ≠ 222 → q ≠ 225 → B' q i = B q i := fun q i y1 y2 y3 y4 y5 => by rw [f1 q i y1 y2, b6 q i (by omega) y5]
  have e219 : B' 219 p = 1 := by rw [hB', a_u2_s]
  have e220 : B' 220 (ch p j) = nI (rl p) := by rw [hB', a_u2_n _ _ (by omega), a_u2_s]
  have fR : ∀ a, a ≠ 150 → ¬ (152 ≤ a ∧ a ≤ 162) → a ≠ 168 → a ≠ 172 → R' a = R a := fun a y1 y2 y3 y4 => by rw [c5 a y3 y4, a7 a y1 (by omega) (by omega) (by omega) (by omega)]
  have fR2 : R' 158 = R 158 ∧ R' 160 = R 160 := ⟨by rw [c5 _ (by omega) (by omega), a7 _ (by omega) (by omega) (by omega) (by omega) (by omega)], by rw [c5 _ (by omega) (by omega), a7 _ (by omega) (by omega) (by omega) (by omega) (by omega)]⟩
  have f148 : I' 148 = I 148 := by rw [c6 148 (by omega), a9 148 (by omega)]
  have e168 : gI (R' 168) p = 1 := by rw [c3]; exact gI_se (by omega) _
  have al' : ∀ x, gI (R' 168) x = 0 → gI (R 168) x = 0 ∧ x ≠ p := fun x hx => by
    by_cases e0 : x = p
    · subst e0; rw [e168] at hx; exact absurd hx (by decide)
    · rw [c3, gI_sn e0] at hx; exact ⟨hx, e0⟩
  have hT' := ty_same s9 t1 t2 hj h0 hΓ (al' := fun x => gI (R' 168) x = 0) (fun x _ hx => al' x hx)
  rw [← fR2.1, ← fR2.2] at hT'
  have hcO : cO (R' 168) = cO (R 168) + 1 := by rw [c3, cO_set t2 (by omega)]
  obtain ⟨dp', hC', hdp'⟩ := chc_jn s10 ha cb1 hab ra cb2 (R' := R') (B' := B') (by rw [c5 _ (by omega) (by omega)]; exact a6) e220 (fun i hi => fB _ _ (by omega) (by omega) (by omega) (by omega) (by omega)) (m := cO (R 168)) s11 (by have := cO_le (R' 168); rw [hcO, c3, List.length_set] at this; omega)
  have hL0 : ∀ a, a = 152 ∨ a = 154 ∨ a = 156 ∨ a = 158 ∨ a = 160 ∨ a = 162 → (R' a).length = (R a).length := fun a ha => by rw [c5 a (by omega) (by omega)]; exact a8 a
  obtain ⟨l1, l2, l3, l4, l5, l6, l7, l8⟩ := s12
  -- a MESSAGE stays what it is
  have mk : ∀ cc s m, cc < np → rl cc = cc → s < 2 → m ∈ q (2 * cc + s) → MCL np rl R B J m → MCL np (fun x => if rl x = ch p j then rl p else rl x) R' B' J m := by
    intro cc s m hc hr hs hm hM
    have g1' : gI (R' 158) m = gI (R 158) m := by rw [fR2.1]
    have g2' : gI (R' 160) m = gI (R 160) m := by rw [fR2.2]
    have g3' : B' 223 m = B 223 m := fB _ _ (by omega) (by omega) (by omega) (by omega) (by omega)
    have g4' : B' 224 m = B 224 m := fB _ _ (by omega) (by omega) (by omega) (by omega) (by omega)
    unfold MCL
    rw [g1', g2', g3', g4']
    refine ⟨hM.1, ?_⟩
    rcases hM.2 with y | ⟨y1, y2, v, y, y3, y4, y5, y6, y7⟩ | y | y
    · exact Or.inl y
    · obtain ⟨v', v1, v2, v3, v4⟩ := ((s9.2.2.2.2.2.1 cc hc hr s hs).2 m hm).2.2 y1
      have ev : v' = v := by
        rw [y3] at v1
        exact ((nI_eq (by omega) (by omega)).mp v1).symm
      subst ev
      have hvb : v' ≠ ch p j := fun y => by
        rw [y, cb3] at v4
        exact absurd (congrArg Prod.fst v4) (show (1 : Nat) ≠ 2 by omega)
      refine Or.inr (Or.inl ⟨y1, y2, v', y, y3, y4, y5, y6, ?_⟩)
      show (if rl y = ch p j then rl p else rl y) = v'
      rw [y7, if_neg hvb]
    · exact Or.inr (Or.inr (Or.inl y))
    · exact Or.inr (Or.inr (Or.inr y))
  have qc : ∀ r l, QCc R1 r l → QCc R' r l := fun r l hq => by
    unfold QCc
    rw [c5 156 (by omega) (by omega), c5 162 (by omega) (by omega), c5 152 (by omega) (by omega), c5 154 (by omega) (by omega)]
    exact hq
  have qr : ∀ r l, QCr B2 r l → QCr B' r l := fun r l hq => by
    unfold QCr
    rw [show B' 225 = B2 225 from funext fun i => f1 _ _ (by omega) (by omega), f1 221 _ (by omega) (by omega), f1 222 _ (by omega) (by omega)]
    exact hq
  refine ⟨I', B', J, R', nm, sd, ?_, ?_, s1, ⟨fun q y1 y2 => ?_, s2.2.1, by rw [fB _ _ (by omega) (by omega) (by omega) (by omega) (by omega)]; exact s2.2.2.1, by rw [fB _ _ (by omega) (by omega) (by omega) (by omega) (by omega)]; exact s2.2.2.2.1, by rw [fB _ _ (by omega) (by omega) (by omega) (by omega) (by omega)]; exact k9⟩, s3, rk_keep s4 (fun a y1 y2 => by rw [c6 a (by omega), a9 a (by omega)]), c2, ⟨⟨by rw [fR 164 (by omega) (by omega) (by omega) (by omega)]; exact z1, by rw [fR 166 (by omega) (by omega) (by omega) (by omega)]; exact z2, by rw [c3, List.length_set]; exact z3, by rw [fR 170 (by omega) (by omega) (by omega) (by omega)]; exact z4, by rw [c4, List.length_set]; exact z5, by rw [fR 174 (by omega) (by omega) (by omega) (by omega)]; exact z6, by rw [fR 176 (by omega) (by omega) (by omega) (by omega)]; exact z7⟩, fun x hx => ?_⟩, ⟨by rw [fB _ _ (by omega) (by omega) (by omega) (by omega) (by omega)]; exact n1, by rw [fB _ _ (by omega) (by omega) (by omega) (by omega) (by omega)]; exact n2, by rw [f148]; exact n3, by rw [fB _ _ (by omega) (by omega) (by omega) (by omega) (by omega)]; exact n4, n5, n6, by rw [fB _ _ (by omega) (by omega) (by omega) (by omega) (by omega)]; exact n7, by rw [f148]; exact n8, by rw [fB _ _ (by omega) (by omega) (by omega) (by omega) (by omega)]; exact n9, n10, by rw [f148, fB _ _ (by omega) (by omega) (by omega) (by omega) (by omega)]; exact n11, by rw [fB _ _ (by omega) (by omega) (by omega) (by omega) (by omega)]; exact n12⟩, ?_, Γ, ch, _, dp', _, _, _, _, _, rk, hT', hC', fun x hx => by rw [hcO]; exact hdp' x hx, ⟨l1, l2, by rw [hL0 _ (by omega)]; exact l3, by rw [hL0 _ (by omega)]; exact l4, by rw [hL0 _ (by omega)]; exact l5, by rw [hL0 _ (by omega)]; exact l6, by rw [hL0 _ (by omega)]; exact l7, by rw [hL0 _ (by omega)]; exact l8⟩, fun cc hcc hrc s hs => ?_, fun x hx hal => ?_⟩
  · unfold dsK
    have hto := to_ok s3 s4 s5 s10 k2 hκ (show 0 < 85 by omega) h49 x1 x3 x5
    rw [if_neg (by decide), if_neg (by decide), if_neg (by decide), if_neg (by decide), if_neg (by decide), if_neg (by decide), if_neg (by decide), if_pos rfl, hto, sb, slo_ok s5 k2 hj85, sb, w1, fo_ok s5 s10 w3, sb, w5, a1, sb, c1, sb]
  · unfold goK
    rw [if_neg (by decide), if_neg (by decide), if_neg (by decide), if_neg (by decide), if_neg (by decide), if_neg (by decide), if_neg (by decide), if_neg (by decide), if_neg (by decide), if_neg (by decide), if_pos rfl]
    unfold mX12_joins
    have g189 : B 189 (nI u).toNatClampNeg = nI e.2.1.length := by rw [congrArg (B 189) (cl28 hu)]; exact h189
    have g190 : B 190 (nI u).toNatClampNeg = nI (sg e.2.1.length j) := by rw [congrArg (B 190) (cl28 hu)]; exact h190
    have e20 : ∀ c, (2 : Int32) * nI c = nI (2 * c) := fun c => pk_mul 2 c
    have e21 : ∀ c, (2 : Int32) * nI c + 1 = nI (2 * c + 1) := fun c => r2s c 1
    rw [if_pos (in28 hu), g189, val_ok k2 (by omega), sb, show B 218 (128 * p + e.2.1.length) = nI y0 from x2, rl_ok s10 x4, sb, x6, if_pos (in28 hu), g190, val_ok k2 (by omega), sb, w2, rl_ok s10 w4, sb, w6, e21, e21, e20, e20, b1, sb, b2, sb, if_pos (in80 (by omega)), if_pos (in80 k2), sb, cl80 (show ch p j < 80 by omega), cl80 k2, hB']
  · rw [← s2.1 q y1 y2]
    exact funext fun i => fB _ _ (by omega) (by omega) (by omega) (by omega) (by omega)
  · obtain ⟨y1, y2, y3, y4, y5, y6, y7, y8, y9⟩ := z8 x hx
    rw [fR 164 (by omega) (by omega) (by omega) (by omega), fR 170 (by omega) (by omega) (by omega) (by omega), fR 174 (by omega) (by omega) (by omega) (by omega), fR 176 (by omega) (by omega) (by omega) (by omega), fB 215 x (by omega) (by omega) (by omega) (by omega) (by omega), fB 216 x (by omega) (by omega) (by omega) (by omega) (by omega), fB 214 x (by omega) (by omega) (by omega) (by omega) (by omega), fB 212 x (by omega) (by omega) (by omega) (by omega) (by omega), fB 217 x (by omega) (by omega) (by omega) (by omega) (by omega)]
    by_cases e0 : x = p
    · subst e0
      rw [e168, e219, c4, gI_se (by omega)]
      exact ⟨Or.inr rfl, rfl, y3, y4, y5, y6, fun w => absurd w (by decide), fun _ => rfl, y9⟩
    · rw [c3, c4, gI_sn e0, gI_sn e0, fB 219 x (by omega) (by omega) (by omega) (by omega) (by omega)]
      exact ⟨y1, y2, y3, y4, y5, y6, y7, y8, y9⟩
  · unfold SAI
    rw [fR 182 (by omega) (by omega) (by omega) (by omega), fR 184 (by omega) (by omega) (by omega) (by omega)]
    refine ⟨s8.1, s8.2.1, fun i hi => ?_⟩
    rw [fB _ _ (by omega) (by omega) (by omega) (by omega) (by omega), fB _ _ (by omega) (by omega) (by omega) (by omega) (by omega)]
    exact s8.2.2 i hi
  · have hrc' : (if rl cc = ch p j then rl p else rl cc) = cc := hrc
    have hcr : rl cc = cc ∧ cc ≠ ch p j := by
      by_cases y : rl cc = ch p j
      · rw [if_pos y] at hrc'
        rw [← hrc', ra] at y
        exact absurd y hab
      · rw [if_neg y] at hrc'
        exact ⟨hrc', fun w => y (by rw [hrc', w])⟩
    by_cases ea : cc = rl p
    · subst ea
      have hs01 : s = 0 ∨ s = 1 := by omega
      rcases hs01 with rfl | rfl
      · rw [a_u1_n _ _ (by omega), Nat.add_zero, a_u1_s]
        refine ⟨qc _ _ a3, qr _ _ b3, fun m hm => ?_⟩
        rcases List.mem_append.mp hm with y | y
        · exact mk _ 0 m ha ra (by omega) y (Q1.2.2 m y)
        · exact mk _ 0 m cb1 cb2 (by omega) y (Q3.2.2 m y)
      · rw [a_u1_s]
        refine ⟨qc _ _ a4, qr _ _ b4, fun m hm => ?_⟩
        rcases List.mem_append.mp hm with y | y
        · exact mk _ 1 m cb1 cb2 (by omega) y (Q4.2.2 m y)
        · exact mk _ 1 m ha ra (by omega) y (Q2.2.2 m y)
    · rw [a_u1_n _ _ (by omega), a_u1_n _ _ (by omega)]
      obtain ⟨y1, y2, y3⟩ := s13 cc hcc hcr.1 s hs
      have dd : ∀ m ∈ q (2 * cc + s), ¬ m ∈ q (2 * rl p) ∧ ¬ m ∈ q (2 * ch p j + 1) := fun m hm => ⟨dj hcc ha hcr.1 ra (s := s) (s' := 0) hs (by omega) (by omega) m hm, dj hcc cb1 hcr.1 cb2 (s := s) (s' := 1) hs (by omega) (by omega) m hm⟩
      exact ⟨qc _ _ (a5 _ _ (by omega) (by omega) (by omega) y1 dd), qr _ _ (b5 _ _ (by omega) (by omega) y2 dd), fun m hm => mk cc s m hcc hcr.1 hs hm (y3 m hm)⟩
  · obtain ⟨hal', hxp⟩ := al' x hal
    refine prc_keep (σ := fun c => if c = ch p j then rl p else c) (s14 x hx hxp hal') (fun f e hf => (bk_def s1 hf).2.1) (by rw [fR 164 (by omega) (by omega) (by omega) (by omega)]) (by rw [fR 166 (by omega) (by omega) (by omega) (by omega)]) (fB _ _ (by omega) (by omega) (by omega) (by omega) (by omega)) (fun i hi => by rw [fR 176 (by omega) (by omega) (by omega) (by omega)]) (fun i hi => fB _ _ (by omega) (by omega) (by omega) (by omega) (by omega)) (Nat.le_refl _) (fun x _ => rfl) (fun i t hi => ?_) (fun hz => hz.1)
    unfold chX
    by_cases i0 : i = 0
    · rw [if_pos i0, if_pos i0]
    · rw [if_neg i0, if_neg i0]
      obtain ⟨_, _, v3, _⟩ := s9.2.2.2.1 x hx hal' i t (by omega) hi
      rw [if_neg (fun y => hxp (by
        rw [y, cb3] at v3
        exact (congrArg (fun w : Nat × Nat × Nat => w.2.1) v3).symm))]
end
