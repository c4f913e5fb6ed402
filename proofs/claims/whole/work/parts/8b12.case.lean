/-! ONE STEP: case (pure) -/
section
variable {k κ a m p : Nat} {L : lT} {I B0 : iT} {J0 : jT} {Q : Nat → Prop}
/-- the class looks for the alternative -/
theorem alt_ok6 (hK : RK I k L) (hκ : κ < 2 ^ 31) (h53 : gI (L (k + 53)) κ = nI m) (hm : a + m ≤ 1000) (v : Int32) : ∀ (c x : Nat), x + c = m → (∃ j, x ≤ j ∧ j < m ∧ gI (L (k + 55)) (a + j) = v) → ∃ j, j < m ∧ gI (L (k + 55)) (a + j) = v ∧ ∀ n, mX0_alternative_12 k (n + c + 1) I (nI κ) v (nI a) (nI x) = some (gI (L (k + 57)) (a + j)) := by
  intro c
  induction c with
  | zero => intro x hx h; obtain ⟨j, h1, h2, _⟩ := h; omega
  | succ c ih =>
    intro x hx h
    have hk := hK.1
    have e53 : mX4_at (k + 53) I (nI κ) = some (nI m) := by rw [rk_g hK (by unfold rkA; omega) hκ, h53]
    have e55 : mX4_at (k + 55) I (nI a + nI x) = some (gI (L (k + 55)) (a + x)) := by rw [nI_add, rk_g hK (by unfold rkA; omega) (by omega)]
    have e57 : mX4_at (k + 57) I (nI a + nI x) = some (gI (L (k + 57)) (a + x)) := by rw [nI_add, rk_g hK (by unfold rkA; omega) (by omega)]
    by_cases q : gI (L (k + 55)) (a + x) = v
    · refine ⟨x, by omega, q, fun n => ?_⟩
      rw [mX0_alternative_12, e53, sb, if_neg (nI_ge (by omega) (by omega)), e55, sb, if_pos q, e57, sb]
    · obtain ⟨j, h1, h2, h3⟩ := ih (x + 1) (by omega) (by
        obtain ⟨j, h1, h2, h3⟩ := h
        refine ⟨j, ?_, h2, h3⟩
        rcases Nat.lt_or_ge x j with y | y
        · omega
        · have : j = x := by omega
          subst this
          exact absurd h3 q)
      refine ⟨j, h1, h2, fun n => ?_⟩
      rw [mX0_alternative_12, e53, sb, if_neg (nI_ge (by omega) (by omega)), e55, sb, if_neg q, nI_1]
      exact h3 n
/-- the reference goes through its alternatives -/
theorem lp_ok (hp : p < 80) {J : jT} (hJ : ∀ v, J 192 v = J0 192 v) (w : Int64) (x2 x3 : Int32) : ∀ (bl : List Alt) (x : Int32) (B : iT) (n : Nat), (∀ v, B 189 v = B0 189 v ∧ B 191 v = B0 191 v) → altR B0 J0 Q x bl → bl.length < n → ∃ B', mX12_goesOn_330 n B J (nI p) x2 x3 w x = some (B', J) ∧ (∀ q i, ¬ (q = 213 ∧ i = p) → B' q i = B q i) ∧ ((∃ e ∈ bl, lN (rN e.2.2.1) = w) → ∃ e ∈ bl, lN (rN e.2.2.1) = w ∧ B' 213 p = nI e.2.2.2.2.1) ∧ ((¬ ∃ e ∈ bl, lN (rN e.2.2.1) = w) → B' 213 p = B 213 p) := by
  intro bl
  induction bl with
  | nil =>
    intro x B n hB hx hn
    obtain ⟨n, rfl⟩ : ∃ y, n = y + 1 := ⟨n - 1, by omega⟩
    have hx' : x = -1 := hx
    refine ⟨B, ?_, fun _ _ _ => rfl, fun h => ?_, fun _ => rfl⟩
    · rw [mX12_goesOn_330, if_pos hx']
    · obtain ⟨e, he, _⟩ := h
      cases he
  | cons e bl ih =>
    intro x B n hB hx hn
    obtain ⟨n, rfl⟩ : ∃ y, n = y + 1 := ⟨n - 1, by omega⟩
    obtain ⟨b1, b2, b3, b4, b5, b6⟩ := hx
    have c28 := cl28 b2
    have g192 : J 192 (nI e.1).toNatClampNeg = lN (rN e.2.2.1) := by rw [congrArg (J 192) c28, hJ, b4]
    have g189 : B 189 (nI e.1).toNatClampNeg = nI e.2.2.2.2.1 := by rw [congrArg (B 189) c28, (hB _).1, b5]
    subst b1
    have hl : bl.length < n := by simp at hn; omega
    by_cases q : lN (rN e.2.2.1) = w
    · have hB1 : ∀ v, a_u2 B 213 p (nI e.2.2.2.2.1) 189 v = B0 189 v ∧ a_u2 B 213 p (nI e.2.2.2.2.1) 191 v = B0 191 v := fun v => by rw [a_u2_n _ _ (by omega), a_u2_n _ _ (by omega)]; exact hB v
      have g191 : a_u2 B 213 p (nI e.2.2.2.2.1) 191 (nI e.1).toNatClampNeg = B0 191 e.1 := by rw [congrArg (a_u2 B 213 p (nI e.2.2.2.2.1) 191) c28, (hB1 _).2]
      obtain ⟨B', d1, d2, d3, d4⟩ := ih _ (a_u2 B 213 p (nI e.2.2.2.2.1)) n hB1 b6 hl
      refine ⟨B', ?_, fun q i w1 => by rw [d2 q i w1, a_u2_n _ _ w1], fun _ => ?_, fun y => absurd ⟨e, List.mem_cons_self .., q⟩ y⟩
      · rw [mX12_goesOn_330, if_neg (nIm (by omega)), if_pos (in28 b2), g192, if_pos ((lg_eq0 _ _).mpr q), if_pos (in28 b2), if_pos (in80 hp), g189, cl80 hp, mX12_goesOn_362, if_pos (in28 b2), g191]
        exact d1
      · by_cases y : ∃ e ∈ bl, lN (rN e.2.2.1) = w
        · obtain ⟨e', y1, y2, y3⟩ := d3 y
          exact ⟨e', List.mem_cons_of_mem _ y1, y2, y3⟩
        · exact ⟨e, List.mem_cons_self .., q, by rw [d4 y, a_u2_s]⟩
    · have g191 : B 191 (nI e.1).toNatClampNeg = B0 191 e.1 := by rw [congrArg (B 191) c28, (hB _).2]
      obtain ⟨B', d1, d2, d3, d4⟩ := ih _ B n hB b6 hl
      refine ⟨B', ?_, d2, fun y => ?_, fun y => d4 (fun ⟨e', y1, y2⟩ => y ⟨e', List.mem_cons_of_mem _ y1, y2⟩)⟩
      · rw [mX12_goesOn_330, if_neg (nIm (by omega)), if_pos (in28 b2), g192, if_neg (fun z => q ((lg_eq0 _ _).mp z)), mX12_goesOn_362, if_pos (in28 b2), g191]
        exact d1
      · obtain ⟨e', y1, y2⟩ := y
        rcases List.mem_cons.mp y1 with y3 | y3
        · subst y3; exact absurd y2 q
        · obtain ⟨e2, y4, y5, y6⟩ := d3 ⟨e', y3, y2⟩
          exact ⟨e2, List.mem_cons_of_mem _ y4, y5, y6⟩
end
section
variable {sp : Int32} {k h md : Nat} {D : List Df} {L : lT} {B0 : iT} {J0 : jT} {F : fT} {I B : iT} {J : jT} {np nm dn sd : Nat} {R : lT} {z : Nat → Prop} {p f : Nat} {e : Df} {Γ : Nat → Gm} {ch : Nat → Nat → Nat} {rl dp : Nat → Nat} {ow : Nat → Nat × Nat × Nat} {Gt Ht : Nat → Nat} {q : Nat → List Nat} {mr rk : Nat → Nat} {Q Qa Rn Rc : Nat → Prop}
theorem k_case (S : STR1 sp k h md D L B0 J0 F I B J np nm dn sd R z p f e Γ ch rl dp ow Gt Ht q mr rk) {i t κ m0 m fs mm a u : Nat} {bl : List Alt} {l : List Nat} (hκ : κ < 2 ^ 31) (hΓ : (Γ p)[i]? = some (2, t)) (h49 : gI (L (k + 49)) κ = nI i) (h51 : gI (L (k + 51)) κ = nI a) (h53 : gI (L (k + 53)) κ = nI mm) (h47 : gI (L (k + 47)) κ = 308) (hm : m0 ≤ 250 ∧ QH B0 Q) (hK : gI (L (k + 2)) t = (if i = 0 then 38 else 43)) (h4 : gI (L (k + 4)) t = nI fs) (h6 : gI (L (k + 6)) t = nI mm) (hmm : mm ≤ 6) (haL : a + mm ≤ (L (k + 55)).length) (hal : altR B0 J0 Qa (B0 190 u) bl) (hbl : bl.length = mm) (hall : ∀ j, j < mm → ∃ e ∈ bl, e.2.1 = j)
    (hbe : ∀ ee ∈ bl, (ee.2.1 < mm ∧ ee.2.2.2.1 < 1000) ∧ isN ee.2.2.1 ∧ gI (L (k + 10)) (fs + ee.2.1) = nI (cN ee.2.2.1) ∧ gI (L (k + 12)) (fs + ee.2.1) = nI ee.2.2.2.1 ∧ gI (L (k + 55)) (a + ee.2.1) = nI (cN ee.2.2.1) ∧ gI (L (k + 57)) (a + ee.2.1) = nI ee.2.2.2.2.2.1 ∧ PR k e.2.1.length (D.take f) L B0 J0 Q Rn Rc m0 ee.2.2.2.2.1 ee.2.2.2.2.2.1 ee.2.2.2.2.2.2 ((Γ p).set i (2, ee.2.2.2.1))) (hq : q (rdX rl ch p i) = m :: l) (b b2 : Int32) (c : Int64) :
    OUT sp k h md D L B0 J0 F np dn z p (dsK I F (nI p) (nI κ) b 308) (goK B J p u (nI (sg e.2.1.length i)) b2 c 47) := by
  obtain ⟨I1, R1, B1, a1, a2, a3, a4, a5, a6, a7, a8, a9, a10, a11, a12⟩ := tmk S hκ hΓ h49 hq
  have hrd := (wr_st S hΓ).2
  obtain ⟨k1, k2, k3, k4, k5, k6, k7, k8, k9⟩ := st_hk S
  have S0 := S
  obtain ⟨s1, s2, s3, s4, s5, s6, s7, s8, s9, s10, s11, s12, s13, s14, ⟨t1, t2, t3, t4, t5, t6, t7, t8⟩, s15, s16⟩ := S
  obtain ⟨⟨z1, z2, z3, z4, z5, z6, z7⟩, z8⟩ := s6
  obtain ⟨g1, g2, g3, g4, g5, g6, g7, g8, g9⟩ := z8 p t1
  have hil := (List.getElem?_eq_some_iff.mp hΓ).1
  have hK1 : (L (k + 2)).length ≤ 1000 := s1.2.2.2.2.2.2.2.2.1.2.2.1
  have hK5 : (L (k + 10)).length ≤ 500 := s1.2.2.2.2.2.2.2.2.1.2.2.2.1
  have hL55 : (L (k + 55)).length ≤ 500 := s1.2.2.2.2.2.2.2.2.1.2.2.2.2.2
  -- the message's choice
  have T0 : i = 0 → ∀ x, TMu k L (gI (R 158)) (gI (R 160)) Ht t m x → gI (R 158) m = 2 ∧ x < 1000 ∧ ∃ f n j w, gI (L (k + 4)) t = nI f ∧ f < 1000 ∧ gI (L (k + 6)) t = nI n ∧ n ≤ 6 ∧ j < n ∧ isN w ∧ gI (L (k + 10)) (f + j) = nI (cN w) ∧ gI (R 160) m = nI (cN w) ∧ gI (L (k + 12)) (f + j) = nI x := fun i0 x hx => by
    rw [if_pos i0] at hK
    exact tm_cho hx hK (by decide) (by decide) (by decide)
  have T1 : i ≠ 0 → ∀ x, TMd k L (gI (R 158)) (gI (R 160)) Ht t m x → gI (R 158) m = 2 ∧ x < 1000 ∧ ∃ f n j w, gI (L (k + 4)) t = nI f ∧ f < 1000 ∧ gI (L (k + 6)) t = nI n ∧ n ≤ 6 ∧ j < n ∧ isN w ∧ gI (L (k + 10)) (f + j) = nI (cN w) ∧ gI (R 160) m = nI (cN w) ∧ gI (L (k + 12)) (f + j) = nI x := fun i0 x hx => by
    rw [if_neg i0] at hK
    exact tm_cho hx hK (by decide) (by decide) (by decide)
  have hk0 : gI (R 158) m = 2 := by
    obtain ⟨tt, y1, y2⟩ := ty_head s9 t1 t2 hΓ hq
    by_cases i0 : i = 0
    · exact (T0 i0 tt (y1 i0)).1
    · exact (T1 i0 tt (y2 i0)).1
  obtain ⟨w, w1, w2, w3⟩ := mcl_2 a10 hk0
  have hcw := cN_lt w1.1
  have bnd : ∀ f' : Nat, gI (L (k + 4)) t = nI f' → f' < 1000 → fs < 1000 → f' = fs := fun f' h1 h2 h3 => by
    rw [h4] at h1
    exact ((nI_eq (by omega) (by omega)).mp h1).symm
  have hmm1 : 0 < mm → fs < 1000 := fun h0 => by
    obtain ⟨e0, y1, y2⟩ := hall 0 h0
    have := (hbe e0 y1).2.2.1
    have hl := gI_lt (l := L (k + 10)) (i := fs + e0.2.1) (by rw [this]; exact nIm (by have := cN_lt (hbe e0 y1).2.1.1; omega))
    omega
  -- any successor is that of place j with name w
  have fin : ∀ x : Nat, (∃ f n j w, gI (L (k + 4)) t = nI f ∧ f < 1000 ∧ gI (L (k + 6)) t = nI n ∧ n ≤ 6 ∧ j < n ∧ isN w ∧ gI (L (k + 10)) (f + j) = nI (cN w) ∧ gI (R 160) m = nI (cN w) ∧ gI (L (k + 12)) (f + j) = nI x) → ∃ j, j < mm ∧ gI (L (k + 10)) (fs + j) = nI (cN w) ∧ gI (L (k + 12)) (fs + j) = nI x := by
    intro x hx
    obtain ⟨f', n, j, w', y1, y2, y3, y4, y5, y6, y7, y8, y9⟩ := hx
    have en : n = mm := by
      rw [h6] at y3
      exact ((nI_eq (by omega) (by omega)).mp y3).symm
    subst en
    have ef := bnd f' y1 y2 (hmm1 (by omega))
    subst ef
    rw [w2] at y8
    rw [← y8] at y7
    exact ⟨j, y5, y7, y9⟩
  have ex : ∃ j x, j < mm ∧ gI (L (k + 10)) (fs + j) = nI (cN w) ∧ gI (L (k + 12)) (fs + j) = nI x ∧ x < 1000 := by
    obtain ⟨tt, y1, y2⟩ := ty_head s9 t1 t2 hΓ hq
    by_cases i0 : i = 0
    · obtain ⟨j, j1, j2, j3⟩ := fin tt (T0 i0 tt (y1 i0)).2.2
      exact ⟨j, tt, j1, j2, j3, (T0 i0 tt (y1 i0)).2.1⟩
    · obtain ⟨j, j1, j2, j3⟩ := fin tt (T1 i0 tt (y2 i0)).2.2
      exact ⟨j, tt, j1, j2, j3, (T1 i0 tt (y2 i0)).2.1⟩
  obtain ⟨jm, xm, j1, j2, j3, j4⟩ := ex
  have hcho : (∀ j t', j < mm → gI (L (k + 12)) (fs + j) = nI t' → t' < 1000 → TRX k L B0 J0 t') ∧ (∀ i j, i < mm → j < mm → gI (L (k + 10)) (fs + i) = gI (L (k + 10)) (fs + j) → i = j) := by
    by_cases i0 : i = 0
    · rw [if_pos i0] at hK
      exact trx_cho (kd := 38) (t7 i t hΓ) hK1 hK5 hK (Or.inr rfl) h4 h6 (hmm1 (by omega)) hmm
    · rw [if_neg i0] at hK
      exact trx_cho (kd := 43) (t7 i t hΓ) hK1 hK5 hK (Or.inl rfl) h4 h6 (hmm1 (by omega)) hmm
  have nameq : ∀ ee ∈ bl, lN (rN ee.2.2.1) = lN (rN w) → ee.2.1 = jm := fun ee he hw => by
    obtain ⟨⟨y1, y2⟩, y3, y4, _⟩ := hbe ee he
    have : ee.2.2.1 = w := (rN_inj y3.1 w1.1 y3.2.2 w1.2.2).mp hw
    rw [this] at y4
    exact hcho.2 _ _ y1 j1 (y4.trans j2.symm)
  -- the class
  obtain ⟨ej, ej1, ej2⟩ := hall jm j1
  have ejn : nI (cN ej.2.2.1) = nI (cN w) := by
    have := (hbe ej ej1).2.2.1
    rw [ej2] at this
    exact this.symm.trans j2
  have ejw : ej.2.2.1 = w := (cN_inj (hbe ej ej1).2.1.1 w1.1 (hbe ej ej1).2.1.2.2 w1.2.2).mp ejn
  obtain ⟨jc, jc1, jc2, jc3⟩ := alt_ok6 (a := a) (I := I1) a3 hκ h53 (by omega) (gI (R 160) m) mm 0 (by omega) ⟨jm, by omega, j1, by have := (hbe ej ej1).2.2.2.2.1; rw [ej2] at this; rw [this, ejn, w2]⟩
  have ejc : jc = jm := by
    obtain ⟨ec, ec1, ec2⟩ := hall jc jc1
    have y := (hbe ec ec1).2.2.2.2.1
    rw [ec2, jc2, w2] at y
    have : ec.2.2.1 = w := (cN_inj (hbe ec ec1).2.1.1 w1.1 (hbe ec ec1).2.1.2.2 w1.2.2).mp y.symm
    rw [← ec2]
    exact nameq ec ec1 (by rw [this])
  subst ejc
  -- the reference
  obtain ⟨B', d1, d2, d3, _⟩ := lp_ok (B0 := B0) (J0 := J0) (Q := Qa) k2 (J := J) (fun v => by rw [s2.2.1 192 (by omega) (by omega)]) (lN (rN w)) (nI u) (nI (sg e.2.1.length i)) bl (B0 190 u) B1 LF (fun v => by rw [a9 _ _ (by omega), a9 _ _ (by omega), s2.1 189 (by omega) (by omega), s2.1 191 (by omega) (by omega)]; exact ⟨rfl, rfl⟩) hal (by unfold LF; omega)
  obtain ⟨er, er1, er2, er3⟩ := d3 ⟨ej, ej1, by rw [ejw]⟩
  have er4 := nameq er er1 er2
  obtain ⟨⟨y1, y2⟩, y3, y4, y5, y6, y7, y8⟩ := hbe er er1
  rw [er4] at y5 y6 y7 y4
  have hX : TRX k L B0 J0 er.2.2.2.1 := hcho.1 jc _ j1 y5 y2
  have uq : ∀ x : Nat, x < 1000 → (∃ f n j w, gI (L (k + 4)) t = nI f ∧ f < 1000 ∧ gI (L (k + 6)) t = nI n ∧ n ≤ 6 ∧ j < n ∧ isN w ∧ gI (L (k + 10)) (f + j) = nI (cN w) ∧ gI (R 160) m = nI (cN w) ∧ gI (L (k + 12)) (f + j) = nI x) → x = er.2.2.2.1 := by
    intro x hx hh
    obtain ⟨j, v1, v2, v3⟩ := fin x hh
    have : j = jc := hcho.2 _ _ v1 j1 (v2.trans j2.symm)
    subst this
    rw [y5] at v3
    exact ((nI_eq (by omega) (by omega)).mp v3).symm
  have hT' := ty_get s9 t1 t2 hΓ hq (fun i0 x hx => uq x (T0 i0 x hx).2.1 (T0 i0 x hx).2.2) (fun i0 x hx => uq x (T1 i0 x hx).2.1 (T1 i0 x hx).2.2) (gs_set hΓ (t' := er.2.2.2.1))
  obtain ⟨I', b1, b2, b3⟩ := rn_put a4 (a := 166) (by unfold rnA; omega) (j := p) (by omega) (gI (L (k + 57)) (a + jc))
  have fR : ∀ a', a' ≠ 152 → a' ≠ 156 → a' ≠ 166 → upL R1 166 ((R1 166).set p (gI (L (k + 57)) (a + jc))) a' = R a' := fun a' w1 w2 w3 => by rw [upL_n _ _ w3, a7 a' w1 w2]
  have e166 : upL R1 166 ((R1 166).set p (gI (L (k + 57)) (a + jc))) 166 = (R 166).set p (gI (L (k + 57)) (a + jc)) := by rw [upL_s, a7 166 (by omega) (by omega)]
  have fB : ∀ q i, q ≠ 221 → ¬ (q = 213 ∧ i = p) → B' q i = B q i := fun q i w1 w2 => by rw [d2 q i w2, a9 q i w1]
  have hsl : ((Γ p).set i (2, er.2.2.2.1)).length = (Γ p).length := List.length_set ..
  refine ⟨I', B', J, _, nm, sd, ?_, ?_, rcv_out S0 (rk_keep a3 (fun a w1 w2 => b3 a (by omega) (by omega))) b2 (by rw [b3 148 (by omega) (by omega)]; exact a8) (fun q i hq => fB q i (by omega) (by omega)) (fun a' w1 w2 w3 _ _ => fR a' w1 w2 w3) ⟨by rw [e166, List.length_set], by rw [fR _ (by omega) (by omega) (by omega)], by rw [fR _ (by omega) (by omega) (by omega)]⟩ ⟨fun j hj => by rw [e166, fR 172 (by omega) (by omega) (by omega)]; exact ⟨gI_sn hj _, rfl⟩, fun j _ => by rw [fR 176 (by omega) (by omega) (by omega)]⟩ ?_ hT' (fun _ _ _ => rfl) (chl_keep a5 (fun a _ _ => upL_n _ _ (by omega))) (qal_keep a6 (fun a _ _ => upL_n _ _ (by omega)) (fun a i _ _ => d2 _ _ (by omega)) (fun _ => rfl)) (by rw [e166, gI_se (by omega)]; exact y7) er3 y8 hm (by rw [hsl]; exact t5) (by rw [hsl]; exact t6) (trx_set hΓ hX t7) (slx_keep t8 k4 (by rw [hsl]; exact t6) (set_of hΓ) (fun i _ => by rw [fR 176 (by omega) (by omega) (by omega)]) (fun i _ => fB _ _ (by omega) (by omega)))⟩
  · unfold dsK
    rw [if_neg (by decide), if_neg (by decide), if_neg (by decide), if_neg (by decide), if_neg (by decide), if_pos rfl, a1, h47]
    unfold tmK mX0_alternative
    have e1 : LF = (LF - mm - 1) + mm + 1 := by unfold LF; omega
    have := jc3 (LF - mm - 1)
    rw [← e1] at this
    rw [if_neg (by decide), if_pos rfl, s3, rk_g a3 (by unfold rkA; omega) hκ, sb, h51]
    show ((mX0_alternative_12 k LF I1 (nI κ) (gI (R 160) m) (nI a) (nI 0)).bind _).bind _ = _
    rw [this, sb, b1, sb, sb]
  · unfold goK
    rw [if_neg (by decide), if_neg (by decide), if_neg (by decide), if_neg (by decide), if_neg (by decide), if_neg (by decide), if_neg (by decide), if_pos rfl, hrd, sb, a2, sb]
    show (if inb (nI m) 700 then mX12_goesOn_330 LF B1 J (nI p) (nI u) (nI (sg e.2.1.length i)) (J 226 (nI m).toNatClampNeg) (B1 190 u) else none) = _
    rw [if_pos (in700 (by omega)), cl700 (by omega), w3, a9 190 _ (by omega), s2.1 190 (by omega) (by omega)]
    exact d1
  · rw [fR 172 (by omega) (by omega) (by omega), fB _ _ (by omega) (by omega)]
    exact g7 t2
end
