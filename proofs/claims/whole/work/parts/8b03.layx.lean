/-! IN A RUN: a MESSAGE is laid, taken, in both (pure) -/
section
variable {k np nm : Nat} {L R : lT} {I B : iT} {J : jT} {al : Nat → Prop} {Γ : Nat → Gm} {ch : Nat → Nat → Nat} {rl : Nat → Nat} {ow : Nat → Nat × Nat × Nat} {Gt Ht : Nat → Nat} {q : Nat → List Nat} {mr rk : Nat → Nat}
/-- rows by rows: their MESSAGES -/
theorem ty_q (H : TYI k L np nm al Γ ch rl ow Gt Ht q mr rk (gI (R 158)) (gI (R 160))) {c s : Nat} (hc : c < np) (hr : rl c = c) (hs : s < 2) : (q (2 * c + s)).Nodup ∧ ∀ m, m ∈ q (2 * c + s) → m < nm ∧ mr m = 2 * c + s := by
  obtain ⟨a, b⟩ := H.2.2.2.2.2.1 c hc hr s hs
  exact ⟨a, fun m hm => ⟨(b m hm).1, (b m hm).2.1⟩⟩
theorem ty_80 (H : TYI k L np nm al Γ ch rl ow Gt Ht q mr rk (gI (R 158)) (gI (R 160))) : np ≤ 80 := H.2.2.2.2.2.2.2
theorem layx (hT : TYI k L np nm al Γ ch rl ow Gt Ht q mr rk (gI (R 158)) (gI (R 160))) (hN : RN I R) (hCL : CHL np nm R) (hQ : QAL np rl q R B J) (h64 : B 186 64 = nI nm) (hnm : nm < 600) {p i t : Nat} (hp : p < np) (hal : al p) (hΓ : (Γ p)[i]? = some (2, t)) (kn vn x3 : Int32) (w : Int64) (hm : (kn = 0 ∧ vn = x3 ∧ w = 0) ∨ (kn = 1 ∧ w = 0 ∧ ∃ v y, vn = nI v ∧ x3 = nI y ∧ v < np ∧ y < np ∧ rl y = v) ∨ (kn = 2 ∧ x3 = 0 ∧ ∃ w', isN w' ∧ vn = nI (cN w') ∧ w = lN (rN w')) ∨ (kn = 3 ∧ vn = 0 ∧ x3 = 0 ∧ w = 0)) :
    ∃ I' R' B' J', mX1_lay I (nI (chX rl ch p i)) (nI (if i = 0 then 0 else 1)) kn vn = some I' ∧ mX12_lay B J (nI (rwX rl ch p i)) kn x3 w = some (B', J') ∧ RN I' R' ∧ CHL np (nm + 1) R' ∧ QAL np rl (a_u1 q (rwX rl ch p i) (q (rwX rl ch p i) ++ [nm])) R' B' J' ∧ gI (R' 158) = a_u1 (gI (R 158)) nm kn ∧ gI (R' 160) = a_u1 (gI (R 160)) nm vn ∧ (∀ a, ¬ (152 ≤ a ∧ a ≤ 162) → R' a = R a) ∧ (∀ q, ¬ (152 ≤ q ∧ q ≤ 163) → I' q = I q) ∧ B' 186 64 = nI (nm + 1) ∧ (∀ q i, ¬ (q = 186 ∧ i = 64) → ¬ (221 ≤ q ∧ q ≤ 225) → B' q i = B q i) ∧ (∀ q i, q ≠ 226 → J' q i = J q i) := by
  obtain ⟨c1, c2, _⟩ := ty_ch hT hp hal hΓ
  have h80 := ty_80 hT
  have hs : (if i = 0 then 0 else 1) < 2 := by split <;> omega
  have er := rwX_eq (rl := rl) (ch := ch) p i
  obtain ⟨hnd, hlt⟩ := ty_q hT c1 c2 hs
  obtain ⟨hQ1, hQ2, hQ3⟩ := hQ _ c1 c2 _ hs
  obtain ⟨I', R', a1, a2, a3, a4⟩ := lay_c hN hCL hs c1 hnm hQ1 (fun m hm => (hlt m hm).1) hnd kn vn
  obtain ⟨B', J', b1, b2, b3, b4, b5, b6, b7, b8, b9⟩ := lay_r (J := J) h64 (by omega) (r := 2 * chX rl ch p i + (if i = 0 then 0 else 1)) (by omega) hQ2 (fun m hm => (hlt m hm).1) hnd kn x3 w
  obtain ⟨d1, d2, d3, d4, d5, d6, d7, d8, d9⟩ := a3
  obtain ⟨l1, l2, l3, l4, l5, l6, l7, l8⟩ := hCL
  rw [er]
  have g158 : gI (R' 158) = a_u1 (gI (R 158)) nm kn := by rw [d3, gI_snoc, l6]
  have g160 : gI (R' 160) = a_u1 (gI (R 160)) nm vn := by rw [d4, gI_snoc, l7]
  refine ⟨I', R', B', J', a1, b1, a2, ⟨l1, by omega, by rw [d5]; exact l3, by rw [d6]; exact l4, by rw [d7]; exact l5, by rw [d3, List.length_append, l6]; rfl, by rw [d4, List.length_append, l7]; rfl, by rw [d8, l8]⟩, fun c hc hr s hs' => ?_, g158, g160, fun a ha => d9 a (by omega) (by omega) (by omega) (by omega) (by omega) (by omega), a4, b4, fun q i z1 z2 => b8 q i z1 (by omega) (by omega) (by omega), fun q i z => b9 q i (by omega)⟩
  have old : ∀ m, m < nm → MCL np rl R B J m → MCL np rl R' B' J' m := fun m hm hM => mcl_keep hM (by rw [g158, a_u1_n _ _ (by omega)]) (by rw [g160, a_u1_n _ _ (by omega)]) (b8 _ _ (by omega) (by omega) (by omega) (by omega)) (b8 _ _ (by omega) (by omega) (by omega) (by omega)) (b9 _ _ (by omega))
  by_cases e : 2 * c + s = 2 * chX rl ch p i + (if i = 0 then 0 else 1)
  · rw [e, a_u1_s]
    refine ⟨d1, b2, fun m hm' => ?_⟩
    rcases List.mem_append.mp hm' with z | z
    · exact old m (hlt m z).1 (hQ3 m z)
    · have : m = nm := by simpa using z
      subst this
      unfold MCL
      rw [g158, g160, a_u1_s, a_u1_s, b5, b6, b7]
      refine ⟨rfl, ?_⟩
      rcases hm with ⟨e1, e2, e3⟩ | ⟨e1, e2, v, y, e3, e4, e5, e6, e7⟩ | ⟨e1, e2, w', e3, e4, e5⟩ | ⟨e1, e2, e3, e4⟩
      · exact Or.inl ⟨e1, e2, e3⟩
      · exact Or.inr (Or.inl ⟨e1, e2, v, y, e3, e4, e5, e6, e7⟩)
      · exact Or.inr (Or.inr (Or.inl ⟨e1, e2, w', e3, e4, e5⟩))
      · exact Or.inr (Or.inr (Or.inr ⟨e1, e2, e3, e4⟩))
  · rw [a_u1_n _ _ e]
    obtain ⟨f1, f2, f3⟩ := hQ c hc hr s hs'
    obtain ⟨_, hlt'⟩ := ty_q hT hc hr hs'
    have dj : ∀ m ∈ q (2 * c + s), m < nm ∧ ∀ a z, q (2 * chX rl ch p i + (if i = 0 then 0 else 1)) = a ++ [z] → m ≠ z := by
      intro m hm'
      refine ⟨(hlt' m hm').1, fun a z hz hmz => e ?_⟩
      rw [← (hlt' m hm').2, hmz]
      exact (hlt z (by rw [hz]; simp)).2
    exact ⟨d2 _ _ e f1 dj, b3 _ _ e f2 dj, fun m hm' => old m (hlt' m hm').1 (f3 m hm')⟩
theorem takx (hT : TYI k L np nm al Γ ch rl ow Gt Ht q mr rk (gI (R 158)) (gI (R 160))) (hN : RN I R) (hCL : CHL np nm R) (hQ : QAL np rl q R B J) {p i t m : Nat} {l : List Nat} (hp : p < np) (hal : al p) (hΓ : (Γ p)[i]? = some (2, t)) (hq : q (rdX rl ch p i) = m :: l) :
    ∃ I' R' B', mX1_takeFirst I (nI (chX rl ch p i)) (nI (if i = 0 then 1 else 0)) = some (gI (R 160) m, I') ∧ mX12_take B (nI (rdX rl ch p i)) = some (nI m, B') ∧ RN I' R' ∧ CHL np nm R' ∧ QAL np rl (a_u1 q (rdX rl ch p i) l) R' B' J ∧ (∀ a, a ≠ 152 → a ≠ 156 → R' a = R a) ∧ (∀ q, ¬ (152 ≤ q ∧ q ≤ 157) → I' q = I q) ∧ (∀ q i, q ≠ 221 → B' q i = B q i) ∧ MCL np rl R B J m ∧ m < nm := by
  obtain ⟨c1, c2, _⟩ := ty_ch hT hp hal hΓ
  have h80 := ty_80 hT
  have hs : (if i = 0 then 1 else 0) < 2 := by split <;> omega
  have er := rdX_eq (rl := rl) (ch := ch) p i
  obtain ⟨hnd, hlt⟩ := ty_q hT c1 c2 hs
  obtain ⟨hQ1, hQ2, hQ3⟩ := hQ _ c1 c2 _ hs
  rw [er] at hq
  rw [hq] at hQ1 hQ2 hQ3 hlt
  have hCL0 := hCL
  obtain ⟨I', R', a1, a2, a3, a4, a5, a6, a7, a8⟩ := take_c hN hCL hs c1 hQ1
  obtain ⟨B', b1, b2, b3, b4⟩ := take_r (r := 2 * chX rl ch p i + (if i = 0 then 1 else 0)) (by omega) hQ2
  obtain ⟨l1, l2, l3, l4, l5, l6, l7, l8⟩ := hCL0
  rw [er]
  have old : ∀ m, MCL np rl R B J m → MCL np rl R' B' J m := fun m hM => mcl_keep hM (by rw [a5 _ (by omega) (by omega)]) (by rw [a5 _ (by omega) (by omega)]) (b4 _ _ (by omega)) (b4 _ _ (by omega)) rfl
  refine ⟨I', R', B', a1, b1, a2, ⟨l1, l2, by rw [a6]; exact l3, by rw [a5 _ (by omega) (by omega)]; exact l4, by rw [a7]; exact l5, by rw [a5 _ (by omega) (by omega)]; exact l6, by rw [a5 _ (by omega) (by omega)]; exact l7, by rw [a5 _ (by omega) (by omega)]; exact l8⟩, fun c hc hr s hs' => ?_, a5, a8, fun q i z => b4 q i (by omega), hQ3 m (List.mem_cons_self ..), (hlt m (List.mem_cons_self ..)).1⟩
  by_cases e : 2 * c + s = 2 * chX rl ch p i + (if i = 0 then 1 else 0)
  · rw [e, a_u1_s]
    exact ⟨a3, b2, fun m' hm' => old m' (hQ3 m' (List.mem_cons_of_mem _ hm'))⟩
  · rw [a_u1_n _ _ e]
    obtain ⟨f1, f2, f3⟩ := hQ c hc hr s hs'
    exact ⟨a4 _ _ e f1, b3 _ _ e f2, fun m' hm' => old m' (f3 m' hm')⟩
end
