/-! TALKS GO ON (pure): a CHANNEL is sent; two become one -/
section
variable {k : Nat} {L : lT} {np nm : Nat} {al : Nat → Prop} {Γ : Nat → Gm} {ch : Nat → Nat → Nat} {rl : Nat → Nat} {ow : Nat → Nat × Nat × Nat} {Gt Ht : Nat → Nat} {q : Nat → List Nat} {mr rk : Nat → Nat} {kd va : Nat → Int32}
theorem rwX_eq (p i : Nat) : rwX rl ch p i = 2 * chX rl ch p i + (if i = 0 then 0 else 1) := by
  unfold rwX chX
  by_cases z : i = 0
  · rw [if_pos z, if_pos z, if_pos z]; rfl
  · rw [if_neg z, if_neg z, if_neg z]
/-- a T goes on behind a new MESSAGE: both ends -/
theorem ty_pthS (H : TYI k L np nm al Γ ch rl ow Gt Ht q mr rk kd va) {p i t t' : Nat} (hp : p < np) (hal : al p) (hΓ : (Γ p)[i]? = some (2, t)) {kn vn : Int32} (h0 : i = 0 → isD (gI (L (k + 2)) t) ∧ TMd k L (a_u1 kd nm kn) (a_u1 va nm vn) (if i = 0 then Ht else a_u1 Ht (ch p i) t') t nm t') (h1 : i ≠ 0 → isU (gI (L (k + 2)) t) ∧ TMu k L (a_u1 kd nm kn) (a_u1 va nm vn) (if i = 0 then Ht else a_u1 Ht (ch p i) t') t nm t') {ow' : Nat → Nat × Nat × Nat} (how : ∀ c, c < np → rl c = c → (ow' c).1 ≠ 0 → (ow c).1 ≠ 0) :
    ∀ c, c < np → rl c = c → ∃ T, pth (TMu k L (a_u1 kd nm kn) (a_u1 va nm vn) (if i = 0 then Ht else a_u1 Ht (ch p i) t')) ((if i = 0 then a_u1 Gt (rl p) t' else Gt) c) ((a_u1 q (rwX rl ch p i) (q (rwX rl ch p i) ++ [nm])) (2 * c + 1)) T ∧ ((ow' c).1 ≠ 0 → pth (TMd k L (a_u1 kd nm kn) (a_u1 va nm vn) (if i = 0 then Ht else a_u1 Ht (ch p i) t')) ((if i = 0 then Ht else a_u1 Ht (ch p i) t') c) ((a_u1 q (rwX rl ch p i) (q (rwX rl ch p i) ++ [nm])) (2 * c)) T) := by
  intro c hc hr
  obtain ⟨c1, c2, c3, c4⟩ := ty_ch H hp hal hΓ
  have H0 := H
  obtain ⟨y1, y2, y3, y4, y5, y6, y7, y8⟩ := H
  have eR := rwX_eq (rl := rl) (ch := ch) p i
  have live : ∀ s m, s < 2 → m ∈ q (2 * c + s) → a_u1 kd nm kn m = kd m ∧ a_u1 va nm vn m = va m := by
    intro s m h3 h4
    have h6 := ((y6 c hc hr s h3).2 m h4).1
    exact ⟨a_u1_n _ _ (by omega), a_u1_n _ _ (by omega)⟩
  have hHt : ∀ s m v, s < 2 → m ∈ q (2 * c + s) → kd m = 1 → v < 80 → va m = nI v → (if i = 0 then Ht else a_u1 Ht (ch p i) t') v = Ht v := by
    intro s m v h3 h4 h5 h6 h7
    by_cases z : i = 0
    · rw [if_pos z]
    · rw [if_neg z]
      obtain ⟨_, _, w4⟩ := ty_msg H0 hc hr h3 h4 h5 h6 h7
      refine a_u1_n _ _ (fun e => ?_)
      have h8 := (c4 z).1
      unfold chX at h8
      rw [if_neg z, ← e, w4] at h8
      cases h8
  have tU : ∀ t0 T, pth (TMu k L kd va Ht) t0 (q (2 * c + 1)) T → pth (TMu k L (a_u1 kd nm kn) (a_u1 va nm vn) (if i = 0 then Ht else a_u1 Ht (ch p i) t')) t0 (q (2 * c + 1)) T := fun t0 T h => pth_to _ _ _ (fun a m b hm w => tm_to w (live 1 m (by omega) hm).1 (live 1 m (by omega) hm).2 (fun w1 v w2 w3 => hHt 1 m v (by omega) hm w1 w2 w3)) h
  have tD : ∀ t0 T, pth (TMd k L kd va Ht) t0 (q (2 * c)) T → pth (TMd k L (a_u1 kd nm kn) (a_u1 va nm vn) (if i = 0 then Ht else a_u1 Ht (ch p i) t')) t0 (q (2 * c)) T := fun t0 T h => pth_to _ _ _ (fun a m b hm w => tm_to w (live 0 m (by omega) hm).1 (live 0 m (by omega) hm).2 (fun w1 v w2 w3 => hHt 0 m v (by omega) hm w1 w2 w3)) h
  obtain ⟨T, u1, u2⟩ := y5 c hc hr
  by_cases e : c = chX rl ch p i
  · by_cases z : i = 0
    · obtain ⟨hK, hT⟩ := h0 z
      rw [if_pos z, Nat.add_zero, ← e] at eR
      have eC : c = rl p := by rw [e]; unfold chX; rw [if_pos z]
      rw [show Gt c = t by rw [e]; exact c3 z] at u1
      obtain ⟨v1, v2⟩ := pth_u0 u1 hK
      subst v2
      have f1 : (a_u1 q (rwX rl ch p i) (q (rwX rl ch p i) ++ [nm])) (2 * c + 1) = [] := (a_u1_n _ _ (by omega)).trans v1
      have f2 : (a_u1 q (rwX rl ch p i) (q (rwX rl ch p i) ++ [nm])) (2 * c) = q (2 * c) ++ [nm] := by rw [eR, a_u1_s]
      rw [f1, f2]
      refine ⟨t', ?_, fun ho => ?_⟩
      · show (if i = 0 then a_u1 Gt (rl p) t' else Gt) c = t'
        rw [if_pos z, eC, a_u1_s]
      · rw [pth_app]
        have h2 := tD _ _ (u2 (how c hc hr ho))
        rw [show (if i = 0 then Ht else a_u1 Ht (ch p i) t') c = Ht c by rw [if_pos z]]
        exact ⟨_, h2, t', hT, rfl⟩
    · obtain ⟨hK, hT⟩ := h1 z
      rw [if_neg z, ← e] at eR
      have eC : c = ch p i := by rw [e]; unfold chX; rw [if_neg z]
      obtain ⟨o1, o2⟩ := c4 z
      rw [← e] at o1 o2
      have hd := u2 (by rw [o1]; exact Nat.one_ne_zero)
      rw [o2] at hd
      obtain ⟨v1, v2⟩ := pth_d0 hd hK
      subst v2
      have f1 : (a_u1 q (rwX rl ch p i) (q (rwX rl ch p i) ++ [nm])) (2 * c) = [] := (a_u1_n _ _ (by omega)).trans v1
      have f2 : (a_u1 q (rwX rl ch p i) (q (rwX rl ch p i) ++ [nm])) (2 * c + 1) = q (2 * c + 1) ++ [nm] := by rw [eR, a_u1_s]
      rw [f1, f2]
      refine ⟨t', ?_, fun ho => ?_⟩
      · rw [pth_app]
        have h2 := tU _ _ u1
        rw [show (if i = 0 then a_u1 Gt (rl p) t' else Gt) c = Gt c by rw [if_neg z]]
        exact ⟨_, h2, t', hT, rfl⟩
      · show (if i = 0 then Ht else a_u1 Ht (ch p i) t') c = t'
        rw [if_neg z, eC, a_u1_s]
  · have e1 : 2 * c + 1 ≠ rwX rl ch p i := by rw [eR]; split <;> omega
    have e2 : 2 * c ≠ rwX rl ch p i := by rw [eR]; split <;> omega
    have f1 : (a_u1 q (rwX rl ch p i) (q (rwX rl ch p i) ++ [nm])) (2 * c + 1) = q (2 * c + 1) := a_u1_n _ _ e1
    have f2 : (a_u1 q (rwX rl ch p i) (q (rwX rl ch p i) ++ [nm])) (2 * c) = q (2 * c) := a_u1_n _ _ e2
    rw [f1, f2]
    refine ⟨T, ?_, fun ho => ?_⟩
    · have w : (if i = 0 then a_u1 Gt (rl p) t' else Gt) c = Gt c := by
        by_cases z : i = 0
        · rw [if_pos z]
          exact a_u1_n _ _ (fun w => e (by unfold chX; rw [if_pos z]; exact w))
        · rw [if_neg z]
      rw [w]
      exact tU _ _ u1
    · have w : (if i = 0 then Ht else a_u1 Ht (ch p i) t') c = Ht c := by
        by_cases z : i = 0
        · rw [if_pos z]
        · rw [if_neg z]
          exact a_u1_n _ _ (fun w => e (by unfold chX; rw [if_neg z]; exact w))
      rw [show (if i = 0 then Ht else a_u1 Ht (ch p i) t') c = Ht c from w]
      exact tD _ _ (u2 (how c hc hr ho))
theorem ty_send (H : TYI k L np nm al Γ ch rl ow Gt Ht q mr rk kd va) {p i j t t1 t' : Nat} (hp : p < np) (hal : al p) (hΓ : (Γ p)[i]? = some (2, t)) (hj : 1 ≤ j) (hji : j ≠ i) (hΓj : (Γ p)[j]? = some (2, t1)) (ht1 : t1 < 1000) (ht' : t' < 1000) (hF : gI (L (k + 4)) t = nI t1) (hS : gI (L (k + 6)) t = nI t') (hK : gI (L (k + 2)) t = (if i = 0 then 62 else 60)) {G' : Gm} (g1 : ∀ j' tt, 1 ≤ j' → G'[j']? = some (2, tt) → j' ≠ j ∧ ((j' = i ∧ tt = t') ∨ (j' ≠ i ∧ (Γ p)[j']? = some (2, tt)))) (g2 : i = 0 → G'[0]? = some (2, t')) (g3 : i ≠ 0 → G'[0]? = (Γ p)[0]?) :
    ∃ rk', TYI k L np (nm + 1) al (a_u1 Γ p G') ch rl (a_u1 ow (ch p j) (2, nm, 0)) (if i = 0 then a_u1 Gt (rl p) t' else Gt) (if i = 0 then Ht else a_u1 Ht (ch p i) t') (a_u1 q (rwX rl ch p i) (q (rwX rl ch p i) ++ [nm])) (a_u1 mr nm (rwX rl ch p i)) rk' (a_u1 kd nm 1) (a_u1 va nm (nI (ch p j))) := by
  obtain ⟨c1, c2, c3, c4⟩ := ty_ch H hp hal hΓ
  have H0 := H
  obtain ⟨y1, y2, y3, y4, y5, y6, y7, y8⟩ := H
  obtain ⟨e1, e2, e3, e4⟩ := y4 p hp hal j t1 hj hΓj
  have eR := rwX_eq (rl := rl) (ch := ch) p i
  have hei : i ≠ 0 → ch p j ≠ ch p i := by
    intro z e
    have h8 := (c4 z).1
    unfold chX at h8
    rw [if_neg z, ← e, e3] at h8
    exact hji (Prod.mk.inj (Prod.mk.inj h8).2).2
  have hHe : (if i = 0 then Ht else a_u1 Ht (ch p i) t') (ch p j) = t1 := by
    by_cases z : i = 0
    · rw [if_pos z]; exact e4
    · rw [if_neg z, a_u1_n _ _ (hei z)]; exact e4
  have how : ∀ c, c < np → rl c = c → ((a_u1 ow (ch p j) (2, nm, 0)) c).1 ≠ 0 → (ow c).1 ≠ 0 := by
    intro c _ _ h
    by_cases e : c = ch p j
    · subst e
      rw [e3]
      exact Nat.one_ne_zero
    · rw [a_u1_n _ _ e] at h
      exact h
  have hpt := ty_pthS (kn := 1) (vn := nI (ch p j)) (t' := t') H0 hp hal hΓ (fun z => by
    rw [if_pos z] at hK
    exact ⟨Or.inr (Or.inl hK), Or.inr (Or.inl ⟨a_u1_s _ _ _, hK, hS, ht', ch p j, a_u1_s _ _ _, by omega, by rw [hHe]; exact hF, by rw [hHe]; exact ht1⟩)⟩) (fun z => by
    rw [if_neg z] at hK
    exact ⟨Or.inr (Or.inl hK), Or.inr (Or.inl ⟨a_u1_s _ _ _, hK, hS, ht', ch p j, a_u1_s _ _ _, by omega, by rw [hHe]; exact hF, by rw [hHe]; exact ht1⟩)⟩) how
  have hgv := ty_giv (i := i) H0 hp hal g2 g3
  have hsl : ∀ p' i' x, (p' ≠ p ∨ i' ≠ j) → ow x = (1, p', i') → x ≠ ch p j := by
    intro p' i' x h hx e
    rw [e, e3] at hx
    have := (Prod.mk.inj hx).2
    have w1 := (Prod.mk.inj this).1
    have w2 := (Prod.mk.inj this).2
    omega
  have nlt : ∀ m, m ∈ q (rwX rl ch p i) → m < nm := by
    intro m hm
    rw [eR] at hm
    by_cases z : i = 0
    · rw [if_pos z] at hm
      exact ((y6 _ c1 c2 0 (by omega)).2 m hm).1
    · rw [if_neg z] at hm
      exact ((y6 _ c1 c2 1 (by omega)).2 m hm).1
  -- ranks
  have hrk : ∃ rk' : Nat → Nat, (∀ c, c < np → rl c = c → (ow c).1 ≠ 0 → c ≠ ch p j → rk' (paO rl mr (ow c)) < rk' c) ∧ rk' (chX rl ch p i) < rk' (ch p j) := by
    by_cases z : i = 0
    · refine ⟨rk, fun c h1 h2 h3 _ => (y7 c h1 h2 h3).2.2.2.2, ?_⟩
      have := (y7 _ e1 e2 (by rw [e3]; exact Nat.one_ne_zero)).2.2.2.2
      rw [e3] at this
      unfold chX
      rw [if_pos z]
      exact this
    · obtain ⟨h8, _⟩ := c4 z
      have hc : chX rl ch p i = ch p i := by unfold chX; rw [if_neg z]
      rw [hc] at c1 c2 h8 ⊢
      obtain ⟨rk', r1, r2⟩ := rerank (ok := fun x => x < np ∧ rl x = x ∧ (ow x).1 ≠ 0) (pa := fun x => paO rl mr (ow x)) (rk := rk) (fun x hx => (y7 x hx.1 hx.2.1 hx.2.2).2.2.2.2) (d := ch p i) (e := ch p j) (a := rl p) ⟨c1, c2, by rw [h8]; exact Nat.one_ne_zero⟩ ⟨e1, e2, by rw [e3]; exact Nat.one_ne_zero⟩ (fun w => hei z w.symm) (by show paO rl mr (ow (ch p i)) = _; rw [h8]; rfl) (by show paO rl mr (ow (ch p j)) = _; rw [e3]; rfl)
      exact ⟨rk', fun c h1 h2 h3 h4 => r1 c ⟨h1, h2, h3⟩ h4, r2⟩
  obtain ⟨rk', r1, r2⟩ := hrk
  refine ⟨rk', y1, hgv, y3, fun p' hp' ha i' tt hi' hg => ?_, hpt, fun c hc hr s hs => ?_, fun c hc hr ho => ?_, y8⟩
  · have fin : (p' ≠ p ∨ i' ≠ j) → (p' ≠ p ∨ i' ≠ i) → (Γ p')[i']? = some (2, tt) → ch p' i' < np ∧ rl (ch p' i') = ch p' i' ∧ (a_u1 ow (ch p j) (2, nm, 0)) (ch p' i') = (1, p', i') ∧ (if i = 0 then Ht else a_u1 Ht (ch p i) t') (ch p' i') = tt := by
      intro hne2 hne hg
      have := ty_plc (t' := t') H0 hp hal hΓ hp' ha hi' hne hg
      exact ⟨this.1, this.2.1, by rw [a_u1_n _ _ (hsl p' i' _ hne2 this.2.2.1)]; exact this.2.2.1, this.2.2.2⟩
    by_cases e : p' = p
    · subst e
      rw [a_u1_s] at hg
      rcases g1 i' tt hi' hg with ⟨w0, ⟨w1, w2⟩ | ⟨w1, w2⟩⟩
      · subst w1 w2
        have z : i' ≠ 0 := by omega
        have h8 := (c4 z).1
        unfold chX at h8 c1 c2
        rw [if_neg z] at h8 c1 c2
        exact ⟨c1, c2, by rw [a_u1_n _ _ (hsl p' i' _ (Or.inr w0) h8)]; exact h8, by rw [if_neg z, a_u1_s]⟩
      · exact fin (Or.inr w0) (Or.inr w1) w2
    · rw [a_u1_n _ _ e] at hg
      exact fin (Or.inl e) (Or.inl e) hg
  · obtain ⟨w1, w2⟩ := y6 c hc hr s hs
    have old : ∀ m, m ∈ q (2 * c + s) → m < nm + 1 ∧ a_u1 mr nm (rwX rl ch p i) m = 2 * c + s ∧ (a_u1 kd nm 1 m = 1 → ∃ v, a_u1 va nm (nI (ch p j)) m = nI v ∧ v < np ∧ rl v = v ∧ (a_u1 ow (ch p j) (2, nm, 0)) v = (2, m, 0)) := by
      intro m hm
      obtain ⟨x1, x2, x3⟩ := w2 m hm
      refine ⟨by omega, by rw [a_u1_n _ _ (by omega)]; exact x2, fun h => ?_⟩
      rw [a_u1_n _ _ (by omega)] at h
      obtain ⟨v, z1, z2, z3, z4⟩ := x3 h
      exact ⟨v, by rw [a_u1_n _ _ (by omega)]; exact z1, z2, z3, by rw [a_u1_n _ _ (fun e => by rw [e, e3] at z4; cases z4)]; exact z4⟩
    by_cases e : 2 * c + s = rwX rl ch p i
    · rw [e, a_u1_s]
      rw [e] at w1 old
      refine ⟨nd_snoc _ _ w1 (fun z => by have := nlt nm z; omega), fun m hm => ?_⟩
      rcases List.mem_append.mp hm with z | z
      · exact old m z
      · have : m = nm := by simpa using z
        subst this
        exact ⟨by omega, a_u1_s _ _ _, fun _ => ⟨ch p j, a_u1_s _ _ _, e1, e2, a_u1_s _ _ _⟩⟩
    · rw [a_u1_n _ _ e]
      exact ⟨w1, old⟩
  · by_cases e : c = ch p j
    · subst e
      rw [a_u1_s]
      have hpa : paO rl (a_u1 mr nm (rwX rl ch p i)) (2, nm, 0) = chX rl ch p i := by
        unfold paO
        rw [if_neg (show ¬ (2 : Nat) = 1 by decide)]
        show (a_u1 mr nm (rwX rl ch p i)) nm / 2 = _
        rw [a_u1_s, eR]
        split <;> omega
      rw [hpa]
      exact ⟨fun _ => Nat.lt_succ_self nm, fun z => absurd z (show ¬ (2 : Nat) = 1 by decide), c1, c2, r2⟩
    · rw [a_u1_n _ _ e] at ho ⊢
      obtain ⟨x0, x00, x1, x2, x3⟩ := y7 c hc hr ho
      have ep : paO rl (a_u1 mr nm (rwX rl ch p i)) (ow c) = paO rl mr (ow c) := by
        unfold paO
        by_cases z : (ow c).1 = 1
        · rw [if_pos z, if_pos z]
        · rw [if_neg z, if_neg z, a_u1_n _ _ (by have := x0 z; omega)]
      rw [ep]
      exact ⟨fun z => by have := x0 z; omega, x00, x1, x2, r1 c hc hr ho e⟩
end
