/-! TALKS GO ON (pure): a MESSAGE is taken -/
section
variable {k : Nat} {L : lT} {np nm : Nat} {al : Nat → Prop} {Γ : Nat → Gm} {ch : Nat → Nat → Nat} {rl : Nat → Nat} {ow : Nat → Nat × Nat × Nat} {Gt Ht : Nat → Nat} {q : Nat → List Nat} {mr rk : Nat → Nat} {kd va : Nat → Int32}
/-- the CHANNEL in a MESSAGE is no slot's -/
theorem ty_msg (H : TYI k L np nm al Γ ch rl ow Gt Ht q mr rk kd va) {c s m v : Nat} (hc : c < np) (hr : rl c = c) (hs : s < 2) (hm : m ∈ q (2 * c + s)) (h1 : kd m = 1) (hv : v < 80) (hva : va m = nI v) : v < np ∧ rl v = v ∧ ow v = (2, m, 0) := by
  obtain ⟨y1, y2, y3, y4, y5, y6, y7, y8⟩ := H
  obtain ⟨v', w1, w2, w3, w4⟩ := ((y6 c hc hr s hs).2 m hm).2.2 h1
  have e : v' = v := (nI_eq (by omega) (by omega)).mp (w1.symm.trans hva)
  subst e
  exact ⟨w2, w3, w4⟩
theorem rdX_eq (p i : Nat) : rdX rl ch p i = 2 * chX rl ch p i + (if i = 0 then 1 else 0) := by
  unfold rdX chX
  by_cases z : i = 0
  · rw [if_pos z, if_pos z, if_pos z]
  · rw [if_neg z, if_neg z, if_neg z]; rfl
/-- a T goes on behind the first MESSAGE: both ends -/
theorem ty_pth (H : TYI k L np nm al Γ ch rl ow Gt Ht q mr rk kd va) {p i t t' m : Nat} {l : List Nat} (hp : p < np) (hal : al p) (hΓ : (Γ p)[i]? = some (2, t)) (hq : q (rdX rl ch p i) = m :: l) (hu0 : i = 0 → ∀ x, TMu k L kd va Ht t m x → x = t') (hu1 : i ≠ 0 → ∀ x, TMd k L kd va Ht t m x → x = t') {ow' : Nat → Nat × Nat × Nat} (how : ∀ c, c < np → rl c = c → (ow' c).1 ≠ 0 → (ow c).1 ≠ 0) :
    ∀ c, c < np → rl c = c → ∃ T, pth (TMu k L kd va (if i = 0 then Ht else a_u1 Ht (ch p i) t')) ((if i = 0 then a_u1 Gt (rl p) t' else Gt) c) ((a_u1 q (rdX rl ch p i) l) (2 * c + 1)) T ∧ ((ow' c).1 ≠ 0 → pth (TMd k L kd va (if i = 0 then Ht else a_u1 Ht (ch p i) t')) ((if i = 0 then Ht else a_u1 Ht (ch p i) t') c) ((a_u1 q (rdX rl ch p i) l) (2 * c)) T) := by
  intro c hc hr
  obtain ⟨c1, c2, c3, c4⟩ := ty_ch H hp hal hΓ
  have H0 := H
  obtain ⟨y1, y2, y3, y4, y5, y6, y7, y8⟩ := H
  have hHt : ∀ s m v, s < 2 → m ∈ q (2 * c + s) → kd m = 1 → v < 80 → va m = nI v → (if i = 0 then Ht else a_u1 Ht (ch p i) t') v = Ht v := by
    intro s m v h3 h4 h5 h6 h7
    by_cases z : i = 0
    · rw [if_pos z]
    · rw [if_neg z]
      obtain ⟨_, _, w4⟩ := ty_msg H0 hc hr h3 h4 h5 h6 h7
      refine a_u1_n _ _ (fun e => ?_)
      have h8 := (c4 z).1
      unfold chX at h8
      rw [if_neg z, ← e, w4] at h8
      cases h8
  have tU : ∀ t0 T l', (∀ x, x ∈ l' → x ∈ q (2 * c + 1)) → pth (TMu k L kd va Ht) t0 l' T → pth (TMu k L kd va (if i = 0 then Ht else a_u1 Ht (ch p i) t')) t0 l' T := fun t0 T l' hl h => pth_to _ _ _ (fun a m b hm w => tm_to w rfl rfl (fun w1 v w2 w3 => hHt 1 m v (by omega) (hl m hm) w1 w2 w3)) h
  have tD : ∀ t0 T l', (∀ x, x ∈ l' → x ∈ q (2 * c)) → pth (TMd k L kd va Ht) t0 l' T → pth (TMd k L kd va (if i = 0 then Ht else a_u1 Ht (ch p i) t')) t0 l' T := fun t0 T l' hl h => pth_to _ _ _ (fun a m b hm w => tm_to w rfl rfl (fun w1 v w2 w3 => hHt 0 m v (by omega) (hl m hm) w1 w2 w3)) h
  obtain ⟨T, u1, u2⟩ := y5 c hc hr
  have eR := rdX_eq (rl := rl) (ch := ch) p i
  by_cases e : c = chX rl ch p i
  · by_cases z : i = 0
    · rw [if_pos z] at eR
      have eC : c = rl p := by rw [e]; unfold chX; rw [if_pos z]
      have eq1 : q (2 * c + 1) = m :: l := by rw [e, ← eR]; exact hq
      rw [eq1, show Gt c = t by rw [e]; exact c3 z] at u1
      obtain ⟨x, h1, h2⟩ := u1
      have ex := hu0 z x h1
      subst ex
      have f1 : (a_u1 q (rdX rl ch p i) l) (2 * c + 1) = l := by rw [eR, ← e, a_u1_s]
      have f2 : (a_u1 q (rdX rl ch p i) l) (2 * c) = q (2 * c) := a_u1_n _ _ (by rw [eR, ← e]; omega)
      rw [f1, f2]
      refine ⟨T, ?_, fun ho => ?_⟩
      · have := tU _ _ l (fun y hy => by rw [eq1]; exact List.mem_cons_of_mem _ hy) h2
        rw [show (if i = 0 then a_u1 Gt (rl p) x else Gt) c = x by rw [if_pos z, eC, a_u1_s]]
        exact this
      · have := tD _ _ _ (fun _ hy => hy) (u2 (how c hc hr ho))
        rw [show (if i = 0 then Ht else a_u1 Ht (ch p i) x) c = Ht c by rw [if_pos z]]
        exact this
    · rw [if_neg z, Nat.add_zero] at eR
      have eC : c = ch p i := by rw [e]; unfold chX; rw [if_neg z]
      have eq1 : q (2 * c) = m :: l := by rw [e, ← eR]; exact hq
      have f1 : (a_u1 q (rdX rl ch p i) l) (2 * c) = l := by rw [eR, ← e, a_u1_s]
      have f2 : (a_u1 q (rdX rl ch p i) l) (2 * c + 1) = q (2 * c + 1) := a_u1_n _ _ (by rw [eR, ← e]; omega)
      rw [f1, f2]
      refine ⟨T, ?_, fun ho => ?_⟩
      · have := tU _ _ _ (fun _ hy => hy) u1
        rw [show (if i = 0 then a_u1 Gt (rl p) t' else Gt) c = Gt c by rw [if_neg z]]
        exact this
      · have hd := u2 (how c hc hr ho)
        rw [eq1, show Ht c = t by rw [e]; exact (c4 z).2] at hd
        obtain ⟨x, h1, h2⟩ := hd
        have ex := hu1 z x h1
        subst ex
        have := tD _ _ l (fun y hy => by rw [eq1]; exact List.mem_cons_of_mem _ hy) h2
        rw [show (if i = 0 then Ht else a_u1 Ht (ch p i) x) c = x by rw [if_neg z, eC, a_u1_s]]
        exact this
  · have f1 : (a_u1 q (rdX rl ch p i) l) (2 * c) = q (2 * c) := a_u1_n _ _ (by rw [eR]; split <;> omega)
    have f2 : (a_u1 q (rdX rl ch p i) l) (2 * c + 1) = q (2 * c + 1) := a_u1_n _ _ (by rw [eR]; split <;> omega)
    rw [f1, f2]
    refine ⟨T, ?_, fun ho => ?_⟩
    · have w : (if i = 0 then a_u1 Gt (rl p) t' else Gt) c = Gt c := by
        by_cases z : i = 0
        · rw [if_pos z]
          exact a_u1_n _ _ (fun w => e (by unfold chX; rw [if_pos z]; exact w))
        · rw [if_neg z]
      rw [w]
      exact tU _ _ _ (fun _ hy => hy) u1
    · have w : (if i = 0 then Ht else a_u1 Ht (ch p i) t') c = Ht c := by
        by_cases z : i = 0
        · rw [if_pos z]
        · rw [if_neg z]
          exact a_u1_n _ _ (fun w => e (by unfold chX; rw [if_neg z]; exact w))
      rw [show (if i = 0 then Ht else a_u1 Ht (ch p i) t') c = Ht c from w]
      exact tD _ _ _ (fun _ hy => hy) (u2 (how c hc hr ho))
/-- the rows behind it -/
theorem ty_row {m : Nat} {l : List Nat} {r : Nat} (hq : q r = m :: l) {P : Nat → Prop} (r' : Nat) (h : (q r').Nodup ∧ ∀ x, x ∈ q r' → P x) : ((a_u1 q r l) r').Nodup ∧ (∀ x, x ∈ (a_u1 q r l) r' → P x) ∧ (r' = r → ¬ m ∈ (a_u1 q r l) r') ∧ ∀ x, x ∈ (a_u1 q r l) r' → x ∈ q r' := by
  by_cases e : r' = r
  · subst e
    rw [hq, List.nodup_cons] at h
    rw [a_u1_s]
    exact ⟨h.1.2, fun x hx => h.2 x (List.mem_cons_of_mem _ hx), fun _ => h.1.1, fun x hx => by rw [hq]; exact List.mem_cons_of_mem _ hx⟩
  · rw [a_u1_n _ _ e]
    exact ⟨h.1, h.2, fun w => absurd w e, fun _ hx => hx⟩
/-- the places of all others, one T having changed -/
theorem ty_plc (H : TYI k L np nm al Γ ch rl ow Gt Ht q mr rk kd va) {p i t t' : Nat} (hp : p < np) (hal : al p) (hΓ : (Γ p)[i]? = some (2, t)) {p' i' tt : Nat} (hp' : p' < np) (ha : al p') (hi' : 1 ≤ i') (hne : p' ≠ p ∨ i' ≠ i) (hg : (Γ p')[i']? = some (2, tt)) : ch p' i' < np ∧ rl (ch p' i') = ch p' i' ∧ ow (ch p' i') = (1, p', i') ∧ (if i = 0 then Ht else a_u1 Ht (ch p i) t') (ch p' i') = tt := by
  obtain ⟨c1, c2, c3, c4⟩ := ty_ch H hp hal hΓ
  obtain ⟨y1, y2, y3, y4, y5, y6, y7, y8⟩ := H
  obtain ⟨x1, x2, x3, x4⟩ := y4 p' hp' ha i' tt hi' hg
  refine ⟨x1, x2, x3, ?_⟩
  by_cases z : i = 0
  · rw [if_pos z]; exact x4
  · have h8 := (c4 z).1
    unfold chX at h8
    rw [if_neg z] at h8
    rw [if_neg z, a_u1_n _ _ (fun w => by
      rw [w, h8] at x3
      have := (Prod.mk.inj x3).2
      have h1 := (Prod.mk.inj this).1
      have h2 := (Prod.mk.inj this).2
      omega)]
    exact x4
theorem ty_giv (H : TYI k L np nm al Γ ch rl ow Gt Ht q mr rk kd va) {p i t' : Nat} (hp : p < np) (hal : al p) {G' : Gm} (g2 : i = 0 → G'[0]? = some (2, t')) (g3 : i ≠ 0 → G'[0]? = (Γ p)[0]?) : ∀ p', p' < np → al p' → ∃ t, (a_u1 Γ p G' p')[0]? = some (2, t) ∧ (if i = 0 then a_u1 Gt (rl p) t' else Gt) (rl p') = t := by
  obtain ⟨y1, y2, y3, y4, y5, y6, y7, y8⟩ := H
  intro p' hp' ha
  by_cases e : p' = p
  · subst e
    rw [a_u1_s]
    by_cases z : i = 0
    · exact ⟨t', g2 z, by rw [if_pos z, a_u1_s]⟩
    · obtain ⟨t0, w1, w2⟩ := y2 p' hp hal
      exact ⟨t0, (g3 z).trans w1, by rw [if_neg z]; exact w2⟩
  · rw [a_u1_n _ _ e]
    obtain ⟨t0, w1, w2⟩ := y2 p' hp' ha
    refine ⟨t0, w1, ?_⟩
    by_cases z : i = 0
    · rw [if_pos z, a_u1_n _ _ (fun w => e (y3 p' p hp' hp ha hal w))]
      exact w2
    · rw [if_neg z]
      exact w2
theorem ty_get (H : TYI k L np nm al Γ ch rl ow Gt Ht q mr rk kd va) {p i t t' m : Nat} {l : List Nat} (hp : p < np) (hal : al p) (hΓ : (Γ p)[i]? = some (2, t)) (hq : q (rdX rl ch p i) = m :: l) (hu0 : i = 0 → ∀ x, TMu k L kd va Ht t m x → x = t') (hu1 : i ≠ 0 → ∀ x, TMd k L kd va Ht t m x → x = t') {G' : Gm} (hG : GS (Γ p) G' i t') :
    TYI k L np nm al (a_u1 Γ p G') ch rl ow (if i = 0 then a_u1 Gt (rl p) t' else Gt) (if i = 0 then Ht else a_u1 Ht (ch p i) t') (a_u1 q (rdX rl ch p i) l) mr rk kd va := by
  obtain ⟨c1, c2, c3, c4⟩ := ty_ch H hp hal hΓ
  obtain ⟨g1, g2, g3⟩ := hG
  have hpt := ty_pth H hp hal hΓ hq hu0 hu1 (ow' := ow) (fun _ _ _ h => h)
  have hgv := ty_giv (i := i) H hp hal g2 g3
  have H0 := H
  obtain ⟨y1, y2, y3, y4, y5, y6, y7, y8⟩ := H
  refine ⟨y1, hgv, y3, fun p' hp' ha i' tt hi' hg => ?_, hpt, fun c hc hr s hs => ?_, y7, y8⟩
  · by_cases e : p' = p
    · subst e
      rw [a_u1_s] at hg
      rcases g1 i' tt hi' hg with ⟨w1, w2⟩ | ⟨w1, w2⟩
      · subst w1 w2
        have z : i' ≠ 0 := by omega
        have h8 := (c4 z).1
        unfold chX at h8 c1 c2
        rw [if_neg z] at h8 c1 c2
        exact ⟨c1, c2, h8, by rw [if_neg z, a_u1_s]⟩
      · exact ty_plc H0 hp hal hΓ hp' ha hi' (Or.inr w1) w2
    · rw [a_u1_n _ _ e] at hg
      exact ty_plc H0 hp hal hΓ hp' ha hi' (Or.inl e) hg
  · obtain ⟨w1, w2, _, _⟩ := ty_row hq (2 * c + s) (y6 c hc hr s hs)
    exact ⟨w1, w2⟩
theorem ty_wait (H : TYI k L np nm al Γ ch rl ow Gt Ht q mr rk kd va) {p i t m : Nat} {l : List Nat} (hp : p < np) (hal : al p) (hi : i ≠ 0) (hΓ : (Γ p)[i]? = some (2, t)) (hq : q (rdX rl ch p i) = m :: l) {t' : Nat} (hu1 : ∀ x, TMd k L kd va Ht t m x → x = t') {G' : Gm} (g1 : ∀ j tt, 1 ≤ j → G'[j]? = some (2, tt) → j ≠ i ∧ (Γ p)[j]? = some (2, tt)) (g3 : G'[0]? = (Γ p)[0]?) :
    TYI k L np nm al (a_u1 Γ p G') ch rl (a_u1 ow (ch p i) (0, 0, 0)) Gt (a_u1 Ht (ch p i) t') (a_u1 q (rdX rl ch p i) l) mr rk kd va := by
  obtain ⟨c1, c2, c3, c4⟩ := ty_ch H hp hal hΓ
  have h8 := (c4 hi).1
  unfold chX at h8 c1 c2
  rw [if_neg hi] at h8 c1 c2
  have how : ∀ c, c < np → rl c = c → ((a_u1 ow (ch p i) (0, 0, 0)) c).1 ≠ 0 → (ow c).1 ≠ 0 := by
    intro c _ _ h
    by_cases e : c = ch p i
    · subst e
      rw [a_u1_s] at h
      exact absurd rfl h
    · rw [a_u1_n _ _ e] at h
      exact h
  have hpt := ty_pth (t' := t') H hp hal hΓ hq (fun z => absurd z hi) (fun _ => hu1) how
  have hgv := ty_giv (i := i) (t' := t') H hp hal (fun z => absurd z hi) (fun _ => g3)
  rw [if_neg hi] at hgv
  rw [if_neg hi, if_neg hi] at hpt
  have H0 := H
  obtain ⟨y1, y2, y3, y4, y5, y6, y7, y8⟩ := H
  have nown : ∀ p' i', p' ≠ p ∨ i' ≠ i → ∀ x, ow x = (1, p', i') → x ≠ ch p i := by
    intro p' i' h x hx e
    rw [e, h8] at hx
    have := (Prod.mk.inj hx).2
    have h1 := (Prod.mk.inj this).1
    have h2 := (Prod.mk.inj this).2
    omega
  refine ⟨y1, hgv, y3, fun p' hp' ha i' tt hi' hg => ?_, hpt, fun c hc hr s hs => ?_, fun c hc hr ho => ?_, y8⟩
  · have fin : (p' ≠ p ∨ i' ≠ i) → (Γ p')[i']? = some (2, tt) → ch p' i' < np ∧ rl (ch p' i') = ch p' i' ∧ (a_u1 ow (ch p i) (0, 0, 0)) (ch p' i') = (1, p', i') ∧ a_u1 Ht (ch p i) t' (ch p' i') = tt := by
      intro hne hg
      have := ty_plc (t' := t') H0 hp hal hΓ hp' ha hi' hne hg
      rw [if_neg hi] at this
      exact ⟨this.1, this.2.1, by rw [a_u1_n _ _ (nown p' i' hne _ this.2.2.1)]; exact this.2.2.1, this.2.2.2⟩
    by_cases e : p' = p
    · subst e
      rw [a_u1_s] at hg
      obtain ⟨w1, w2⟩ := g1 i' tt hi' hg
      exact fin (Or.inr w1) w2
    · rw [a_u1_n _ _ e] at hg
      exact fin (Or.inl e) hg
  · obtain ⟨w1, w2, _, w3⟩ := ty_row hq (2 * c + s) (y6 c hc hr s hs)
    refine ⟨w1, fun x hx => ?_⟩
    obtain ⟨x1, x2, x3⟩ := w2 x hx
    refine ⟨x1, x2, fun h => ?_⟩
    obtain ⟨v, v1, v2, v3, v4⟩ := x3 h
    exact ⟨v, v1, v2, v3, by rw [a_u1_n _ _ (fun e => by rw [e, h8] at v4; cases v4)]; exact v4⟩
  · by_cases e : c = ch p i
    · subst e
      rw [a_u1_s] at ho
      exact absurd rfl ho
    · rw [a_u1_n _ _ e] at ho ⊢
      exact y7 c hc hr ho
/-- a CHANNEL comes -/
theorem ty_take (H : TYI k L np nm al Γ ch rl ow Gt Ht q mr rk kd va) {p i t t1 t' m v : Nat} {l : List Nat} (hp : p < np) (hal : al p) (hΓ : (Γ p)[i]? = some (2, t)) (hq : q (rdX rl ch p i) = m :: l) (hu0 : i = 0 → ∀ x, TMu k L kd va Ht t m x → x = t') (hu1 : i ≠ 0 → ∀ x, TMd k L kd va Ht t m x → x = t') (hm : kd m = 1) (hv : va m = nI v) (hv8 : v < 80) (ht1 : Ht v = t1) {n1 : Nat} (hn1 : 1 ≤ n1) (hni : n1 ≠ i) {G' : Gm} (g1 : ∀ j tt, 1 ≤ j → G'[j]? = some (2, tt) → (j = n1 ∧ tt = t1) ∨ (j ≠ n1 ∧ ((j = i ∧ tt = t') ∨ (j ≠ i ∧ (Γ p)[j]? = some (2, tt))))) (g2 : i = 0 → G'[0]? = some (2, t')) (g3 : i ≠ 0 → G'[0]? = (Γ p)[0]?) :
    TYI k L np nm al (a_u1 Γ p G') (a_u2 ch p n1 v) rl (a_u1 ow v (1, p, n1)) (if i = 0 then a_u1 Gt (rl p) t' else Gt) (if i = 0 then Ht else a_u1 Ht (ch p i) t') (a_u1 q (rdX rl ch p i) l) mr rk kd va := by
  obtain ⟨c1, c2, c3, c4⟩ := ty_ch H hp hal hΓ
  have eR := rdX_eq (rl := rl) (ch := ch) p i
  have hmq : m ∈ q (rdX rl ch p i) := by rw [hq]; exact List.mem_cons_self ..
  have hsx : ∃ s, s < 2 ∧ rdX rl ch p i = 2 * chX rl ch p i + s := by
    by_cases z : i = 0
    · exact ⟨1, by omega, by rw [eR, if_pos z]⟩
    · exact ⟨0, by omega, by rw [eR, if_neg z]⟩
  obtain ⟨sx, hsx1, hsx2⟩ := hsx
  obtain ⟨v1, v2, v3⟩ := ty_msg H c1 c2 hsx1 (by rw [← hsx2]; exact hmq) hm hv8 hv
  have hvi : i ≠ 0 → v ≠ ch p i := by
    intro z e
    have h8 := (c4 z).1
    unfold chX at h8
    rw [if_neg z, ← e, v3] at h8
    cases h8
  have how : ∀ c, c < np → rl c = c → ((a_u1 ow v (1, p, n1)) c).1 ≠ 0 → (ow c).1 ≠ 0 := by
    intro c _ _ h
    by_cases e : c = v
    · subst e
      rw [v3]
      exact Nat.succ_ne_zero 1
    · rw [a_u1_n _ _ e] at h
      exact h
  have hpt := ty_pth (t' := t') H hp hal hΓ hq hu0 hu1 how
  have hgv := ty_giv (i := i) H hp hal g2 g3
  have H0 := H
  obtain ⟨y1, y2, y3, y4, y5, y6, y7, y8⟩ := H
  have hsl : ∀ p' i' x, ow x = (1, p', i') → x ≠ v := by
    intro p' i' x hx e
    rw [e, v3] at hx
    cases hx
  refine ⟨y1, hgv, y3, fun p' hp' ha i' tt hi' hg => ?_, hpt, fun c hc hr s hs => ?_, fun c hc hr ho => ?_, y8⟩
  · have fin : (p' ≠ p ∨ i' ≠ n1) → (p' ≠ p ∨ i' ≠ i) → (Γ p')[i']? = some (2, tt) → (a_u2 ch p n1 v) p' i' < np ∧ rl ((a_u2 ch p n1 v) p' i') = (a_u2 ch p n1 v) p' i' ∧ (a_u1 ow v (1, p, n1)) ((a_u2 ch p n1 v) p' i') = (1, p', i') ∧ (if i = 0 then Ht else a_u1 Ht (ch p i) t') ((a_u2 ch p n1 v) p' i') = tt := by
      intro hne2 hne hg
      have := ty_plc (t' := t') H0 hp hal hΓ hp' ha hi' hne hg
      rw [a_u2_n ch v (show ¬ (p' = p ∧ i' = n1) by omega)]
      exact ⟨this.1, this.2.1, by rw [a_u1_n _ _ (hsl p' i' _ this.2.2.1)]; exact this.2.2.1, this.2.2.2⟩
    by_cases e : p' = p
    · subst e
      rw [a_u1_s] at hg
      rcases g1 i' tt hi' hg with ⟨w1, w2⟩ | ⟨w0, ⟨w1, w2⟩ | ⟨w1, w2⟩⟩
      · subst w1 w2
        rw [a_u2_s]
        refine ⟨v1, v2, a_u1_s _ _ _, ?_⟩
        by_cases z : i = 0
        · rw [if_pos z]; exact ht1
        · rw [if_neg z, a_u1_n _ _ (hvi z)]; exact ht1
      · subst w1 w2
        have z : i' ≠ 0 := by omega
        have h8 := (c4 z).1
        unfold chX at h8 c1 c2
        rw [if_neg z] at h8 c1 c2
        rw [a_u2_n ch v (show ¬ (p' = p' ∧ i' = n1) by omega)]
        exact ⟨c1, c2, by rw [a_u1_n _ _ (hsl p' i' _ h8)]; exact h8, by rw [if_neg z, a_u1_s]⟩
      · exact fin (Or.inr w0) (Or.inr w1) w2
    · rw [a_u1_n _ _ e] at hg
      exact fin (Or.inl e) (Or.inl e) hg
  · obtain ⟨w1, w2, w3, w4⟩ := ty_row hq (2 * c + s) (y6 c hc hr s hs)
    refine ⟨w1, fun x hx => ?_⟩
    obtain ⟨x1, x2, x3⟩ := w2 x hx
    refine ⟨x1, x2, fun h => ?_⟩
    obtain ⟨v', z1, z2, z3, z4⟩ := x3 h
    refine ⟨v', z1, z2, z3, ?_⟩
    rw [a_u1_n _ _ (fun e => ?_)]
    · exact z4
    · rw [e, v3] at z4
      have hxm : x = m := (Prod.mk.inj (Prod.mk.inj z4).2).1.symm
      subst hxm
      have hmr := (y6 _ c1 c2 sx hsx1).2 x (by rw [← hsx2]; exact hmq)
      have : 2 * c + s = rdX rl ch p i := by rw [hsx2, ← hmr.2.1, x2]
      exact w3 this hx
  · by_cases e : c = v
    · subst e
      rw [a_u1_s]
      have hb := y7 c hc hr (by rw [v3]; exact Nat.succ_ne_zero 1)
      rw [v3] at hb
      have hmr := ((y6 _ c1 c2 sx hsx1).2 m (by rw [← hsx2]; exact hmq)).2.1
      have hpa : paO rl mr (2, m, 0) = chX rl ch p i := by
        unfold paO
        rw [if_neg (show ¬ (2 : Nat) = 1 by decide)]
        show mr m / 2 = _
        rw [hmr]
        omega
      rw [hpa] at hb
      refine ⟨fun z => absurd rfl z, fun _ => hp, ?_⟩
      show rl p < np ∧ rl (rl p) = rl p ∧ rk (rl p) < rk c
      refine ⟨(y1 p hp).1, (y1 p hp).2, ?_⟩
      by_cases z : i = 0
      · have : chX rl ch p i = rl p := by unfold chX; rw [if_pos z]
        rw [← this]
        exact hb.2.2.2.2
      · have h8 := (c4 z).1
        have h9 := y7 _ c1 c2 (by rw [h8]; exact Nat.one_ne_zero)
        rw [h8] at h9
        have : rk (rl p) < rk (chX rl ch p i) := h9.2.2.2.2
        have := hb.2.2.2.2
        omega
    · rw [a_u1_n _ _ e] at ho ⊢
      exact y7 c hc hr ho
end
