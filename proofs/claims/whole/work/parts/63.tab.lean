/-! THE CLASS'S TABLE OF TYPES as lists (pure) -/
def gI (l : List Int32) (i : Nat) : Int32 := l.getD i (-1)
def ch (x : Int32) : Prop := x = 43 ∨ x = 38
def pz (P : List Int32) (x : Int32) : Int32 := if x = -1 then 0 else lat P x
def psum (P T : List Int32) (f : Nat) : Nat → Int32
  | 0 => 0
  | m + 1 => psum P T f m + lat P (gI T (f + m))
def TAB (K Fs S P N T : List Int32) : Prop :=
  (Fs.length = K.length ∧ S.length = K.length ∧ P.length = K.length ∧ T.length = N.length) ∧
  (∀ t, t < K.length → ¬ ch (gI K t) → (gI Fs t = -1 ∨ ∃ j, j < K.length ∧ gI Fs t = nI j) ∧ (gI S t = -1 ∨ ∃ j, j < K.length ∧ gI S t = nI j) ∧ gI P t = 1 + pz P (gI Fs t) + pz P (gI S t)) ∧
  (∀ t, t < K.length → ch (gI K t) → ∃ f m, gI Fs t = nI f ∧ gI S t = nI m ∧ f + m ≤ N.length ∧ gI P t = 1 + psum P T f m) ∧
  (∀ i, i < T.length → ∃ j, j < K.length ∧ gI T i = nI j) ∧
  (∀ t u, t < K.length → u < K.length → gI K t = gI K u → ¬ ch (gI K t) → gI Fs t = gI Fs u → gI S t = gI S u → t = u) ∧
  (∀ t u f g m, t < K.length → u < K.length → gI K t = gI K u → ch (gI K t) → gI Fs t = nI f → gI Fs u = nI g → gI S t = nI m → gI S u = nI m → f + m ≤ N.length → g + m ≤ N.length → (∀ i, i < m → gI N (f + i) = gI N (g + i) ∧ gI T (f + i) = gI T (g + i)) → t = u)
theorem gI_l {l : List Int32} (r : List Int32) {i : Nat} (h : i < l.length) : gI (l ++ r) i = gI l i := by
  unfold gI
  rw [List.getD_eq_getElem?_getD, List.getD_eq_getElem?_getD, List.getElem?_append_left h]
theorem gI_r (l r : List Int32) (i : Nat) : gI (l ++ r) (l.length + i) = gI r i := by
  unfold gI
  rw [List.getD_eq_getElem?_getD, List.getD_eq_getElem?_getD, List.getElem?_append_right (by omega), Nat.add_sub_cancel_left]
theorem gI_e (l : List Int32) (x : Int32) : gI (l ++ [x]) l.length = x := by
  have := gI_r l [x] 0
  rw [Nat.add_zero] at this
  rw [this]; rfl
theorem lat_g {l : List Int32} {n : Nat} (h : n < 2 ^ 31) : lat l (nI n) = gI l n := lat_nI h
theorem pz_app {P r : List Int32} {x : Int32} (hP : P.length ≤ 1000) (h : x = -1 ∨ ∃ j, j < P.length ∧ x = nI j) : pz (P ++ r) x = pz P x := by
  unfold pz
  rcases h with h | ⟨j, h1, h2⟩
  · rw [if_pos h, if_pos h]
  · subst h2
    rw [lat_g (by omega), lat_g (by omega), gI_l r h1]
theorem psum_app {P r T q : List Int32} (hP : P.length ≤ 1000) (hT : ∀ i, i < T.length → ∃ j, j < P.length ∧ gI T i = nI j) {f : Nat} : ∀ m, f + m ≤ T.length → psum (P ++ r) (T ++ q) f m = psum P T f m := by
  intro m
  induction m with
  | zero => intro _; rfl
  | succ m ih =>
    intro h
    obtain ⟨j, h1, h2⟩ := hT (f + m) (by omega)
    rw [psum, psum, ih (by omega), gI_l q (by omega), h2, lat_g (by omega), lat_g (by omega), gI_l r h1]
theorem tab_p {K Fs S P N T : List Int32} (h : TAB K Fs S P N T) (hK : K.length ≤ 1000) {r q : List Int32} : ∀ i, i < T.length → ∃ j, j < P.length ∧ gI T i = nI j := by
  intro i hi
  obtain ⟨j, h1, h2⟩ := h.2.2.2.1 i hi
  exact ⟨j, by rw [h.1.2.2.1]; exact h1, h2⟩
/-- a T that is no CHOICE is added -/
theorem tab_add {K Fs S P N T : List Int32} (h : TAB K Fs S P N T) (hK : K.length ≤ 1000) {kd x2 x3 : Int32} (hk : ¬ ch kd) (h2 : x2 = -1 ∨ ∃ j, j < K.length ∧ x2 = nI j) (h3 : x3 = -1 ∨ ∃ j, j < K.length ∧ x3 = nI j) (hn : ∀ t, t < K.length → ¬ (gI K t = kd ∧ gI Fs t = x2 ∧ gI S t = x3)) :
    TAB (K ++ [kd]) (Fs ++ [x2]) (S ++ [x3]) (P ++ [1 + pz P x2 + pz P x3]) N T := by
  obtain ⟨⟨a1, a2, a3, a4⟩, b, c, d, e, f⟩ := h
  have hl : (K ++ [kd]).length = K.length + 1 := by simp
  have lt : ∀ t, t < K.length + 1 → t < K.length ∨ t = K.length := fun t q => by omega
  have gk : gI (K ++ [kd]) K.length = kd := gI_e _ _
  have gf : gI (Fs ++ [x2]) K.length = x2 := by rw [← a1]; exact gI_e _ _
  have gs : gI (S ++ [x3]) K.length = x3 := by rw [← a2]; exact gI_e _ _
  have gp : gI (P ++ [1 + pz P x2 + pz P x3]) K.length = 1 + pz P x2 + pz P x3 := by rw [← a3]; exact gI_e _ _
  have lk : ∀ t, t < K.length → gI (K ++ [kd]) t = gI K t := fun t q => gI_l _ q
  have lf : ∀ t, t < K.length → gI (Fs ++ [x2]) t = gI Fs t := fun t q => gI_l _ (by omega)
  have ls : ∀ t, t < K.length → gI (S ++ [x3]) t = gI S t := fun t q => gI_l _ (by omega)
  have lp : ∀ t, t < K.length → gI (P ++ [1 + pz P x2 + pz P x3]) t = gI P t := fun t q => gI_l _ (by omega)
  have up : ∀ {x : Int32}, (x = -1 ∨ ∃ j, j < K.length ∧ x = nI j) → (x = -1 ∨ ∃ j, j < K.length + 1 ∧ x = nI j) := fun q => q.imp id (fun ⟨j, q1, q2⟩ => ⟨j, by omega, q2⟩)
  have pp : ∀ {x : Int32}, (x = -1 ∨ ∃ j, j < K.length ∧ x = nI j) → pz (P ++ [1 + pz P x2 + pz P x3]) x = pz P x := fun q => pz_app (by omega) (by rw [a3]; exact q)
  refine ⟨⟨by simp; exact a1, by simp; exact a2, by simp; exact a3, a4⟩, ?_, ?_, ?_, ?_, ?_⟩
  · intro t ht hc
    rw [hl] at ht ⊢
    rcases lt t ht with q | q
    · rw [lk t q] at hc
      obtain ⟨b1, b2, b3⟩ := b t q hc
      rw [lf t q, ls t q, lp t q]
      exact ⟨up b1, up b2, by rw [pp b1, pp b2]; exact b3⟩
    · subst q
      rw [gf, gs, gp]
      exact ⟨up h2, up h3, by rw [pp h2, pp h3]⟩
  · intro t ht hc
    rw [hl] at ht
    rcases lt t ht with q | q
    · rw [lk t q] at hc
      obtain ⟨f', m, c1, c2, c3, c4⟩ := c t q hc
      refine ⟨f', m, by rw [lf t q]; exact c1, by rw [ls t q]; exact c2, c3, ?_⟩
      have := psum_app (r := [1 + pz P x2 + pz P x3]) (q := []) (P := P) (T := T) (by omega) (fun i hi => by rw [a3]; exact d i hi) (f := f') m (by omega)
      rw [List.append_nil] at this
      rw [lp t q, this]; exact c4
    · subst q; rw [gk] at hc; exact (hk hc).elim
  · intro i hi
    obtain ⟨j, d1, d2⟩ := d i hi
    exact ⟨j, by rw [hl]; omega, d2⟩
  · intro t u ht hu hku hc hf hs
    rw [hl] at ht hu
    rcases lt t ht with q | q
    · rcases lt u hu with w | w
      · rw [lk t q, lk u w] at hku
        rw [lk t q] at hc
        rw [lf t q, lf u w] at hf
        rw [ls t q, ls u w] at hs
        exact e t u q w hku hc hf hs
      · subst w
        rw [lk t q, gk] at hku
        rw [lf t q, gf] at hf
        rw [ls t q, gs] at hs
        exact (hn t q ⟨hku, hf, hs⟩).elim
    · subst q
      rcases lt u hu with w | w
      · rw [lk u w, gk] at hku
        rw [lf u w, gf] at hf
        rw [ls u w, gs] at hs
        exact (hn u w ⟨hku.symm, hf.symm, hs.symm⟩).elim
      · exact w.symm
  · intro t u f' g m ht hu hku hc hf hg hs1 hs2 hb1 hb2 hi
    rw [hl] at ht hu
    rcases lt t ht with q | q
    · rcases lt u hu with w | w
      · rw [lk t q, lk u w] at hku
        rw [lk t q] at hc
        rw [lf t q] at hf
        rw [lf u w] at hg
        rw [ls t q] at hs1
        rw [ls u w] at hs2
        exact f t u f' g m q w hku hc hf hg hs1 hs2 hb1 hb2 hi
      · subst w
        rw [hku, gk] at hc
        exact (hk hc).elim
    · subst q
      rw [gk] at hc
      exact (hk hc).elim
/-- a CHOICE is added -/
theorem tab_addC {K Fs S P N T : List Int32} (h : TAB K Fs S P N T) (hK : K.length ≤ 1000) (hN : N.length ≤ 500) {kd : Int32} (hk : ch kd) {ns ts : List Int32} (hl2 : ts.length = ns.length) (h500 : ns.length ≤ 500) (ht : ∀ i, i < ts.length → ∃ j, j < K.length ∧ gI ts i = nI j)
    (hn : ∀ t, t < K.length → gI K t = kd → gI S t = nI ns.length → ∀ f, gI Fs t = nI f → f + ns.length ≤ N.length → ¬ ∀ i, i < ns.length → gI N (f + i) = gI ns i ∧ gI T (f + i) = gI ts i) :
    TAB (K ++ [kd]) (Fs ++ [nI N.length]) (S ++ [nI ns.length]) (P ++ [1 + psum P (T ++ ts) N.length ns.length]) (N ++ ns) (T ++ ts) := by
  obtain ⟨⟨a1, a2, a3, a4⟩, b, c, d, e, f⟩ := h
  have hl : (K ++ [kd]).length = K.length + 1 := by simp
  have lt : ∀ t, t < K.length + 1 → t < K.length ∨ t = K.length := fun t q => by omega
  generalize hp : 1 + psum P (T ++ ts) N.length ns.length = pv
  have gk : gI (K ++ [kd]) K.length = kd := gI_e _ _
  have gf : gI (Fs ++ [nI N.length]) K.length = nI N.length := by rw [← a1]; exact gI_e _ _
  have gs : gI (S ++ [nI ns.length]) K.length = nI ns.length := by rw [← a2]; exact gI_e _ _
  have gp : gI (P ++ [pv]) K.length = pv := by rw [← a3]; exact gI_e _ _
  have lk : ∀ t, t < K.length → gI (K ++ [kd]) t = gI K t := fun t q => gI_l _ q
  have lf : ∀ t, t < K.length → gI (Fs ++ [nI N.length]) t = gI Fs t := fun t q => gI_l _ (by omega)
  have ls : ∀ t, t < K.length → gI (S ++ [nI ns.length]) t = gI S t := fun t q => gI_l _ (by omega)
  have lp : ∀ t, t < K.length → gI (P ++ [pv]) t = gI P t := fun t q => gI_l _ (by omega)
  have up : ∀ {x : Int32}, (x = -1 ∨ ∃ j, j < K.length ∧ x = nI j) → (x = -1 ∨ ∃ j, j < K.length + 1 ∧ x = nI j) := fun q => q.imp id (fun ⟨j, q1, q2⟩ => ⟨j, by omega, q2⟩)
  have pp : ∀ {x : Int32}, (x = -1 ∨ ∃ j, j < K.length ∧ x = nI j) → pz (P ++ [pv]) x = pz P x := fun q => pz_app (by omega) (by rw [a3]; exact q)
  have hT2 : ∀ i, i < (T ++ ts).length → ∃ j, j < K.length ∧ gI (T ++ ts) i = nI j := by
    intro i hi
    rw [List.length_append] at hi
    by_cases q : i < T.length
    · rw [gI_l _ q]; exact d i q
    · obtain ⟨j, rfl⟩ : ∃ j, i = T.length + j := ⟨i - T.length, by omega⟩
      rw [gI_r]; exact ht j (by omega)
  have hsl : ∀ f' m, f' + m ≤ N.length → ∀ i, i < m → gI (N ++ ns) (f' + i) = gI N (f' + i) ∧ gI (T ++ ts) (f' + i) = gI T (f' + i) := fun f' m q i hi => ⟨gI_l _ (by omega), gI_l _ (by omega)⟩
  have hsr : ∀ i, gI (N ++ ns) (N.length + i) = gI ns i ∧ gI (T ++ ts) (N.length + i) = gI ts i := fun i => ⟨gI_r _ _ _, by rw [← a4]; exact gI_r _ _ _⟩
  refine ⟨⟨by simp; exact a1, by simp; exact a2, by simp; exact a3, by rw [List.length_append, List.length_append, a4, hl2]⟩, ?_, ?_, ?_, ?_, ?_⟩
  · intro t ht' hc
    rw [hl] at ht' ⊢
    rcases lt t ht' with q | q
    · rw [lk t q] at hc
      obtain ⟨b1, b2, b3⟩ := b t q hc
      rw [lf t q, ls t q, lp t q]
      exact ⟨up b1, up b2, by rw [pp b1, pp b2]; exact b3⟩
    · subst q; rw [gk] at hc; exact (hc hk).elim
  · intro t ht' hc
    rw [hl] at ht'
    rcases lt t ht' with q | q
    · rw [lk t q] at hc
      obtain ⟨f', m, c1, c2, c3, c4⟩ := c t q hc
      refine ⟨f', m, by rw [lf t q]; exact c1, by rw [ls t q]; exact c2, by rw [List.length_append]; omega, ?_⟩
      have := psum_app (r := [pv]) (q := ts) (P := P) (T := T) (by omega) (fun i hi => by rw [a3]; exact d i hi) (f := f') m (by omega)
      rw [lp t q, this]; exact c4
    · subst q
      refine ⟨N.length, ns.length, gf, gs, by rw [List.length_append]; omega, ?_⟩
      have := psum_app (r := [pv]) (q := []) (P := P) (T := T ++ ts) (by omega) (fun i hi => by rw [a3]; exact hT2 i hi) (f := N.length) ns.length (by rw [List.length_append]; omega)
      rw [List.append_nil] at this
      rw [gp, this, ← hp]
  · intro i hi
    obtain ⟨j, d1, d2⟩ := hT2 i hi
    exact ⟨j, by rw [hl]; omega, d2⟩
  · intro t u ht' hu hku hc hf hs
    rw [hl] at ht' hu
    rcases lt t ht' with q | q
    · rcases lt u hu with w | w
      · rw [lk t q, lk u w] at hku
        rw [lk t q] at hc
        rw [lf t q, lf u w] at hf
        rw [ls t q, ls u w] at hs
        exact e t u q w hku hc hf hs
      · subst w
        rw [hku, gk] at hc
        exact (hc hk).elim
    · subst q
      rw [gk] at hc
      exact (hc hk).elim
  · intro t u f' g m ht' hu hku hc hf hg hs1 hs2 hb1 hb2 hi
    rw [hl] at ht' hu
    have mx : ∀ {t' : Nat}, t' < K.length → ch (gI K t') → ∀ {f'' m' : Nat}, gI Fs t' = nI f'' → gI S t' = nI m' → f'' < 2 ^ 31 → m' < 2 ^ 31 → f'' + m' ≤ N.length := by
      intro t' q hc' f'' m' q1 q2 q3 q4
      obtain ⟨f3, m3, c1, c2, c3, c4⟩ := c t' q hc'
      have e1 : f'' = f3 := (nI_eq q3 (by omega)).mp (q1.symm.trans c1)
      have e2 : m' = m3 := (nI_eq q4 (by omega)).mp (q2.symm.trans c2)
      omega
    rw [List.length_append] at hb1 hb2
    rcases lt t ht' with q | q
    · rw [lk t q] at hc
      rw [lf t q] at hf
      rw [ls t q] at hs1
      have m1 := mx q hc hf hs1 (by omega) (by omega)
      rcases lt u hu with w | w
      · rw [lk t q, lk u w] at hku
        rw [lf u w] at hg
        rw [ls u w] at hs2
        have m2 := mx w (by rw [← hku]; exact hc) hg hs2 (by omega) (by omega)
        refine f t u f' g m q w hku hc hf hg hs1 hs2 m1 m2 (fun i hi' => ?_)
        have := hi i hi'
        rw [(hsl f' m m1 i hi').1, (hsl f' m m1 i hi').2, (hsl g m m2 i hi').1, (hsl g m m2 i hi').2] at this
        exact this
      · subst w
        exfalso
        rw [lk t q, gk] at hku
        rw [gf] at hg
        rw [gs] at hs2
        have eg : g = N.length := (nI_eq (by omega) (by omega)).mp hg.symm
        have em : m = ns.length := (nI_eq (by omega) (by omega)).mp hs2.symm
        subst eg
        subst em
        refine hn t q hku hs1 f' hf m1 (fun i hi' => ?_)
        have := hi i hi'
        rw [(hsl f' _ m1 i hi').1, (hsl f' _ m1 i hi').2, (hsr i).1, (hsr i).2] at this
        exact this
    · subst q
      rw [gk] at hku
      rw [gf] at hf
      rw [gs] at hs1
      have eg : f' = N.length := (nI_eq (by omega) (by omega)).mp hf.symm
      have em : m = ns.length := (nI_eq (by omega) (by omega)).mp hs1.symm
      subst eg
      subst em
      rcases lt u hu with w | w
      · exfalso
        rw [lk u w] at hku
        rw [lf u w] at hg
        rw [ls u w] at hs2
        have m2 := mx w (by rw [← hku]; exact hk) hg hs2 (by omega) (by omega)
        refine hn u w hku.symm hs2 g hg m2 (fun i hi' => ?_)
        have := hi i hi'
        rw [(hsl g _ m2 i hi').1, (hsl g _ m2 i hi').2, (hsr i).1, (hsr i).2] at this
        exact ⟨this.1.symm, this.2.symm⟩
      · exact w.symm
