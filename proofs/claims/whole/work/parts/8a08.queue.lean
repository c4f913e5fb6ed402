/-! A MESSAGE IS LAID, in both (pure) -/
theorem nd_mid : ∀ (s t : List Nat) (a : Nat), (s ++ a :: t).Nodup → (s ++ t).Nodup ∧ ¬ a ∈ s ++ t := by
  intro s
  induction s with
  | nil =>
    intro t a h
    rw [List.nil_append, List.nodup_cons] at h
    exact ⟨h.2, h.1⟩
  | cons x s ih =>
    intro t a h
    rw [List.cons_append, List.nodup_cons] at h
    obtain ⟨h1, h2⟩ := ih t a h.2
    rw [List.cons_append, List.nodup_cons]
    refine ⟨⟨fun z => h.1 ?_, h1⟩, fun z => ?_⟩
    · rcases List.mem_append.mp z with q | q
      · exact List.mem_append.mpr (Or.inl q)
      · exact List.mem_append.mpr (Or.inr (List.mem_cons_of_mem _ q))
    · rcases List.mem_cons.mp z with q | q
      · subst q
        exact h.1 (List.mem_append.mpr (Or.inr (List.mem_cons_self ..)))
      · exact h2 q
theorem nd_len : ∀ (n : Nat) (l : List Nat), l.Nodup → (∀ m ∈ l, m < n) → l.length ≤ n := by
  intro n
  induction n with
  | zero =>
    intro l _ h
    cases l with
    | nil => exact Nat.le_refl _
    | cons x l => exact absurd (h x (List.mem_cons_self ..)) (Nat.not_lt_zero _)
  | succ n ih =>
    intro l hn h
    by_cases q : n ∈ l
    · obtain ⟨s, t, rfl⟩ := List.append_of_mem q
      obtain ⟨h1, h2⟩ := nd_mid s t n hn
      have := ih (s ++ t) h1 (fun m hm => by
        have h3 : m ∈ s ++ n :: t := by
          rcases List.mem_append.mp hm with z | z
          · exact List.mem_append.mpr (Or.inl z)
          · exact List.mem_append.mpr (Or.inr (List.mem_cons_of_mem _ z))
        have h4 := h m h3
        have h5 : m ≠ n := fun z => h2 (z ▸ hm)
        omega)
      rw [List.length_append] at this
      rw [List.length_append, List.length_cons]
      omega
    · have := ih l hn (fun m hm => by
        have h4 := h m hm
        have h5 : m ≠ n := fun z => q (z ▸ hm)
        omega)
      omega
section
variable {R : lT} {I B : iT} {J : jT}
/-- the channels' Rows have their lengths -/
def CHL (np nm : Nat) (R : lT) : Prop := np ≤ 80 ∧ nm ≤ 600 ∧ (R 152).length = 2 * np ∧ (R 154).length = 2 * np ∧ (R 156).length = 2 * np ∧ (R 158).length = nm ∧ (R 160).length = nm ∧ (R 162).length = nm
theorem r2s (c s : Nat) : (2 : Int32) * nI c + nI s = nI (2 * c + s) := by
  have : (2 : Int32) * nI c = nI (2 * c) := pk_mul 2 c
  rw [this, nI_add]
/-- what laying leaves -/
def LAYc (nm r : Nat) (kd v : Int32) (l : List Nat) (R R' : lT) : Prop := QCc R' r (l ++ [nm]) ∧ (∀ r' l', r' ≠ r → QCc R r' l' → (∀ m ∈ l', m < nm ∧ ∀ a z, l = a ++ [z] → m ≠ z) → QCc R' r' l') ∧ R' 158 = R 158 ++ [kd] ∧ R' 160 = R 160 ++ [v] ∧ (R' 152).length = (R 152).length ∧ (R' 154).length = (R 154).length ∧ (R' 156).length = (R 156).length ∧ (R' 162).length = (R 162).length + 1 ∧ ∀ a, a ≠ 152 → a ≠ 154 → a ≠ 156 → a ≠ 158 → a ≠ 160 → a ≠ 162 → R' a = R a
theorem lay_c {np nm c s : Nat} {l : List Nat} (hN : RN I R) (hL : CHL np nm R) (hs : s < 2) (hc : c < np) (hm : nm < 600) (hQ : QCc R (2 * c + s) l) (hlt : ∀ m ∈ l, m < nm) (hnd : l.Nodup) (kd v : Int32) : ∃ I' R', mX1_lay I (nI c) (nI s) kd v = some I' ∧ RN I' R' ∧ LAYc nm (2 * c + s) kd v l R R' ∧ ∀ q, ¬ (152 ≤ q ∧ q ≤ 163) → I' q = I q := by
  obtain ⟨h1, h2, h3, h4, h5, h6, h7, h8⟩ := hL
  obtain ⟨q1, q2, q3⟩ := hQ
  obtain ⟨I1, a1, a2, a3⟩ := rn_add hN (a := 158) (by unfold rnA; omega) (by rw [ln_159]; omega) kd
  obtain ⟨I2, b1, b2, b3⟩ := rn_add a2 (a := 160) (by unfold rnA; omega) (by rw [upL_n _ _ (by omega), ln_161]; omega) v
  obtain ⟨I3, c1, c2, c3⟩ := rn_add b2 (a := 162) (by unfold rnA; omega) (by rw [upL_n _ _ (by omega), upL_n _ _ (by omega), ln_163]; omega) (-1)
  have e3 : (upL (upL (upL R 158 (R 158 ++ [kd])) 160 (upL R 158 (R 158 ++ [kd]) 160 ++ [v])) 162 (upL (upL R 158 (R 158 ++ [kd])) 160 (upL R 158 (R 158 ++ [kd]) 160 ++ [v]) 162 ++ [-1])) = upL (upL (upL R 158 (R 158 ++ [kd])) 160 (R 160 ++ [v])) 162 (R 162 ++ [-1]) := by
    rw [upL_n (L := R) (a := 158) _ (show (160 : Nat) ≠ 158 by omega), upL_n (L := upL R 158 (R 158 ++ [kd])) _ (show (162 : Nat) ≠ 160 by omega), upL_n (L := R) (a := 158) _ (show (162 : Nat) ≠ 158 by omega)]
  rw [e3] at c2
  have ec1 : mX4_add 162 I2 (-1) = some (nI nm, I3) := by rw [c1, upL_n _ _ (by omega), upL_n _ _ (by omega), h8]
  have g162 : ∀ i, i < nm → gI (R 162 ++ [-1]) i = gI (R 162) i := fun i hi => gI_l _ (by omega)
  -- the row's tail and count
  have fin : ∀ (I4 : iT) (R4 : lT), RN I4 R4 → (R4 154).length = 2 * np → (R4 156).length = 2 * np → gI (R4 156) (2 * c + s) = nI l.length → ∃ I', mX1_lay_80 I4 (nI c) (nI s) kd v (nI (2 * c + s)) (nI nm) = some I' ∧ RN I' (upL (upL R4 154 ((R4 154).set (2 * c + s) (nI nm))) 156 ((R4 156).set (2 * c + s) (nI (l.length + 1)))) ∧ ∀ q, ¬ (154 ≤ q ∧ q ≤ 157) → I' q = I4 q := by
    intro I4 R4 hN4 l4 l6 g6
    obtain ⟨I5, d1, d2, d3⟩ := rn_put hN4 (a := 154) (by unfold rnA; omega) (j := 2 * c + s) (by omega) (nI nm)
    obtain ⟨I6, f1, f2, f3⟩ := rn_bump d2 (a := 156) (by unfold rnA; omega) (j := 2 * c + s) (by omega) 1
    rw [upL_n _ _ (by omega), g6, nI_1] at f2
    refine ⟨I6, ?_, f2, fun q w => by rw [f3 q (by omega) (by omega), d3 q (by omega) (by omega)]⟩
    unfold mX1_lay_80
    rw [d1, sb, f1, sb]
  have eR : mX4_at 156 I3 (nI (2 * c + s)) = some (nI l.length) := by
    rw [rn_g c2 (by unfold rnA; omega) (by omega), upL_n _ _ (by omega), upL_n _ _ (by omega), upL_n _ _ (by omega), q1]
  have eL : mX1_lay I (nI c) (nI s) kd v = if nI l.length = 0 then (mX4_put 152 I3 (nI (2 * c + s)) (nI nm)).bind fun q9 => mX1_lay_80 q9 (nI c) (nI s) kd v (nI (2 * c + s)) (nI nm) else (mX4_at 154 I3 (nI (2 * c + s))).bind fun q7 => (mX4_put 162 I3 q7 (nI nm)).bind fun q8 => mX1_lay_80 q8 (nI c) (nI s) kd v (nI (2 * c + s)) (nI nm) := by
    unfold mX1_lay
    rw [a1, sb]
    show ((mX4_add 160 I1 v).bind _) = _
    rw [b1, sb]
    show ((mX4_add 162 I2 (-1)).bind _) = _
    rw [ec1, sb, r2s, eR, sb]
  have hll : l.length ≤ 600 ∨ True := Or.inr trivial
  rcases snoc_cases l with rfl | ⟨a, z, rfl⟩
  · obtain ⟨I4, d1, d2, d3⟩ := rn_put c2 (a := 152) (by unfold rnA; omega) (j := 2 * c + s) (by omega) (nI nm)
    obtain ⟨I5, f1, f2, f3⟩ := fin I4 _ d2 (by rw [upL_n _ _ (by omega), upL_n _ _ (by omega), upL_n _ _ (by omega), upL_n _ _ (by omega)]; exact h4) (by rw [upL_n _ _ (by omega), upL_n _ _ (by omega), upL_n _ _ (by omega), upL_n _ _ (by omega)]; exact h5) (by rw [upL_n _ _ (by omega), upL_n _ _ (by omega), upL_n _ _ (by omega), upL_n _ _ (by omega)]; exact q1)
    refine ⟨I5, _, ?_, f2, ?_, fun q w => by rw [f3 q (by omega), d3 q (by omega) (by omega), c3 q (by omega) (by omega), b3 q (by omega) (by omega), a3 q (by omega) (by omega)]⟩
    · rw [eL, if_pos (show nI ([] : List Nat).length = 0 from rfl), d1, sb]
      exact f1
    · have r152 : ∀ (x : lT), x 152 = R 152 → (upL x 152 ((x 152).set (2 * c + s) (nI nm))) 152 = (R 152).set (2 * c + s) (nI nm) := fun x hx => by rw [upL_s, hx]
      refine ⟨⟨?_, ⟨?_, by omega, trivial⟩, fun b y hb => ?_⟩, fun r' l' hr hq hl => ⟨?_, ?_, fun b y hb => ?_⟩, ?_, ?_, ?_, ?_, ?_, ?_, fun b w1 w2 w3 w4 w5 w6 => ?_⟩
      all_goals simp only [upL, Nat.reduceEqDiff, if_true, if_false, ite_true, ite_false, List.length_set, List.length_append, List.length_singleton]
      · exact gI_se (by omega) _
      · exact gI_se (by omega) _
      · have := (snoc_inj (a := []) (b := b) (x := nm) (y := y) hb).2
        subst this
        exact gI_se (by omega) _
      · rw [gI_sn hr]; exact hq.1
      · rw [gI_sn hr]
        exact cq_to _ _ hq.2.1 (fun y hy => g162 y (hl y hy).1)
      · rw [gI_sn hr]; exact hq.2.2 b y hb
      · simp [w1, w2, w3, w4, w5, w6]
  · have hz : gI (R 154) (2 * c + s) = nI z := q3 a z rfl
    have hzl : z < nm := hlt z (List.mem_append.mpr (Or.inr (List.mem_cons_self ..)))
    have hza := nd_last a z hnd
    have e154 : mX4_at 154 I3 (nI (2 * c + s)) = some (nI z) := by
      rw [rn_g c2 (by unfold rnA; omega) (by omega), upL_n _ _ (by omega), upL_n _ _ (by omega), upL_n _ _ (by omega), hz]
    obtain ⟨I4, d1, d2, d3⟩ := rn_put c2 (a := 162) (by unfold rnA; omega) (j := z) (by omega) (nI nm)
    obtain ⟨I5, f1, f2, f3⟩ := fin I4 _ d2 (by rw [upL_n _ _ (by omega), upL_n _ _ (by omega), upL_n _ _ (by omega), upL_n _ _ (by omega)]; exact h4) (by rw [upL_n _ _ (by omega), upL_n _ _ (by omega), upL_n _ _ (by omega), upL_n _ _ (by omega)]; exact h5) (by rw [upL_n _ _ (by omega), upL_n _ _ (by omega), upL_n _ _ (by omega), upL_n _ _ (by omega)]; exact q1)
    have hne : ¬ nI (a ++ [z]).length = 0 := by
      rw [List.length_append, List.length_singleton]
      intro y
      have h600 : (a ++ [z]).length < 2 ^ 31 := by
        have := nI_eq (a := a.length + 1) (b := 0)
        rw [List.length_append, List.length_singleton]
        have h6 := nd_len _ _ hnd hlt
        rw [List.length_append, List.length_singleton] at h6
        omega
      rw [List.length_append, List.length_singleton] at h600
      have := (nI_eq (b := 0) h600 (by omega)).mp y
      omega
    refine ⟨I5, _, ?_, f2, ?_, fun q w => by rw [f3 q (by omega), d3 q (by omega) (by omega), c3 q (by omega) (by omega), b3 q (by omega) (by omega), a3 q (by omega) (by omega)]⟩
    · rw [eL, if_neg hne, e154, sb, d1, sb]
      exact f1
    · have gs : ∀ i, i < nm → i ≠ z → gI ((R 162 ++ [-1]).set z (nI nm)) i = gI (R 162) i := fun i hi hz => by rw [gI_sn hz, g162 i hi]
      have gz : gI ((R 162 ++ [-1]).set z (nI nm)) z = nI nm := gI_se (by rw [List.length_append, List.length_singleton]; omega) _
      refine ⟨⟨?_, ?_, fun b y hb => ?_⟩, fun r' l' hr hq hl => ⟨?_, ?_, fun b y hb => ?_⟩, ?_, ?_, ?_, ?_, ?_, ?_, fun b w1 w2 w3 w4 w5 w6 => ?_⟩
      all_goals simp only [upL, Nat.reduceEqDiff, if_true, if_false, ite_true, ite_false, List.length_set]
      · rw [List.length_append (bs := [nm]), List.length_singleton]
        exact gI_se (by omega) _
      · refine cq_app a _ q2 (fun y hy => gs y (hlt y (List.mem_append.mpr (Or.inl hy))) (fun w => hza (w ▸ hy))) ⟨gz, by omega, trivial⟩
      · have := (snoc_inj (x := nm) (y := y) hb).2
        subst this
        exact gI_se (by omega) _
      · rw [gI_sn hr]; exact hq.1
      · exact cq_to _ _ hq.2.1 (fun y hy => gs y (hl y hy).1 ((hl y hy).2 a z rfl))
      · rw [gI_sn hr]; exact hq.2.2 b y hb
      · rw [List.length_append, List.length_singleton]
      · simp [w1, w2, w3, w4, w5, w6]
end
