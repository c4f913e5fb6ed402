/-! THE REFERENCE PUTS A BRANCH TO ITS PLACE (pure) -/
def chainP (B : iT) (J : jT) : Int32 → List Br → Int32 → Prop
  | x, [], y => x = y
  | x, e :: l, y => x = nI e.1 ∧ e.1 < 2800 ∧ B 188 e.1 = 8 ∧ B 189 e.1 = nI e.2.2.1 ∧ B 190 e.1 = -1 ∧ J 192 e.1 = lN (rN e.2.1) ∧ chainP B J (B 191 e.1) l y
theorem chain_app {B : iT} {J : jT} : ∀ (a c : List Br) (x : Int32), chain B J x (a ++ c) ↔ ∃ y, chainP B J x a y ∧ chain B J y c := by
  intro a
  induction a with
  | nil =>
    intro c x
    exact ⟨fun h => ⟨x, rfl, h⟩, fun ⟨y, h1, h2⟩ => by rw [show x = y from h1]; exact h2⟩
  | cons e a ih =>
    intro c x
    constructor
    · intro h
      obtain ⟨h1, h2, h3, h4, h5, h6, h7⟩ := h
      obtain ⟨y, g1, g2⟩ := (ih c _).mp h7
      exact ⟨y, ⟨h1, h2, h3, h4, h5, h6, g1⟩, g2⟩
    · intro h
      obtain ⟨y, ⟨h1, h2, h3, h4, h5, h6, h7⟩, g2⟩ := h
      exact ⟨h1, h2, h3, h4, h5, h6, (ih c _).mpr ⟨y, h7, g2⟩⟩
theorem chainP_snoc {B : iT} {J : jT} : ∀ (a : List Br) (e : Br) (x y : Int32), chainP B J x (a ++ [e]) y ↔ chainP B J x a (nI e.1) ∧ e.1 < 2800 ∧ B 188 e.1 = 8 ∧ B 189 e.1 = nI e.2.2.1 ∧ B 190 e.1 = -1 ∧ J 192 e.1 = lN (rN e.2.1) ∧ B 191 e.1 = y := by
  intro a
  induction a with
  | nil =>
    intro e x y
    exact ⟨fun ⟨h1, h2, h3, h4, h5, h6, h7⟩ => ⟨h1, h2, h3, h4, h5, h6, h7⟩, fun ⟨h1, h2, h3, h4, h5, h6, h7⟩ => ⟨h1, h2, h3, h4, h5, h6, h7⟩⟩
  | cons z a ih =>
    intro e x y
    constructor
    · intro h
      obtain ⟨h1, h2, h3, h4, h5, h6, h7⟩ := h
      obtain ⟨g1, g2⟩ := (ih e _ y).mp h7
      exact ⟨⟨h1, h2, h3, h4, h5, h6, g1⟩, g2⟩
    · intro h
      obtain ⟨⟨h1, h2, h3, h4, h5, h6, h7⟩, g2⟩ := h
      exact ⟨h1, h2, h3, h4, h5, h6, (ih e _ y).mpr ⟨h7, g2⟩⟩
theorem chainP_to {B B' : iT} {J J' : jT} : ∀ (bl : List Br) (x y : Int32), (∀ e ∈ bl, B' 188 e.1 = B 188 e.1 ∧ B' 189 e.1 = B 189 e.1 ∧ B' 190 e.1 = B 190 e.1 ∧ B' 191 e.1 = B 191 e.1 ∧ J' 192 e.1 = J 192 e.1) → chainP B J x bl y → chainP B' J' x bl y := by
  intro bl
  induction bl with
  | nil => intro x y _ h; exact h
  | cons e l ih =>
    intro x y ha h
    obtain ⟨a1, a2, a3, a4, a5⟩ := ha e (by simp)
    obtain ⟨h1, h2, h3, h4, h5, h6, h7⟩ := h
    exact ⟨h1, h2, by rw [a1]; exact h3, by rw [a2]; exact h4, by rw [a3]; exact h5, by rw [a5]; exact h6, by rw [a4]; exact ih _ _ (fun e' he => ha e' (by simp [he])) h7⟩
/-- what the new state may differ in -/
def insF (b c0 : Nat) (bl : List Br) (B B' : iT) : Prop := ∀ q i, ¬ (q = 191 ∧ (i = b ∨ ∃ e ∈ bl, i = e.1)) → ¬ (q = 189 ∧ i = c0) → B' q i = B q i
theorem ins_end {R : sc_12choiceT} {k22 : iT → jT → Int32 → Int32 → Int32 → Option (Int32 × iT × jT)} {B : iT} {J : jT} {x1 x3 : Int32} {w4 : Int64} {b c0 : Nat} {e : Br} (he1 : e.1 = b) (hb : b < 2800) (hc0 : c0 < 2800) (hbc : b ≠ c0) (f1 : B 188 b = 8) (f2 : B 189 b = nI e.2.2.1) (f3 : B 190 b = -1) (f4 : J 192 b = lN (rN e.2.1)) (a c : List Br) (x : Int32) (hP : chainP B J (B 189 c0) a x) (hC : chain B J x c) (hnd : ((a ++ c).map (fun z => z.1)).Nodup) (hna : ∀ z ∈ a ++ c, z.1 ≠ b ∧ z.1 ≠ c0) (x7 x8 : Int32) (h7 : (a = [] ∧ x7 = -1) ∨ ∃ a0 z, a = a0 ++ [z] ∧ x7 = nI z.1) :
    ∃ B', mX12_choice_182 R k22 B J x1 (nI c0) x3 w4 (nI b) x7 x8 = mX12_choice_237 R k22 B' J x1 (nI c0) x3 w4 (nI b) x7 x8 ∧ chain B' J (B' 189 c0) (a ++ e :: c) ∧ insF b c0 (a ++ c) B B' := by
  have ib := in28 hb
  have ic := in28 hc0
  have cb := cl28 hb
  have cc := cl28 hc0
  rcases h7 with ⟨q1, q2⟩ | ⟨a0, z, q1, q2⟩
  · subst q1
    have hx : B 189 c0 = x := hP
    have fr : ∀ q i, ¬ (q = 191 ∧ i = b) → ¬ (q = 189 ∧ i = c0) → (a_u2 (a_u2 B 191 b x) 189 c0 (nI b)) q i = B q i := fun q i h1 h2 => by rw [a_u2_n _ _ h2, a_u2_n _ _ h1]
    refine ⟨a_u2 (a_u2 B 191 b x) 189 c0 (nI b), ?_, ?_, fun q i h1 h2 => fr q i (fun z => h1 ⟨z.1, Or.inl z.2⟩) h2⟩
    · unfold mX12_choice_182 mX12_choice_210
      rw [if_pos q2, if_pos ic, if_pos ib, if_pos q2, if_pos ic, cb, cc, hx]
    · rw [a_u2_s]
      refine ⟨by rw [he1], by rw [he1]; exact hb, ?_, ?_, ?_, ?_, ?_⟩
      · rw [he1, fr _ _ (by omega) (by omega)]; exact f1
      · rw [he1, fr _ _ (by omega) (by omega)]; exact f2
      · rw [he1, fr _ _ (by omega) (by omega)]; exact f3
      · rw [he1]; exact f4
      · rw [he1, a_u2_n _ _ (by omega), a_u2_s]
        refine chain_to c x (fun y hy => ?_) hC
        have := hna y (by simp [hy])
        exact ⟨fr _ _ (by omega) (by omega), fr _ _ (by omega) (by omega), fr _ _ (by omega) (by omega), fr _ _ (by omega) (by omega), rfl⟩
  · subst q1
    obtain ⟨g1, g2, g3, g4, g5, g6, g7⟩ := (chainP_snoc a0 z _ x).mp hP
    have iz := in28 g2
    have cz := cl28 g2
    have hz := hna z (by simp)
    have h7n : ¬ x7 = -1 := by rw [q2]; exact nIm (by omega)
    have fr : ∀ q i, ¬ (q = 191 ∧ i = b) → ¬ (q = 191 ∧ i = z.1) → (a_u2 (a_u2 B 191 b x) 191 z.1 (nI b)) q i = B q i := fun q i h1 h2 => by rw [a_u2_n _ _ h2, a_u2_n _ _ h1]
    have hz1 : ∀ y ∈ a0 ++ c, y.1 ≠ z.1 := by
      intro y hy e
      have hnd2 : (a0.map (fun z => z.1) ++ (z.1 :: c.map (fun z => z.1))).Nodup := by
        have : ((a0 ++ [z] ++ c).map (fun z => z.1)) = a0.map (fun z => z.1) ++ (z.1 :: c.map (fun z => z.1)) := by simp
        rw [← this]; exact hnd
      rw [List.nodup_append] at hnd2
      obtain ⟨n1, n2, n3⟩ := hnd2
      rcases List.mem_append.mp hy with m | m
      · exact n3 y.1 (List.mem_map.mpr ⟨y, m, rfl⟩) z.1 (by simp) e
      · exact (List.nodup_cons.mp n2).1 (List.mem_map.mpr ⟨y, m, e⟩)
    refine ⟨a_u2 (a_u2 B 191 b x) 191 z.1 (nI b), ?_, ?_, fun q i h1 h2 => fr q i (fun y => h1 ⟨y.1, Or.inl y.2⟩) (fun y => h1 ⟨y.1, Or.inr ⟨z, by simp, y.2⟩⟩)⟩
    · unfold mX12_choice_182 mX12_choice_210
      rw [if_neg h7n, q2, if_pos iz, if_pos ib, if_neg (nIm (by omega)), if_pos iz, cb, cz, g7]
    · rw [chain_app]
      refine ⟨nI b, (chainP_snoc a0 z _ _).mpr ⟨?_, g2, ?_, ?_, ?_, g6, a_u2_s _ _ _ _⟩, ⟨by rw [he1], by rw [he1]; exact hb, ?_, ?_, ?_, ?_, ?_⟩⟩
      · rw [fr _ _ (by omega) (by omega)]
        refine chainP_to a0 _ _ (fun y hy => ?_) g1
        have h1 := hna y (by simp [hy])
        have h2 := hz1 y (by simp [hy])
        exact ⟨fr _ _ (by omega) (by omega), fr _ _ (by omega) (by omega), fr _ _ (by omega) (by omega), fr _ _ (by omega) (by omega), rfl⟩
      · rw [fr _ _ (by omega) (by omega)]; exact g3
      · rw [fr _ _ (by omega) (by omega)]; exact g4
      · rw [fr _ _ (by omega) (by omega)]; exact g5
      · rw [he1, fr _ _ (by omega) (by omega)]; exact f1
      · rw [he1, fr _ _ (by omega) (by omega)]; exact f2
      · rw [he1, fr _ _ (by omega) (by omega)]; exact f3
      · rw [he1]; exact f4
      · rw [he1, a_u2_n _ _ (by omega), a_u2_s]
        refine chain_to c x (fun y hy => ?_) hC
        have h1 := hna y (by simp [hy])
        have h2 := hz1 y (by simp [hy])
        exact ⟨fr _ _ (by omega) (by omega), fr _ _ (by omega) (by omega), fr _ _ (by omega) (by omega), fr _ _ (by omega) (by omega), rfl⟩
theorem ins_ok {R : sc_12choiceT} {k22 : iT → jT → Int32 → Int32 → Int32 → Option (Int32 × iT × jT)} {B : iT} {J : jT} {x1 x3 : Int32} {b c0 : Nat} {e : Br} (he1 : e.1 = b) (hb : b < 2800) (hc0 : c0 < 2800) (hbc : b ≠ c0) (f1 : B 188 b = 8) (f2 : B 189 b = nI e.2.2.1) (f3 : B 190 b = -1) (f4 : J 192 b = lN (rN e.2.1)) (a c : List Br) (hC : chain B J (B 189 c0) (a ++ c)) (hnd : ((a ++ c).map (fun z => z.1)).Nodup) (hna : ∀ z ∈ a ++ c, z.1 ≠ b ∧ z.1 ≠ c0) (hN : ∀ z ∈ a ++ c, isN z.2.1) (heN : isN e.2.1) (hl : ∀ z ∈ a, dlt z.2.1 e.2.1) (hg : ∀ z ∈ c, dlt e.2.1 z.2.1) (hlen : (a ++ c).length ≤ 6) :
    ∃ B' x7 x8, mX12_choice_141 R k22 LF B J x1 (nI c0) x3 (lN (rN e.2.1)) (nI b) (-1) (B 189 c0) = mX12_choice_237 R k22 B' J x1 (nI c0) x3 (lN (rN e.2.1)) (nI b) x7 x8 ∧ chain B' J (B' 189 c0) (a ++ e :: c) ∧ insF b c0 (a ++ c) B B' := by
  have eN := alN_lt heN
  have loop : ∀ (a2 a1 : List Br) (x x7 : Int32) (n : Nat), a = a1 ++ a2 → chainP B J (B 189 c0) a1 x → chain B J x (a2 ++ c) → ((a1 = [] ∧ x7 = -1) ∨ ∃ a0 z, a1 = a0 ++ [z] ∧ x7 = nI z.1) → a2.length < n → ∃ B' x7' x8, mX12_choice_141 R k22 n B J x1 (nI c0) x3 (lN (rN e.2.1)) (nI b) x7 x = mX12_choice_237 R k22 B' J x1 (nI c0) x3 (lN (rN e.2.1)) (nI b) x7' x8 ∧ chain B' J (B' 189 c0) (a ++ e :: c) ∧ insF b c0 (a ++ c) B B' := by
    intro a2
    induction a2 with
    | nil =>
      intro a1 x x7 n ha hP hx h7 hn
      obtain ⟨n, rfl⟩ : ∃ m, n = m + 1 := ⟨n - 1, by omega⟩
      rw [List.append_nil] at ha
      subst ha
      have stop : mX12_choice_141 R k22 (n + 1) B J x1 (nI c0) x3 (lN (rN e.2.1)) (nI b) x7 x = mX12_choice_182 R k22 B J x1 (nI c0) x3 (lN (rN e.2.1)) (nI b) x7 x := by
        cases c with
        | nil =>
          have e1 : x = -1 := hx
          rw [mX12_choice_141, if_pos e1]
        | cons z c' =>
          have hx' : chain B J x (z :: c') := hx
          obtain ⟨h1, h2, h3, h4, h5, h6, _⟩ := hx'
          have zN := hN z (by simp)
          have hz := hg z (by simp)
          have za := alN_lt zN
          have hle : alN e.2.1 < alN z.2.1 := (adl heN zN).mpr hz
          rw [mX12_choice_141, h1, if_neg (nIm (by omega)), if_pos (in28 h2), congrArg (J 192) (cl28 h2), h6, aligned_ok zN, sb, aligned_ok heN, sb, if_pos ((lg_ge (by omega) (by omega)).mpr (by omega))]
      rw [stop]
      obtain ⟨B', g1, g2, g3⟩ := ins_end (R := R) (k22 := k22) (x1 := x1) (x3 := x3) (w4 := lN (rN e.2.1)) he1 hb hc0 hbc f1 f2 f3 f4 a c x hP hx hnd hna x7 x h7
      exact ⟨B', x7, x, g1, g2, g3⟩
    | cons z a2 ih =>
      intro a1 x x7 n ha hP hx h7 hn
      obtain ⟨n, rfl⟩ : ∃ m, n = m + 1 := ⟨n - 1, by omega⟩
      have hx' : chain B J x (z :: (a2 ++ c)) := hx
      obtain ⟨h1, h2, h3, h4, h5, h6, hx2⟩ := hx'
      have hza : z ∈ a := by rw [ha]; simp
      have zN := hN z (by simp [hza])
      have za := alN_lt zN
      have hle : alN z.2.1 < alN e.2.1 := (adl zN heN).mpr (hl z hza)
      obtain ⟨B', y7, y8, g1, g2, g3⟩ := ih (a1 ++ [z]) (B 191 z.1) (nI z.1) n (by rw [ha]; simp) ((chainP_snoc a1 z _ _).mpr ⟨by rw [← h1]; exact hP, h2, h3, h4, h5, h6, rfl⟩) hx2 (Or.inr ⟨a1, z, rfl, rfl⟩) (by simp at hn; omega)
      refine ⟨B', y7, y8, ?_, g2, g3⟩
      have ng : ¬ 0 ≤ lg_cmp (lN (alN z.2.1)) (lN (alN e.2.1)) := fun q => by have := (lg_ge (by omega) (by omega)).mp q; omega
      rw [mX12_choice_141, h1, if_neg (nIm (by omega)), if_pos (in28 h2), congrArg (J 192) (cl28 h2), h6, aligned_ok zN, sb, aligned_ok heN, sb, if_neg ng, if_pos (in28 h2), congrArg (B 191) (cl28 h2)]
      exact g1
  obtain ⟨y, p1, p2⟩ := (chain_app ([] : List Br) (a ++ c) (B 189 c0)).mp hC
  have hy : B 189 c0 = y := p1
  have hal : a.length ≤ (a ++ c).length := by simp
  have := loop a [] (B 189 c0) (-1) LF rfl rfl hC (Or.inl ⟨rfl, rfl⟩) (by unfold LF; omega)
  exact this
