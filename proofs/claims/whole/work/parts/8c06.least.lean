/-! THE LEAST NUMBER OF STEPS: the reference walks, the class has it (pure) -/
section
variable {k n : Nat} {D : List Df} {L : lT} {B0 B : iT} {J0 J : jT} {Q Rn Rc : Nat → Prop}
theorem le_alt {R : sc_12leastT} (h189 : B 189 = B0 189) (h191 : B 191 = B0 191) (x1 x3 x4 : Int32) : ∀ (bl : List Alt) (x : Int32) (best c f : Nat), altR B0 J0 Q x bl → (∀ e ∈ bl, e.2.2.2.2.2.2 ≤ 80 ∧ R B J (nI e.2.2.2.2.1) = some (nI e.2.2.2.2.2.2)) → best ≤ 80 → bl.length < f → mX12_least_105 R f B J x1 (nI c) x3 x4 (nI best) x = some (nI (c + min best (minA bl))) := by
  intro bl
  induction bl with
  | nil =>
    intro x best c f h _ hb hf
    obtain ⟨f, rfl⟩ : ∃ y, f = y + 1 := ⟨f - 1, by omega⟩
    have hx : x = -1 := h
    rw [mX12_least_105, if_pos hx, nI_add]
    show _ = some (nI (c + min best 80))
    rw [Nat.min_eq_left hb]
  | cons e l ih =>
    intro x best c f h he hb hf
    obtain ⟨f, rfl⟩ : ∃ y, f = y + 1 := ⟨f - 1, by omega⟩
    rw [List.length_cons] at hf
    obtain ⟨a1, a2, a3, a4, a5, a6⟩ := h
    obtain ⟨b1, b2⟩ := he e (List.mem_cons_self ..)
    have ih' := fun y hy => ih (B0 191 e.1) y c f a6 (fun e' h' => he e' (List.mem_cons_of_mem _ h')) hy (by omega)
    have g189 : B 189 (nI e.1).toNatClampNeg = nI e.2.2.2.2.1 := by rw [congrArg (B 189) (cl28 a2), h189]; exact a5
    have g191 : B 191 (nI e.1).toNatClampNeg = B0 191 e.1 := by rw [congrArg (B 191) (cl28 a2), h191]
    rw [mX12_least_105, a1, if_neg (nIm (by omega)), if_pos (in28 a2), g189, b2, sb, if_neg (nIm (by omega))]
    unfold mX12_least_137 mX12_least_144
    rw [if_pos (in28 a2), if_pos (in28 a2), g191]
    show _ = some (nI (c + min best (min e.2.2.2.2.2.2 (minA l))))
    by_cases q : best ≤ e.2.2.2.2.2.2
    · rw [if_pos (nI_le q (by omega)), ih' best hb, show min best (minA l) = min best (min e.2.2.2.2.2.2 (minA l)) by omega]
    · rw [if_neg (nI_ge (by omega) (by omega)), ih' _ b1]
      exact congrArg (fun y => some (nI (c + y))) (show min e.2.2.2.2.2.2 (minA l) = min best (min e.2.2.2.2.2.2 (minA l)) by omega)
theorem le_alt1 {R : sc_12leastT} (h189 : B 189 = B0 189) (h191 : B 191 = B0 191) (x1 x3 x4 : Int32) {bl : List Alt} {x : Int32} {c f : Nat} (h : altR B0 J0 Q x bl) (he : ∀ e ∈ bl, e.2.2.2.2.2.2 ≤ 80 ∧ R B J (nI e.2.2.2.2.1) = some (nI e.2.2.2.2.2.2)) (h1 : 1 ≤ bl.length) (hf : bl.length < f) : mX12_least_105 R f B J x1 (nI c) x3 x4 (-1) x = some (nI (c + minA bl)) := by
  obtain ⟨f, rfl⟩ : ∃ y, f = y + 1 := ⟨f - 1, by omega⟩
  cases bl with
  | nil => exact absurd h1 (by rw [List.length_nil]; omega)
  | cons e l =>
    rw [List.length_cons] at hf
    obtain ⟨a1, a2, a3, a4, a5, a6⟩ := h
    obtain ⟨b1, b2⟩ := he e (List.mem_cons_self ..)
    have g189 : B 189 (nI e.1).toNatClampNeg = nI e.2.2.2.2.1 := by rw [congrArg (B 189) (cl28 a2), h189]; exact a5
    have g191 : B 191 (nI e.1).toNatClampNeg = B0 191 e.1 := by rw [congrArg (B 191) (cl28 a2), h191]
    rw [mX12_least_105, a1, if_neg (nIm (by omega)), if_pos (in28 a2), g189, b2, sb, if_pos rfl]
    unfold mX12_least_137 mX12_least_144
    rw [if_pos (in28 a2), g191]
    exact le_alt (J0 := J0) (Q := Q) h189 h191 x1 x3 x4 l (B0 191 e.1) _ c f a6 (fun e' h' => he e' (List.mem_cons_of_mem _ h')) b1 (by omega)
theorem minA_80 : ∀ (l : List Alt), minA l ≤ 80 := by
  intro l
  induction l with
  | nil => exact Nat.le_refl 80
  | cons e l ih =>
    show min e.2.2.2.2.2.2 (minA l) ≤ 80
    omega
theorem lw_go {R : sc_12leastT} (h188 : B 188 = B0 188) (h191 : B 191 = B0 191) {u w u' c f : Nat} (hu : u < 2800) (hw : B0 188 u = nI w) (hwl : w = 41 ∨ w = 42 ∨ w = 43 ∨ w = 44 ∨ w = 45 ∨ w = 46 ∨ w = 48 ∨ w = 51) (hn : B0 191 u = nI u') (x1 : Int32) : mX12_least_4 R (f + 1) B J x1 (nI c) (nI u) = mX12_least_4 R f B J x1 (nI (c + 1)) (nI u') := by
  have g188 : B 188 (nI u).toNatClampNeg = nI w := by rw [congrArg (B 188) (cl28 hu), h188]; exact hw
  have g191 : B 191 (nI u).toNatClampNeg = nI u' := by rw [congrArg (B 191) (cl28 hu), h191]; exact hn
  rw [mX12_least_4, g188, g191, nI_1]
  simp only [if_pos (in28 hu)]
  rcases hwl with rfl | rfl | rfl | rfl | rfl | rfl | rfl | rfl <;> rfl
theorem lw_end {R : sc_12leastT} (h188 : B 188 = B0 188) {u w c f : Nat} (hu : u < 2800) (hw : B0 188 u = nI w) (hwl : w = 40 ∨ w = 49 ∨ w = 50) (x1 : Int32) : mX12_least_4 R (f + 1) B J x1 (nI c) (nI u) = some (nI (c + 1)) := by
  have g188 : B 188 (nI u).toNatClampNeg = nI w := by rw [congrArg (B 188) (cl28 hu), h188]; exact hw
  rw [mX12_least_4, if_pos (in28 hu), g188, nI_1]
  rcases hwl with rfl | rfl | rfl <;> rfl
theorem le_all (hB : ∀ q, 188 ≤ q → q ≤ 191 → B q = B0 q) (hJ : J 192 = J0 192) : ∀ (m u κ l : Nat) (Γ : Gm), PR k n D L B0 J0 Q Rn Rc m u κ l Γ → m ≤ 250 → l ≤ m ∧ ∀ (fu lf c : Nat) (x1 : Int32), m ≤ fu + 1 → m ≤ lf → mX12_least_4 (sc_12least fu) lf B J x1 (nI c) (nI u) = some (nI (c + l)) := by
  have h188 := hB 188 (by omega) (by omega)
  have h189 := hB 189 (by omega) (by omega)
  have h190 := hB 190 (by omega) (by omega)
  have h191 := hB 191 (by omega) (by omega)
  intro m
  induction m with
  | zero => intro u κ l Γ h; exact h.elim
  | succ m ih =>
    intro u κ l Γ h hm
    obtain ⟨hu, hq, hκ, hr, hh⟩ := h
    have go : ∀ {w u' l' κ' : Nat} {Γ' : Gm}, B0 188 u = nI w → (w = 41 ∨ w = 42 ∨ w = 43 ∨ w = 44 ∨ w = 45 ∨ w = 46 ∨ w = 48 ∨ w = 51) → B0 191 u = nI u' → PR k n D L B0 J0 Q Rn Rc m u' κ' l' Γ' → l = l' + 1 → l ≤ m + 1 ∧ ∀ (fu lf c : Nat) (x1 : Int32), m + 1 ≤ fu + 1 → m + 1 ≤ lf → mX12_least_4 (sc_12least fu) lf B J x1 (nI c) (nI u) = some (nI (c + l)) := by
      intro w u' l' κ' Γ' a1 a2 a3 a4 a5
      obtain ⟨i1, i2⟩ := ih u' κ' l' Γ' a4 (by omega)
      refine ⟨by omega, fun fu lf c x1 hf hl => ?_⟩
      obtain ⟨lf, rfl⟩ : ∃ y, lf = y + 1 := ⟨lf - 1, by omega⟩
      rw [lw_go h188 h191 hu a1 a2 a3, i2 fu lf (c + 1) x1 (by omega) (by omega), a5, show c + 1 + l' = c + (l' + 1) by omega]
    have fin : ∀ {w : Nat}, B0 188 u = nI w → (w = 40 ∨ w = 49 ∨ w = 50) → l = 1 → l ≤ m + 1 ∧ ∀ (fu lf c : Nat) (x1 : Int32), m + 1 ≤ fu + 1 → m + 1 ≤ lf → mX12_least_4 (sc_12least fu) lf B J x1 (nI c) (nI u) = some (nI (c + l)) := by
      intro w a1 a2 a3
      refine ⟨by omega, fun fu lf c x1 hf hl => ?_⟩
      obtain ⟨lf, rfl⟩ : ∃ y, lf = y + 1 := ⟨lf - 1, by omega⟩
      rw [lw_end h188 hu a1 a2, a3]
    have one : ∀ {u' κ' l' : Nat} {Γ' : Gm} {fu : Nat}, PR k n D L B0 J0 Q Rn Rc m u' κ' l' Γ' → m ≤ fu → sc_12least fu B J (nI u') = some (nI l') ∧ l' ≤ m := by
      intro u' κ' l' Γ' fu a1 a2
      obtain ⟨i1, i2⟩ := ih u' κ' l' Γ' a1 (by omega)
      refine ⟨?_, i1⟩
      obtain ⟨fu, rfl⟩ : ∃ y, fu = y + 1 := by
        cases fu with
        | zero =>
          have : m = 0 := by omega
          subst this
          exact a1.elim
        | succ y => exact ⟨y, rfl⟩
      have := i2 fu LF 0 (nI u') (by omega) (by unfold LF; omega)
      rw [Nat.zero_add] at this
      exact this
    rcases hh with ⟨t, b1, b2, b3, b4, b5, b6, b7, b8⟩ | ⟨i, t, u', l', b1, b2, b3, b4, b5, b6, b7, b8, b9, b10⟩ | ⟨i, t, t', ex, root, f1, d, u', l', b1, b2, b3, b4, b5, b6, b7, b9, b10, b11, b12, b13, b14⟩ | ⟨i, t, t', u', l', b1, b2, b3, b4, b5, b6, b7, b9, b11, b12, b13, b14⟩ | ⟨i, j, t, t1, t2, u', l', b1, b2, b3, b4, b5, b6, b7, b8, b10, b11, b12, b13, b14, b15, b16, b17⟩ | ⟨i, t, t1, t2, u', l', b1, b2, b3, b4, b5, b6, b7, b8, b9, b11, b12, b13, b14⟩ | ⟨i, t, fs, mm, j, w, t', u', l', b1, b2, b3, b4, b5, b6, b7, b8, b9, b10, b11, b12, b13, b14, b15, b16, b17⟩ | ⟨i, t, fs, mm, a, bl, b1, b2, b3, b4, b5, b6, b7, b8, b9, b10, b11, b12, b13, b14, b15, b16, b17, b18⟩ | ⟨fd, df, a, Γ1, u', l', b1, b2, b3, b4, b5, b6, b7, b8, b10, b11, b12, b13⟩ | ⟨fd, df, a, Γ1, b1, b2, b3, b4, b5, b6, b7, b8, b9, b10⟩ | ⟨j, t, b1, b2, b3, b4, b5, b6, b7, b8, b9, b10, b11⟩ | ⟨ex, root, f1, d, u', l', b1, b2, b3, b4, b5, b6, b7, b8⟩ | ⟨ex, root, f1, d, uy, un, κ2, l1, l2, b1, b2, b3, b4, b5, b6, b7, b8, b9, b10, b11⟩
    · exact fin (w := 40) b1 (by omega) b8
    · exact go (w := 41) b1 (by omega) b8 b10 b9
    · exact go (w := 42) b1 (by omega) b12 b14 b13
    · exact go (w := 43) b1 (by omega) b12 b14 b13
    · exact go (w := 44) b1 (by omega) b15 b17 b16
    · exact go (w := 45) b1 (by omega) b12 b14 b13
    · exact go (w := 46) b1 (by omega) b15 b17 b16
    · have hel : ∀ fu, m ≤ fu → ∀ e ∈ bl, e.2.2.2.2.2.2 ≤ 80 ∧ sc_12least fu B J (nI e.2.2.2.2.1) = some (nI e.2.2.2.2.2.2) := fun fu hf e he => ⟨b15.2 e he, (one (b18 e he).2.2.2.2.2.2.2 hf).1⟩
      have hne : 1 ≤ bl.length := by rw [b15.1]; exact b9
      have hlm : minA bl ≤ m := by
        cases hb : bl with
        | nil => rw [hb] at hne; exact absurd hne (by rw [List.length_nil]; omega)
        | cons e l0 =>
          have he : e ∈ bl := by rw [hb]; exact List.mem_cons_self ..
          have h1 := minA_le bl e he
          have h2 := (one (fu := m) (b18 e he).2.2.2.2.2.2.2 (Nat.le_refl m)).2
          rw [hb] at h1
          omega
      refine ⟨by omega, fun fu lf c x1 hf hl => ?_⟩
      obtain ⟨lf, rfl⟩ : ∃ y, lf = y + 1 := ⟨lf - 1, by omega⟩
      have g188 : B 188 (nI u).toNatClampNeg = 47 := by rw [congrArg (B 188) (cl28 hu), h188]; exact b1
      have g190 : B 190 (nI u).toNatClampNeg = B0 190 u := by rw [congrArg (B 190) (cl28 hu), h190]
      rw [mX12_least_4, if_pos (in28 hu), g188, if_neg (by decide), if_neg (by decide), if_neg (by decide), if_neg (by decide), if_pos rfl, if_pos (in28 hu), g190, nI_1, le_alt1 (J0 := J0) (Q := Q) h189 h191 x1 (nI u) 47 b14 (hel fu (by omega)) hne (by unfold LF; omega), b16, show c + 1 + minA bl = c + (1 + minA bl) by omega]
    · exact go (w := 48) b1 (by omega) b11 b13 b12
    · exact fin (w := 49) b1 (by omega) b10
    · exact fin (w := 50) b1 (by omega) b11
    · exact go (w := 51) b1 (by omega) b6 b8 b7
    · have g188 : B 188 (nI u).toNatClampNeg = 52 := by rw [congrArg (B 188) (cl28 hu), h188]; exact b1
      have g190 : B 190 (nI u).toNatClampNeg = nI uy := by rw [congrArg (B 190) (cl28 hu), h190]; exact b6
      have g192 : (J 192 (nI u).toNatClampNeg).toInt32 = nI un := by rw [congrArg (J 192) (cl28 hu), hJ, b7, lN_i]
      have k1 := (one (fu := m) b10 (Nat.le_refl m)).2
      have k2 := (one (fu := m) b11 (Nat.le_refl m)).2
      refine ⟨by omega, fun fu lf c x1 hf hl => ?_⟩
      obtain ⟨lf, rfl⟩ : ∃ y, lf = y + 1 := ⟨lf - 1, by omega⟩
      rw [mX12_least_4, if_pos (in28 hu), g188, if_pos rfl, if_pos (in28 hu), g190, (one (fu := fu) b10 (by omega)).1, sb, if_pos (in28 hu), g192, (one (fu := fu) b11 (by omega)).1, sb]
      unfold mX12_least_59
      rw [nI_add, nI_add, b9]
      by_cases q : l2 ≤ l1
      · rw [if_pos (nI_le q (by omega)), Nat.min_eq_right q]
      · rw [if_neg (nI_ge (by omega) (by omega)), Nat.min_eq_left (by omega)]
theorem le_ok (hB : ∀ q, 188 ≤ q → q ≤ 191 → B q = B0 q) (hJ : J 192 = J0 192) {m u κ l : Nat} {Γ : Gm} (h : PR k n D L B0 J0 Q Rn Rc m u κ l Γ) (hm : m ≤ 250) : mX12_least SF B J (nI u) = some (nI l) := by
  have := (le_all hB hJ m u κ l Γ h hm).2 449 LF 0 (nI u) (by omega) (by unfold LF; omega)
  rw [Nat.zero_add] at this
  exact this
end
