/-! WHO IS READY, in both (pure) -/
def rdF (P : Nat → Bool) : Nat → Nat → List Nat
  | _, 0 => []
  | x, c + 1 => if P x then x :: rdF P (x + 1) c else rdF P (x + 1) c
def rdB (R : lT) (B : iT) (x : Nat) : Bool := decide (gI (R 168) x = 0) && decide (mX12_waits B (nI x) = some 0)
theorem rdF_len (P : Nat → Bool) : ∀ (c x : Nat), (rdF P x c).length ≤ c := by
  intro c
  induction c with
  | zero => intro x; exact Nat.le_refl _
  | succ c ih =>
    intro x
    rw [rdF]
    have := ih (x + 1)
    split
    · rw [List.length_cons]; omega
    · omega
theorem rdF_mem (P : Nat → Bool) : ∀ (c x y : Nat), y ∈ rdF P x c → x ≤ y ∧ y < x + c ∧ P y = true := by
  intro c
  induction c with
  | zero => intro x y h; cases h
  | succ c ih =>
    intro x y h
    rw [rdF] at h
    split at h
    · rename_i hP
      rcases List.mem_cons.mp h with e | e
      · subst e; exact ⟨by omega, by omega, hP⟩
      · have := ih _ _ e; exact ⟨by omega, by omega, this.2.2⟩
    · have := ih _ _ h; exact ⟨by omega, by omega, this.2.2⟩
theorem rdF_eq {P P' : Nat → Bool} : ∀ (c x : Nat), (∀ y, x ≤ y → y < x + c → P y = P' y) → rdF P x c = rdF P' x c := by
  intro c
  induction c with
  | zero => intro x _; rfl
  | succ c ih =>
    intro x h
    rw [rdF, rdF, h x (by omega) (by omega), ih (x + 1) (fun y h1 h2 => h y (by omega) (by omega))]
/-- the first one from x on -/
theorem rdF_cons {P : Nat → Bool} : ∀ (c x y : Nat) (l : List Nat), rdF P x c = y :: l → ∃ c', x ≤ y ∧ y + 1 + c' = x + c ∧ l = rdF P (y + 1) c' ∧ P y = true ∧ ∀ w, x ≤ w → w < y → P w = false := by
  intro c
  induction c with
  | zero => intro x y l h; cases h
  | succ c ih =>
    intro x y l h
    rw [rdF] at h
    by_cases hP : P x = true
    · rw [if_pos hP] at h
      injection h with h1 h2
      subst h1
      exact ⟨c, Nat.le_refl _, by omega, h2.symm, hP, fun w _ _ => by omega⟩
    · rw [if_neg hP] at h
      obtain ⟨c', g1, g2, g3, g4, g5⟩ := ih _ _ _ h
      refine ⟨c', by omega, by omega, g3, g4, fun w w1 w2 => ?_⟩
      rcases Nat.lt_or_ge x w with q | q
      · exact g5 w (by omega) w2
      · have : w = x := by omega
        subst this
        simpa using hP
section
variable {sp : Int32} {k h md : Nat} {D : List Df} {L : lT} {B0 : iT} {J0 : jT} {F : fT} {I B : iT} {J : jT} {np nm dn sd : Nat} {R : lT} {z : Nat → Prop} {p : Nat}
theorem run_180 (H : RUN sp k h md D L B0 J0 F I B J np nm dn sd R z) {I' : iT} {R' : lT} (hK : RK I' k L) (hN : RN I' R') (hR : ∀ a, a ≠ 180 → a ≠ 178 → R' a = R a) (h148 : ∀ i, I' 148 i = I 148 i) : RUN sp k h md D L B0 J0 F I' B J np nm dn sd R' z := by
  obtain ⟨s1, s2, s3, s4, s5, s6, s7, s8, Γ, ch, rl, dp, ow, Gt, Ht, q, mr, rk, t1, t2, t3, t4, t5, t6⟩ := H
  obtain ⟨⟨z1, z2, z3, z4, z5, z6, z7⟩, z8⟩ := s6
  obtain ⟨n1, n2, n3, n4, n5, n6, n7, n8, n9, n10, n11, n12⟩ := s7
  rw [← hR 158 (by omega) (by omega), ← hR 160 (by omega) (by omega), show (fun x => gI (R 168) x = 0) = (fun x => gI (R' 168) x = 0) by rw [hR 168 (by omega) (by omega)]] at t1
  refine ⟨s1, s2, s3, hK, hN, ⟨⟨by rw [hR 164 (by omega) (by omega)]; exact z1, by rw [hR 166 (by omega) (by omega)]; exact z2, by rw [hR 168 (by omega) (by omega)]; exact z3, by rw [hR 170 (by omega) (by omega)]; exact z4, by rw [hR 172 (by omega) (by omega)]; exact z5, by rw [hR 174 (by omega) (by omega)]; exact z6, by rw [hR 176 (by omega) (by omega)]; exact z7⟩, fun y hy => ?_⟩, ⟨n1, n2, by rw [h148]; exact n3, n4, n5, n6, n7, by rw [h148]; exact n8, n9, n10, by rw [h148]; exact n11, n12⟩, ?_, Γ, ch, rl, dp, ow, Gt, Ht, q, mr, rk, t1, chc_keep t2 (hR 150 (by omega) (by omega)) (fun _ => rfl), fun x hx => by rw [hR 168 (by omega) (by omega)]; exact t3 x hx, chl_keep t4 (fun a _ _ => hR a (by omega) (by omega)), qal_keep t5 (fun a _ _ => hR a (by omega) (by omega)) (fun _ _ _ _ => rfl) (fun _ => rfl), fun y hy hal => ?_⟩
  · rw [hR 168 (by omega) (by omega), hR 170 (by omega) (by omega), hR 174 (by omega) (by omega), hR 164 (by omega) (by omega), hR 172 (by omega) (by omega), hR 176 (by omega) (by omega)]
    exact z8 y hy
  · unfold SAI
    rw [hR 182 (by omega) (by omega), hR 184 (by omega) (by omega)]
    exact s8
  · rw [hR 168 (by omega) (by omega)] at hal
    exact prc_keep (σ := id) (t6 y hy hal) (fun f e hf => (bk_def s1 hf).2.1) (by rw [hR 164 (by omega) (by omega)]) (by rw [hR 166 (by omega) (by omega)]) rfl (fun i _ => by rw [hR 176 (by omega) (by omega)]) (fun _ _ => rfl) (Nat.le_refl _) (fun _ _ => rfl) (fun _ _ _ => rfl) (fun h => h)
theorem run_wait (H : RUN sp k h md D L B0 J0 F I B J np nm dn sd R z) {x : Nat} (hx : x < np) (hal : gI (R 168) x = 0) : ∃ w, mX6_isWaiting I F (nI x) = some w ∧ mX12_waits B (nI x) = some w ∧ (w = 0 ∨ w = 1) := by
  obtain ⟨s1, s2, s3, s4, s5, s6, s7, s8, Γ, ch, rl, dp, ow, Gt, Ht, q, mr, rk, t1, t2, t3, t4, t5, t6⟩ := H
  obtain ⟨w, w1, w2, w3, _⟩ := wait_ok s3 s1 s2 s4 s5 s6 t1 t2 t4.2.1 t5 hx hal (t6 x hx hal)
  exact ⟨w, w1, w2, w3⟩
/-- the class's list -/
theorem fr_loop : ∀ (c x m : Nat) (I : iT) (R : lT), RUN sp k h md D L B0 J0 F I B J np nm dn sd R z → x + c = np → (R 180).length ≤ x → ∃ I' R', mX6_findReady_9 (m + c + 1) I F (nI x) = some I' ∧ RUN sp k h md D L B0 J0 F I' B J np nm dn sd R' z ∧ R' 180 = R 180 ++ (rdF (rdB R B) x c).map nI ∧ (∀ a, a ≠ 180 → R' a = R a) ∧ ∀ q, q ≠ 180 → q ≠ 181 → I' q = I q := by
  intro c
  induction c with
  | zero =>
    intro x m I R H hx hl
    have h80 := run_80 H
    refine ⟨I, R, ?_, H, by rw [rdF, List.map_nil, List.append_nil], fun _ _ => rfl, fun _ _ _ => rfl⟩
    rw [mX6_findReady_9, made_ok H, sb, if_pos (nI_le (by omega) (by omega))]
  | succ c ih =>
    intro x m I R H hx hl
    have h80 := run_80 H
    obtain ⟨hK, hN, hPC⟩ := run_RK H
    have e0 : mX6_findReady_9 (m + (c + 1) + 1) I F (nI x) = (if gI (R 168) x = 0 then (mX6_isWaiting I F (nI x)).bind fun q3 => if q3 = 0 then (mX4_add 180 I (nI x)).bind fun q4 => mX6_findReady_45 (mX6_findReady_9 (m + c + 1)) q4.2 F (nI x) else mX6_findReady_45 (mX6_findReady_9 (m + c + 1)) I F (nI x) else mX6_findReady_45 (mX6_findReady_9 (m + c + 1)) I F (nI x)) := by
      show mX6_findReady_9 (m + c + 1 + 1) I F (nI x) = _
      rw [mX6_findReady_9, made_ok H, sb, if_neg (nI_ge (by omega) (by omega)), rn_g hN (by unfold rnA; omega) (by omega), sb]
    have skip : rdB R B x = false → ∃ I' R', mX6_findReady_45 (mX6_findReady_9 (m + c + 1)) I F (nI x) = some I' ∧ RUN sp k h md D L B0 J0 F I' B J np nm dn sd R' z ∧ R' 180 = R 180 ++ (rdF (rdB R B) x (c + 1)).map nI ∧ (∀ a, a ≠ 180 → R' a = R a) ∧ ∀ q, q ≠ 180 → q ≠ 181 → I' q = I q := by
      intro hf
      obtain ⟨I', R', g1, g2, g3, g4, g5⟩ := ih (x + 1) m I R H (by omega) (by omega)
      refine ⟨I', R', ?_, g2, ?_, g4, g5⟩
      · unfold mX6_findReady_45
        rw [nI_1]; exact g1
      · rw [rdF, hf]; exact g3
    rw [e0]
    by_cases hal : gI (R 168) x = 0
    · obtain ⟨w, w1, w2, w3⟩ := run_wait H (by omega) hal
      rw [if_pos hal, w1, sb]
      rcases w3 with rfl | rfl
      · have hP : rdB R B x = true := by unfold rdB; rw [w2]; simp [hal]
        obtain ⟨I1, a1, a2, a3⟩ := rn_add hN (a := 180) (by unfold rnA; omega) (by show _ < 80; omega) (nI x)
        have hk := hK.1
        have H1 := run_180 H (I' := I1) (rk_keep hK (fun a w1 w2 => a3 a (by omega) (by omega))) a2 (fun a w1 _ => upL_n _ _ w1) (fun i => by rw [a3 148 (by omega) (by omega)])
        obtain ⟨I', R', g1, g2, g3, g4, g5⟩ := ih (x + 1) m I1 _ H1 (by omega) (by rw [upL_s, List.length_append, List.length_singleton]; omega)
        have erd : rdB (upL R 180 (R 180 ++ [nI x])) B = rdB R B := by funext y; unfold rdB; rw [upL_n _ _ (show (168 : Nat) ≠ 180 by omega)]
        refine ⟨I', R', ?_, g2, ?_, fun a ha => by rw [g4 a ha, upL_n _ _ ha], fun q w1 w2 => by rw [g5 q w1 w2, a3 q w1 w2]⟩
        · rw [if_pos rfl, a1, sb]
          unfold mX6_findReady_45
          rw [nI_1]; exact g1
        · rw [g3, upL_s, erd, rdF, if_pos hP, List.map_cons, List.append_assoc]; rfl
      · have hP : rdB R B x = false := by unfold rdB; rw [w2]; simp
        rw [if_neg (by decide)]
        exact skip hP
    · have hP : rdB R B x = false := by unfold rdB; simp [hal]
      rw [if_neg hal]
      exact skip hP
theorem fr_ok (H : RUN sp k h md D L B0 J0 F I B J np nm dn sd R z) : ∃ I' R', mX6_findReady I F = some I' ∧ RUN sp k h md D L B0 J0 F I' B J np nm dn sd R' z ∧ R' 180 = (rdF (rdB R' B) 0 np).map nI ∧ (∀ a, a ≠ 180 → R' a = R a) ∧ ∀ q, q ≠ 180 → q ≠ 181 → I' q = I q := by
  have h80 := run_80 H
  obtain ⟨hK, hN, hPC⟩ := run_RK H
  have hk := hK.1
  obtain ⟨I1, a1, a2, a3⟩ := rn_clear hN (a := 180) (by unfold rnA; omega)
  have H1 := run_180 H (I' := I1) (rk_keep hK (fun a w1 w2 => a3 a (by omega) (by omega))) a2 (fun a w1 _ => upL_n _ _ w1) (fun i => by rw [a3 148 (by omega) (by omega)])
  obtain ⟨I', R', g1, g2, g3, g4, g5⟩ := fr_loop np 0 (LF - np - 1) I1 _ H1 (by omega) (by rw [upL_s]; exact Nat.le_refl _)
  have e1 : LF - np - 1 + np + 1 = LF := by unfold LF; omega
  rw [e1] at g1
  refine ⟨I', R', ?_, g2, ?_, fun a ha => by rw [g4 a ha, upL_n _ _ ha], fun q w1 w2 => by rw [g5 q w1 w2, a3 q w1 w2]⟩
  · unfold mX6_findReady
    rw [a1, sb]
    exact g1
  · rw [g3, upL_s]
    have : rdB (upL R 180 []) B = rdB R' B := by funext y; unfold rdB; rw [g4 168 (by omega)]
    rw [this]
    rfl
/-- the reference counts them -/
theorem rdy_ok (H : RUN sp k h md D L B0 J0 F I B J np nm dn sd R z) (h65 : B 186 65 = 0) : mX12_ready B = some (nI (rdF (rdB R B) 0 np).length) := by
  have h80 := run_80 H
  have h60 : B 186 60 = nI np := H.2.2.2.2.2.2.1.1
  have h33 : B 186 33 = 1 := H.2.1.2.2.2.1
  obtain ⟨hK, hN, hPC⟩ := run_RK H
  have go : ∀ (c x cnt m : Nat), x + c = np → mX12_ready_20 (m + c + 1) B (nI cnt) (nI x) = some (nI (cnt + (rdF (rdB R B) x c).length)) := by
    intro c
    induction c with
    | zero =>
      intro x cnt m hx
      rw [mX12_ready_20, h60, if_pos (nI_le (by omega) (by omega))]
      rfl
    | succ c ih =>
      intro x cnt m hx
      have g219 : B 219 (nI x).toNatClampNeg = gI (R 168) x := by rw [congrArg (B 219) (cl80 (show x < 80 by omega)), (hPC.2 x (by omega)).2.1]
      have e1 : (1 : Int32) = nI 1 := rfl
      show mX12_ready_20 (m + c + 1 + 1) B (nI cnt) (nI x) = _
      rw [mX12_ready_20, h60, if_neg (nI_ge (by omega) (by omega)), if_pos (in80 (by omega)), g219]
      unfold mX12_ready_50 mX12_ready_51
      have s0 : nI cnt + 0 = nI cnt := nI_add cnt 0
      by_cases hal : gI (R 168) x = 0
      · obtain ⟨w, w1, w2, w3⟩ := run_wait H (by omega) hal
        rw [if_pos hal, w2, sb]
        rcases w3 with rfl | rfl
        · have hP : rdB R B x = true := by unfold rdB; rw [w2]; simp [hal]
          rw [if_pos rfl, nI_1, nI_1, ih (x + 1) (cnt + 1) m (by omega), rdF, if_pos hP, List.length_cons]
          congr 2
          omega
        · have hP : rdB R B x = false := by unfold rdB; rw [w2]; simp
          rw [if_neg (by decide), s0, nI_1, ih (x + 1) cnt m (by omega), rdF, hP]
          rfl
      · have hP : rdB R B x = false := by unfold rdB; simp [hal]
        rw [if_neg hal, s0, nI_1, ih (x + 1) cnt m (by omega), rdF, hP]
        rfl
  have e1 : LF - np - 1 + np + 1 = LF := by unfold LF; omega
  have := go np 0 0 (LF - np - 1) (by omega)
  rw [e1, Nat.zero_add] at this
  unfold mX12_ready
  rw [h33, if_neg (by decide), if_pos h65]
  exact this
/-- the reference looks for the j-th -/
theorem w28 (H : RUN sp k h md D L B0 J0 F I B J np nm dn sd R z) {K : iT → Int32 → Int32 → Int32 → Option Int32} (x1 x3 : Int32) : ∀ (c x m y : Nat) (l : List Nat), x + c = np → rdF (rdB R B) x c = y :: l → mX12_which_28 K (m + c + 1) B x1 (nI x) x3 = K B x1 (nI y) (x3 + 1) := by
  have h80 := run_80 H
  obtain ⟨hK, hN, hPC⟩ := run_RK H
  intro c
  induction c with
  | zero => intro x m y l hx h; cases h
  | succ c ih =>
    intro x m y l hx h
    have g219 : B 219 (nI x).toNatClampNeg = gI (R 168) x := by rw [congrArg (B 219) (cl80 (show x < 80 by omega)), (hPC.2 x (by omega)).2.1]
    show mX12_which_28 K (m + c + 1 + 1) B x1 (nI x) x3 = _
    rw [mX12_which_28, if_pos (in80 (by omega)), g219]
    rw [rdF] at h
    by_cases hal : gI (R 168) x = 0
    · obtain ⟨w, w1, w2, w3⟩ := run_wait H (by omega) hal
      rw [if_pos hal, w2, sb]
      rcases w3 with rfl | rfl
      · have hP : rdB R B x = true := by unfold rdB; rw [w2]; simp [hal]
        rw [if_pos hP] at h
        injection h with h1 h2
        subst h1
        rw [if_pos rfl]
      · have hP : ¬ rdB R B x = true := by unfold rdB; rw [w2]; simp
        rw [if_neg hP] at h
        rw [if_neg (by decide), mX12_which_45, nI_1]
        exact ih (x + 1) m y l (by omega) h
    · have hP : ¬ rdB R B x = true := by unfold rdB; simp [hal]
      rw [if_neg hP] at h
      rw [if_neg hal, mX12_which_45, nI_1]
      exact ih (x + 1) m y l (by omega) h
theorem w20 (H : RUN sp k h md D L B0 J0 F I B J np nm dn sd R z) : ∀ (d x c i j m y : Nat) (x2 : Int32), x + c = np → x2 + 1 = nI x → i + d = j → j < 200 → (rdF (rdB R B) x c)[d]? = some y → mX12_which_20 (m + d + 2) B (nI j) x2 (nI i) = some (nI y) := by
  have h80 := run_80 H
  intro d
  induction d with
  | zero =>
    intro x c i j m y x2 hx h2 hi hj hy
    cases hl : rdF (rdB R B) x c with
    | nil => rw [hl] at hy; cases hy
    | cons y0 l =>
      rw [hl] at hy
      have e0 : y0 = y := Option.some.inj hy
      subst e0
      have e1 : LF - c - 1 + c + 1 = LF := by unfold LF; omega
      have g := w28 (K := mX12_which_20 (m + 0 + 1)) H (nI j) (nI i) c x (LF - c - 1) y0 l hx hl
      rw [e1] at g
      show mX12_which_20 (m + 0 + 1 + 1) B (nI j) x2 (nI i) = _
      rw [mX12_which_20, if_neg (fun w => by
        have : nI j ≥ nI i := nI_le (by omega) (by omega)
        exact absurd w (Int32.not_lt.mpr this)), h2, g, nI_1]
      show mX12_which_20 (m + 1) B (nI j) (nI y0) (nI (i + 1)) = _
      rw [mX12_which_20, if_pos (nI_lt (by omega) (by omega))]
  | succ d ih =>
    intro x c i j m y x2 hx h2 hi hj hy
    cases hl : rdF (rdB R B) x c with
    | nil => rw [hl] at hy; cases hy
    | cons y0 l =>
      rw [hl] at hy
      have hy' : l[d]? = some y := hy
      obtain ⟨c', g1, g2, g3, g4, g5⟩ := rdF_cons c x y0 l hl
      have e1 : LF - c - 1 + c + 1 = LF := by unfold LF; omega
      have g := w28 (K := mX12_which_20 (m + d + 2)) H (nI j) (nI i) c x (LF - c - 1) y0 l hx hl
      rw [e1] at g
      show mX12_which_20 (m + d + 2 + 1) B (nI j) x2 (nI i) = _
      rw [mX12_which_20, if_neg (fun w => by
        have : nI j ≥ nI i := nI_le (by omega) (by omega)
        exact absurd w (Int32.not_lt.mpr this)), h2, g, nI_1]
      exact ih (y0 + 1) c' (i + 1) j m y (nI y0) (by omega) (nI_1 _) (by omega) hj (by rw [← g3]; exact hy')
end
