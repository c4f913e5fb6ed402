/-! channel in a run (pure) -/
theorem lg_ok {B : iT} (x1 : Int32) : ∀ (l : List Nat) (x : Int32) (c m : Nat), rq (B 225) x l → mX12_long0_9 (m + l.length + 1) B x1 (nI c) x = some (nI (c + l.length)) := by
  intro l
  induction l with
  | nil =>
    intro x c m h
    have hx : x = -1 := h
    rw [mX12_long0_9, if_pos hx]
    rfl
  | cons a l ih =>
    intro x c m h
    obtain ⟨hx, ha, h'⟩ := h
    subst hx
    show mX12_long0_9 (m + l.length + 1 + 1) B x1 (nI c) (nI a) = _
    rw [mX12_long0_9, if_neg (nIm (by omega)), if_pos (in700 ha), cl700 ha, nI_1, ih _ (c + 1) m h', List.length_cons, show c + 1 + l.length = c + (l.length + 1) by omega]
section
variable {sp : Int32} {k h md : Nat} {D : List Df} {L : lT} {B0 : iT} {J0 : jT} {F : fT} {I B : iT} {J : jT} {np nm dn sd : Nat} {R : lT} {z : Nat → Prop}
theorem chan_ok (H : RUN sp k h md D L B0 J0 F I B J np nm dn sd R z) (x1 x2 : Int32) : ∃ r, mX11_channel I x1 x2 = some r ∧ mX12_channel B x1 x2 = some r := by
  have h80 := run_80 H
  obtain ⟨s1, s2, s3, s4, s5, s6, s7, s8, Γ, ch, rl, dp, ow, Gt, Ht, q, mr, rk, t1, t2, t3, t4, t5, t6⟩ := H
  have h33 : B 186 33 = 1 := s2.2.2.2.1
  have h61 : B 186 61 = nI np := s7.2.1
  have hmd : mX1_made I = some (nI np) := by
    unfold mX1_made
    rw [rn_size s5 (by unfold rnA; omega), sb, t2.1]
  have r0 : mX12_channel B x1 x2 = (mX12_isIn x1 0 (nI np - 1)).bind fun q1 => if q1 = 0 then some ((-1)) else (mX12_isIn x2 0 1).bind fun q2 => if q2 = 0 then if x2 = 2 then if inb x1 80 then if (B 220 x1.toNatClampNeg) = x1 then some 0 else some 1 else none else some ((-1)) else (mX12_real B x1).bind fun q3 => (mX12_long0 B ((2 * q3) + x2)).bind fun q4 => some q4 := by
    unfold mX12_channel
    rw [h33, if_neg (by decide), h61]
  rw [r0]
  rcases isn_ok (n := np) (by omega) x1 with ⟨hx, e⟩ | ⟨x, hx, rfl, ⟨c, e⟩ | ⟨c, e⟩⟩
  · refine ⟨-1, ?_, by rw [e, sb, if_pos rfl]⟩
    unfold mX11_channel
    rw [if_pos hx]
  · have hfo := fo_ok s5 t2 c
    have hrl := rl_ok t2 c
    have hr1 := rl_lt t2 c
    have hr2 := rl_root t2 c
    rw [e, sb, if_neg (by decide)]
    have c0 : mX11_channel I (nI x) x2 = (if x2 = 0 then (mX1_follow I (nI x)).bind fun q2 => (mX1_count I q2 0).bind fun q3 => some q3 else if x2 = 1 then (mX1_follow I (nI x)).bind fun q4 => (mX1_count I q4 1).bind fun q5 => some q5 else if x2 = 2 then (mX1_follow I (nI x)).bind fun q6 => if q6 = nI x then some 0 else some 1 else some ((-1))) := by
      unfold mX11_channel
      rw [if_neg (nI_not0 hx), hmd, sb, if_pos (nI_lt c (by omega))]
    rw [c0, hfo, sb, sb, sb]
    have cnt : ∀ s, s < 2 → mX1_count I (nI (rl x)) (nI s) = some (nI (q (2 * rl x + s)).length) ∧ mX12_long0 B ((2 * nI (rl x)) + nI s) = some (nI (q (2 * rl x + s)).length) := by
      intro s hs
      obtain ⟨q1, q2, _⟩ := t5 _ hr1 hr2 s hs
      obtain ⟨nd, ml⟩ := ty_q t1 hr1 hr2 hs
      have hlen := nd_len nm _ nd (fun m hm => (ml m hm).1)
      have hnm := t4.2.1
      refine ⟨?_, ?_⟩
      · unfold mX1_count
        rw [r2s, rn_g s5 (by unfold rnA; omega) (by omega), sb, q1.1]
      · have e1 : LF - (q (2 * rl x + s)).length - 1 + (q (2 * rl x + s)).length + 1 = LF := by unfold LF; omega
        have := lg_ok (nI (2 * rl x + s)) (q (2 * rl x + s)) _ 0 (LF - (q (2 * rl x + s)).length - 1) q2.1
        rw [e1, Nat.zero_add] at this
        unfold mX12_long0
        rw [r2s, if_pos (in160 (by omega)), cl160 (by omega)]
        exact this
    by_cases z0 : x2 = 0
    · subst z0
      obtain ⟨g1, g2⟩ := cnt 0 (by omega)
      have hi0 : mX12_isIn 0 0 1 = some 1 := rfl
      refine ⟨nI (q (2 * rl x + 0)).length, ?_, ?_⟩
      · rw [if_pos rfl]
        show (mX1_count I (nI (rl x)) (nI 0)).bind _ = _
        rw [g1, sb]
      · rw [hi0, sb, if_neg (by decide), hrl, sb]
        show (mX12_long0 B ((2 * nI (rl x)) + nI 0)).bind _ = _
        rw [g2, sb]
    · by_cases z1 : x2 = 1
      · subst z1
        obtain ⟨g1, g2⟩ := cnt 1 (by omega)
        have hi1 : mX12_isIn 1 0 1 = some 1 := rfl
        refine ⟨nI (q (2 * rl x + 1)).length, ?_, ?_⟩
        · rw [if_neg (by decide), if_pos rfl]
          show (mX1_count I (nI (rl x)) (nI 1)).bind _ = _
          rw [g1, sb]
        · rw [hi1, sb, if_neg (by decide), hrl, sb]
          show (mX12_long0 B ((2 * nI (rl x)) + nI 1)).bind _ = _
          rw [g2, sb]
      · have hin : mX12_isIn x2 0 1 = some 0 := by
          unfold mX12_isIn
          rcases i32_cases x2 with y | ⟨j, hj, rfl⟩
          · rw [if_pos y]
          · have h2 : 1 < j := by
              rcases Nat.lt_or_ge 1 j with y | y
              · exact y
              · have : j = 0 ∨ j = 1 := by omega
                rcases this with rfl | rfl
                · exact absurd rfl z0
                · exact absurd rfl z1
            rw [if_neg (nI_not0 hj), if_pos (show (1 : Int32) < nI j from nI_lt (a := 1) h2 hj)]
        rw [hin, sb, if_pos rfl, if_neg z0, if_neg z1]
        by_cases z2 : x2 = 2
        · have g220 : B 220 (nI x).toNatClampNeg = B 220 x := congrArg (B 220) (cl80 (by omega))
          rw [if_pos z2, if_pos z2, if_pos (in80 (by omega)), g220]
          obtain ⟨_, _, ⟨w1, w2, w3⟩ | ⟨y, w1, w2, w3, w4, w5, w6⟩⟩ := t2.2.2 x c
          · rw [w2, w3, if_pos rfl]
            exact ⟨0, rfl, rfl⟩
          · have n1 : ¬ nI y = nI x := fun v => w2 ((nI_eq (by omega) (by omega)).mp v)
            have n2 : ¬ nI (rl x) = nI x := fun v => by
              have v' := (nI_eq (by omega) (by omega)).mp v
              have := (rl_rw t2 _ x c (Nat.le_refl _)).1
              rw [v', w3] at this
              exact nIm (by omega) this
            rw [w4, if_neg n1, if_neg n2]
            exact ⟨1, rfl, rfl⟩
        · rw [if_neg z2, if_neg z2]
          exact ⟨-1, rfl, rfl⟩
  · refine ⟨-1, ?_, by rw [e, sb, if_pos rfl]⟩
    unfold mX11_channel
    rw [if_neg (nI_not0 hx), hmd, sb, if_neg (Int32.not_lt.mpr (nI_le c hx))]
end
