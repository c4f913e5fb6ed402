/-! A DEF AND ITS ARGS, in both (pure) -/
section
variable {k : Nat} {L L' L'' : lT} {op c o e : Int32}
theorem ng_y (N : NG k L L' op c o e) (hS : SE k L' L'') (hL : ∀ a, ¬ (k + 19 ≤ a ∧ a ≤ k + 27) → a ≠ k + 59 → L'' a = L' a) (h59 : ∃ r, L'' (k + 59) = L' (k + 59) ++ r) : NG k L L'' op c o e := by
  obtain ⟨n1, n2, n3, n4, n5, n6, n7, r, n8⟩ := N
  obtain ⟨r', h59⟩ := h59
  exact ⟨n1.trans hS, fun a w => by rw [hL _ (by omega) (by omega)]; exact n2 a w, fun a w => by rw [hL _ (by omega) (by omega)]; exact n3 a w, by rw [hL _ (by omega) (by omega)]; exact n4, by rw [hL _ (by omega) (by omega)]; exact n5, by rw [hL _ (by omega) (by omega)]; exact n6, by rw [hL _ (by omega) (by omega)]; exact n7, r ++ r', by rw [h59, n8, List.append_assoc]⟩
end
section
variable {k : Nat} {f p : Int32} {b : Nat} {I : iT} {F : fT} {x1 x2 x3 : Int32}
/-- the class behind '(' -/
def agT (I : iT) (F : fT) (x1 x2 x3 x4 : Int32) : Option iT := if x4 < 0 then mX3_readArgs_90 I F x1 x2 x3 x4 else (mX2_is I 41).bind fun q14 => if q14 = 0 then mX3_readArgs_90 I F x1 x2 x3 x4 else (mX2_refuse I 6 (I 6 8)).bind fun q15 => mX3_readArgs_90 q15 F x1 x2 x3 x4
theorem pf_a90 (hF : F 134 4 = k) {many : Nat} (hm : many ≤ 4) (hp : PF k f p b I) : PFu k f p b I (mX3_readArgs_90 I F x1 x2 x3 (nI many - 1)) := by
  have := pf_a93 (x1 := x1) (x2 := x2) (x3 := x3) hF hm many 0 LF I hp (by omega) (by unfold LF; omega)
  rw [nI_0] at this
  exact this
theorem pf_agT (hF : F 134 4 = k) {many : Nat} (hm : many ≤ 4) (hp : PF k f p b I) : PFu k f p b I (agT I F x1 x2 x3 (nI many - 1)) := by
  unfold agT
  rw [fm_is hp.1 (by decide), sb, if_pos rfl]
  exact pfu_if (pf_a90 hF hm hp) (pf_a90 hF hm hp)
end
section
variable {k h M n : Nat} {D : List Df} {F : fT} {I B : iT} {J : jT} {L L0 : lT} {bs : List Nat} {t : Tok} {r : List Tok} {P md nest wd b z : Nat} {S : List Sl} {a6 a8 a0 : List Int32} {op c : Int32}
theorem call_ok (hC : CR I B J bs t r) (H : PS k h M n D F I B J L t.2.2 md nest S a6 a8 a0 wd b 4) (hN0 : nodL k L0) (N : NG k L0 L op c (-1) (-1)) (hmd : md + 1 ≤ t.2.2) (h59 : 2 * (L (k + 59)).length + 1 ≤ t.2.2) :
    (∃ fx I5 I' B' J', mX3_readDefAhead I F = some (fx, I5) ∧ mX3_readArgs I5 F (nI (L0 (k + 47)).length) fx (nI nest) = some I' ∧ mX12_call B J = some (0, B', J') ∧ PL k h b I B J I' B' J') ∨
    (∃ fd df I5 I' B' J' t' r' L' S' md' c6 c8, mX3_readDefAhead I F = some (nI fd, I5) ∧ mX3_readArgs I5 F (nI (L0 (k + 47)).length) (nI fd) (nI nest) = some I' ∧ mX12_call B J = some (1, B', J') ∧ D[fd]? = some df ∧ fd < 12 ∧ CR I' B' J' bs t' r' ∧ PS k h M n D F I' B' J' L' t'.2.2 md' nest S' c6 c8 a0 wd b 4 ∧ NG k L0 L' op c (nI fd) (nI (L (k + 59)).length) ∧ B' 186 46 = nI fd ∧ argR k n L' B' (fun v => 1400 * h + md ≤ v ∧ v < 1400 * h + md') df.2.1 (gm S) (B' 186 50) (L (k + 59)).length (gm S') ∧ (∀ a, ¬ (k + 19 ≤ a ∧ a ≤ k + 27) → ¬ (k + 47 ≤ a ∧ a ≤ k + 53) → a ≠ k + 59 → L' a = L a) ∧ md ≤ md' ∧ (L' (k + 19)).length + t.2.2 ≤ (L (k + 19)).length + t'.2.2 ∧ md' + t.2.2 ≤ md + t'.2.2 ∧ 2 * (L' (k + 59)).length + t.2.2 ≤ 2 * (L (k + 59)).length + t'.2.2 ∧ t.2.2 + 3 ≤ t'.2.2 ∧ md' + 1 ≤ t'.2.2 ∧ cQ k I I' ∧ rP h md nest B J B' J' ∧ LK nest a6 a8 a0 c6 c8 a0 ∧ S'.length = S.length ∧ S'[0]? = S[0]? ∧ (∀ (i : Nat) (s' : Sl), S'[i]? = some s' → s'.1 ≠ 0 → S[i]? = some s')) := by
  have hk0 := H.1.1.1
  have hF := H.2.1.1
  have hbb := H.2.2.2.2.2.2.2.2
  have hh := H.1.2.2.2.2.1.1
  have bn := H.2.2.2.2.2.1
  have hPt := cr_end hC
  have hg0 := ng_g hN0 N
  have hlen : (L0 (k + 47)).length < 2 ^ 31 := by omega
  rcases jdef hC H with ⟨I9, B9, a1, a2, a3, a4⟩ | ⟨fd, df, u, r', I1, B1, J1, d1, d2, d3, d4, d5, d6, d7, d8, d9⟩
  · left
    obtain ⟨I', b1, b2⟩ := pfu_PL a3 (c' := b) (fun f p hf => pf_argsN hF hf (nI (L0 (k + 47)).length) (nI nest))
    exact ⟨-1, I9, I', B9, J, a1, b1, a2, b2⟩
  · have H1 := ps_cur (ps_49 H 46 (by omega) (nI fd)) d8 d9 (P' := u.2.2) (by omega)
    have rp1 : rP h md nest B J B1 J1 := (rP_sc (by omega) (nI fd)).trans (rf_rP d9) (Nat.le_refl md) (Nat.le_refl nest)
    obtain ⟨I2, p1, H2, p3⟩ := ps_put H1 (a := k + 51) (by omega) (j := (L0 (k + 47)).length) hlen (nI fd)
    obtain ⟨I3, p4, H3, p6⟩ := ps_put H2 (a := k + 53) (by omega) (j := (L0 (k + 47)).length) hlen (nI (L (k + 59)).length)
    have hC3 : CR I3 B1 J1 bs u r' := CR_I d6 (by rw [p6 6 (by omega), p3 6 (by omega)]) (by rw [p6 9 (by omega), p3 9 (by omega)]) (by rw [p6 10 (by omega), p3 10 (by omega)]) (by rw [p6 11 (by omega), p3 11 (by omega)])
    have fr3 : cQ k I I3 := (cf_cQ d8).trans (fun q w1 w2 w3 => by rw [p6 q (by omega), p3 q (by omega)])
    obtain ⟨x1', _, _, ⟨_, _, _, _, _⟩, x7, x8, h4, _⟩ := H1.2.2.2.1.2.2.2 fd df d1
    have e43 : mX4_at (k + 43) I1 (nI fd) = some (nI df.2.1.length) := by
      rw [rs_g H1.1.1 (a := k + 43) (by unfold rowA; omega) (by omega), x7]
    have e59 : mX4_size (k + 59) I2 = some (nI (L (k + 59)).length) := by
      rw [rs_size H2.1.1 (a := k + 59) (by unfold rowA; omega), upL_n _ _ (by omega)]
    have eC : mX3_readArgs I1 F (nI (L0 (k + 47)).length) (nI fd) (nI nest) = (mX2_want I3 40).bind fun q13 => agT q13 F (nI (L0 (k + 47)).length) (nI fd) (nI nest) (nI df.2.1.length - 1) := by
      unfold mX3_readArgs
      rw [hF, e43, sb, p1, sb, e59, sb, p4, sb]
      rfl
    have hng3 := ng_53 hN0 (ng_51 hN0 N (nI fd)) (nI (L (k + 59)).length)
    have hL3 : ∀ a, ¬ (k + 47 ≤ a ∧ a ≤ k + 53) → (upL (upL L (k + 51) ((L (k + 51)).set (L0 (k + 47)).length (nI fd))) (k + 53) ((upL L (k + 51) ((L (k + 51)).set (L0 (k + 47)).length (nI fd)) (k + 53)).set (L0 (k + 47)).length (nI (L (k + 59)).length))) a = L a := fun a w => by rw [upL_n _ _ (by omega), upL_n _ _ (by omega)]
    rcases jneed hC3 H3.1.1 h 40 (by omega) with ⟨w1, u4, r4, I4, B4, J4, k1, k2, k3, k4, k5, k6, k7⟩ | ⟨w1, I4, B4, k2, k3, k4⟩
    · have htl : tl u.1 = 1 := by rw [w1]; decide
      rw [htl] at k5
      have H4 := ps_cur H3 k6 k7 (P' := u4.2.2) (by omega)
      have fr4 : cQ k I I4 := fr3.trans (cf_cQ k6)
      have hC5 : CR I4 (a_u2 B4 186 50 (-1)) J4 bs u4 r4 := CR_B k4 (fun j _ _ => a_u2_n _ _ (by omega)) (funext fun j => a_u2_n _ _ (by omega)) rfl
      have H5 := ps_49 H4 50 (by omega) (-1)
      have rp5 : rP h md nest B J (a_u2 B4 186 50 (-1)) J4 := (rp1.trans (rf_rP k7) (Nat.le_refl md) (Nat.le_refl nest)).trans (rP_sc (by omega) (-1)) (Nat.le_refl md) (Nat.le_refl nest)
      have e46 : (a_u2 B4 186 50 (-1)) 186 46 = nI fd := by rw [a_u2_n _ _ (by omega), k7.1 _ _ (by omega), d9.1 _ _ (by omega), a_u2_s]
      have e32 : B4 186 32 = nI h := H4.2.1.2
      have e12 : (12 : Int32) * nI h + nI fd = nI (12 * h + fd) := by
        have : (12 : Int32) * nI h = nI (12 * h) := pk_mul 12 h
        rw [this, nI_add]
      have i24 : inb (nI (12 * h + fd)) 24 := vp_in_nI (by omega) (by omega)
      have e198 : B4 198 (12 * h + fd) = nI df.2.1.length := by rw [k7.1 _ _ (by omega)]; exact x8
      have eR : mX12_call B J = mX12_call_87 LF (a_u2 B4 186 50 (-1)) J4 (nI fd) (nI df.2.1.length) (-1) 0 := by
        rw [d5]
        unfold clR
        show ((mX12_need B1 J1 (nI 40)).bind _) = _
        rw [k3, sb, if_neg i10]
        show (if inb ((12 * (B4 186 32)) + nI fd) 24 then mX12_call_87 LF (a_u2 B4 186 50 (-1)) J4 (nI fd) (B4 198 ((12 * (B4 186 32)) + nI fd).toNatClampNeg) (-1) 0 else none) = _
        rw [e32, e12, if_pos i24, congrArg (B4 198) (nI_clamp (n := 12 * h + fd) (by omega)), e198]
      have eC4 : mX3_readArgs I1 F (nI (L0 (k + 47)).length) (nI fd) (nI nest) = agT I4 F (nI (L0 (k + 47)).length) (nI fd) (nI nest) (nI df.2.1.length - 1) := by
        rw [eC]
        show ((mX2_want I3 (nI 40)).bind _) = _
        rw [k2, sb]
      obtain ⟨m', hm'⟩ : ∃ m, LF = m + 1 := ⟨99999, by unfold LF; rfl⟩
      have hm9 : 10 < m' := by
        have : 11 < LF := by unfold LF; omega
        omega
      rcases Nat.eq_zero_or_pos df.2.1.length with z0 | z0
      · -- no PARAMS
        have hnil : df.2.1 = [] := List.eq_nil_of_length_eq_zero z0
        have eC6 : agT I4 F (nI (L0 (k + 47)).length) (nI fd) (nI nest) (nI df.2.1.length - 1) = (mX2_want I4 41).bind fun q5 => some q5 := by
          unfold agT mX3_readArgs_90
          rw [z0, if_pos (by decide), hm', a93_eq, if_pos (by decide), if_neg (by decide)]
        have eR6 : mX12_call_87 LF (a_u2 B4 186 50 (-1)) J4 (nI fd) (nI df.2.1.length) (-1) 0 = (mX12_need (a_u2 B4 186 50 (-1)) J4 41).bind fun q10 => if q10.1 = 0 ∨ q10.1 = 1 then some (q10.1, q10.2.1, q10.2.2) else none := by
          rw [hm', z0, mX12_call_87, if_pos (by decide), if_pos (by decide)]
          rfl
        rcases jneed hC5 H5.1.1 h 41 (by omega) with ⟨v1, u6, r6, I6, B6, J6, l1, l2, l3, l4, l5, l6, l7⟩ | ⟨v1, I6, B6, l2, l3, l4⟩
        · right
          have htl : tl u4.1 = 1 := by rw [v1]; decide
          rw [htl] at l5
          have H6 := ps_cur H5 l6 l7 (P' := u6.2.2) (by omega)
          refine ⟨fd, df, I1, I6, B6, J6, u6, r6, _, S, md, a6, a8, d4, ?_, ?_, d1, d2, l4, H6, hng3, by rw [l7.1 _ _ (by omega)]; exact e46, ?_, fun a w1 w2 w3 => hL3 a w2, Nat.le_refl _, by rw [hL3 _ (by omega)]; omega, by omega, by rw [hL3 _ (by omega)]; omega, by omega, by omega, fr4.trans (cf_cQ l6), rp5.trans (rf_rP l7) (Nat.le_refl md) (Nat.le_refl nest), lk_rfl, rfl, rfl, fun _ _ z _ => z⟩
          · rw [eC4, eC6]
            show ((mX2_want I4 (nI 41)).bind _) = _
            rw [l2, sb]
          · rw [eR, eR6]
            show ((mX12_need (a_u2 B4 186 50 (-1)) J4 (nI 41)).bind _) = _
            rw [l3, sb, if_pos (Or.inr rfl)]
          · rw [hnil]
            exact ⟨by rw [l7.1 _ _ (by omega), a_u2_s], rfl⟩
        · left
          refine ⟨nI fd, I1, I6, B6, J4, d4, ?_, ?_, PL.pre (cQ_FQ fr4) (rP_RX rp5) (fail_PL l4 (ps_scp H5) (by omega))⟩
          · rw [eC4, eC6]
            show ((mX2_want I4 (nI 41)).bind _) = _
            rw [l2, sb]
          · rw [eR, eR6]
            show ((mX12_need (a_u2 B4 186 50 (-1)) J4 (nI 41)).bind _) = _
            rw [l3, sb, if_pos (Or.inl rfl)]
      · -- PARAMS
        have e41 : I4 6 6 = 41 ↔ u4.1 = 41 := cr_c k4 41 (by omega)
        have s41 : mX12_isSign (a_u2 B4 186 50 (-1)) 41 = some (if u4.1 = 41 then 1 else 0) := cr_sign hC5 41 (by omega)
        have eC6 : agT I4 F (nI (L0 (k + 47)).length) (nI fd) (nI nest) (nI df.2.1.length - 1) = if u4.1 = 41 then (mX2_refuse I4 6 (nI u4.2.2)).bind fun q15 => mX3_readArgs_90 q15 F (nI (L0 (k + 47)).length) (nI fd) (nI nest) (nI df.2.1.length - 1) else mX3_readArgs_90 I4 F (nI (L0 (k + 47)).length) (nI fd) (nI nest) (nI df.2.1.length - 1) := by
          unfold agT mX2_is
          rw [if_neg (fun z => by have := (ar_n df.2.1.length (by omega)).mp z; omega)]
          by_cases w : u4.1 = 41
          · rw [if_pos w, if_pos (e41.mpr w), sb, if_neg i10, cr_8 k4]
          · rw [if_neg w, if_neg (fun z => w (e41.mp z)), sb, if_pos rfl]
        have eR6 : mX12_call_87 LF (a_u2 B4 186 50 (-1)) J4 (nI fd) (nI df.2.1.length) (-1) 0 = if u4.1 = 41 then rBad (a_u2 B4 186 50 (-1)) J4 6 (nI u4.2.2) else mX12_call_149 (mX12_call_87 m') (a_u2 B4 186 50 (-1)) J4 (nI fd) (nI df.2.1.length) (-1) (nI 0) := by
          rw [hm', mX12_call_87, if_neg (gt0 z0 (by omega)), if_pos (by decide), s41, sb]
          by_cases w : u4.1 = 41
          · rw [if_pos w, if_pos w, if_neg i10, cr_4 hC5]
            rfl
          · rw [if_neg w, if_neg w, if_pos rfl]
            rfl
        by_cases w : u4.1 = 41
        · left
          rw [if_pos w] at eC6 eR6
          obtain ⟨I10, B10, a1, a2, a3, a4⟩ := pbad hC5 H5 (f := 6) (by decide) (nI u4.2.2)
          obtain ⟨I', b1, b2⟩ := pfu_PL (PL.pre (cQ_FQ fr4) (rP_RX rp5) a3) (c' := b) (fun f p hf => pf_a90 (x1 := nI (L0 (k + 47)).length) (x2 := nI fd) (x3 := nI nest) hF h4 hf)
          exact ⟨nI fd, I1, I', B10, J4, d4, by rw [eC4, eC6, a1, sb]; exact b1, by rw [eR, eR6]; exact rBad_ok a2, b2⟩
        · rw [if_neg w] at eC6 eR6
          obtain ⟨q, ps, hqs⟩ : ∃ q ps, df.2.1 = q :: ps := by
            cases hx : df.2.1 with
            | nil => rw [hx] at z0; simp at z0
            | cons q ps => exact ⟨q, ps, rfl⟩
          have hl : ps.length + 1 ≤ 4 := by rw [hqs] at h4; simpa using h4
          have h59' := hL3 (k + 59) (by omega)
          rcases args_ok d1 (κ := nI (L0 (k + 47)).length) ps q 0 none I4 (a_u2 B4 186 50 (-1)) J4 _ u4 r4 md S a6 a8 (-1) LF m' hqs hC5 H5 (by omega) (by rw [h59']; omega) ⟨rfl, a_u2_s _ _ _ _⟩ (by omega) (by omega) with ⟨I', B', J', i1, i2, i3⟩ | ⟨I', B', J', i1, i2, t', r'', L', S', md', c6, c8, j1, j2, j3, j4, j5, j6, j7, j8, j9, j10, j11, j12, j13, j14, j15, j16, j17, j18, j19⟩
          · left
            refine ⟨nI fd, I1, I', B', J', d4, ?_, ?_, PL.pre (cQ_FQ fr4) (rP_RX rp5) i3⟩
            · rw [eC4, eC6]
              unfold mX3_readArgs_90
              rw [← nI_0]
              exact i1
            · rw [eR, eR6]
              exact i2
          · right
            rw [h59'] at j3 j12
            rw [hL3 (k + 19) (by omega)] at j10
            refine ⟨fd, df, I1, I', B', J', t', r'', L', S', md', c6, c8, d4, ?_, ?_, d1, d2, j1, j2, ng_y hng3 j6 j7 j8, by rw [j5]; exact e46, by rw [hqs]; exact j3, fun a w1 w2 w3 => by rw [j7 a w1 w3]; exact hL3 a w2, j9, by omega, by omega, by omega, by omega, by omega, fr4.trans j14, rp5.trans j15 (Nat.le_refl md) (Nat.le_refl nest), j16, j17, j18, j19⟩
            · rw [eC4, eC6]
              unfold mX3_readArgs_90
              rw [← nI_0]
              exact i1
            · rw [eR, eR6]
              exact i2
    · left
      obtain ⟨I', b1, b2⟩ := pfu_PL (PL.pre (cQ_FQ fr3) (rP_RX rp1) (fail_PL k4 (ps_scp H3) (by omega))) (c' := b) (fun f p hf => pf_agT (x1 := nI (L0 (k + 47)).length) (x2 := nI fd) (x3 := nI nest) hF h4 hf)
      refine ⟨nI fd, I1, I', B4, J1, d4, ?_, ?_, b2⟩
      · rw [eC]
        show ((mX2_want I3 (nI 40)).bind _) = _
        rw [k2, sb]
        exact b1
      · rw [d5]
        unfold clR
        show ((mX12_need B1 J1 (nI 40)).bind _) = _
        rw [k3, sb, if_pos rfl]
end
