/-! IF: behind its first P (pure) -/
def asC (rr : iT → jT → Option (Int32 × iT × jT)) (B : iT) (J : jT) (e x43 x45 : Int32) : Option (Int32 × iT × jT) := (mX12_need B J 125).bind fun q5 => if q5.1 = 0 then some (0, q5.2.1, q5.2.2) else (mX12_needWord q5.2.1 q5.2.2 113).bind fun q6 => if q6.1 = 0 then some (0, q6.2.1, q6.2.2) else (mX12_need q6.2.1 q6.2.2 123).bind fun q7 => if q7.1 = 0 then some (0, q7.2.1, q7.2.2) else (mX12_back (a_u2 q7.2.1 186 43 x43) q7.2.2 x45).bind fun q8 => (rr q8.1 q8.2).bind fun q9 => if q9.1 = 0 then some (0, q9.2.1, q9.2.2) else (mX12_need q9.2.1 q9.2.2 125).bind fun q10 => if q10.1 = 0 then some (0, q10.2.1, q10.2.2) else (mX12_node q10.2.1 q10.2.2 52 e (q7.2.1 186 49) ((q10.2.1 186 49).toInt64)).bind fun q11 => some (1, a_u2 q11.2.1 186 49 q11.1, q11.2.2)
section
variable {k h M n : Nat} {D : List Df} {F : fT} {I B : iT} {J : jT} {L : lT} {bs : List Nat} {t : Tok} {r : List Tok} {P md nest wd b z : Nat} {S : List Sl} {a6 a8 a0 c6 c8 c0 : List Int32}
theorem pgr_w {L' : lT} {P' md' P0 P'' md'' : Nat} (H : PGr k L L' P P' md md') (h1 : P0 ≤ P) (h2 : P' ≤ P'') (h3 : md' ≤ md'') (h4 : md'' + P0 ≤ md + P'') : PGr k L L' P0 P'' md md'' := by
  obtain ⟨a1, a2, a3, a4, a5, a6, a7, a8, a9, a10, a11, a12, a13, a14, a15⟩ := H
  exact ⟨a1, a2, a3, a4, a5, a6, a7, a8, by omega, by omega, by omega, h4, by omega, by omega, by omega⟩
theorem pgr_lt {L' : lT} {P' md' : Nat} (H : PGr k L L' P P' md md') : P < P' ∧ md ≤ md' := by
  obtain ⟨a1, a2, a3, a4, a5, a6, a7, a8, a9, a10, _⟩ := H
  exact ⟨a10, a9⟩
theorem pgr_md {L' : lT} {P' md' : Nat} (H : PGr k L L' P P' md md') : md' + P ≤ md + P' := by
  obtain ⟨a1, a2, a3, a4, a5, a6, a7, a8, a9, a10, a11, a12, _⟩ := H
  exact a12
theorem pr_m {Q Rn Rc : Nat → Prop} {m u κ l : Nat} {Γ : Gm} (h : PR k n D L B J Q Rn Rc m u κ l Γ) : u < 2800 ∧ Q u ∧ κ < (L (k + 47)).length ∧ Rn κ ∧ 1 ≤ m := by
  cases m with
  | zero => exact h.elim
  | succ m => exact ⟨h.1, h.2.1, h.2.2.1, h.2.2.2.1, by omega⟩
theorem if2 {cc : iT → fT → Int32 → Option (Int32 × iT)} {rr : iT → jT → Option (Int32 × iT × jT)} (hP : HP k h M n D F bs b (nest + 1) cc rr) (hcc : ∀ f p b I x, PF k f p b I → cc I F x = some (-1, I)) (hC : CR I B J bs t r) (H : PU k h M n D F I B J L t.2.2 md (nest + 1) nest S a6 a8 a0 wd b) (hok : SOK k h M L B J n nest S) (hv : SV B J n (nest + 1) S) {κ : Nat} (hκ : κ < (L (k + 47)).length) (l1 : Int32) (e : Int32) (hmd : md + 1 ≤ t.2.2) :
    (∃ x I' B' J', ((mX2_want I 125).bind fun q5 => ifC cc k q5 F (nI (nest + 1)) (nI κ) l1) = some (x, I') ∧ asC rr B J e (nI S.length) (nI (nest + 1)) = some (0, B', J') ∧ PL k h (b + 1) I B J I' B' J') ∨
    (∃ l2 I' B' J' t' r' L' md' d6 d8 d0 wd' un m, ((mX2_want I 125).bind fun q5 => ifC cc k q5 F (nI (nest + 1)) (nI κ) l1) = some (if nI l2 < l1 then nI l2 else l1, I') ∧ asC rr B J e (nI S.length) (nI (nest + 1)) = some (1, B', J') ∧ CR I' B' J' bs t' r' ∧ PU k h M n D F I' B' J' L' t'.2.2 (md' + 1) (nest + 1) nest S d6 d8 d0 wd' b ∧ B' 186 49 = nI (1400 * h + md') ∧ B' 188 (1400 * h + md') = 52 ∧ B' 189 (1400 * h + md') = e ∧ B' 190 (1400 * h + md') = B 186 49 ∧ J' 192 (1400 * h + md') = lN un ∧ PR k n D L' B' J' (fun v => 1400 * h + md ≤ v ∧ v < 1400 * h + md') (fun κ => (L (k + 47)).length ≤ κ ∧ κ < (L' (k + 47)).length) (fun c => (L (k + 55)).length ≤ c ∧ c < (L' (k + 55)).length) m un (L (k + 47)).length l2 (gm S) ∧ (m + (L (k + 47)).length ≤ (L' (k + 47)).length ∧ l2 ≤ m) ∧ wd + l2 ≤ wd' ∧ PGr k (upL L (k + 51) ((L (k + 51)).set κ (nI (L (k + 47)).length))) L' t.2.2 t'.2.2 md (md' + 1) ∧ md ≤ md' ∧ cW k I I' ∧ rP h md (nest + 1) B J B' J' ∧ (∀ c v, 188 ≤ c → c ≤ 191 → v < 1400 * h + md → B' c v = B c v) ∧ LK (nest + 1) a6 a8 a0 d6 d8 d0) := by
  have hk0 := H.1.1
  have hF := H.2.1.2
  have hbb := H.2.2.2.2.2.2.2.2.2.2.2.2
  have hcp := H.2.2.2.2.2.2.2.1.1
  have hh := H.2.2.2.2.2.2.1
  have hbud := H.2.2.2.2.2.2.2.2.2.2.1
  have hP0 := cr_end hC
  have hκ3 : κ < 2 ^ 31 := by omega
  -- '}'
  rcases jneed hC H.1 h 125 (by omega) with ⟨w1, u1, r1, I1, B1, J1, k1, k2, k3, k4, k5, k6, k7⟩ | ⟨w1, I1, B1, k2, k3, k4⟩
  · have htl : tl t.1 = 1 := by rw [w1]; decide
    rw [htl] at k5
    have H1 := pu_cur H k6 k7 (P' := u1.2.2) (by omega)
    have eC1 : ((mX2_want I 125).bind fun q5 => ifC cc k q5 F (nI (nest + 1)) (nI κ) l1) = ifC cc k I1 F (nI (nest + 1)) (nI κ) l1 := by
      show ((mX2_want I (nI 125)).bind _) = _
      rw [k2, sb]
    rw [eC1]
    have e125 : mX12_need B J 125 = some (1, B1, J1) := k3
    -- else
    rcases jelse k4 H1.1 h with ⟨v1, u2, r2, I2, B2, J2, l1', l2', l3, l4, l5, l6, l7⟩ | ⟨v1, I2, B2, l2', l3, l4⟩
    · have H2 := pu_cur H1 l6 l7 (P' := u2.2.2) (by omega)
      have e47 : mX4_size (k + 47) I2 = some (nI (L (k + 47)).length) := rs_size H2.1 (by unfold rowA; omega)
      obtain ⟨I3, p1, H3, p3⟩ := pu_put H2 (a := k + 51) (by omega) (j := κ) hκ3 (nI (L (k + 47)).length)
      have hC3 : CR I3 B2 J2 bs u2 r2 := CR_I l4 (p3 6 (by omega)) (p3 9 (by omega)) (p3 10 (by omega)) (p3 11 (by omega))
      have eC2 : ifC cc k I1 F (nI (nest + 1)) (nI κ) l1 = (brC cc I3 F (nI (nest + 1))).bind fun q10 => some (if q10.1 < l1 then q10.1 else l1, q10.2) := by
        unfold ifC
        rw [l2', sb, e47, sb, p1, sb]
      have fr3 : cW k I I3 := (cQ_cW hk0 ((cf_cQ k6).trans (cf_cQ l6))).trans (cQ_cW hk0 (fun q w1 w2 w3 => p3 q (by omega)))
      have rp2 : rP h md (nest + 1) B J B2 J2 := (rf_rP k7).trans (rf_rP l7) (Nat.le_refl md) (Nat.le_refl _)
      -- '{'
      rcases jneed hC3 H3.1 h 123 (by omega) with ⟨z1, u4, r4, I4, B4, J4, s1, s2, s3, s4, s5, s6, s7⟩ | ⟨z1, I4, B4, s2, s3, s4⟩
      · have htl4 : tl u2.1 = 1 := by rw [z1]; decide
        rw [htl4] at s5
        have H4 := pu_cur H3 s6 s7 (P' := u4.2.2) (by omega)
        have rp4 : rP h md (nest + 1) B J B4 J4 := rp2.trans (rf_rP s7) (Nat.le_refl md) (Nat.le_refl _)
        have fr4 : cW k I I4 := fr3.trans (cQ_cW hk0 (cf_cQ s6))
        have fB4 : ∀ c i, ¬ (c = 186 ∧ 2 ≤ i ∧ i ≤ 5) → B4 c i = B c i := fun c i w => by rw [s7.1 _ _ w, l7.1 _ _ w, k7.1 _ _ w]
        have fJ4 : ∀ c i, ¬ (c = 186 ∧ i = 6) → J4 c i = J c i := fun c i w => by rw [s7.2 _ _ w, l7.2 _ _ w, k7.2 _ _ w]
        have hok4 : SOK k h M (upL L (k + 51) ((L (k + 51)).set κ (nI (L (k + 47)).length))) B4 J4 n nest S := sok_to hok H.2.2.1 (TE_eq (fun a q1 q2 => upL_n _ _ (by omega))) (fun v _ _ => ⟨fB4 _ _ (by omega), fB4 _ _ (by omega), fB4 _ _ (by omega), fB4 _ _ (by omega), fJ4 _ _ (by omega)⟩)
        have hv4 : SV B4 J4 n (nest + 1) S := sv_to hv ⟨hok.2.2.2.1, hok.2.1⟩ (fun c i w1 w2 w3 => fB4 c i (by omega)) (fun i w1 w2 => fJ4 _ _ (by omega))
        obtain ⟨B5, J5, b1, H5, b3, b4⟩ := pu_back H4 hok4 hv4
        have hC5 : CR I4 B5 J5 bs u4 r4 := CR_B s4 (fun j _ _ => b3 _ _ (by omega) (by omega)) (funext fun j => b3 _ _ (by omega) (by omega)) (b4 _ _ (by omega))
        obtain ⟨I6, c6, c8, n1, H6, n3, n4⟩ := pt_enter H5
        have hC6 : CR I6 B5 J5 bs u4 r4 := CR_I hC5 (n4 6 (by omega)) (n4 9 (by omega)) (n4 10 (by omega)) (n4 11 (by omega))
        have rp5 : rP h md (nest + 1) B J B5 J5 := rp4.trans ⟨fun c i w1 w2 w3 w4 => b3 c i (by omega) (by omega), fun c i w1 w2 w3 w4 => b4 c i (by omega)⟩ (Nat.le_refl md) (Nat.le_refl _)
        have fr6 : cW k I I6 := fr4.trans (cQ_cW hk0 (fun q w1 w2 w3 => n4 q (by omega)))
        have len2 : ∀ c, (upL L (k + 51) ((L (k + 51)).set κ (nI (L (k + 47)).length)) c).length = (L c).length := by
          intro c
          by_cases q : c = k + 51
          · subst q; rw [upL_s, List.length_set]
          · rw [upL_n _ _ q]
        rcases inP hP rfl hC6 H6 hcp n3 with ⟨x, I7, I8, B8, J8, g1, g2, g3, g4⟩ | ⟨l2, I7, I8, B8, J8, t8, r8, L8, md8, d6, d8, d0, wd8, u, m, g1, g2, g3, g4, g5, g6, g7, g8, g9, g10, g11, g12, g13⟩
        · left
          obtain ⟨x2, I', a1, a2⟩ := pfo_PL (PL.pre (cW_FQ fr6) (rP_RX rp5) g4) (c' := b + 1) (o := ((mX2_want I8 125).bind fun q5 => some (x, q5)).bind fun q10 => some (if q10.1 < l1 then q10.1 else l1, q10.2)) (fun f p hf => by
            rw [fm_want hf.1 (by decide), sb, sb]
            exact pfo_ret hf _)
          refine ⟨x2, I', B8, J8, ?_, ?_, a2⟩
          · rw [eC2]
            unfold brC
            show ((((mX2_want I3 (nI 123)).bind _)).bind _) = _
            rw [s2, sb, n1, sb, g1, sb]
            show (((mX5_leave I7).bind _).bind _) = _
            rw [g2, sb]
            exact a1
          · unfold asC
            rw [e125, sb, if_neg i10]
            show ((mX12_needWord B1 J1 113).bind _) = _
            rw [l3, sb, if_neg i10]
            show ((mX12_need B2 J2 (nI 123)).bind _) = _
            rw [s3, sb, if_neg i10]
            show ((mX12_back (a_u2 B4 186 43 (nI S.length)) J4 (nI (nest + 1))).bind _) = _
            rw [b1, sb]
            show ((rr B5 J5).bind _) = _
            rw [g3, sb, if_pos rfl]
        · have rp8 : rP h md (nest + 1) B J B8 J8 := rp5.trans g12 (Nat.le_refl md) (Nat.le_refl _)
          have fr8 : cW k I I8 := fr6.trans g11
          have gl := pgr_lt g10
          have gm2 := pgr_md g10
          -- '}'
          rcases jneed g4 g5.1 h 125 (by omega) with ⟨f1, u9, r9, I9, B9, J9, j1, j2, j3, j4, j5, j6, j7⟩ | ⟨f1, I9, B9, j2, j3, j4⟩
          · right
            have htl9 : tl t8.1 = 1 := by rw [f1]; decide
            rw [htl9] at j5
            have H9 := pu_cur g5 j6 j7 (P' := u9.2.2) (by omega)
            have hP9 := cr_end j4
            have hu := pr_m g7
            obtain ⟨B10, J10, m1, m2, m3, m4, m5, m6, m7, m8, m9, m10⟩ := pu_rnode H9 (by omega) (by omega) 52 e (B4 186 49) (lN u)
            have H11 := pu_B (B' := a_u2 B10 186 49 (nI (1400 * h + md8))) (J' := J10) m2 (fun q i w1 w2 => a_u2_n _ _ (by omega)) (fun _ _ _ => rfl) (by rw [a_u2_n _ _ (by omega)]; exact m2.2.2.2.2.2.2.1.2.2.1) (Nat.le_refl _) m2.2.2.2.2.2.2.2.2.2.2.1.2.1
            have hC11 : CR I9 (a_u2 B10 186 49 (nI (1400 * h + md8))) J10 bs u9 r9 := CR_B j4 (fun j _ _ => by rw [a_u2_n _ _ (by omega), m9 _ _ (by omega) (by omega)]) (funext fun j => by rw [a_u2_n _ _ (by omega), m9 _ _ (by omega) (by omega)]) (m10 _ _ (by omega))
            have fBf : ∀ c v, 188 ≤ c → c ≤ 191 → v < 1400 * h + md8 → (a_u2 B10 186 49 (nI (1400 * h + md8))) c v = B8 c v := fun c v q1 q2 q3 => by rw [a_u2_n _ _ (by omega), m9 _ _ (by omega) (by omega), j7.1 _ _ (by omega)]
            have fJf : ∀ v, v < 1400 * h + md8 → J10 192 v = J8 192 v := fun v q3 => by rw [m10 _ _ (by omega), j7.2 _ _ (by omega)]
            rw [len2] at g7 g8
            rw [len2] at g7
            have hPR := pr_to (n := n) (D := D) (Q' := fun v => 1400 * h + md ≤ v ∧ v < 1400 * h + md8) (Rn' := fun κ => (L (k + 47)).length ≤ κ ∧ κ < (L8 (k + 47)).length) (Rc' := fun c => (L (k + 55)).length ≤ c ∧ c < (L8 (k + 55)).length) (B' := a_u2 B10 186 49 (nI (1400 * h + md8))) (J' := J10) (L' := L8) (H := (⟨g5.2.2.1, TE.rfl, g5.2.2.2.1, SE.rfl, ⟨[], (List.append_nil _).symm⟩, Nat.le_refl _, Nat.le_refl _, fun v hv => ⟨fBf 188 v (by omega) (by omega) hv.2, fBf 189 v (by omega) (by omega) hv.2, fBf 190 v (by omega) (by omega) hv.2, fBf 191 v (by omega) (by omega) hv.2, fJf v hv.2⟩, fun _ _ => ⟨rfl, rfl, rfl, rfl⟩, fun _ _ => ⟨rfl, rfl⟩⟩ : PK k L8 L8 B8 (a_u2 B10 186 49 (nI (1400 * h + md8))) J8 J10 (fun v => 1400 * h + md ≤ v ∧ v < 1400 * h + md8) (fun κ => (L (k + 47)).length ≤ κ ∧ κ < (L8 (k + 47)).length) (fun c => (L (k + 55)).length ≤ c ∧ c < (L8 (k + 55)).length))) (fun v hv => hv) (fun v hv => hv) (fun v hv => hv) m m (Nat.le_refl _) _ _ _ _ g7
            refine ⟨l2, I9, a_u2 B10 186 49 (nI (1400 * h + md8)), J10, u9, r9, L8, md8, d6, d8, d0, wd8, u, m, ?_, ?_, hC11, H11, a_u2_s _ _ _ _, by rw [a_u2_n _ _ (by omega)]; exact m3, by rw [a_u2_n _ _ (by omega)]; exact m4, by rw [a_u2_n _ _ (by omega), m5, fB4 _ _ (by omega)], m7, hPR, g8, g9, pgr_w g10 (by omega) (by omega) (by omega) (by omega), by omega, fr8.trans (cQ_cW hk0 (cf_cQ j6)), ((rp8.trans (rf_rP j7) (Nat.le_refl md) (Nat.le_refl _)).trans (rS_rP m8) gl.2 (Nat.le_refl _)).trans (rP_sc (by omega) _) (Nat.le_refl md) (Nat.le_refl _), fun c v q1 q2 q3 => ?_, g13⟩
            · rw [eC2]
              unfold brC
              show ((((mX2_want I3 (nI 123)).bind _)).bind _) = _
              rw [s2, sb, n1, sb, g1, sb]
              show (((mX5_leave I7).bind _).bind _) = _
              rw [g2, sb]
              show (((mX2_want I8 (nI 125)).bind _).bind _) = _
              rw [j2, sb, sb]
            · unfold asC
              rw [e125, sb, if_neg i10]
              show ((mX12_needWord B1 J1 113).bind _) = _
              rw [l3, sb, if_neg i10]
              show ((mX12_need B2 J2 (nI 123)).bind _) = _
              rw [s3, sb, if_neg i10]
              show ((mX12_back (a_u2 B4 186 43 (nI S.length)) J4 (nI (nest + 1))).bind _) = _
              rw [b1, sb]
              show ((rr B5 J5).bind _) = _
              rw [g3, sb, if_neg i10]
              show ((mX12_need B8 J8 (nI 125)).bind _) = _
              rw [j3, sb, if_neg i10]
              show ((mX12_node B9 J9 52 e (B4 186 49) ((B9 186 49).toInt64)).bind _) = _
              rw [j7.1 186 49 (by omega), g6, u64 u hu.1, m1, sb]
            · rw [fBf c v q1 q2 (by omega), g12.1 c v (by omega) (by omega) (by omega) (by omega), b3 c v (by omega) (by omega), fB4 c v (by omega)]
          · left
            refine ⟨if nI l2 < l1 then nI l2 else l1, I9, B9, J8, ?_, ?_, (PL.pre (cW_FQ fr8) (rP_RX rp8) (fail_PL j4 (pu_scp g5) (by omega))).mono (Nat.le_succ b) (by omega)⟩
            · rw [eC2]
              unfold brC
              show ((((mX2_want I3 (nI 123)).bind _)).bind _) = _
              rw [s2, sb, n1, sb, g1, sb]
              show (((mX5_leave I7).bind _).bind _) = _
              rw [g2, sb]
              show (((mX2_want I8 (nI 125)).bind _).bind _) = _
              rw [j2, sb, sb]
            · unfold asC
              rw [e125, sb, if_neg i10]
              show ((mX12_needWord B1 J1 113).bind _) = _
              rw [l3, sb, if_neg i10]
              show ((mX12_need B2 J2 (nI 123)).bind _) = _
              rw [s3, sb, if_neg i10]
              show ((mX12_back (a_u2 B4 186 43 (nI S.length)) J4 (nI (nest + 1))).bind _) = _
              rw [b1, sb]
              show ((rr B5 J5).bind _) = _
              rw [g3, sb, if_neg i10]
              show ((mX12_need B8 J8 (nI 125)).bind _) = _
              rw [j3, sb, if_pos rfl]
      · left
        obtain ⟨x, I', a1, a2⟩ := pfo_PL ((PL.pre (cW_FQ fr3) (rP_RX rp2) (fail_PL s4 (pu_scp H3) (by omega))).mono (Nat.le_succ b) (by omega)) (c' := b + 1) (o := ((mX5_enter I4).bind fun q2 => (cc q2 F (nI (nest + 1))).bind fun q3 => (mX5_leave q3.2).bind fun q4 => (mX2_want q4 125).bind fun q5 => some (q3.1, q5)).bind fun q10 => some (if q10.1 < l1 then q10.1 else l1, q10.2)) (fun f p hf => pfo_o (pf_brE hcc hf (nI (nest + 1))) (fun y I2 h2 => pfo_ret h2 (if y < l1 then y else l1)))
        refine ⟨x, I', B4, J2, ?_, ?_, a2⟩
        · rw [eC2]
          unfold brC
          show ((((mX2_want I3 (nI 123)).bind _)).bind _) = _
          rw [s2, sb]
          exact a1
        · unfold asC
          rw [e125, sb, if_neg i10]
          show ((mX12_needWord B1 J1 113).bind _) = _
          rw [l3, sb, if_neg i10]
          show ((mX12_need B2 J2 (nI 123)).bind _) = _
          rw [s3, sb, if_pos rfl]
    · left
      have rp1 : rP h md (nest + 1) B J B1 J1 := rf_rP k7
      obtain ⟨x, I', a1, a2⟩ := pfo_PL ((PL.pre (cQ_FQ (cf_cQ k6)) (rP_RX rp1) (fail_PL l4 (pu_scp H1) (by omega))).mono (Nat.le_succ b) (by omega)) (c' := b + 1) (o := ifC cc k I1 F (nI (nest + 1)) (nI κ) l1) (fun f p hf => by
        unfold ifC
        rw [l2', sb]
        exact pfo_r (fm_size hf.1 (by unfold rowA; omega)) (fun v => pfo_u (pf_putB hf (by unfold rowB; omega) _ _) (fun I1 h1 => pfo_o (pf_brC hcc h1 _) (fun y I2 h2 => pfo_ret h2 _))))
      refine ⟨x, I', B2, J1, a1, ?_, a2⟩
      unfold asC
      rw [e125, sb, if_neg i10]
      show ((mX12_needWord B1 J1 113).bind _) = _
      rw [l3, sb, if_pos rfl]
  · left
    obtain ⟨x, I', a1, a2⟩ := pfo_PL ((fail_PL k4 (pu_scp H) (by omega)).mono (Nat.le_succ b) (by omega)) (c' := b + 1) (fun f p hf => pf_ifC hcc hf (nI (nest + 1)) (nI κ) l1)
    refine ⟨x, I', B1, J, ?_, ?_, a2⟩
    · show ((mX2_want I (nI 125)).bind _) = _
      rw [k2, sb]
      exact a1
    · unfold asC
      show ((mX12_need B J (nI 125)).bind _) = _
      rw [k3, sb, if_pos rfl]
end
