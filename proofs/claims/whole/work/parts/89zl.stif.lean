/-! IF (pure) -/
theorem open_lt : ∀ i, i < 8 → nI i < 8 := by decide
theorem open_8 : ¬ nI 8 < 8 := by decide
section
variable {k h M n : Nat} {D : List Df} {F : fT} {I B : iT} {J : jT} {L : lT} {bs : List Nat} {t : Tok} {r : List Tok} {P md nest wd b z : Nat} {S : List Sl} {a6 a8 a0 c6 c8 c0 : List Int32}
theorem pl_45 {c : Nat} {I' B' : iT} {J' : jT} (H : PL k h c I B J I' B' J') (v : Int32) : PL k h c I B J I' (a_u2 B' 186 45 v) J' := by
  obtain ⟨f, p, c1, c2, c3, c4, c5⟩ := H
  exact ⟨f, p, c1, c2, by rw [a_u2_n _ _ (by omega)]; exact c3, by rw [a_u2_n _ _ (by omega)]; exact c4, c5.trans (rP_RX (rP_sc (h := h) (md := 0) (nest := 0) (by omega) v))⟩
theorem bi_as {α β γ : Type} (o : Option α) (x : β) (g : β × α → Option γ) : ((o.bind fun q5 => some (x, q5)).bind g) = o.bind fun q5 => g (x, q5) := by
  cases o <;> rfl
theorem pk_put {a j : Nat} {v : Int32} {Q Rn Rc : Nat → Prop} (hT : tabL k L) (hS : sumL k L) (ha : a = k + 49 ∨ a = k + 51 ∨ a = k + 53) (hj : ∀ x, Rn x → x ≠ j) : PK k L (upL L a ((L a).set j v)) B B J J Q Rn Rc := by
  have hg : ∀ c i, i ≠ j → gI (upL L a ((L a).set j v) c) i = gI (L c) i := by
    intro c i hi
    by_cases q : c = a
    · subst q; rw [upL_s, gI_sn hi]
    · rw [upL_n _ _ q]
  exact ⟨hT, TE_eq (fun c q1 q2 => upL_n _ _ (by omega)), hS, fun c w1 w2 => ⟨[], by rw [upL_n _ _ (by omega), List.append_nil]⟩, ⟨[], by rw [upL_n _ _ (by omega), List.append_nil]⟩, by rw [upL_n _ _ (by omega)]; exact Nat.le_refl _, by rw [upL_n _ _ (by omega)]; exact Nat.le_refl _, fun _ _ => ⟨rfl, rfl, rfl, rfl, rfl⟩, fun x hx => ⟨hg _ _ (hj x hx), hg _ _ (hj x hx), hg _ _ (hj x hx), hg _ _ (hj x hx)⟩, fun x hx => ⟨by rw [upL_n _ _ (by omega)], by rw [upL_n _ _ (by omega)]⟩⟩
theorem pr_mv {L8 L' : lT} {B8 B' : iT} {J8 J' : jT} {Q Rn Rc Q' Rn' Rc' : Nat → Prop} {m m' u κ l P' md' j : Nat} {v : Int32} {Γ : Gm} (hg : PGr k (upL L8 (k + 51) ((L8 (k + 51)).set j v)) L' P P' md md') (hT : tabL k L8) (hS : sumL k L8) (hj : ∀ x, Rn x → x ≠ j ∧ x < (L8 (k + 47)).length ∧ Rn' x) (hc : ∀ x, Rc x → x < (L8 (k + 55)).length ∧ Rc' x) (hA : ∀ v, Q v → Q' v ∧ (B' 188 v = B8 188 v ∧ B' 189 v = B8 189 v ∧ B' 190 v = B8 190 v ∧ B' 191 v = B8 191 v ∧ J' 192 v = J8 192 v)) (hm : m ≤ m') (hpr : PR k n D L8 B8 J8 Q Rn Rc m u κ l Γ) : PR k n D L' B' J' Q' Rn' Rc' m' u κ l Γ := by
  have h1 : PR k n D (upL L8 (k + 51) ((L8 (k + 51)).set j v)) B8 J8 Q Rn Rc m u κ l Γ := pr_to (pk_put hT hS (by omega) (fun x hx => (hj x hx).1)) (fun v hv => hv) (fun v hv => hv) (fun v hv => hv) m m (Nat.le_refl _) _ _ _ _ hpr
  have hT' : tabL k (upL L8 (k + 51) ((L8 (k + 51)).set j v)) := tab_eq (fun a q1 q2 => upL_n _ _ (by omega)) hT
  have hS' : sumL k (upL L8 (k + 51) ((L8 (k + 51)).set j v)) := by
    unfold sumL
    rw [upL_n _ _ (by omega), upL_n _ _ (by omega), upL_n _ _ (by omega), upL_n _ _ (by omega), upL_n _ _ (by omega)]
    exact hS
  have hPK : PK k (upL L8 (k + 51) ((L8 (k + 51)).set j v)) L' B8 B' J8 J' Q Rn Rc := pk_of hg hT' hS' (fun v hv => (hA v hv).2) (fun x hx => by rw [upL_n _ _ (by omega)]; exact (hj x hx).2.1) (fun x hx => by rw [upL_n _ _ (by omega)]; exact (hc x hx).1)
  exact pr_to hPK (fun v hv => (hA v hv).1) (fun x hx => (hj x hx).2.2) (fun x hx => (hc x hx).2) m m' hm _ _ _ _ h1
theorem pr_sm {B' : iT} {J' : jT} {Q Rn Rc Q' Rn' Rc' : Nat → Prop} {m m' u κ l : Nat} {Γ : Gm} (hT : tabL k L) (hS : sumL k L) (hQ : ∀ v, Q v → Q' v ∧ (B' 188 v = B 188 v ∧ B' 189 v = B 189 v ∧ B' 190 v = B 190 v ∧ B' 191 v = B 191 v ∧ J' 192 v = J 192 v)) (hR : ∀ v, Rn v → Rn' v) (hRc : ∀ v, Rc v → Rc' v) (hm : m ≤ m') (hpr : PR k n D L B J Q Rn Rc m u κ l Γ) : PR k n D L B' J' Q' Rn' Rc' m' u κ l Γ := by
  have hPK : PK k L L B B' J J' Q Rn Rc := ⟨hT, TE.rfl, hS, SE.rfl, ⟨[], (List.append_nil _).symm⟩, Nat.le_refl _, Nat.le_refl _, fun v hv => (hQ v hv).2, fun _ _ => ⟨rfl, rfl, rfl, rfl⟩, fun _ _ => ⟨rfl, rfl⟩⟩
  exact pr_to hPK (fun v hv => (hQ v hv).1) hR hRc m m' hm _ _ _ _ hpr
/-- the node of an if -/
theorem if_asm {L3 L8 L' : lT} {B3 B8 B' : iT} {J8 J' : jT} {P0 P3 P8 Pe md3 md8 md' root e d la lb m1 m2 uy un f : Nat} {Γ : Gm} (hg4 : NG k L (upL L3 (k + 53) ((L3 (k + 53)).set (L (k + 47)).length (nI root))) (nI 312) (-1) (-1) (nI root)) (hnod : nodL k L) (pg4 : PGr k L (upL L3 (k + 53) ((L3 (k + 53)).set (L (k + 47)).length (nI root))) P0 P3 md md3) (g10 : PGr k (upL L3 (k + 53) ((L3 (k + 53)).set (L (k + 47)).length (nI root))) L8 P3 P8 md3 md8) (i13 : PGr k (upL L8 (k + 51) ((L8 (k + 51)).set (L (k + 47)).length (nI (L8 (k + 47)).length))) L' P8 Pe md8 (md' + 1)) (hS3 : sumL k L3) (hT8 : tabL k L8) (hS8 : sumL k L8) (hN8 : nodL k L8) (hT' : tabL k L') (hS' : sumL k L') (hmd : md ≤ md3 ∧ md3 ≤ md8 ∧ md8 ≤ md' ∧ 1400 * h + md' < 2800)
    (hB : ∀ c v, 188 ≤ c → c ≤ 191 → v < 1400 * h + md8 → B' c v = B8 c v) (hJ : ∀ v, v < 1400 * h + md8 → J' 192 v = J8 192 v) (hB3 : ∀ c v, 188 ≤ c → c ≤ 191 → v < 1400 * h + md3 → B8 c v = B3 c v)
    (i6 : B' 188 (1400 * h + md') = 52) (i7 : B' 189 (1400 * h + md') = nI e) (i8 : B' 190 (1400 * h + md') = nI uy) (i9 : J' 192 (1400 * h + md') = lN un) (o4 : ER k n (nsG Γ) L3 B3 (fun v => 1400 * h + md ≤ v ∧ v < 1400 * h + md3) d e root f 28)
    (g7 : PR k n D L8 B8 J8 (fun v => 1400 * h + md3 ≤ v ∧ v < 1400 * h + md8) (fun κ => (L (k + 47)).length + 1 ≤ κ ∧ κ < (L8 (k + 47)).length) (fun c => (L (k + 55)).length ≤ c ∧ c < (L8 (k + 55)).length) m1 uy ((L (k + 47)).length + 1) la Γ)
    (i10 : PR k n D L' B' J' (fun v => 1400 * h + md8 ≤ v ∧ v < 1400 * h + md') (fun κ => (L8 (k + 47)).length ≤ κ ∧ κ < (L' (k + 47)).length) (fun c => (L8 (k + 55)).length ≤ c ∧ c < (L' (k + 55)).length) m2 un (L8 (k + 47)).length lb Γ) :
    PR k n D L' B' J' (fun v => 1400 * h + md ≤ v ∧ v < 1400 * h + (md' + 1)) (fun κ => (L (k + 47)).length ≤ κ ∧ κ < (L' (k + 47)).length) (fun c => (L (k + 55)).length ≤ c ∧ c < (L' (k + 55)).length) (max m1 m2 + 1) (1400 * h + md') (L (k + 47)).length (min la lb) Γ := by
  have hg := ng_g hnod hg4
  have len9 : ∀ c, (upL L8 (k + 51) ((L8 (k + 51)).set (L (k + 47)).length (nI (L8 (k + 47)).length)) c).length = (L8 c).length := by
    intro c
    by_cases q : c = k + 51
    · subst q; rw [upL_s, List.length_set]
    · rw [upL_n _ _ q]
  obtain ⟨q1, q2, q3, q4, q5, q6, q7, q8, _⟩ := g10
  obtain ⟨y1, y2, y3, y4, y5, y6, y7, y8, _⟩ := pg4
  have g13 := i13
  obtain ⟨w1, w2, w3, w4, w5, w6, w7, w8, _⟩ := i13
  rw [len9] at w4 w5 w7 w8
  have hκ8 : (L (k + 47)).length < (L8 (k + 47)).length := by omega
  have q4κ := q4 (L (k + 47)).length (by omega)
  have w4κ := w4 (L (k + 47)).length (by omega)
  have PR1 := pr_mv (Q' := fun v => 1400 * h + md ≤ v ∧ v < 1400 * h + (md' + 1)) (Rn' := fun κ => (L (k + 47)).length ≤ κ ∧ κ < (L' (k + 47)).length) (Rc' := fun c => (L (k + 55)).length ≤ c ∧ c < (L' (k + 55)).length) (B' := B') (J' := J') g13 hT8 hS8 (fun x hx => ⟨by omega, hx.2, by omega, by omega⟩) (fun x hx => ⟨hx.2, hx.1, by omega⟩) (fun v hv => ⟨⟨by omega, by omega⟩, hB 188 v (by omega) (by omega) hv.2, hB 189 v (by omega) (by omega) hv.2, hB 190 v (by omega) (by omega) hv.2, hB 191 v (by omega) (by omega) hv.2, hJ v hv.2⟩) (Nat.le_max_left m1 m2) g7
  have PR2 := pr_sm (Q' := fun v => 1400 * h + md ≤ v ∧ v < 1400 * h + (md' + 1)) (Rn' := fun κ => (L (k + 47)).length ≤ κ ∧ κ < (L' (k + 47)).length) (Rc' := fun c => (L (k + 55)).length ≤ c ∧ c < (L' (k + 55)).length) (B' := B') (J' := J') hT' hS' (fun v hv => ⟨⟨by omega, by omega⟩, rfl, rfl, rfl, rfl, rfl⟩) (fun v hv => ⟨by omega, hv.2⟩) (fun v hv => ⟨by omega, hv.2⟩) (Nat.le_max_right m1 m2) i10
  have eER : ER k n (nsG Γ) L' B' (fun v => 1400 * h + md ≤ v ∧ v < 1400 * h + (md' + 1)) d e root f 28 := er_to hS3 (show SE k L3 L' from SE.trans (SE.trans (SE.trans (fun a w1 w2 => ⟨[], by rw [upL_n _ _ (by omega), List.append_nil]⟩) q1) (fun a w1 w2 => ⟨[], by rw [upL_n _ _ (by omega), List.append_nil]⟩)) w1) (fun v hv => ⟨by rw [hB _ _ (by omega) (by omega) (by omega)]; exact hB3 188 v (by omega) (by omega) hv.2, by rw [hB _ _ (by omega) (by omega) (by omega)]; exact hB3 189 v (by omega) (by omega) hv.2, by rw [hB _ _ (by omega) (by omega) (by omega)]; exact hB3 190 v (by omega) (by omega) hv.2⟩) (fun v hv => ⟨hv.1, by omega⟩) _ _ _ _ _ _ _ (Nat.le_refl _) (Nat.le_refl _) o4
  refine ⟨by omega, ⟨by omega, by omega⟩, by omega, ⟨Nat.le_refl _, by omega⟩, Or.inr (Or.inr (Or.inr (Or.inr (Or.inr (Or.inr (Or.inr (Or.inr (Or.inr (Or.inr (Or.inr (Or.inr ⟨e, root, f, d, uy, un, (L8 (k + 47)).length, la, lb, i6, ?_, i7, ?_, eER, i8, i9, ?_, rfl, PR1, PR2⟩)))))))))))⟩
  · rw [w4κ.1, upL_n _ _ (by omega), q4κ.1]
    exact hg.1
  · rw [w4κ.2.2.2, upL_n _ _ (by omega), q4κ.2.2.2]
    exact hg.2.2.2.1
  · rw [w4κ.2.2.1, upL_s]
    exact gI_se (by rw [hN8.2.1]; exact hκ8) _
theorem st_if {Rc Rc2 : sc_3readAlternativeT} {Rr Rr2 : sc_12actT} (h1 : Rc.2.1 = bX3_readBraced Rc2) (h2 : Rr.2.1 = bX12_asks Rr2) (hP : nest < 8 → HP k h M n D F bs b (nest + 1) Rc2.2.2.2.2 Rr2.2.2.2) (hcc : ∀ f p b I x, PF k f p b I → Rc2.2.2.2.2 I F x = some (-1, I)) (hC : CR I B J bs t r) (H : PS k h M n D F I B J L t.2.2 md nest S a6 a8 a0 wd b 0) (q : t.1 = 312) : WO k h M n D F I B J L bs t.2.2 md nest S a6 a8 a0 wd b (bX3_readIf Rc I F (nI nest)) (bX12_act Rr B J 112) := by
  have hk0 := H.1.1.1
  have hF := H.2.1.1
  have hnod := H.2.2.1
  have bb := H.1.2.2.2.2.2.2.2
  have bn := H.2.2.2.2.2.1
  have hbb := H.2.2.2.2.2.2.2.2
  have htl : tl 312 = 2 := by decide
  have hh := H.1.2.2.2.2.1
  have hnst := H.1.2.2.2.2.2.2.1
  obtain ⟨u0, r0, y1, y2, y3⟩ := tkl_more hC.2.2.1 (by omega)
  have hend := tkl_end r0 u0 y2
  rw [q, htl] at y3
  have hlen : (L (k + 47)).length < 2 ^ 31 := by omega
  obtain ⟨I1, e1, H1, f1⟩ := ps_node H (by omega) (nI 312)
  have hC1 : CR I1 B J bs t r := CR_I hC (f1 6 (by omega)) (f1 9 (by omega)) (f1 10 (by omega)) (f1 11 (by omega))
  have fr1 : cQ k I I1 := fun c q1 q2 q3 => f1 c (by omega)
  have eC : bX3_readIf Rc I F (nI nest) = (mX3_refuseOpen I1 (nI nest)).bind fun q2 => ifA Rc2.2.2.2.2 k q2 F (nI (nest + 1)) (nI (L (k + 47)).length) := by
    rw [if_eq hF h1]
    show ((mX0_addNode k I (nI 312)).bind _) = _
    rw [e1, sb, nI_1]
  have eR : bX12_act Rr B J 112 = (mX12_opens B J).bind fun q1 => if q1.1 = 0 then some (0, q1.2.1, q1.2.2) else (bX12_asks Rr2 q1.2.1 q1.2.2).bind fun q2 => mX12_act_38 Rr q2.2.1 q2.2.2 112 q2.1 := by
    unfold bX12_act
    rw [if_neg (by decide), if_pos rfl]
    unfold mX12_act_12
    simp only [if_neg (show ¬ (112 : Int32) = 108 by decide), h2]
  rw [eC, eR]
  rcases Nat.lt_or_ge nest 8 with hn | hn
  · -- it opens
    have hP := hP hn
    have eO : mX3_refuseOpen I1 (nI nest) = some I1 := by
      unfold mX3_refuseOpen
      rw [if_pos (open_lt nest hn)]
    have hCx : CR I1 (a_u2 B 186 45 (nI (nest + 1))) J bs t r := CR_B hC1 (fun j w1 w2 => a_u2_n _ _ (by omega)) (funext fun j => a_u2_n _ _ (by omega)) rfl
    obtain ⟨u, r', I2, B2, J2, k1, k2, k3, k4, k5, k6, k7⟩ := jadv hCx (by omega)
    rw [q, htl] at k5
    have H2 := pt_cur (pt_open H1 hn) k6 k7 (P' := u.2.2) (by omega)
    have fr2 : cQ k I I2 := fr1.trans (cf_cQ k6)
    have rp2 : rP h md nest B J B2 J2 := (rP_sc (by omega) (nI (nest + 1))).trans (rf_rP k7) (Nat.le_refl md) (Nat.le_refl nest)
    have eOr : mX12_opens B J = some (1, B2, J2) := by
      unfold mX12_opens
      rw [if_neg (fun z => by rw [hnst.1] at z; have := (nI_eq (a := nest) (b := 8) (by omega) (by omega)).mp z; omega), hnst.1, nI_1, k3, sb]
    rw [eO, sb, eOr, sb, if_neg i10]
    have eA : ifA Rc2.2.2.2.2 k I1 F (nI (nest + 1)) (nI (L (k + 47)).length) = (mX7_readSum SF I2 F 0 (nI (nest + 1))).bind fun q4 => ifB Rc2.2.2.2.2 k q4.2 F (nI (nest + 1)) (nI (L (k + 47)).length) q4.1 := by
      unfold ifA
      rw [k2, sb]
    have eAs : bX12_asks Rr2 B2 J2 = (mX12_expression SF B2 J2).bind fun q1 => if q1.1 = 0 then some (0, q1.2.1, q1.2.2) else (mX12_need q1.2.1 q1.2.2 123).bind fun q2 => if q2.1 = 0 then some (0, q2.2.1, q2.2.2) else (mX12_save q2.2.1 q2.2.2 (q2.2.1 186 45)).bind fun q3 => (Rr2.2.2.2 q3.1 q3.2).bind fun q4 => if q4.1 = 0 then some (0, q4.2.1, q4.2.2) else asC Rr2.2.2.2 q4.2.1 q4.2.2 (q2.2.1 186 47) (q2.2.1 186 43) (q2.2.1 186 45) := rfl
    show WO k h M n D F I B J L bs t.2.2 md nest S a6 a8 a0 wd b (ifA Rc2.2.2.2.2 k I1 F (nI (nest + 1)) (nI (L (k + 47)).length)) ((bX12_asks Rr2 B2 J2).bind fun q2 => mX12_act_38 Rr q2.2.1 q2.2.2 112 q2.1)
    rw [eA]
    -- both fail inside
    have out0 : ∀ {x : Int32} {I' B9 : iT} {J9 : jT} {oc : Option (Int32 × iT)}, oc = some (x, I') → bX12_asks Rr2 B2 J2 = some (0, B9, J9) → PL k h (b + 1) I B J I' B9 J9 → WO k h M n D F I B J L bs t.2.2 md nest S a6 a8 a0 wd b oc ((bX12_asks Rr2 B2 J2).bind fun q2 => mX12_act_38 Rr q2.2.1 q2.2.2 112 q2.1) := by
      intro x I' B9 J9 oc c1 c2 c3
      refine ⟨x, I', 0, a_u2 B9 186 45 (B9 186 45 - 1), J9, c1, ?_, Or.inl ⟨rfl, pl_45 c3 _⟩⟩
      rw [c2, sb]
      unfold mX12_act_38
      rw [if_pos (Or.inl rfl)]
    obtain ⟨x, I3, v, B3, J3, s1, s2, HO⟩ := pt_expr k4 H2
    rw [s1, sb]
    rcases HO with ⟨rfl, hpl⟩ | ⟨rfl, root, L3, t3, r3, md3, e, d, o1, o2, o3, o4, o5, o6, o7, o8, o9, o10, o11, o12, o13⟩
    · obtain ⟨x2, I', a1, a2⟩ := pfo_PL ((PL.pre (cQ_FQ fr2) (rP_RX rp2) hpl).mono (Nat.le_succ b) (by omega)) (c' := b + 1) (fun f p hf => pf_ifB hcc hf (nI (nest + 1)) (nI (L (k + 47)).length) x)
      exact out0 a1 (by rw [eAs, s2, sb, if_pos rfl]) a2
    · subst o1
      have hP3 := cr_end o2
      have fr3 : cQ k I I3 := fr2.trans (cS_cQ o12)
      have rp3 : rP h md nest B J B3 J3 := rp2.trans (rS_rP o13) (Nat.le_refl md) (Nat.le_refl nest)
      obtain ⟨I4, p1, H4, p3⟩ := pt_put o3 (a := k + 53) (by omega) (j := (L (k + 47)).length) hlen (nI root)
      have hC4 : CR I4 B3 J3 bs t3 r3 := CR_I o2 (p3 6 (by omega)) (p3 9 (by omega)) (p3 10 (by omega)) (p3 11 (by omega))
      have fr4 : cQ k I I4 := fr3.trans (fun c w1 w2 w3 => p3 c (by omega))
      have hng4 := ng_53 hnod (ng_x (ng_ad4 (k := k) (L := L) (nI 312)) o6 o7) (nI root)
      have hg4 := ng_g hnod hng4
      have eB4 : ifB Rc2.2.2.2.2 k I3 F (nI (nest + 1)) (nI (L (k + 47)).length) (nI root) = (brC Rc2.2.2.2.2 I4 F (nI (nest + 1))).bind fun q6 => ifC Rc2.2.2.2.2 k q6.2 F (nI (nest + 1)) (nI (L (k + 47)).length) q6.1 := by
        unfold ifB
        rw [p1, sb]
      show WO k h M n D F I B J L bs t.2.2 md nest S a6 a8 a0 wd b (ifB Rc2.2.2.2.2 k I3 F (nI (nest + 1)) (nI (L (k + 47)).length) (nI root)) _
      rw [eB4]
      rcases jneed hC4 H4.1.1 h 123 (by omega) with ⟨w1, u5, r5, I5, B5, J5, l1, l2, l3, l4, l5, l6, l7⟩ | ⟨w1, I5, B5, l2, l3, l4⟩
      · have htl5 : tl t3.1 = 1 := by rw [w1]; decide
        rw [htl5] at l5
        have l3' : mX12_need B3 J3 123 = some (1, B5, J5) := l3
        have H5 := pt_z (pt_cur H4 l6 l7 (P' := u5.2.2) (by omega)) (z' := 0) (by rw [hg4.2.2.2.2]; omega)
        have fr5 : cQ k I I5 := fr4.trans (cf_cQ l6)
        have rp5 : rP h md nest B J B5 J5 := rp3.trans (rf_rP l7) (Nat.le_refl md) (Nat.le_refl nest)
        obtain ⟨B6, J6, v1, H6, v3, v4, v5⟩ := pt_save H5
        have hcp := (sr_cp H6.1.2.2.2.2.2.1).1
        have hok6 := (sr_cp H6.1.2.2.2.2.2.1).2
        have hC6 : CR I5 B6 J6 bs u5 r5 := CR_B l4 (fun j _ _ => v4 _ _ (by omega)) (funext fun j => v4 _ _ (by omega)) (v5 _ _ (by omega))
        have rp6 : rP h md nest B J B6 J6 := rp5.trans ⟨fun c i w1 w2 w3 w4 => v4 c i (by omega), fun c i w1 w2 w3 w4 => v5 c i (by omega)⟩ (Nat.le_refl md) (Nat.le_refl nest)
        obtain ⟨I6, c6, c8, n1, H7, n3, n4⟩ := pt_enter H6
        have hC7 : CR I6 B6 J6 bs u5 r5 := CR_I hC6 (n4 6 (by omega)) (n4 9 (by omega)) (n4 10 (by omega)) (n4 11 (by omega))
        have fr7 : cQ k I I6 := fr5.trans (fun c w1 w2 w3 => n4 c (by omega))
        have e45 : B5 186 45 = nI (nest + 1) := H5.1.2.2.2.2.2.2.1.1
        have e43 : B5 186 43 = nI S.length := H5.1.2.2.2.2.2.1.2.1.2.2.2.2.2.2
        have e47 : B5 186 47 = nI e := by rw [l7.1 _ _ (by omega)]; exact o5
        have eAs2 : bX12_asks Rr2 B2 J2 = (Rr2.2.2.2 B6 J6).bind fun q4 => if q4.1 = 0 then some (0, q4.2.1, q4.2.2) else asC Rr2.2.2.2 q4.2.1 q4.2.2 (nI e) (nI S.length) (nI (nest + 1)) := by
          rw [eAs, s2, sb, if_neg i10]
          show ((mX12_need B3 J3 123).bind _) = _
          rw [l3', sb, if_neg i10]
          show ((mX12_save B5 J5 (B5 186 45)).bind fun q3 => (Rr2.2.2.2 q3.1 q3.2).bind fun q4 => if q4.1 = 0 then some (0, q4.2.1, q4.2.2) else asC Rr2.2.2.2 q4.2.1 q4.2.2 (B5 186 47) (B5 186 43) (B5 186 45)) = _
          rw [e45, e43, e47, v1, sb]
        have eB6 : brC Rc2.2.2.2.2 I4 F (nI (nest + 1)) = (Rc2.2.2.2.2 I6 F (nI (nest + 1))).bind fun q3 => (mX5_leave q3.2).bind fun q4 => (mX2_want q4 125).bind fun q5 => some (q3.1, q5) := by
          unfold brC
          show ((mX2_want I4 (nI 123)).bind _) = _
          rw [l2, sb, n1, sb]
        rw [eB6]
        rcases inP hP rfl hC7 H7 hcp n3 with ⟨x, I7, I8, B8, J8, g1, g2, g3, g4⟩ | ⟨la, I7, I8, B8, J8, t8, r8, L8, md8, d6, d8, d0, wd8, uy, m1, g1, g2, g3, g4, g5, g6, g7, g8, g9, g10, g11, g12, g13⟩
        · obtain ⟨x2, I', a1, a2⟩ := pfo_PL (PL.pre (cQ_FQ fr7) (rP_RX rp6) g4) (c' := b + 1) (o := (mX2_want I8 125).bind fun q5 => ifC Rc2.2.2.2.2 k q5 F (nI (nest + 1)) (nI (L (k + 47)).length) x) (fun f p hf => by
            rw [fm_want hf.1 (by decide), sb]
            exact pf_ifC hcc hf _ _ _)
          refine out0 (x := x2) (I' := I') (B9 := B8) (J9 := J8) ?_ (by rw [eAs2, g3, sb, if_pos rfl]) a2
          rw [g1, sb]
          show (((mX5_leave I7).bind _).bind _) = _
          rw [g2, sb]
          show ((((mX2_want I8 125).bind fun q5 => some (x, q5))).bind fun q6 => ifC Rc2.2.2.2.2 k q6.2 F (nI (nest + 1)) (nI (L (k + 47)).length) q6.1) = _
          rw [bi_as]
          exact a1
        · have gl := pgr_lt g10
          have gmd := pgr_md g10
          have gL := g10
          obtain ⟨q1, q2, q3, q4, q5, q6, q7, q8, _⟩ := gL
          have hok8 : SOK k h M L8 B8 J8 n nest S := sok_to hok6 H7.1.2.2.1 (TE_eq (fun a w1 w2 => q2 a (by omega))) (fun v w1 w2 => ⟨g12.1 _ _ (by omega) (by omega) (by omega) (by omega), g12.1 _ _ (by omega) (by omega) (by omega) (by omega), g12.1 _ _ (by omega) (by omega) (by omega) (by omega), g12.1 _ _ (by omega) (by omega) (by omega) (by omega), g12.2 _ _ (by omega) (by omega) (by omega) (by omega)⟩)
          have hv8 : SV B8 J8 n (nest + 1) S := sv_to v3 ⟨hok6.2.2.2.1, hok6.2.1⟩ (fun c i w1 w2 w3 => g12.1 c i (by omega) (by omega) (by omega) (by omega)) (fun i w1 w2 => g12.2 207 i (by omega) (by omega) (by omega) (by omega))
          have hκ8 : (L (k + 47)).length < (L8 (k + 47)).length := by rw [hg4.2.2.2.2] at q7; omega
          have rp8 : rP h md nest B J B8 J8 := rp6.trans g12 o8 (Nat.le_succ nest)
          have fr8 : cW k I I8 := (cQ_cW hk0 fr7).trans g11
          have eI8 : ((Rc2.2.2.2.2 I6 F (nI (nest + 1))).bind fun q3 => (mX5_leave q3.2).bind fun q4 => (mX2_want q4 125).bind fun q5 => some (q3.1, q5)).bind (fun q6 => ifC Rc2.2.2.2.2 k q6.2 F (nI (nest + 1)) (nI (L (k + 47)).length) q6.1) = (mX2_want I8 125).bind fun q5 => ifC Rc2.2.2.2.2 k q5 F (nI (nest + 1)) (nI (L (k + 47)).length) (nI la) := by
            rw [g1, sb]
            show (((mX5_leave I7).bind _).bind _) = _
            rw [g2, sb]
            show ((((mX2_want I8 125).bind fun q5 => some (nI la, q5))).bind fun q6 => ifC Rc2.2.2.2.2 k q6.2 F (nI (nest + 1)) (nI (L (k + 47)).length) q6.1) = _
            rw [bi_as]
          have eAs8 : bX12_asks Rr2 B2 J2 = asC Rr2.2.2.2 B8 J8 (nI e) (nI S.length) (nI (nest + 1)) := by rw [eAs2, g3, sb, if_neg i10]
          show WO k h M n D F I B J L bs t.2.2 md nest S a6 a8 a0 wd b (((Rc2.2.2.2.2 I6 F (nI (nest + 1))).bind fun q3 => (mX5_leave q3.2).bind fun q4 => (mX2_want q4 125).bind fun q5 => some (q3.1, q5)).bind (fun q6 => ifC Rc2.2.2.2.2 k q6.2 F (nI (nest + 1)) (nI (L (k + 47)).length) q6.1)) _
          rw [eI8]
          rcases if2 hP hcc g4 g5 hok8 hv8 hκ8 (nI la) (nI e) (by omega) with ⟨x, I', B', J', i1, i2, i3⟩ | ⟨lb, I', B', J', t', r'', L', md', z6, z8, z0, wd', un, m2, i1, i2, i3, i4, i5, i6, i7, i8, i9, i10', i11, i12, i13, i14, i15, i16, i17, i18⟩
          · exact out0 i1 (by rw [eAs8]; exact i2) (PL.pre (cW_FQ fr8) (rP_RX rp8) i3)
          · have e45' : B' 186 45 - 1 = nI nest := by rw [i4.2.2.2.2.2.2.2.2.1.1, nI_pred]
            have hPe := cr_end i3
            have hun' : 1400 * h + md' < 2800 := by have := i4.2.2.2.2.2.2.2.2.2.2.1.2.1; omega
            have e55 : (upL L3 (k + 53) ((L3 (k + 53)).set (L (k + 47)).length (nI root))) (k + 55) = L (k + 55) := by rw [upL_n _ _ (by omega), o7 _ (by omega), ad4_n _ (by omega)]
            have pg4 : PGr k L (upL L3 (k + 53) ((L3 (k + 53)).set (L (k + 47)).length (nI root))) t.2.2 u5.2.2 md md3 := ng_gr hnod hng4 (by omega) (by rw [upL_n _ _ (by omega)]; rw [ad4_n _ (by omega)] at o9; omega) (by omega) o8 (by rw [upL_n _ _ (by omega), o7 _ (by omega), ad4_n _ (by omega)]; omega) (Or.inr ⟨root, by have z1 := (er_u o4).2.2.1; have z2 := rs_len o3.1.1 (a := k + 19) (by unfold rowA; omega); rw [(lenS o3.1.1.1).1] at z2; omega, rfl⟩)
            rw [hg4.2.2.2.2, e55] at g7
            have hB3 : ∀ c v, 188 ≤ c → c ≤ 191 → v < 1400 * h + md3 → B8 c v = B3 c v := fun c v x1 x2 x3 => by rw [g12.1 c v (by omega) (by omega) (by omega) (by omega), v4 c v (by omega), l7.1 c v (by omega)]
            have hmdx : md ≤ md3 ∧ md3 ≤ md8 ∧ md8 ≤ md' ∧ 1400 * h + md' < 2800 := ⟨o8, gl.2, i14, hun'⟩
            have hPRf := if_asm (h := h) hng4 hnod pg4 g10 i13 o3.1.2.2.2.1 g5.2.2.1 g5.2.2.2.1 g5.2.2.2.2.1 i4.2.2.1 i4.2.2.2.1 hmdx i17 (fun v hv => i16.2 192 v (by omega) (by omega) (by omega) (by omega)) hB3 i6 i7 (by rw [i8]; exact g6) i9 o4 g7 i10'
            have hPRg := pr_sm (B' := a_u2 B' 186 45 (nI nest)) (J' := J') i4.2.2.1 i4.2.2.2.1 (fun v hv => ⟨hv, a_u2_n _ _ (by omega), a_u2_n _ _ (by omega), a_u2_n _ _ (by omega), a_u2_n _ _ (by omega), rfl⟩) (fun v hv => hv) (fun v hv => hv) (Nat.le_refl _) hPRf
            have pgF : PGr k L L' t.2.2 t'.2.2 md (md' + 1) := pgr_trans (pgr_put (pgr_trans pg4 g10) (a := k + 51) (j := (L (k + 47)).length) (v := nI (L8 (k + 47)).length) (Or.inr (Or.inl rfl)) (fun _ => Nat.le_refl _) (fun z => absurd z (by omega))) i13
            have b55 : 3 * (L' (k + 55)).length + t.2.2 ≤ 3 * (L (k + 55)).length + t'.2.2 := pgF.2.2.2.2.2.2.2.2.2.2.2.2.2.2
            have HPE := pu_pe i4 (by omega)
            have hC' : CR I' (a_u2 B' 186 45 (nI nest)) J' bs t' r'' := CR_B i3 (fun j _ _ => a_u2_n _ _ (by omega)) (funext fun j => a_u2_n _ _ (by omega)) rfl
            have hl47 : 4 * (L' (k + 47)).length ≤ t'.2.2 := i4.2.2.2.2.2.2.2.2.2.2.1.2.2.1
            have hlab : la < 2 ^ 31 ∧ lb < 2 ^ 31 := by omega
            have hm9 : max m1 m2 + 1 + (L (k + 47)).length ≤ (L' (k + 47)).length ∧ min la lb ≤ max m1 m2 + 1 := by
              have z1 : (L8 (k + 47)).length ≤ (L' (k + 47)).length := by omega
              rw [hg4.2.2.2.2] at g8
              omega
            refine ⟨if nI lb < nI la then nI lb else nI la, I', 1, a_u2 B' 186 45 (nI nest), J', i1, ?_, Or.inr ⟨rfl, min la lb, ?_, 1400 * h + md', L', t', r'', md' + 1, z6, z8, z0, wd', max m1 m2 + 1, hC', HPE, ?_, hPRg, hm9, by omega, pgF, fr8.trans i15, (rp8.trans i16 (by omega) (Nat.le_succ nest)).trans (rP_sc (by omega) _) (Nat.le_refl md) (Nat.le_refl nest), lk_le (g13.trans i18) (Nat.le_succ nest)⟩⟩
            · rw [eAs8, i2, sb]
              unfold mX12_act_38
              rw [if_pos (Or.inr rfl), e45']
            · rcases Nat.lt_or_ge lb la with x | x
              · rw [if_pos (nI_lt x hlab.1), Nat.min_eq_right (by omega)]
              · rw [if_neg (nI_nlt x hlab.2), Nat.min_eq_left (by omega)]
            · rw [a_u2_n _ _ (by omega)]
              exact i5
      · obtain ⟨x2, I', a1, a2⟩ := pfo_PL ((PL.pre (cQ_FQ fr4) (rP_RX rp3) (fail_PL l4 (pt_scp H4) (by omega))).mono (Nat.le_succ b) (by omega)) (c' := b + 1) (o := ((mX5_enter I5).bind fun q2 => (Rc2.2.2.2.2 q2 F (nI (nest + 1))).bind fun q3 => (mX5_leave q3.2).bind fun q4 => (mX2_want q4 125).bind fun q5 => some (q3.1, q5)).bind fun q6 => ifC Rc2.2.2.2.2 k q6.2 F (nI (nest + 1)) (nI (L (k + 47)).length) q6.1) (fun f p hf => pfo_o (pf_brE hcc hf (nI (nest + 1))) (fun y I2 h2 => pf_ifC hcc h2 _ _ _))
        refine out0 (x := x2) (I' := I') (B9 := B5) (J9 := J3) ?_ ?_ a2
        · unfold brC
          show ((((mX2_want I4 (nI 123)).bind _)).bind _) = _
          rw [l2, sb]
          exact a1
        · rw [eAs, s2, sb, if_neg i10]
          show ((mX12_need B3 J3 (nI 123)).bind _) = _
          rw [l3, sb, if_pos rfl]
  · -- too deep
    have h8 : nest = 8 := by omega
    obtain ⟨I9, B9, a1, a2, a3, a4⟩ := pbad hC1 H1 (f := 5) (by decide) (nI t.2.2)
    obtain ⟨x, I', b1, b2⟩ := pfo_PL ((PL.pre (cQ_FQ fr1) (rP_RX (rP_rfl (h := h) (md := md) (nest := nest) (B := B) (J := J))) a3).mono (Nat.le_succ b) (by omega)) (c' := b + 1) (fun f p hf => pf_ifA hcc hf (nI (nest + 1)) (nI (L (k + 47)).length))
    refine ⟨x, I', 0, B9, J, ?_, ?_, Or.inl ⟨rfl, b2⟩⟩
    · unfold mX3_refuseOpen
      rw [h8, if_neg open_8, cr_8 hC1, a1, sb, sb, ← h8]
      exact b1
    · unfold mX12_opens
      rw [if_pos (by rw [hnst.1, h8]; rfl), cr_4 hC, a2, sb, if_pos (Or.inl rfl), sb, if_pos rfl]
end
