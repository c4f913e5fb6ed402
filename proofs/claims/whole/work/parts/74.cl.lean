/-! THE LOOP OVER THE BRANCHES, in both (pure) -/
theorem skip_eq {I B : iT} {J : jT} {bs : List Nat} {t : Tok} {r : List Tok} (hC : CR I B J bs t r) (c : Nat) (hc : c < 2 ^ 31) : mX2_skip I (nI c) = if t.1 = c then (mX2_advance I).bind fun q1 => some (1, q1) else some (0, I) := by
  have e := cr_c hC c hc
  unfold mX2_skip
  by_cases q : t.1 = c
  · rw [if_pos (e.mpr q), if_pos q]
  · rw [if_neg (fun z => q (e.mp z)), if_neg q]
section
variable {k h M : Nat} {W : List Ent} {F : fT} {pn pt : List Int32} {bs : List Nat} {mc cc op : Nat} {kd w K0 N0 m0 P0 : Nat}
theorem cl_ok (R : sc_9readChoiceT) (R' : sc_12choiceT) (hkw : (kd = 43 ∧ w = 6) ∨ (kd = 38 ∧ w = 7)) (hop : op ≤ 11) (hfm : ∀ f p I x, FM k f p I → FMo k f p I (R.2.2 I F x)) (hch : ∀ (I B : iT) (J : jT) (L : lT) (t : Tok) (r : List Tok) (c md : Nat), CR I B J bs t r → TS k h M W F I B J L t.2.2 c md (op + 1) → TO k h M W F I B J L bs t.2.2 c md (op + 1) (R.2.2 I F (nI (op + 1))) (R'.2 B J)) :
    ∀ (d : Nat) (I B : iT) (J : jT) (L : lT) (bl : List Br) (t : Tok) (r : List Tok) (md n m : Nat), bl.length + d = 6 → CR I B J bs t r → CI k h M W F I B J L pn pt t.2.2 mc cc md op bl w K0 N0 m0 P0 → d + 1 < n → d < m →
    CO k h M W F I B J L pn pt bs t.2.2 mc cc md op K0 N0 m0 P0 (mX9_readChoice_20 R n I F (nI kd) (nI (op + 1)) (nI pn.length) (nI bl.length)) (mX12_choice_30 R' (mX12_choice_22 R' m) B J (nI w) (nI (1400 * h + mc)) (nI bl.length)) := by
  intro d
  induction d with
  | zero =>
    intro I B J L bl t r md n m hd hC H hn hm
    obtain ⟨n, rfl⟩ : ∃ x, n = x + 1 := ⟨n - 1, by omega⟩
    rcases ch_head R R' (mX12_choice_22 R' m) hfm hC H hop n (nI kd) (nI (op + 1)) (nI w) with ⟨x, I', B', J', e1, e2, e3⟩ | ⟨hlt, _⟩
    · exact ⟨x, I', 0, B', J', e1, e2, Or.inl ⟨rfl, e3⟩⟩
    · omega
  | succ d ih =>
    intro I B J L bl t r md n m hd hC H hn hm
    obtain ⟨n, rfl⟩ : ∃ x, n = x + 1 := ⟨n - 1, by omega⟩
    rcases ch_head R R' (mX12_choice_22 R' m) hfm hC H hop n (nI kd) (nI (op + 1)) (nI w) with ⟨x, I', B', J', e1, e2, e3⟩ | ⟨hlt, w0, u, r', I3, B1, J1, hr, hw0, hno, hC3, hP3, hR3, h142, hcT3, hrf1, eC, eR⟩
    · exact ⟨x, I', 0, B', J', e1, e2, Or.inl ⟨rfl, e3⟩⟩
    obtain ⟨HT, ⟨d1, d2, d3, d4⟩, ⟨c1, c2, c3, c4⟩, ⟨n1, n2, n3, n4, n5⟩, he, ⟨b1, b2, b3, b4, b5, b6⟩⟩ := H
    obtain ⟨h1, h2, h3, h4, ⟨h5, h6, h7, h8, h9⟩, ⟨h10, h11, h12⟩, ⟨h13, h14, h15, h16⟩, h17, h18, h19⟩ := HT
    have hk := h1.1
    have hP := cr_end hC
    rw [eC, eR]
    -- the state with the NAME in the drafts
    have eL2 : ∀ a, a ≠ 143 → a ≠ 145 → upL (upL L 145 (L 145 ++ [-1])) 143 (L 143 ++ [nI (cN w0)]) a = L a := fun a q1 q2 => by rw [upL_n _ _ q1, upL_n _ _ q2]
    have L23 : upL (upL L 145 (L 145 ++ [-1])) 143 (L 143 ++ [nI (cN w0)]) 143 = L 143 ++ [nI (cN w0)] := upL_s _ _ _
    have L25 : upL (upL L 145 (L 145 ++ [-1])) 143 (L 143 ++ [nI (cN w0)]) 145 = L 145 ++ [-1] := by rw [upL_n _ _ (by decide), upL_s]
    generalize upL (upL L 145 (L 145 ++ [-1])) 143 (L 143 ++ [nI (cN w0)]) = L2 at hR3 eL2 L23 L25
    have l3 : (L 143).length = pn.length + bl.length := by rw [d1]; simp
    have l5 : (L 145).length = pn.length + bl.length := by rw [d2]; simp; exact d3
    have HT3 : TS k h M W F I3 B1 J1 L2 u.2.2 (cc + psm bl) md (op + 1) := by
      refine ⟨hR3, h2, tab_eq (fun a q1 q2 => eL2 a (by omega) (by omega)) h3, ?_, ⟨h5, by rw [hrf1.1 _ _ (by omega)]; exact h6, by rw [hrf1.1 _ _ (by omega)]; exact h7, by rw [hrf1.1 _ _ (by omega)]; exact h8, h9⟩, ⟨by rw [hrf1.1 _ _ (by omega)]; exact h10, by rw [h142]; exact h11, h12⟩, ⟨by rw [hrf1.1 _ _ (by omega)]; exact h13, h14, ?_, ?_⟩, ?_, ?_, by omega⟩
      · exact nt_to h4 h3 (TE_eq (fun a q1 q2 => eL2 a (by omega) (by omega))) (eL2 _ (by omega) (by omega)) (eL2 _ (by omega) (by omega)) (fun v _ _ => ⟨hrf1.1 _ _ (by omega), hrf1.1 _ _ (by omega), hrf1.1 _ _ (by omega), hrf1.1 _ _ (by omega), hrf1.2 _ _ (by omega)⟩) (hrf1.1 _ _ (by omega)) (fun i => hrf1.2 _ _ (by omega)) (fun i => hrf1.1 _ _ (by omega))
      · rw [L23, L25]; simp; exact h15
      · rw [L23]; simp; omega
      · rw [eL2 _ (by omega) (by omega)]; omega
      · rw [eL2 _ (by omega) (by omega)]; omega
    rcases jneed hC3 hR3 h 58 (by decide) with ⟨q, u4, r4, I4, B2, J2, k1, k2, k3, k4, k5, k6, k7⟩ | ⟨q, I4, B2, k2, k3, k4⟩
    · have k2' : mX2_want I3 58 = some I4 := k2
      have k3' : mX12_need B1 J1 58 = some (1, B2, J2) := k3
      have htl : tl u.1 = 1 := by rw [q]; decide
      rw [htl] at k5
      have HT4 := ts_cur HT3 k6 k7 (P' := u4.2.2) (by omega)
      obtain ⟨x, I5, v, B3, J3, e1, e2, HO⟩ := hch I4 B2 J2 L2 u4 r4 (cc + psm bl) md k4 HT4
      rcases HO with ⟨hv, hF⟩ | ⟨hv, u', tt, p, hx, L5, t5, r5, md5, g1, g2, g3, g4, g5, g6, g7, g8, g9, g10, g11, g12⟩
      · subst hv
        obtain ⟨x', I', a1, a2⟩ := fmo_FAIL (FAIL.pre ((cT_FX hcT3).trans (cf_FX k6)) ((rf_RX hrf1).trans (rf_RX k7)) hF) (o := (mX4_put 145 I5 (nI (pn.length + bl.length)) x).bind fun q10 => (mX9_sortLast q10 (nI pn.length)).bind fun q11 => (mX2_skip q11 44).bind fun q12 => if q12.1 = 0 then mX9_readChoice_93 R q12.2 F (nI kd) (nI (op + 1)) (nI pn.length) (nI bl.length) else mX9_readChoice_20 R n q12.2 F (nI kd) (nI (op + 1)) (nI pn.length) (nI bl.length + 1)) (fun f p hf => fm_turn R F n hf (nI kd) (nI (op + 1)) (by omega) _ _ _)
        refine ⟨x', I', 0, B3, J3, ?_, ?_, Or.inl ⟨rfl, a2⟩⟩
        · rw [k2', sb, e1, sb]; exact a1
        · rw [k3', sb, if_neg i10, e2, sb, if_pos rfl]
      · subst hv
        subst hx
        have htt := (tr_u g4).2.2
        obtain ⟨H1, H2, H3, H4, ⟨H5, H6, H7, H8, H9⟩, ⟨H10, H11, H12⟩, ⟨H13, H14, H15, H16⟩, H17, H18, H19⟩ := g2
        have hP5 := cr_end g1
        have L53 : L5 143 = L 143 ++ [nI (cN w0)] := by rw [g3.2 143 (by omega), L23]
        have L55 : L5 145 = L 145 ++ [-1] := by rw [g3.2 145 (by omega), L25]
        obtain ⟨a, c, hbl, ha, hc⟩ := bl_split hw0 bl (fun e hm => (he e hm).2.2.1) c2 hno
        subst hbl
        have hplen : (pt ++ (a ++ c).map tmB).length = pn.length + (a ++ c).length := by simp; exact d3
        obtain ⟨I6, s1, s2, s3⟩ := rs_put H1 (a := 145) (by unfold rowA; omega) (nI (pn.length + (a ++ c).length)) (nI tt)
        have hput : lput (L5 145) (nI (pn.length + (a ++ c).length)) (nI tt) = pt ++ (a ++ c).map tmB ++ [nI tt] := by
          rw [lput_nI _ (by omega), L55, d2, ← hplen]
          exact set_mid (pt ++ (a ++ c).map tmB) [] (-1) (nI tt)
        rw [hput] at s2
        obtain ⟨I7, o1, o2, o3⟩ := sort_ok s2 d3 hw0 (nI tt) (a := a) (c := c) (fun e hm => (he e hm).2.2.1) ha hc (by rw [upL_n _ _ (by decide), L53, d1]) (upL_s _ _ _) (by omega)
        have eL7 : ∀ y, y ≠ 143 → y ≠ 145 → upL (upL (upL L5 145 (pt ++ (a ++ c).map tmB ++ [nI tt])) 143 (pn ++ a.map nmB ++ nI (cN w0) :: c.map nmB)) 145 (pt ++ a.map tmB ++ nI tt :: c.map tmB) y = L5 y := fun y q1 q2 => by rw [upL_n _ _ q2, upL_n _ _ q1, upL_n _ _ q2]
        have L73 : upL (upL (upL L5 145 (pt ++ (a ++ c).map tmB ++ [nI tt])) 143 (pn ++ a.map nmB ++ nI (cN w0) :: c.map nmB)) 145 (pt ++ a.map tmB ++ nI tt :: c.map tmB) 143 = pn ++ (a ++ (1400 * h + md5, w0, u', tt, p) :: c).map nmB := by
          rw [upL_n _ _ (by decide), upL_s, List.map_append, List.map_cons, List.append_assoc]; rfl
        have L75 : upL (upL (upL L5 145 (pt ++ (a ++ c).map tmB ++ [nI tt])) 143 (pn ++ a.map nmB ++ nI (cN w0) :: c.map nmB)) 145 (pt ++ a.map tmB ++ nI tt :: c.map tmB) 145 = pt ++ (a ++ (1400 * h + md5, w0, u', tt, p) :: c).map tmB := by
          rw [upL_s, List.map_append, List.map_cons, List.append_assoc]; rfl
        generalize upL (upL (upL L5 145 (pt ++ (a ++ c).map tmB ++ [nI tt])) 143 (pn ++ a.map nmB ++ nI (cN w0) :: c.map nmB)) 145 (pt ++ a.map tmB ++ nI tt :: c.map tmB) = L7 at o2 eL7 L73 L75
        -- frames so far
        have rB3 : rT h md B J B3 J3 := ((rf_rT (md := md) hrf1).trans (rf_rT (md := md) k7) (Nat.le_refl _)).trans g12 (Nat.le_refl _)
        have nodeB : ∀ v, v < 1400 * h + md → (B3 188 v = B 188 v ∧ B3 189 v = B 189 v ∧ B3 190 v = B 190 v ∧ B3 191 v = B 191 v ∧ J3 192 v = J 192 v) := fun v hv => ⟨rB3.1 _ _ (by omega) (by omega), rB3.1 _ _ (by omega) (by omega), rB3.1 _ _ (by omega) (by omega), rB3.1 _ _ (by omega) (by omega), rB3.2 _ _ (by omega) (by omega)⟩
        have hc0 := nodeB (1400 * h + mc) (by omega)
        have hchain3 : chain B3 J3 (B3 189 (1400 * h + mc)) (a ++ c) := by
          rw [hc0.2.1]
          exact chain_to _ _ (fun e hm => nodeB e.1 (he e hm).2.1) c1
        obtain ⟨B4, J4, x7, x8, f1, f2, f3, f4, f5⟩ := br_ref (R := R') (k22 := mX12_choice_22 R' m) (B := B3) (J := J3) (x1 := nI w) (x3 := nI (a ++ c).length) (h := h) (mc := mc) (md := md5) h5 H7 H8 (by omega) (by omega) hw0 (u' := u') (t' := tt) (p' := p) (a := a) (c := c) hchain3 c3 (fun z hz => ⟨(he z hz).1, by have := (he z hz).2.1; omega⟩) (fun z hz => (he z hz).2.2.1) ha hc c4
        have sc4 : ∀ i, i ≠ 17 → B4 186 i = B3 186 i := fun i q => f4 _ _ (by omega) (by omega) (by omega) (by omega)
        have j4 : ∀ b i, b ≠ 192 → J4 b i = J3 b i := fun b i q => f5 _ _ (by omega)
        have b4' : ∀ b i, b ≠ 186 → ¬ (188 ≤ b ∧ b ≤ 191) → B4 b i = B3 b i := fun b i q1 q2 => f4 _ _ (by omega) (by omega) (by omega) (by omega)
        -- a node that is neither the new one, nor the choice, nor a branch of it
        have node4 : ∀ v, v ≠ 1400 * h + md5 → v ≠ 1400 * h + mc → (∀ e ∈ a ++ c, v ≠ e.1) → (B4 188 v = B3 188 v ∧ B4 189 v = B3 189 v ∧ B4 190 v = B3 190 v ∧ B4 191 v = B3 191 v ∧ J4 192 v = J3 192 v) := by
          intro v q1 q2 q3
          have q4 : ¬ ∃ e ∈ a ++ c, v = e.1 := fun ⟨e, y1, y2⟩ => q3 e y1 y2
          exact ⟨f4 _ _ (by omega) (by omega) (fun z => q4 z.2) (by omega), f4 _ _ (by omega) (by omega) (fun z => q4 z.2) (by omega), f4 _ _ (by omega) (by omega) (fun z => q4 z.2) (by omega), f4 _ _ (by omega) (by omega) (fun z => q4 z.2) (by omega), f5 _ _ (by omega)⟩
        have I75 : ∀ b, ¬ (143 ≤ b ∧ b ≤ 146) → I7 b = I5 b := fun b q => by rw [o3 b q, s3 b (by omega) (by omega)]
        have hC7 : CR I7 B4 J4 bs t5 r5 := CR_B (CR_I g1 (I75 6 (by omega)) (I75 9 (by omega)) (I75 10 (by omega)) (I75 11 (by omega))) (fun i q1 q2 => sc4 i (by omega)) (funext fun i => b4' 187 i (by omega) (by omega)) (j4 186 6 (by omega))
        have hlen1 : (a ++ (1400 * h + md5, w0, u', tt, p) :: c).length = (a ++ c).length + 1 := by simp; omega
        have hnM : ∀ v, 1400 * h ≤ v → v < M → (B4 188 v = B3 188 v ∧ B4 189 v = B3 189 v ∧ B4 190 v = B3 190 v ∧ B4 191 v = B3 191 v ∧ J4 192 v = J3 192 v) := fun v q1 q2 => node4 v (by omega) (by omega) (fun e hm => by have := (he e hm).1; omega)
        have HC7 : CI k h M W F I7 B4 J4 L7 pn pt t5.2.2 mc cc (md5 + 1) op (a ++ (1400 * h + md5, w0, u', tt, p) :: c) w K0 N0 m0 P0 := by
          refine ⟨⟨o2, h2, tab_eq (fun y q1 q2 => eL7 y (by omega) (by omega)) H3, ?_, ⟨h5, by rw [sc4 _ (by omega)]; exact H6, by rw [sc4 _ (by omega)]; exact H7, f2, by omega⟩, ⟨by rw [sc4 _ (by omega), psm_mid]; rw [← Nat.add_assoc]; exact H10, by rw [I75 142 (by omega), psm_mid]; rw [← Nat.add_assoc]; exact H11, by rw [psm_mid]; show cc + (psm (a ++ c) + p) ≤ 200; omega⟩, ⟨by rw [sc4 _ (by omega)]; exact H13, H14, ?_, ?_⟩, ?_, ?_, by omega⟩, ⟨L73, L75, d3, d4⟩, ⟨f3, bl_pair c2 ha hc, nodup_mid c3 (fun z hz => ?_), by omega⟩, ⟨by omega, n2, ?_, ?_, ?_⟩, fun e hm => ?_, ?_, ?_, by omega, b4, b5, b6⟩
          · exact nt_to H4 H3 (TE_eq (fun y q1 q2 => eL7 y (by omega) (by omega))) (eL7 _ (by omega) (by omega)) (eL7 _ (by omega) (by omega)) hnM (b4' _ _ (by omega) (by omega)) (fun i => j4 _ _ (by omega)) (fun i => b4' _ _ (by omega) (by omega))
          · rw [L73, L75]; simp; exact d3
          · rw [L73]
            have : (pn ++ (a ++ (1400 * h + md5, w0, u', tt, p) :: c).map nmB).length = pn.length + (a ++ (1400 * h + md5, w0, u', tt, p) :: c).length := by simp
            omega
          · rw [eL7 _ (by omega) (by omega)]; omega
          · rw [eL7 _ (by omega) (by omega)]; omega
          · have := (he z hz).2.1
            show z.1 ≠ 1400 * h + md5
            omega
          · rw [f4 _ _ (by omega) (by omega) (by omega) (by omega), hc0.1]; exact n3
          · rw [f4 _ _ (by omega) (by omega) (by omega) (by omega), hc0.2.2.1]; exact n4
          · rw [f5 _ _ (by omega), hc0.2.2.2.2]; exact n5
          · rcases List.mem_append.mp hm with z | z
            · obtain ⟨y1, y2, y3, y4⟩ := he e (by simp [z])
              refine ⟨y1, by omega, y3, ?_⟩
              have t1 := tr_to h3 (TE.trans (TE_eq (fun y q1 q2 => eL2 y (by omega) (by omega))) g3.1) (B' := B3) (J' := J3) (Q' := QB h M mc md (a ++ c)) (fun v hv => nodeB v (by rcases hv with hv | hv <;> omega)) (fun v hv => hv) _ _ _ _ _ (Nat.le_refl _) y4
              refine tr_to H3 (TE_eq (fun y q1 q2 => eL7 y (by omega) (by omega))) (fun v hv => ?_) (fun v hv => ?_) _ _ _ _ _ (Nat.le_refl _) t1
              · rcases hv with hv | hv
                · exact hnM v hv.1 hv.2
                · exact node4 v (by omega) (by omega) hv.2.2
              · rcases hv with hv | hv
                · exact Or.inl hv
                · refine Or.inr ⟨hv.1, by omega, fun e' he' => ?_⟩
                  rcases List.mem_append.mp he' with y | y
                  · exact hv.2.2 e' (by simp [y])
                  · rcases List.mem_cons.mp y with y | y
                    · rw [y]; show v ≠ 1400 * h + md5; omega
                    · exact hv.2.2 e' (by simp [y])
            · rcases List.mem_cons.mp z with z | z
              · subst z
                refine ⟨by show 1400 * h + mc < 1400 * h + md5; omega, by show 1400 * h + md5 < 1400 * h + (md5 + 1); omega, hw0, ?_⟩
                refine tr_to H3 (TE_eq (fun y q1 q2 => eL7 y (by omega) (by omega))) (fun v hv => ?_) (fun v hv => ?_) _ _ _ _ _ (Nat.le_refl _) g4
                · rcases hv with hv | hv
                  · exact hnM v hv.1 hv.2
                  · exact node4 v (by omega) (by omega) (fun e hm => by have := (he e hm).2.1; omega)
                · rcases hv with hv | hv
                  · exact Or.inl hv
                  · refine Or.inr ⟨by omega, by omega, fun e' he' => ?_⟩
                    rcases List.mem_append.mp he' with y | y
                    · have := (he e' (by simp [y])).2.1; omega
                    · rcases List.mem_cons.mp y with y | y
                      · rw [y]; show v ≠ 1400 * h + md5; omega
                      · have := (he e' (by simp [y])).2.1; omega
              · obtain ⟨y1, y2, y3, y4⟩ := he e (by simp [z])
                refine ⟨y1, by omega, y3, ?_⟩
                have t1 := tr_to h3 (TE.trans (TE_eq (fun y q1 q2 => eL2 y (by omega) (by omega))) g3.1) (B' := B3) (J' := J3) (Q' := QB h M mc md (a ++ c)) (fun v hv => nodeB v (by rcases hv with hv | hv <;> omega)) (fun v hv => hv) _ _ _ _ _ (Nat.le_refl _) y4
                refine tr_to H3 (TE_eq (fun y q1 q2 => eL7 y (by omega) (by omega))) (fun v hv => ?_) (fun v hv => ?_) _ _ _ _ _ (Nat.le_refl _) t1
                · rcases hv with hv | hv
                  · exact hnM v hv.1 hv.2
                  · exact node4 v (by omega) (by omega) hv.2.2
                · rcases hv with hv | hv
                  · exact Or.inl hv
                  · refine Or.inr ⟨hv.1, by omega, fun e' he' => ?_⟩
                    rcases List.mem_append.mp he' with y | y
                    · exact hv.2.2 e' (by simp [y])
                    · rcases List.mem_cons.mp y with y | y
                      · rw [y]; show v ≠ 1400 * h + md5; omega
                      · exact hv.2.2 e' (by simp [y])
          · rw [eL7 _ (by omega) (by omega)]
            rw [eL2 _ (by omega) (by omega)] at g7
            omega
          · rw [eL7 _ (by omega) (by omega)]
            rw [eL2 _ (by omega) (by omega)] at g8
            omega
        -- frames to the end of this turn
        have cT7 : cT k I I7 := hcT3.trans ((cf_cT k6).trans (g11.trans (fun b q1 q2 q3 q4 => I75 b q4)))
        have rT4 : rT h mc B J B4 J4 := by
          refine (show rT h mc B J B3 J3 from ⟨fun b i q1 q2 => rB3.1 b i q1 (by omega), fun b i q1 q2 => rB3.2 b i q1 (by omega)⟩).trans (md1 := mc) ⟨fun b i q1 q2 => f4 b i (by omega) (by omega) (fun z => ?_) (by omega), fun b i q1 q2 => f5 b i (by omega)⟩ (Nat.le_refl _)
          obtain ⟨z1, e, z2, z3⟩ := z
          have := he e z2
          omega
        have TE7 : TE k L L7 := TE.trans (TE.trans (TE_eq (fun y q1 q2 => eL2 y (by omega) (by omega))) g3.1) (TE_eq (fun y q1 q2 => eL7 y (by omega) (by omega)))
        have hL7 : ∀ y, ¬ (k + 2 ≤ y ∧ y ≤ k + 12) → y ≠ 143 → y ≠ 145 → L7 y = L y := fun y q1 q2 q3 => by rw [eL7 y q2 q3, g3.2 y q1, eL2 y q2 q3]
        -- both have come to the sign behind the branch
        have eCC : ((mX2_want I3 58).bind fun q8 => (R.2.2 q8 F (nI (op + 1))).bind fun q9 => (mX4_put 145 q9.2 (nI (pn.length + (a ++ c).length)) q9.1).bind fun q10 => (mX9_sortLast q10 (nI pn.length)).bind fun q11 => (mX2_skip q11 44).bind fun q12 => if q12.1 = 0 then mX9_readChoice_93 R q12.2 F (nI kd) (nI (op + 1)) (nI pn.length) (nI (a ++ c).length) else mX9_readChoice_20 R n q12.2 F (nI kd) (nI (op + 1)) (nI pn.length) (nI (a ++ c).length + 1)) = (mX2_skip I7 44).bind fun q12 => if q12.1 = 0 then mX9_readChoice_93 R q12.2 F (nI kd) (nI (op + 1)) (nI pn.length) (nI (a ++ c).length) else mX9_readChoice_20 R n q12.2 F (nI kd) (nI (op + 1)) (nI pn.length) (nI (a ++ c).length + 1) := by
          rw [k2', sb, e1, sb, s1, sb, o1, sb]
        have eRR : ((mX12_need B1 J1 58).bind fun q7 => if q7.1 = 0 then some (0, q7.2.1, q7.2.2) else (R'.2 q7.2.1 q7.2.2).bind fun q8 => if q8.1 = 0 then some (0, q8.2.1, q8.2.2) else (mX12_node q8.2.1 q8.2.2 8 (q8.2.1 186 36) (-1) (lN (rN w0))).bind fun q9 => if inb (nI (1400 * h + mc)) 2800 then mX12_choice_141 R' (mX12_choice_22 R' m) LF q9.2.1 q9.2.2 (nI w) (nI (1400 * h + mc)) (nI (a ++ c).length) (lN (rN w0)) q9.1 (-1) (q9.2.1 189 (nI (1400 * h + mc)).toNatClampNeg) else none) = mX12_choice_237 R' (mX12_choice_22 R' m) B4 J4 (nI w) (nI (1400 * h + mc)) (nI (a ++ c).length) (lN (rN w0)) (nI (1400 * h + md5)) x7 x8 := by
          rw [k3', sb, if_neg i10, e2, sb, if_neg i10, ← f1, ← g5]
        rw [eCC, eRR]
        have hsk := skip_eq hC7 44 (by omega)
        have hsk' : mX2_skip I7 44 = if t5.1 = 44 then (mX2_advance I7).bind fun q1 => some (1, q1) else some (0, I7) := hsk
        have hsg : mX12_isSign B4 44 = some (if t5.1 = 44 then 1 else 0) := cr_sign hC7 44 (by decide)
        rw [hsk']
        unfold mX12_choice_237
        rw [hsg]
        by_cases q5 : t5.1 = 44
        · obtain ⟨t8, r8, I8, B5, J5, z1, z2, z3, z4, z5, z6, z7⟩ := jadv hC7 (by omega)
          obtain ⟨m, rfl⟩ : ∃ x, m = x + 1 := ⟨m - 1, by omega⟩
          rw [if_pos q5, if_pos q5, z2, sb, sb, sb, if_neg i10, if_neg i10, nI_1]
          rw [mX12_choice_22, if_neg (nI_nle (by omega) (by omega)), z3, sb]
          have := ih I8 B5 J5 L7 (a ++ (1400 * h + md5, w0, u', tt, p) :: c) t8 r8 (md5 + 1) n m (by omega) z4 (ci_cur HC7 z6 z7 (by omega)) (by omega) (by omega)
          rw [hlen1] at this
          exact CO.pre (cT7.trans (cf_cT z6)) (rT4.trans (rf_rT (md := mc) z7) (Nat.le_refl _)) TE7 hL7 (by omega) (by omega) this
        · rw [if_neg q5, if_neg q5, sb, sb, if_pos rfl, if_pos rfl]
          have := ce_ok R (nI (op + 1)) (nI (a ++ c).length) hkw hC7 HC7 (by omega)
          exact CO.pre cT7 rT4 TE7 hL7 (by omega) (by omega) this
    · have k2' : mX2_want I3 58 = some I4 := k2
      have k3' : mX12_need B1 J1 58 = some (0, B2, J1) := k3
      obtain ⟨x', I', a1, a2⟩ := fmo_FAIL (FAIL.pre (cT_FX hcT3) (rf_RX hrf1) k4) (o := (R.2.2 I4 F (nI (op + 1))).bind fun q9 => (mX4_put 145 q9.2 (nI (pn.length + bl.length)) q9.1).bind fun q10 => (mX9_sortLast q10 (nI pn.length)).bind fun q11 => (mX2_skip q11 44).bind fun q12 => if q12.1 = 0 then mX9_readChoice_93 R q12.2 F (nI kd) (nI (op + 1)) (nI pn.length) (nI bl.length) else mX9_readChoice_20 R n q12.2 F (nI kd) (nI (op + 1)) (nI pn.length) (nI bl.length + 1)) (fun f p hf => fmo_o (hfm f p I4 _ hf) (fun v I1 h1 => fm_turn R F n h1 (nI kd) (nI (op + 1)) (by omega) _ _ _))
      refine ⟨x', I', 0, B2, J1, ?_, ?_, Or.inl ⟨rfl, a2⟩⟩
      · rw [k2', sb]; exact a1
      · rw [k3', sb, if_pos rfl]
end
