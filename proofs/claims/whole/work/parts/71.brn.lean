/-! A BRANCH'S NAME in the class, a branch's node in the reference (pure) -/
theorem rb_loop {k : Nat} {I1 : iT} {L : lT} (hR : RS I1 k L) {pn : List Int32} {bl : List Br} (hL : L 143 = pn ++ bl.map nmB) (hN : ∀ e ∈ bl, isN e.2.1) (hl5 : (L 145).length = (L 143).length) (hb6 : bl.length ≤ 6) (hpn : pn.length ≤ 66) {w0 : List Nat} (h0 : isN w0) (pl : Int32) :
    ((∃ e ∈ bl, e.2.1 = w0) ∧ ∀ I2, mX2_refuse I1 2 pl = some I2 → ∀ f p, FM k f p I2 → FMo k f p I2 (mX9_readBranchName_19 LF I1 (nI pn.length) pl (nI (cN w0)) (nI pn.length))) ∨
    ((∀ e ∈ bl, e.2.1 ≠ w0) ∧ bl.length = 6 ∧ ∀ I2, mX2_refuse I1 5 pl = some I2 → ∀ f p, FM k f p I2 → FMo k f p I2 (mX9_readBranchName_19 LF I1 (nI pn.length) pl (nI (cN w0)) (nI pn.length))) ∨
    ((∀ e ∈ bl, e.2.1 ≠ w0) ∧ bl.length < 6 ∧ ∃ I3, mX9_readBranchName_19 LF I1 (nI pn.length) pl (nI (cN w0)) (nI pn.length) = some (nI (pn.length + bl.length), I3) ∧ RS I3 k (upL (upL L 145 (L 145 ++ [-1])) 143 (L 143 ++ [nI (cN w0)])) ∧ ∀ b, ¬ (143 ≤ b ∧ b ≤ 146) → I3 b = I1 b) := by
  have hk := hR.1
  have hsz : (L 143).length = pn.length + bl.length := by rw [hL]; simp
  have z3 : LEN (143 + 1) = 73 := by decide +kernel
  have z5 : LEN (145 + 1) = 73 := by decide +kernel
  have loop : ∀ (b2 b1 : List Br) (n : Nat), bl = b1 ++ b2 → 20000 + b2.length < n → (∀ e ∈ b1, e.2.1 ≠ w0) →
    ((∃ e ∈ bl, e.2.1 = w0) ∧ ∀ I2, mX2_refuse I1 2 pl = some I2 → ∀ f p, FM k f p I2 → FMo k f p I2 (mX9_readBranchName_19 n I1 (nI pn.length) pl (nI (cN w0)) (nI (pn.length + b1.length)))) ∨
    ((∀ e ∈ bl, e.2.1 ≠ w0) ∧ bl.length = 6 ∧ ∀ I2, mX2_refuse I1 5 pl = some I2 → ∀ f p, FM k f p I2 → FMo k f p I2 (mX9_readBranchName_19 n I1 (nI pn.length) pl (nI (cN w0)) (nI (pn.length + b1.length)))) ∨
    ((∀ e ∈ bl, e.2.1 ≠ w0) ∧ bl.length < 6 ∧ ∃ I3, mX9_readBranchName_19 n I1 (nI pn.length) pl (nI (cN w0)) (nI (pn.length + b1.length)) = some (nI (pn.length + bl.length), I3) ∧ RS I3 k (upL (upL L 145 (L 145 ++ [-1])) 143 (L 143 ++ [nI (cN w0)])) ∧ ∀ b, ¬ (143 ≤ b ∧ b ≤ 146) → I3 b = I1 b) := by
    intro b2
    induction b2 with
    | nil =>
      intro b1 n hb hn hno
      rw [List.append_nil] at hb
      subst hb
      obtain ⟨n, rfl⟩ : ∃ m, n = m + 1 := ⟨n - 1, by omega⟩
      right
      have hstep : mX9_readBranchName_19 (n + 1) I1 (nI pn.length) pl (nI (cN w0)) (nI (pn.length + bl.length)) = if nI bl.length < 6 then mX9_readBranchName_82 I1 (nI pn.length) pl (nI (cN w0)) (nI (pn.length + bl.length)) else (mX2_refuse I1 5 pl).bind fun q5 => mX9_readBranchName_82 q5 (nI pn.length) pl (nI (cN w0)) (nI (pn.length + bl.length)) := by
        rw [mX9_readBranchName_19, rs_size hR (by unfold rowA; omega), sb, if_pos (nI_le (by omega) (by omega)), sb, hsz, pk_sub (by omega), Nat.add_sub_cancel_left]
      rcases Nat.lt_or_ge bl.length 6 with q | q
      · right
        refine ⟨hno, q, ?_⟩
        obtain ⟨I2, a1, a2, a3⟩ := rs_add hR (a := 145) (by unfold rowA; omega) (by omega) (-1)
        obtain ⟨I3, b1, b2, b3⟩ := rs_add a2 (a := 143) (by unfold rowA; omega) (by rw [upL_n _ _ (by decide)]; omega) (nI (cN w0))
        rw [upL_n _ _ (by decide)] at b1 b2
        refine ⟨I3, ?_, b2, fun b hb => by rw [b3 b (by omega) (by omega), a3 b (by omega) (by omega)]⟩
        rw [hstep, if_pos (show nI bl.length < 6 from nI_lt (b := 6) q (by omega))]
        unfold mX9_readBranchName_82
        rw [a1, sb, b1, sb, hsz]
      · left
        refine ⟨hno, by omega, fun I2 e f p hf => ?_⟩
        rw [hstep, if_neg (show ¬ nI bl.length < 6 from nI_nlt (b := 6) q (by omega)), e, sb]
        exact fm_82 hf _ _ _ _
    | cons e b2 ih =>
      intro b1 n hb hn hno
      obtain ⟨n, rfl⟩ : ∃ m, n = m + 1 := ⟨n - 1, by omega⟩
      have hbl : bl.length = b1.length + (b2.length + 1) := by rw [hb]; simp
      have heN := hN e (by rw [hb]; simp)
      have hat : mX4_at 143 I1 (nI (pn.length + b1.length)) = some (nmB e) := by
        rw [rs_g hR (by unfold rowA; omega) (by omega), hL, hb]
        have := gI_mid (pn ++ b1.map nmB) (b2.map nmB) (nmB e)
        rw [List.length_append, List.length_map, List.append_assoc] at this
        rw [List.map_append, List.map_cons]
        rw [this]
      by_cases q : e.2.1 = w0
      · left
        refine ⟨⟨e, by rw [hb]; simp, q⟩, fun I2 er f p hf => ?_⟩
        rw [mX9_readBranchName_19, rs_size hR (by unfold rowA; omega), sb, hsz, if_neg (nI_ge (by omega) (by omega)), hat, sb, if_pos (by unfold nmB; rw [q]), er, sb]
        unfold mX9_readBranchName_53
        rw [nI_1]
        exact fm_rb19 hf _ _ (by omega) (by simp at hn; omega) _ _ _
      · have hne : ¬ nmB e = nI (cN w0) := fun z => q ((cN_inj heN.1 h0.1 heN.2.2 h0.2.2).mp z)
        have hstep : mX9_readBranchName_19 (n + 1) I1 (nI pn.length) pl (nI (cN w0)) (nI (pn.length + b1.length)) = mX9_readBranchName_19 n I1 (nI pn.length) pl (nI (cN w0)) (nI (pn.length + (b1 ++ [e]).length)) := by
          rw [mX9_readBranchName_19, rs_size hR (by unfold rowA; omega), sb, hsz, if_neg (nI_ge (by omega) (by omega)), hat, sb, if_neg hne]
          unfold mX9_readBranchName_53
          rw [nI_1, List.length_append]
          rfl
        rw [hstep]
        exact ih (b1 ++ [e]) n (by rw [hb]; simp) (by simp at hn; omega) (fun x hx => by
          rcases List.mem_append.mp hx with z | z
          · exact hno x z
          · have : x = e := by simpa using z
            rw [this]; exact q)
  have := loop bl [] LF rfl (by unfold LF; omega) (fun e he => (by cases he))
  rw [List.length_nil, Nat.add_zero] at this
  exact this
/-- the reference makes the branch's node and puts it to its place -/
theorem br_ref {R : sc_12choiceT} {k22 : iT → jT → Int32 → Int32 → Int32 → Option (Int32 × iT × jT)} {B : iT} {J : jT} {x1 x3 : Int32} {h mc md : Nat} (hh : h < 2) (hb16 : B 186 16 = nI (1400 * h)) (hb17 : B 186 17 = nI md) (hmd : md ≤ 1000) (hmc : mc < md) {w0 : List Nat} (h0 : isN w0) {u' t' p' : Nat} {a c : List Br} (hC : chain B J (B 189 (1400 * h + mc)) (a ++ c)) (hnd : ((a ++ c).map (fun z => z.1)).Nodup) (hna : ∀ z ∈ a ++ c, 1400 * h + mc < z.1 ∧ z.1 < 1400 * h + md) (hN : ∀ z ∈ a ++ c, isN z.2.1) (hl : ∀ z ∈ a, dlt z.2.1 w0) (hg : ∀ z ∈ c, dlt w0 z.2.1) (hlen : (a ++ c).length ≤ 6) :
    ∃ B' J' x7 x8, ((mX12_node B J 8 (nI u') (-1) (lN (rN w0))).bind fun q9 => if inb (nI (1400 * h + mc)) 2800 then mX12_choice_141 R k22 LF q9.2.1 q9.2.2 x1 (nI (1400 * h + mc)) x3 (lN (rN w0)) q9.1 (-1) (q9.2.1 189 (nI (1400 * h + mc)).toNatClampNeg) else none) = mX12_choice_237 R k22 B' J' x1 (nI (1400 * h + mc)) x3 (lN (rN w0)) (nI (1400 * h + md)) x7 x8 ∧ B' 186 17 = nI (md + 1) ∧ chain B' J' (B' 189 (1400 * h + mc)) (a ++ (1400 * h + md, w0, u', t', p') :: c) ∧ (∀ q i, ¬ (q = 186 ∧ i = 17) → ¬ (188 ≤ q ∧ q ≤ 191 ∧ i = 1400 * h + md) → ¬ (q = 191 ∧ ∃ e ∈ a ++ c, i = e.1) → ¬ (q = 189 ∧ i = 1400 * h + mc) → B' q i = B q i) ∧ (∀ q i, ¬ (q = 192 ∧ i = 1400 * h + md) → J' q i = J q i) := by
  obtain ⟨B1, J1, n1, n2, n3, n4, n5, n6, n7, n8, n9⟩ := node_ok (B := B) (J := J) (bs := 1400 * h) (m := md) hb16 hb17 (by omega) 8 (nI u') (-1) (lN (rN w0))
  have hc28 : 1400 * h + mc < 2800 := by omega
  have e189 : B1 189 (1400 * h + mc) = B 189 (1400 * h + mc) := n8 _ _ (by omega) (by omega)
  have hC1 : chain B1 J1 (B1 189 (1400 * h + mc)) (a ++ c) := by
    rw [e189]
    refine chain_to _ _ (fun e he => ?_) hC
    have := hna e he
    exact ⟨n8 _ _ (by omega) (by omega), n8 _ _ (by omega) (by omega), n8 _ _ (by omega) (by omega), n8 _ _ (by omega) (by omega), n9 _ _ (by omega)⟩
  obtain ⟨B', x7, x8, g1, g2, g3⟩ := ins_ok (R := R) (k22 := k22) (B := B1) (J := J1) (x1 := x1) (x3 := x3) (b := 1400 * h + md) (c0 := 1400 * h + mc) (e := (1400 * h + md, w0, u', t', p')) rfl (by omega) hc28 (by omega) n3 n4 n5 n7 a c hC1 hnd (fun z hz => by have := hna z hz; omega) hN h0 hl hg hlen
  refine ⟨B', J1, x7, x8, ?_, ?_, g2, fun q i q1 q2 q3 q4 => ?_, n9⟩
  · rw [n1, sb, if_pos (in28 hc28)]
    show mX12_choice_141 R k22 LF B1 J1 x1 (nI (1400 * h + mc)) x3 (lN (rN w0)) (nI (1400 * h + md)) (-1) (B1 189 (nI (1400 * h + mc)).toNatClampNeg) = _
    rw [congrArg (B1 189) (cl28 hc28)]
    exact g1
  · rw [g3 186 17 (by omega) (by omega)]; exact n2
  · rw [g3 q i (fun z => ?_) q4, n8 q i q1 q2]
    rcases z.2 with y | y
    · exact q2 ⟨by omega, by omega, y⟩
    · exact q3 ⟨z.1, y⟩
