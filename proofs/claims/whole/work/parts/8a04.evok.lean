/-! EVERY E IS WORKED OUT ALIKE (pure) -/
def CE (k p : Nat) (L : lT) (N : Nat → Prop) (s : Nat → Int32) (r f : Nat) (v : Int32) : Prop := ∀ (I : iT) (V : List Int32) (m r1 : Nat), CA k p L N s I V → r ≤ r1 → r1 < 2000 → ∃ I' V', mX8_evaluate_10 (k + 18) 176 (m + (r + 1 - f)) I (nI r1) (nI (p * 85)) (nI f) = mX8_evaluate_10 (k + 18) 176 m I' (nI r1) (nI (p * 85)) (nI (r + 1)) ∧ CA k p L N s I' V' ∧ gI V' r = v ∧ (∀ i, i < f → gI V' i = gI V i) ∧ fr1 (k + 27) I I'
def WF (c : Nat) (B B' : iT) : Prop := B' 186 76 = nI c ∧ (∀ i, i < c → B' 229 i = B 229 i) ∧ (∀ q i, ¬ (q = 186 ∧ i = 76) → q ≠ 229 → B' q i = B q i)
def RE (p n : Nat) (B0 : iT) (N : Nat → Prop) (s : Nat → Int32) (e z ρ : Nat) (v : Int32) : Prop := ∀ (nf : Nat) (B : iT) (c m : Nat) (x2 : Int32) (f0 : Nat), VA p n B0 N s B → B 186 76 = nI c → ρ ≤ nf + 1 → c + z ≤ 1400 → f0 ≤ c → ∃ B' x4 fu, mX12_worth_8 (sc_12worth nf) (m + z) B (nI p) x2 (nI f0) (nI e) = mX12_worth_117 (sc_12worth nf) fu B' (nI p) x2 (nI f0) x4 v ∧ VA p n B0 N s B' ∧ WF c B B' ∧ LF ≤ fu + z
section
variable {k p n : Nat} {L : lT} {N : Nat → Prop} {s : Nat → Int32} {B0 : iT} {Q : Nat → Prop}
theorem wf_rfl {c : Nat} {B : iT} (h : B 186 76 = nI c) : WF c B B := ⟨h, fun _ _ => rfl, fun _ _ _ _ => rfl⟩
theorem re_worth {e z ρ : Nat} {v : Int32} (H : RE p n B0 N s e z ρ v) {nf : Nat} {B : iT} {c : Nat} (hV : VA p n B0 N s B) (hc : B 186 76 = nI c) (hρ : ρ ≤ nf + 1) (hz : c + z ≤ 1400) : ∃ B', sc_12worth (nf + 1) B (nI p) (nI e) = some (v, B') ∧ VA p n B0 N s B' ∧ WF c B B' := by
  obtain ⟨B', x4, fu, h1, h2, h3, h4⟩ := H nf B c (LF - z) (nI e) c hV hc hρ hz (Nat.le_refl _)
  refine ⟨B', ?_, h2, h3⟩
  have e1 : LF - z + z = LF := by unfold LF; omega
  rw [e1] at h1
  show mX12_worth_8 (sc_12worth nf) LF B (nI p) (nI e) (B 186 76) (nI e) = _
  rw [hc, h1]
  obtain ⟨fu', rfl⟩ : ∃ y, fu = y + 1 := ⟨fu - 1, by unfold LF at h4; omega⟩
  exact w117_end h3.1 (Nat.le_refl _) (by omega)
theorem ev_ok (hk : k = 12 ∨ k = 73) (hp : p < 80) (hn : n ≤ 4) (hL : (L (k + 19)).length ≤ 1000) : ∀ (d e r f ρ : Nat), ER k n N L B0 Q d e r f ρ → ∃ v, CE k p L N s r f v ∧ RE p n B0 N s e (r + 1 - f) ρ v := by
  intro d
  induction d with
  | zero => intro e r f ρ h; exact h.elim
  | succ d ih =>
    intro e r f ρ h
    obtain ⟨he, hQ, hr, hf, h25, hρ, h⟩ := h
    rcases h with ⟨v, a1, a2, a3, a4, a5, a6⟩ | ⟨i, a1, a2, a3, a4, a5, a6, a7⟩ | ⟨e1, r1, ρ1, a1, a2, a3, a4, a5, a6, a7, a8⟩ | ⟨kd, w, e1, r1, e2, r2, ρ2, a0, a1, a2, a3, a4, a5, a6, a7, a8, a9, a10⟩
    · subst a5
      have ez : f + 1 - f = 1 := by omega
      refine ⟨nI v, fun I V m r1 hI h1 h2 => ?_, fun nf B c m x2 f0 hV hc hρ' hz hf0 => ?_⟩
      · have hv : mX8_valueOf (k + 18) 176 I (nI f) (nI (p * 85)) = some (nI v) := by
          rw [vo_eq hI (by omega), a3, if_neg (by decide), if_neg (by decide), if_neg (by decide), if_neg (by decide), if_neg (by decide), if_pos rfl, a4]
        obtain ⟨I', b1, b2, b3⟩ := ca_node hk hI hr hL hv (m := m) h1 h2
        exact ⟨I', _, by rw [ez]; exact b1, b2, gI_se (by rw [hI.2.1.2]; exact hr) _, fun i hi => gI_sn (by omega) _, b3⟩
      · have g1 : B 188 e = 20 := by rw [hV.1 188 (by omega) (by omega)]; exact a1
        have g2 : B 189 e = nI v := by rw [hV.1 189 (by omega) (by omega)]; exact a2
        exact ⟨B, nI e, LF, by rw [ez, w8_leaf he g1, g2], hV, wf_rfl hc, by omega⟩
    · subst a5
      have ez : f + 1 - f = 1 := by omega
      refine ⟨s i, fun I V m r1 hI h1 h2 => ?_, fun nf B c m x2 f0 hV hc hρ' hz hf0 => ?_⟩
      · obtain ⟨S, s1, s2⟩ := hI.2.2
        have hv : mX8_valueOf (k + 18) 176 I (nI f) (nI (p * 85)) = some (s i) := by
          rw [vo_eq hI (by omega), a3, if_neg (by decide), if_neg (by decide), if_neg (by decide), if_neg (by decide), if_pos rfl, a4, nI_add, row_g s1 (by omega), sb, s2 i a7]
        obtain ⟨I', b1, b2, b3⟩ := ca_node hk hI hr hL hv (m := m) h1 h2
        exact ⟨I', _, by rw [ez]; exact b1, b2, gI_se (by rw [hI.2.1.2]; exact hr) _, fun i hi => gI_sn (by omega) _, b3⟩
      · have g1 : B 188 e = 21 := by rw [hV.1 188 (by omega) (by omega)]; exact a1
        have g2 : B 189 e = nI (sg n i) := by rw [hV.1 189 (by omega) (by omega)]; exact a2
        have hsg := sg_spec n i
        have e128 : (128 : Int32) * nI p + nI (sg n i) = nI (128 * p + sg n i) := i128 p (sg n i)
        have hval : mX12_value B (nI p) (nI (sg n i)) = some (s i) := by
          unfold mX12_value
          rw [e128, if_pos (show inb (nI (128 * p + sg n i)) 10240 from vp_in_nI (by omega) (by omega)), nI_clamp (by omega), hV.2 i a7]
        exact ⟨B, nI e, LF, by rw [ez, w8_slot he g1, g2, hval, sb], hV, wf_rfl hc, by omega⟩
    · subst a6
      obtain ⟨v1, hC1, hR1⟩ := ih e1 r1 f ρ1 a8
      have hu1 := er_u a8
      have hρ1 : 1 ≤ ρ1 := by
        cases d with
        | zero => exact a8.elim
        | succ d => exact a8.2.2.2.2.2.1
      refine ⟨-v1, fun I V m r2 hI h1 h2 => ?_, fun nf B c m x2 f0 hV hc hρ' hz hf0 => ?_⟩
      · obtain ⟨I1, V1, b1, b2, b3, b4, b5⟩ := hC1 I V (m + 1) r2 hI (by omega) h2
        have hv : mX8_valueOf (k + 18) 176 I1 (nI (r1 + 1)) (nI (p * 85)) = some (-v1) := by
          rw [vo_eq b2 (by omega), a3, if_neg (by decide), if_neg (by decide), if_neg (by decide), if_neg (by decide), if_neg (by decide), if_neg (by decide), if_pos rfl, a4, lat_g (by omega), b3]
        obtain ⟨I2, c1, c2, c3⟩ := ca_node hk b2 hr hL hv (m := m) h1 h2
        refine ⟨I2, _, ?_, c2, gI_se (by rw [b2.2.1.2]; exact hr) _, fun i hi => by rw [gI_sn (by omega)]; exact b4 i hi, fun q w1 w2 => by rw [c3 q w1 w2, b5 q w1 w2]⟩
        have ez : m + (r1 + 1 + 1 - f) = m + 1 + (r1 + 1 - f) := by omega
        rw [ez, b1, c1]
      · have g1 : B 188 e = 22 := by rw [hV.1 188 (by omega) (by omega)]; exact a1
        have g2 : B 189 e = nI e1 := by rw [hV.1 189 (by omega) (by omega)]; exact a2
        obtain ⟨nf, rfl⟩ : ∃ y, nf = y + 1 := ⟨nf - 1, by omega⟩
        obtain ⟨B1, b1, b2, b3⟩ := re_worth hR1 (nf := nf) hV hc (by omega) (by omega)
        have ez : m + (r1 + 1 + 1 - f) = m + (r1 + 1 - f) + 1 := by omega
        exact ⟨B1, nI e, LF, by rw [ez, w8_neg he g1, g2, b1, sb], b2, b3, by omega⟩
    · subst a7
      obtain ⟨v1, hC1, hR1⟩ := ih e1 r1 f ρ a9
      obtain ⟨v2, hC2, hR2⟩ := ih e2 r2 (r1 + 1) ρ2 a10
      have hu1 := er_u a9
      have hu2 := er_u a10
      have hρ2 : 1 ≤ ρ2 := by
        cases d with
        | zero => exact a10.elim
        | succ d => exact a10.2.2.2.2.2.1
      obtain ⟨v, hv1, hv2⟩ := opk_both a0 v1 v2
      have hw : 23 ≤ w ∧ w ≤ 27 := by
        rcases a0 with ⟨_, rfl⟩ | ⟨_, rfl⟩ | ⟨_, rfl⟩ | ⟨_, rfl⟩ | ⟨_, rfl⟩ <;> omega
      refine ⟨v, fun I V m r3 hI h1 h2 => ?_, fun nf B c m x2 f0 hV hc hρ' hz hf0 => ?_⟩
      · obtain ⟨I1, V1, b1, b2, b3, b4, b5⟩ := hC1 I V (m + 1 + (r2 + 1 - (r1 + 1))) r3 hI (by omega) h2
        obtain ⟨I2, V2, c1, c2, c3, c4, c5⟩ := hC2 I1 V1 (m + 1) r3 b2 (by omega) h2
        have hv : mX8_valueOf (k + 18) 176 I2 (nI (r2 + 1)) (nI (p * 85)) = some v := by
          rw [vo_eq c2 (by omega), a4, a5, a6, lat_g (by omega), lat_g (by omega), c3, c4 r1 (by omega), b3, ← hv2]
          rcases a0 with ⟨rfl, _⟩ | ⟨rfl, _⟩ | ⟨rfl, _⟩ | ⟨rfl, _⟩ | ⟨rfl, _⟩ <;> rfl
        obtain ⟨I3, d1, d2, d3⟩ := ca_node hk c2 hr hL hv (m := m) h1 h2
        refine ⟨I3, _, ?_, d2, gI_se (by rw [c2.2.1.2]; exact hr) _, fun i hi => by rw [gI_sn (by omega), c4 i (by omega)]; exact b4 i hi, fun q w1 w2 => by rw [d3 q w1 w2, c5 q w1 w2, b5 q w1 w2]⟩
        have ez : m + (r2 + 1 + 1 - f) = m + 1 + (r2 + 1 - (r1 + 1)) + (r1 + 1 - f) := by omega
        rw [ez, b1, c1, d1]
      · have g1 : B 188 e = nI w := by rw [hV.1 188 (by omega) (by omega)]; exact a1
        have g2 : B 189 e = nI e1 := by rw [hV.1 189 (by omega) (by omega)]; exact a2
        have fpu : ∀ q i, ¬ (q = 186 ∧ i = 76) → q ≠ 229 → puB B c e q i = B q i := fun q i w1 w2 => by unfold puB; rw [a_u2_n _ _ (by omega), a_u2_n _ _ (by omega)]
        have hVp : VA p n B0 N s (puB B c e) := va_keep hV fpu
        have hcp : (puB B c e) 186 76 = nI (c + 1) := a_u2_s _ _ _ _
        have h229 : (puB B c e) 229 c = nI e := by unfold puB; rw [a_u2_n _ _ (by omega), a_u2_s]
        obtain ⟨B1, x4, fu, b1, b2, b3, b4⟩ := hR1 nf (puB B c e) (c + 1) (m + (r2 - r1)) x2 f0 hVp hcp (by omega) (by omega) (by omega)
        obtain ⟨fu, rfl⟩ : ∃ y, fu = y + 1 := ⟨fu - 1, by unfold LF at b4; omega⟩
        obtain ⟨nf, rfl⟩ : ∃ y, nf = y + 1 := ⟨nf - 1, by omega⟩
        obtain ⟨B2, c1, c2, c3⟩ := re_worth hR2 (nf := nf) b2 b3.1 (by omega) (by omega)
        have g190 : B1 190 e = nI e2 := by rw [b2.1 190 (by omega) (by omega)]; exact a3
        have ez : m + (r2 + 1 + 1 - f) = m + (r2 - r1) + (r1 + 1 - f) + 1 := by omega
        have e76 : B2 186 76 - 1 = nI c := by rw [c3.1, nI_pred]
        have fB3 : ∀ q i, ¬ (q = 186 ∧ i = 76) → (a_u2 B2 186 76 (nI c)) q i = B2 q i := fun q i w => a_u2_n _ _ w
        have g188 : (a_u2 B2 186 76 (nI c)) 188 e = nI w := by rw [fB3 _ _ (by omega), c2.1 188 (by omega) (by omega)]; exact a1
        refine ⟨a_u2 B2 186 76 (nI c), x4, fu, ?_, va_keep c2 (fun q i w1 w2 => fB3 q i w1), ⟨a_u2_s _ _ _ _, fun i hi => ?_, fun q i w1 w2 => ?_⟩, by omega⟩
        · rw [ez, w8_bin he g1 hw hc (by omega), g2, b1, w117_pop b3.1 (by omega) hf0 he (by rw [b3.2.1 c (by omega)]; exact h229), g190, c1, sb]
          show ((mX12_both ((a_u2 B2 186 76 (B2 186 76 - 1)) 188 e) v1 v2).bind fun q2 => mX12_worth_117 (sc_12worth (nf + 1)) fu (a_u2 B2 186 76 (B2 186 76 - 1)) (nI p) x2 (nI f0) x4 q2) = _
          rw [e76, g188, hv1, sb]
        · rw [fB3 _ _ (by omega), c3.2.1 i (by omega), b3.2.1 i (by omega)]
          unfold puB
          rw [a_u2_n _ _ (by omega), a_u2_n _ _ (by omega)]
        · rw [fB3 _ _ w1, c3.2.2 q i w1 w2, b3.2.2 q i w1 w2, fpu q i w1 w2]
end
