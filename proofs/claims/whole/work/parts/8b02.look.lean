/-! IN A RUN: what a step looks up, in both (pure) -/
section
variable {k h np n f : Nat} {L R : lT} {I B B0 : iT} {J J0 : jT} {F : fT} {rl dp : Nat → Nat} {ch : Nat → Nat → Nat} {p i x y κ : Nat}
theorem slo_ok (hN : RN I R) (hp : p < 80) (hi : i < 85) : mX6_slotOf I (nI p) (nI i) = some (gI (R 176) (p * 85 + i)) := by
  unfold mX6_slotOf
  rw [i85, rn_g hN (by unfold rnA; omega) (by omega), sb]
theorem to_ok (hF : F 148 12 = k) (hK : RK I k L) (hN : RN I R) (hC : CHC np R B rl dp) (hp : p < 80) (hκ : κ < 2 ^ 31) (hi : i < 85) (h49 : gI (L (k + 49)) κ = nI i) (hs : gI (R 176) (p * 85 + i) = nI x) (hx : x < np) (hr : rl x = y) : mX6_talkedOver I F (nI p) (nI κ) = some (nI y) := by
  unfold mX6_talkedOver
  rw [hF, rk_g hK (by unfold rkA; have := hK.1; omega) hκ, sb, h49, slo_ok hN hp hi, sb, hs, fo_ok hN hC hx, sb, hr]
theorem i_i0 (hi : i < 85) : (nI i = 0) = (i = 0) := by
  have : ((0 : Int32)) = nI 0 := rfl
  rw [this, nI_eq (by omega) (by omega)]
theorem std_ok (hF : F 148 12 = k) (hK : RK I k L) (hκ : κ < 2 ^ 31) (hi : i < 85) (h49 : gI (L (k + 49)) κ = nI i) : mX6_sideTaken I F (nI κ) = some (nI (if i = 0 then 1 else 0)) := by
  unfold mX6_sideTaken
  rw [hF, rk_g hK (by unfold rkA; have := hK.1; omega) hκ, sb, h49]
  by_cases q : i = 0
  · subst q; rfl
  · rw [if_neg q, if_neg (by rw [i_i0 hi]; exact q)]; rfl
theorem val_ok (hp : p < 80) (hi : i < 128) : mX12_value B (nI p) (nI i) = some (B 218 (128 * p + i)) := by
  unfold mX12_value
  rw [i128, if_pos (show inb (nI (128 * p + i)) 10240 from vp_in_nI (by omega) (by omega)), nI_clamp (by omega)]
theorem i12 (h f : Nat) : (12 : Int32) * nI h + nI f = nI (12 * h + f) := by
  have : (12 : Int32) * nI h = nI (12 * h) := pk_mul 12 h
  rw [this, nI_add]
theorem giv_ok (hp : p < 80) (hi : i < 85) (hn : n ≤ 4) (h31 : B 186 31 = nI h) (hh : h < 2) (h212 : B 212 p = nI f) (hf : f < 12) (h198 : B 198 (12 * h + f) = nI n) : mX12_isGiven B (nI p) (nI (sg n i)) = some (if i = 0 then 1 else 0) := by
  have g212 : B 212 (nI p).toNatClampNeg = nI f := (congrArg (B 212) (cl80 hp)).trans h212
  have g198 : B 198 (nI (12 * h + f)).toNatClampNeg = nI n := (congrArg (B 198) (nI_clamp (by omega))).trans h198
  have hsg := sg_spec n i
  unfold mX12_isGiven mX12_def0
  rw [if_pos (in80 hp), g212, h31, i12, sb, if_pos (show inb (nI (12 * h + f)) 24 from vp_in_nI (by omega) (by omega)), g198]
  by_cases q : i = 0
  · rw [if_pos q, if_pos (by rw [nI_eq (by omega) (by omega)]; omega)]
  · rw [if_neg q, if_neg (by rw [nI_eq (by omega) (by omega)]; omega)]
theorem rw_ok (hC : CHC np R B rl dp) (hp : p < 80) (hi : i < 85) (hn : n ≤ 4) (h31 : B 186 31 = nI h) (hh : h < 2) (h212 : B 212 p = nI f) (hf : f < 12) (h198 : B 198 (12 * h + f) = nI n) (hs : B 218 (128 * p + sg n i) = nI y) (hy : y < np) (hr : rl y = chX rl ch p i) : mX12_writes B (nI p) (nI (sg n i)) = some (nI (rwX rl ch p i)) ∧ mX12_reads B (nI p) (nI (sg n i)) = some (nI (rdX rl ch p i)) := by
  have hsg := sg_spec n i
  have h2 : ∀ c, (2 : Int32) * nI c + 0 = nI (2 * c) := fun c => r2s c 0
  have h3 : ∀ c, (2 : Int32) * nI c + 1 = nI (2 * c + 1) := fun c => r2s c 1
  unfold mX12_writes mX12_reads mX12_writes_26 mX12_reads_26
  rw [val_ok hp (by omega), sb, sb, hs, rl_ok hC hy, sb, sb, hr, giv_ok hp hi hn h31 hh h212 hf h198, sb, sb, rwX_eq, rdX_eq]
  by_cases q : i = 0
  · rw [if_pos q, if_pos q, if_pos q, if_neg (by decide), if_neg (by decide), h2, h3]
    exact ⟨rfl, rfl⟩
  · rw [if_neg q, if_neg q, if_neg q, if_pos rfl, if_pos rfl, h2, h3]
    exact ⟨rfl, rfl⟩
end
section
variable {k np np' nm : Nat} {D : List Df} {L R R' : lT} {B B' B0 : iT} {J J' J0 : jT} {rl rl' dp : Nat → Nat} {ch ch' : Nat → Nat → Nat} {q : Nat → List Nat}
theorem chc_keep (H : CHC np R B rl dp) (h1 : R' 150 = R 150) (h2 : ∀ i, B' 220 i = B 220 i) : CHC np R' B' rl dp := by
  obtain ⟨a, b, c⟩ := H
  refine ⟨by rw [h1]; exact a, b, fun x hx => ?_⟩
  rw [h1, h2]
  exact c x hx
theorem chl_keep (H : CHL np nm R) (h1 : ∀ a, 152 ≤ a → a ≤ 162 → R' a = R a) : CHL np nm R' := by
  obtain ⟨a, b, c1, c2, c3, c4, c5, c6⟩ := H
  refine ⟨a, b, ?_, ?_, ?_, ?_, ?_, ?_⟩ <;> rw [h1 _ (by omega) (by omega)] <;> assumption
theorem mcl_keep {m : Nat} (H : MCL np rl R B J m) (h1 : gI (R' 158) m = gI (R 158) m) (h2 : gI (R' 160) m = gI (R 160) m) (h3 : B' 223 m = B 223 m) (h4 : B' 224 m = B 224 m) (h5 : J' 226 m = J 226 m) : MCL np rl R' B' J' m := by
  unfold MCL
  rw [h1, h2, h3, h4, h5]
  exact H
theorem qal_keep (H : QAL np rl q R B J) (h1 : ∀ a, 152 ≤ a → a ≤ 162 → R' a = R a) (h2 : ∀ a i, 221 ≤ a → a ≤ 225 → B' a i = B a i) (h3 : ∀ i, J' 226 i = J 226 i) : QAL np rl q R' B' J' := by
  intro c hc hr s hs
  obtain ⟨a1, a2, a3⟩ := H c hc hr s hs
  refine ⟨?_, ?_, fun m hm => mcl_keep (a3 m hm) (by rw [h1 158 (by omega) (by omega)]) (by rw [h1 160 (by omega) (by omega)]) (h2 _ _ (by omega) (by omega)) (h2 _ _ (by omega) (by omega)) (h3 _)⟩
  · unfold QCc
    rw [h1 156 (by omega) (by omega), h1 162 (by omega) (by omega), h1 152 (by omega) (by omega), h1 154 (by omega) (by omega)]
    exact a1
  · unfold QCr
    rw [show B' 225 = B 225 from funext fun i => h2 _ _ (by omega) (by omega), h2 221 _ (by omega) (by omega), h2 222 _ (by omega) (by omega)]
    exact a2
theorem prc_keep {z z' : Nat → Prop} {p : Nat} {G : Gm} {σ : Nat → Nat} (H : PRC k D L B0 J0 np rl ch R B z p G) (hD : ∀ (f : Nat) (e : Df), D[f]? = some e → e.2.1.length ≤ 4) (h164 : gI (R' 164) p = gI (R 164) p) (h166 : gI (R' 166) p = gI (R 166) p) (h213 : B' 213 p = B 213 p) (h176 : ∀ i, i < 85 → gI (R' 176) (p * 85 + i) = gI (R 176) (p * 85 + i)) (h218 : ∀ i, i < 128 → B' 218 (128 * p + i) = B 218 (128 * p + i)) (hnp : np ≤ np') (hrl : ∀ x, x < np → rl' x = σ (rl x)) (hch : ∀ (i t : Nat), G[i]? = some (2, t) → chX rl' ch' p i = σ (chX rl ch p i)) (hz : z' p → z p) : PRC k D L B0 J0 np' rl' ch' R' B' z' p G := by
  obtain ⟨f, e, u, κ, l, m, Q, Rn, Rc, a1, a2, a3, a4, a5, a6, a7, a8, a9, a10, a11, a12⟩ := H
  have hn := hD f e a1
  have lt : ∀ (i : Nat) (x : Nat × Nat), G[i]? = some x → i < 85 := fun i x hx => by
    have := (List.getElem?_eq_some_iff.mp hx).1
    omega
  refine ⟨f, e, u, κ, l, m, Q, Rn, Rc, a1, by rw [h164]; exact a2, by rw [h166]; exact a3, by rw [h213]; exact a4, a5, a6, a7, a8, a9, fun i t hi => ?_, fun i t hi => ?_, fun hz' => a12 (hz hz')⟩
  · have hl := lt i _ hi
    have hsg := sg_spec e.2.1.length i
    rw [h176 i hl, h218 _ (by omega)]
    exact a10 i t hi
  · have hl := lt i _ hi
    have hsg := sg_spec e.2.1.length i
    obtain ⟨x, y, b1, b2, b3, b4, b5, b6⟩ := a11 i t hi
    refine ⟨x, y, by rw [h176 i hl]; exact b1, by rw [h218 _ (by omega)]; exact b2, by omega, by omega, ?_, ?_⟩
    · rw [hrl x b3, hch i t hi, b5]
    · rw [hrl y b4, hch i t hi, b6]
end
