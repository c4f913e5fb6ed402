/-! CASE (pure): its end, its head in a failed reader -/
section
variable {k h M n : Nat} {D : List Df} {F : fT} {I B : iT} {J : jT} {L : lT} {bs : List Nat} {t : Tok} {r : List Tok} {P md nest lv wd b z : Nat} {S : List Sl} {a6 a8 a0 c6 c8 c0 : List Int32} {i : Nat} {s : Sl} {kd f : Nat} {brs : List Br} {κ uk : Nat} {I0 B0 : iT} {J0 : jT} {L0 : lT} {P0 md0 wd0 : Nat} {s6 s8 s0 : List Int32} {bl : List Alt} {mm : Nat}
theorem pt_pu (H : PT k h M n D F I B J L P md nest lv S a6 a8 a0 wd b 0) : PU k h M n D F I B J L P md nest lv S a6 a8 a0 wd b := by
  obtain ⟨⟨x1, x2, x3, x4, ⟨y1, y2, y3, y4⟩, x6, x7, x8, x9⟩, ⟨h2, h3⟩, h4, h5, h6, ⟨h7, h8, h9⟩, h10⟩ := H
  exact ⟨x1, ⟨x2, h2⟩, x3, x4, h4, h5, ⟨y1, y2, y3, y4, h3⟩, ⟨(sr_cp x6).1, x6.2.1.2.1⟩, x7, h6, ⟨x8, x9, by omega, h8, h9⟩, h10⟩
/-- the node of a case -/
theorem cai_pr (hs : S[i]? = some s) (hs2 : s.1 = 2) (hk : gI (L0 (k + 2)) s.2.2.2.1 = (if i = 0 then 38 else 43)) (H : CAi k h M n D F nest b S i s f brs κ uk I0 B0 J0 L0 P0 md0 wd0 s6 s8 s0 I B J L P md wd a6 a8 a0 bl mm 1) (hP : P ≤ 1000) (hlen : brs.length ≤ bl.length) (hw1 : 1 ≤ wd0) : PR k n D L B J (fun v => 1400 * h + md0 ≤ v ∧ v < 1400 * h + md) (fun x => (L0 (k + 47)).length ≤ x ∧ x < (L (k + 47)).length) (fun c => (L0 (k + 55)).length ≤ c ∧ c < (L (k + 55)).length) (mm + 1) uk (L0 (k + 47)).length (minA bl + 1) (gm S) := by
  have hln := cai_len H
  obtain ⟨⟨HU, hok, hv, hmd, hcho⟩, ⟨hκ0, c47, c49, c51, c53⟩, ⟨hn55, hnm⟩, ⟨huk, hm0, hMu, u188, u189⟩, ⟨hal, hnd1, hnd2⟩, hus, hbl, hmm, hpg, hbud, hwd, hcw, hrp, hlk⟩ := H
  have hT := HU.2.2.1
  have hS := HU.2.2.2.1
  have hh := HU.2.2.2.2.2.2.1
  subst hκ0
  have hbe : bl.length = brs.length := by omega
  have h28 : uk < 2800 := by omega
  refine ⟨h28, ⟨by omega, by omega⟩, by omega, ⟨Nat.le_refl _, by omega⟩, ?_⟩
  refine Or.inr (Or.inr (Or.inr (Or.inr (Or.inr (Or.inr (Or.inr (Or.inl ⟨i, s.2.2.2.1, f, brs.length, (L0 (k + 55)).length, bl, u188, c47, u189, c49, ?_, ?_, hcho.2.2.1, hcho.2.2.2.1, hcho.2.2.2.2.1, hcho.2.2.2.2.2.1, c51, c53, hn55, alt_same (fun v hv => ⟨⟨by omega, hv.2⟩, rfl, rfl, rfl⟩) bl _ hal, ⟨hbe, fun e he => by
    have h1 := hwd.2 e he
    have h2 := HU.2.2.2.2.2.2.2.2.2.1.2.2.1
    omega⟩, by omega, fun j hj => ?_, fun e he => ?_⟩)))))))
  · rw [gm_get hs, hs2]
  · rw [hpg.2.1 _ (by omega)]
    exact hk
  · apply Classical.byContradiction
    intro hno
    have := pig brs.length (j :: bl.map (fun e => e.2.1)) (List.nodup_cons.mpr ⟨fun z => by
      obtain ⟨x, hx, w⟩ := List.mem_map.mp z
      exact hno ⟨x, hx, w⟩, hnd2⟩) (fun x hx => by
      rcases List.mem_cons.mp hx with w | w
      · omega
      · obtain ⟨e, he, rfl⟩ := List.mem_map.mp w
        obtain ⟨e', y1, _⟩ := (hbl e he).1
        exact (List.getElem?_eq_some_iff.mp y1).1)
    rw [List.length_cons, List.length_map] at this
    omega
  · obtain ⟨⟨e', y1, y2, y3⟩, y4, y5, y6, y7⟩ := hbl e he
    have hel : e.2.1 < brs.length := (List.getElem?_eq_some_iff.mp y1).1
    obtain ⟨z1, z2, z3, z4, z5, z6⟩ := hcho.2.2.2.2.2.2.2.2.2 e.2.1 e' y1
    refine ⟨⟨hel, by have w1 := (tr_u z6).2.2; have w2 := rs_K HU.1; omega⟩, y4, ⟨by omega, by omega⟩, by rw [z3, y2], by rw [z4, y3], by rw [hnm _ _ y1, y2], y5, ?_⟩
    exact pr_sm hT hS (fun v hv => ⟨⟨by omega, hv.1.2⟩, rfl, rfl, rfl, rfl, rfl⟩) (fun v hv => ⟨by omega, hv.2⟩) (fun v hv => ⟨by omega, hv.2⟩) (Nat.le_refl _) y6
end
section
variable {α β : Type} {k : Nat} {f p : Int32} {b b1 c : Nat} {I : iT} {F : fT} {Rc : sc_3readAlternativeT}
theorem tb_fp {I' : iT} (hT : TB k I) (hp : PF k f p c I') (hf : FP k I I') : TB k I' := by
  obtain ⟨L, h1, h2⟩ := hT
  have hk := h1.1
  exact tb_keep h1 h2 hp.1 (fun a q1 q2 => hf a (by omega) (by omega) (by omega))
theorem pfo_ut {o : Option iT} (h : PFu k f p b1 I o) (hT : TB k I) {g : iT → Option (β × iT)} (hg : ∀ I', PF k f p b1 I' → TB k I' → PFo k f p c I' (g I')) : PFo k f p c I (o.bind g) := by
  obtain ⟨I1, e1, e2, e3⟩ := h
  obtain ⟨x, I2, a1, a2, a3⟩ := hg I1 e2 (tb_fp hT e2 e3)
  exact ⟨x, I2, by rw [e1, sb]; exact a1, a2, e3.trans a3⟩
theorem pfo_ot {o : Option (α × iT)} (h : PFo k f p b1 I o) (hT : TB k I) {g : α × iT → Option (β × iT)} (hg : ∀ x I', PF k f p b1 I' → TB k I' → PFo k f p c I' (g (x, I'))) : PFo k f p c I (o.bind g) := by
  obtain ⟨x, I1, e1, e2, e3⟩ := h
  obtain ⟨y, I2, a1, a2, a3⟩ := hg x I1 e2 (tb_fp hT e2 e3)
  exact ⟨y, I2, by rw [e1, sb]; exact a1, a2, e3.trans a3⟩
theorem pf_rchan (hF : F 134 4 = k) (hp : PF k f p b I) {w : Nat} {gc hc gk hk : Int32} (hw : CW w gc hc gk hk) : PFo k f p b I (mX3_readChannel I F (nI w)) := by
  unfold mX3_readChannel
  rw [fm_take hp.1, sb]
  refine pfo_r (pf_find hp _) (fun v => pfo_r (pf_talk hp _) (fun v2 => ?_))
  rw [fm_refuse hp.1, sb]
  exact pfo_if (pf_chan hF hp hw _ _ _) (pf_chan hF hp hw _ _ _)
/-- the class's case behind its CHANNEL -/
def caC (Rc : sc_3readAlternativeT) (k : Nat) (I : iT) (F : fT) (x1 κ q10 q11 q12 : Int32) : Option (Int32 × iT) := (mX2_want I 123).bind fun q17 => mX3_readCase_119 Rc LF q17 F x1 κ q10 q11 q12 80 0 0
def caB (Rc : sc_3readAlternativeT) (k : Nat) (I : iT) (F : fT) (x1 κ q10 : Int32) : Option (Int32 × iT) := (mX5_talkAt I q10).bind fun q11 => (mX10_branches (k + 1) I q11).bind fun q12 => (mX4_put (k + 49) I κ q10).bind fun q13 => (mX0_addAlternatives k q13 q11).bind fun q14 => (mX4_put (k + 51) q14.2 κ q14.1).bind fun q15 => (mX4_put (k + 53) q15 κ q12).bind fun q16 => caC Rc k q16 F x1 κ q10 q11 q12
theorem lf_s : LF = 99999 + 1 := rfl
theorem pf_119L (hp : PF k f p b I) (x1 x2 x3 x4 x5 x6 x7 : Int32) : PFo k f p b I (mX3_readCase_119 Rc LF I F x1 x2 x3 x4 x5 x6 x7 0) := by
  rw [lf_s]
  exact pf_119 hp _ _ _ _ _ _ _ _
theorem pf_caC (hp : PF k f p b I) (x1 κ q10 q11 q12 : Int32) : PFo k f p b I (caC Rc k I F x1 κ q10 q11 q12) := by
  unfold caC
  rw [fm_want hp.1 (by decide), sb]
  exact pf_119L hp _ _ _ _ _ _ _
theorem pf_caB (hp : PF k f p b I) (hT : TB k I) (x1 κ q10 : Int32) : PFo k f p b I (caB Rc k I F x1 κ q10) := by
  have hk := pf_k hp
  unfold caB
  refine pfo_r (pf_talk hp _) (fun v => ?_)
  have hT' := hT
  obtain ⟨L, hL, hL2⟩ := hT'
  obtain ⟨m, _, hbr⟩ := br_any hL hL2 v
  rw [hbr, sb]
  exact pfo_ut (pf_putB hp (by unfold rowB; omega) _ _) hT (fun I1 h1 hT1 => pfo_o (pf_aa h1 hT1 v) (fun y I2 h2 => pfo_u (pf_putB h2 (by unfold rowB; omega) _ _) (fun I3 h3 => pfo_u (pf_putB h3 (by unfold rowB; omega) _ _) (fun I4 h4 => pf_caC h4 _ _ _ _ _))))
def caA (Rc : sc_3readAlternativeT) (k : Nat) (I : iT) (F : fT) (x1 κ : Int32) : Option (Int32 × iT) := (mX2_advance I).bind fun q9 => (mX3_readChannel q9 F 308).bind fun q10 => caB Rc k q10.2 F x1 κ q10.1
theorem cw308 : CW 308 7 6 38 43 := Or.inr (Or.inr (Or.inr (Or.inr (Or.inr (Or.inr (Or.inr ⟨rfl, rfl, rfl, rfl, rfl⟩))))))
theorem pf_caA (hF : F 134 4 = k) (hp : PF k f p b I) (hT : TB k I) (x1 κ : Int32) : PFo k f p b I (caA Rc k I F x1 κ) := by
  unfold caA
  rw [fm_adv hp.1, sb]
  exact pfo_ot (pf_rchan hF hp cw308) hT (fun x I1 h1 hT1 => pf_caB h1 hT1 _ _ _)
theorem case_eq (hF : F 134 4 = k) (x1 : Int32) : bX3_readCase Rc I F x1 = (mX0_addNode k I 308).bind fun q7 => (mX3_refuseOpen q7.2 x1).bind fun q8 => caA Rc k q8 F x1 q7.1 := by
  unfold bX3_readCase
  rw [hF]
  rfl
end
/-! the class's rows behind the head of a case -/
def caL (k : Nat) (L : lT) (i f m : Nat) : lT := upL (upL (alL k (upL (ad4 k L (nI 308)) (k + 49) ((ad4 k L (nI 308) (k + 49)).set (L (k + 47)).length (nI i))) f m) (k + 51) ((alL k (upL (ad4 k L (nI 308)) (k + 49) ((ad4 k L (nI 308) (k + 49)).set (L (k + 47)).length (nI i))) f m (k + 51)).set (L (k + 47)).length (nI (L (k + 55)).length))) (k + 53) ((upL (alL k (upL (ad4 k L (nI 308)) (k + 49) ((ad4 k L (nI 308) (k + 49)).set (L (k + 47)).length (nI i))) f m) (k + 51) ((alL k (upL (ad4 k L (nI 308)) (k + 49) ((ad4 k L (nI 308) (k + 49)).set (L (k + 47)).length (nI i))) f m (k + 51)).set (L (k + 47)).length (nI (L (k + 55)).length)) (k + 53)).set (L (k + 47)).length (nI m))
section
variable {k : Nat} {L : lT} {i f m : Nat}
theorem caL_n {a : Nat} (h : a ≠ k + 47 ∧ a ≠ k + 49 ∧ a ≠ k + 51 ∧ a ≠ k + 53 ∧ a ≠ k + 55 ∧ a ≠ k + 57) : caL k L i f m a = L a := by
  unfold caL
  rw [upL_n _ _ (by omega), upL_n _ _ (by omega), alL_n _ _ (by omega), upL_n _ _ (by omega), ad4_n _ (by omega)]
theorem caL_47 : caL k L i f m (k + 47) = L (k + 47) ++ [nI 308] := by
  unfold caL
  rw [upL_n _ _ (by omega), upL_n _ _ (by omega), alL_n _ _ (by omega), upL_n _ _ (by omega), ad4_47]
theorem caL_49 (hn : nodL k L) : caL k L i f m (k + 49) = L (k + 49) ++ [nI i] := by
  unfold caL
  rw [upL_n _ _ (by omega), upL_n _ _ (by omega), alL_n _ _ (by omega), upL_s, ad4_49, set_last hn.1]
theorem caL_51 (hn : nodL k L) : caL k L i f m (k + 51) = L (k + 51) ++ [nI (L (k + 55)).length] := by
  unfold caL
  rw [upL_n _ _ (by omega), upL_s, alL_n _ _ (by omega), upL_n _ _ (by omega), ad4_51, set_last hn.2.1]
theorem caL_53 (hn : nodL k L) : caL k L i f m (k + 53) = L (k + 53) ++ [nI m] := by
  unfold caL
  rw [upL_s, upL_n _ _ (by omega), alL_n _ _ (by omega), upL_n _ _ (by omega), ad4_53, set_last hn.2.2.1]
theorem caL_55 : caL k L i f m (k + 55) = L (k + 55) ++ nmL k L f m := by
  unfold caL
  rw [upL_n _ _ (by omega), upL_n _ _ (by omega), alL_55, upL_n _ _ (by omega), ad4_n _ (by omega)]
  unfold nmL
  rw [upL_n _ _ (by omega), ad4_n _ (by omega)]
theorem caL_57 : caL k L i f m (k + 57) = L (k + 57) ++ List.replicate m (-1) := by
  unfold caL
  rw [upL_n _ _ (by omega), upL_n _ _ (by omega), alL_57, upL_n _ _ (by omega), ad4_n _ (by omega)]
theorem gI_rep (j : Nat) : gI (List.replicate m (-1)) j = -1 := by
  unfold gI
  rw [List.getD_eq_getElem?_getD, List.getElem?_replicate]
  split <;> rfl
theorem caL_pg (hn : nodL k L) {P P' md : Nat} (hP : P + 6 ≤ P') (hm : m ≤ 1000) : PG0 k L (caL k L i f m) P P' md (md + 1) := by
  have n19 : ∀ a, k + 19 ≤ a → a ≤ k + 46 → caL k L i f m a = L a := fun a q1 q2 => caL_n (by omega)
  have l47 : (caL k L i f m (k + 47)).length = (L (k + 47)).length + 1 := by rw [caL_47, List.length_append]; rfl
  have l55 : (L (k + 55)).length ≤ (caL k L i f m (k + 55)).length := by rw [caL_55, List.length_append]; omega
  obtain ⟨a1, a2, a3, a4⟩ := hn
  refine ⟨fun a q1 q2 => ⟨[], by rw [n19 a (by omega) (by omega), List.append_nil]⟩, fun a q => caL_n (by omega), ⟨fun a q1 q2 => n19 a (by omega) (by omega), exb_snoc0 a3 caL_47 (caL_53 ⟨a1, a2, a3, a4⟩) (Or.inr ⟨m, hm, rfl⟩)⟩, fun j hj => ⟨?_, ?_, ?_, ?_⟩, fun j hj => ⟨?_, ?_⟩, ⟨[], by rw [caL_n (by omega), List.append_nil]⟩, ⟨by omega, l55, by omega, by omega⟩, by rw [n19 _ (by omega) (by omega)]; omega, by omega, by omega, by rw [caL_n (by omega)]; omega⟩
  · rw [caL_47, gI_l _ hj]
  · rw [caL_49 ⟨a1, a2, a3, a4⟩, gI_l _ (by omega)]
  · rw [caL_51 ⟨a1, a2, a3, a4⟩, gI_l _ (by omega)]
  · rw [caL_53 ⟨a1, a2, a3, a4⟩, gI_l _ (by omega)]
  · rw [caL_55, gI_l _ hj]
  · rw [caL_57, gI_l _ (by omega)]
end
