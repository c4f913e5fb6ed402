/-! readSteps AGAINST readProcess (pure) -/
theorem au2_b {α : Type} (f : Nat → Nat → α) {a j : Nat} (v : α) {q : Nat} (h : q ≠ a) : a_u2 f a j v q = f q := funext fun i => a_u2_n _ _ (fun z => h z.1)
/-- WORDS that begin a statement, but if -/
def isW (w : Nat) : Prop := w = 303 ∨ w = 304 ∨ w = 305 ∨ w = 306 ∨ w = 307 ∨ w = 308 ∨ w = 309 ∨ w = 310 ∨ w = 311 ∨ w = 314 ∨ w = 315 ∨ w = 316
section
variable {k h M n : Nat} {D : List Df} {F : fT} {I B : iT} {J : jT} {L : lT} {bs : List Nat} {t : Tok} {r : List Tok} {P md nest wd b z : Nat} {S : List Sl} {a6 a8 a0 : List Int32} {x1 x2 : Int32} {u : Nat}
theorem ps_wd (H : PS k h M n D F I B J L P md nest S a6 a8 a0 wd b z) (hw : wd < 80) : PS k h M n D F (a_u2 I 134 5 (nI (wd + 1))) (a_u2 B 186 44 (nI (wd + 1))) J L P md nest S a6 a8 a0 (wd + 1) b z := by
  obtain ⟨⟨x1, x2, x3, x4, ⟨y1, y2, y3, y4⟩, x6, ⟨y5, y6⟩, x8⟩, ⟨h2, h3⟩, h4, h5, ⟨h6, h7, h8, h9⟩, h10, h13⟩ := H
  have fB : ∀ q j, ¬ (q = 186 ∧ j = 44) → (a_u2 B 186 44 (nI (wd + 1))) q j = B q j := fun q j w => a_u2_n _ _ w
  exact ⟨⟨rs_sc x1 (by omega) _ _, x2, x3, x4, ⟨y1, by rw [fB _ _ (by omega)]; exact y2, by rw [fB _ _ (by omega)]; exact y3, y4⟩, sr_to x6 x3 TE.rfl (fun q q1 q2 => au2_b _ _ (by omega)) (fB _ _ (by omega)) (fun _ => fB _ _ (by omega)) (fun _ => fB _ _ (by omega)) (fun _ => rfl) (fun _ _ _ => ⟨fB _ _ (by omega), fB _ _ (by omega), fB _ _ (by omega), fB _ _ (by omega), rfl⟩), ⟨by rw [fB _ _ (by omega)]; exact y5, y6⟩, x8⟩, ⟨h2, by rw [fB _ _ (by omega)]; exact h3⟩, h4, dd_to h5 x3 TE.rfl rfl (fun _ _ => rfl) (fun _ _ => rfl) (fun _ _ => rfl) (fun _ _ _ => ⟨fB _ _ (by omega), fB _ _ (by omega), fB _ _ (by omega), fB _ _ (by omega), rfl⟩) (fun q j hq => fB _ _ (by omega)) (fun _ => rfl), ⟨a_u2_s _ _ _ _, a_u2_s _ _ _ _, by omega, by omega⟩, h10, h13⟩
theorem cw_wd : cW k I (a_u2 I 134 5 (nI (wd + 1))) := ⟨fun q _ w _ => au2_b _ _ (by omega), fun i hi => a_u2_n _ _ (by omega)⟩
theorem cr_wd (hC : CR I B J bs t r) (v : Int32) : CR (a_u2 I 134 5 v) (a_u2 B 186 44 v) J bs t r := CR_B (CR_I hC (au2_b _ _ (by omega)) (au2_b _ _ (by omega)) (au2_b _ _ (by omega)) (au2_b _ _ (by omega))) (fun j _ _ => a_u2_n _ _ (by omega)) (funext fun j => a_u2_n _ _ (by omega)) rfl
/-- the class counts a WORD, in a failed reader -/
theorem pf_c61 {f p : Int32} (hp : PF k f p b I) (w : Int32) : ∃ I', mX3_countWord_61 I w = some I' ∧ PF k f p b I' ∧ (∀ q, q ≠ 134 → I' q = I q) := by
  have h78 : ∀ (I : iT) (w : Int32), PF k f p b I → mX3_countWord_78 I w = some I := by
    intro I w hp
    unfold mX3_countWord_78
    rw [fm_refuse hp.1, sb, ite_self]
  unfold mX3_countWord_61
  by_cases q : w = 312
  · rw [if_pos q]
    exact ⟨I, h78 I w hp, hp, fun _ _ => rfl⟩
  · rw [if_neg q]
    have hp2 : PF k f p b (a_u2 I 134 5 (I 134 5 + 1)) := ⟨fm_sc hp.1 (by omega) _ _, hp.2.1.keep (fun c q1 q2 => au2_b _ _ (by omega)), hp.2.2⟩
    exact ⟨_, h78 _ w hp2, hp2, fun q w => au2_b _ _ w⟩
theorem pf_c29 {f p : Int32} (hp : PF k f p b I) (w : Int32) : ∃ I', mX3_countWord_29 I w = some I' ∧ PF k f p b I' ∧ (∀ q, q ≠ 134 → I' q = I q) := by
  obtain ⟨I', a1, a2, a3⟩ := pf_c61 hp w
  refine ⟨I', ?_, a2, a3⟩
  unfold mX3_countWord_29
  obtain ⟨v, hv⟩ := pf_has hp
  rw [hv, sb, fm_refuse hp.1, sb, a1, ite_self, ite_self]
theorem pl_134 {c : Nat} {I1 I2 B' : iT} {J' : jT} (H : PL k h c I B J I1 B' J') (hp : ∀ f p, PF k f p c I1 → PF k f p c I2) (hf : ∀ q, q ≠ 134 → I2 q = I1 q) : PL k h c I B J I2 B' J' := by
  obtain ⟨f, p, g1, g2, g3⟩ := H
  exact ⟨f, p, hp f p g1, fun q w1 w2 w3 => by rw [hf q (by omega)]; exact g2 q w1 w2 w3, g3⟩
/-- three faults at a WORD -/
theorem cw_bad1 (hC : CR I B J bs t r) (H : PS k h M n D F I B J L t.2.2 md nest S a6 a8 a0 wd b 0) (hw : t.1 < 303 ∨ t.1 = 313) : ∃ I9 B9, mX3_countWord I (nI t.1) = some I9 ∧ mX12_bad B 1 (nI t.2.2) = some (0, B9) ∧ PL k h b I B J I9 B9 J ∧ (∀ q, q ≠ 6 → q ≠ 134 → I9 q = I q) := by
  obtain ⟨I1, B9, a1, a2, a3, a4⟩ := pbad hC H (f := 1) (by decide) (nI t.2.2)
  have hp : ∃ f p, PF k f p b I1 := by
    obtain ⟨f, p, g1, _⟩ := a3
    exact ⟨f, p, g1⟩
  obtain ⟨f, p, hp⟩ := hp
  obtain ⟨I9, b1, b2, b3⟩ := pf_c29 hp (nI t.1)
  refine ⟨I9, B9, ?_, a2, ?_, fun q w1 w2 => by rw [b3 q w2]; exact a4 q w1⟩
  · unfold mX3_countWord mX3_countWord_14
    rw [cr_8 hC, a1, sb, b1]
    rcases hw with w | w
    · rw [if_pos (show nI t.1 < 303 from nI_lt (b := 303) w (by omega))]
    · rw [if_pos (show nI t.1 = 313 by rw [w]; rfl), ite_self]
  · refine pl_134 a3 (fun f p hf => ?_) b3
    obtain ⟨I9', c1, c2, _⟩ := pf_c29 hf (nI t.1)
    have e : I9' = I9 := Option.some.inj (c1.symm.trans b1)
    rw [← e]
    exact c2
theorem cw_bad4 (hC : CR I B J bs t r) (H : PS k h M n D F I B J L t.2.2 md nest S a6 a8 a0 wd b 0) (hw : t.1 = 315) (hh : mX5_hasChannels I = some 1) : ∃ I9 B9, mX3_countWord I (nI t.1) = some I9 ∧ mX12_bad B 4 (nI t.2.2) = some (0, B9) ∧ PL k h b I B J I9 B9 J ∧ (∀ q, q ≠ 6 → q ≠ 134 → I9 q = I q) := by
  obtain ⟨I1, B9, a1, a2, a3, a4⟩ := pbad hC H (f := 4) (by decide) (nI t.2.2)
  have hp : ∃ f p, PF k f p b I1 := by
    obtain ⟨f, p, g1, _⟩ := a3
    exact ⟨f, p, g1⟩
  obtain ⟨f, p, hp⟩ := hp
  obtain ⟨I9, b1, b2, b3⟩ := pf_c61 hp (nI t.1)
  refine ⟨I9, B9, ?_, a2, ?_, fun q w1 w2 => by rw [b3 q w2]; exact a4 q w1⟩
  · unfold mX3_countWord mX3_countWord_29
    rw [hh, sb, if_neg i10, cr_8 hC, a1, sb, b1, hw]
    rfl
  · refine pl_134 a3 (fun f p hf => ?_) b3
    obtain ⟨I9', c1, c2, _⟩ := pf_c61 hf (nI t.1)
    have e : I9' = I9 := Option.some.inj (c1.symm.trans b1)
    rw [← e]
    exact c2
theorem cw_go {w : Nat} (hw : isW w) (hh : w = 315 → mX5_hasChannels I = some 0) : mX3_countWord I (nI w) = mX3_countWord_78 (a_u2 I 134 5 (I 134 5 + 1)) (nI w) := by
  rcases hw with rfl | rfl | rfl | rfl | rfl | rfl | rfl | rfl | rfl | rfl | rfl | rfl
  case inr.inr.inr.inr.inr.inr.inr.inr.inr.inr.inl =>
    unfold mX3_countWord mX3_countWord_29
    rw [hh rfl, sb]
    rfl
  all_goals rfl
theorem cw_ok {w : Nat} (hw : isW w) (hh : w = 315 → mX5_hasChannels I = some 0) (e5 : I 134 5 = nI wd) (hwd : wd < 80) : mX3_countWord I (nI w) = some (a_u2 I 134 5 (nI (wd + 1))) := by
  rw [cw_go hw hh, e5, nI_1]
  unfold mX3_countWord_78
  rw [a_u2_s, if_pos (show nI (wd + 1) ≤ 80 from nI_le (b := 80) (by omega) (by omega))]
theorem cw_bad5 (hC : CR I B J bs t r) (H : PS k h M n D F I B J L t.2.2 md nest S a6 a8 a0 wd b 0) (hw : isW t.1) (hh : t.1 = 315 → mX5_hasChannels I = some 0) (hwd : wd = 80) : ∃ I9 B9, mX3_countWord I (nI t.1) = some I9 ∧ mX12_bad B 5 (nI t.2.2) = some (0, B9) ∧ PL k h b I B J I9 B9 J ∧ (∀ q, q ≠ 6 → q ≠ 134 → I9 q = I q) := by
  have hk0 := H.1.1.1
  have e5 := H.2.2.2.2.1.2.1
  have hI : ∀ q, q ≠ 134 → (a_u2 I 134 5 (nI 81)) q = I q := fun q w => au2_b _ _ w
  have hC1 : CR (a_u2 I 134 5 (nI 81)) B J bs t r := CR_I hC (hI _ (by omega)) (hI _ (by omega)) (hI _ (by omega)) (hI _ (by omega))
  obtain ⟨I9, B9, a1, a2, a3, a4⟩ := jbad hC1 (rs_sc H.1.1 (c := 134) (by omega) 5 (nI 81)) h (f := 5) (by decide) (nI t.2.2)
  have hs : SCP b (a_u2 I 134 5 (nI 81)) := (ps_scp H).keep (fun c q1 q2 => hI c (by omega))
  refine ⟨I9, B9, ?_, a2, PL.pre (fun q w1 w2 w3 => hI q (by omega)) RX.rfl (fail_PL a3 hs (by have := H.2.2.2.2.2.2.2.2; omega)), fun q w1 w2 => by rw [a4 q w1]; exact hI q w2⟩
  rw [cw_go hw hh, e5, hwd, nI_1]
  unfold mX3_countWord_78
  rw [a_u2_s, if_neg (by decide), hI 6 (by omega), cr_8 hC, a1, sb]
/-! the reference at a WORD -/
theorem rp_eq {R : sc_12actT} (m w : Nat) (hw : isW w ∨ w = 312) (e3 : B 186 3 = nI (w - 200)) : mX12_readProcess_6 R (m + 1) B J x1 x2 0 = mX12_readProcess_59 R (mX12_readProcess_6 R m) B J x1 x2 0 (nI (w - 200)) := by
  rw [mX12_readProcess_6, if_pos rfl, e3, isIn_eq, sb]
  rcases hw with (rfl | rfl | rfl | rfl | rfl | rfl | rfl | rfl | rfl | rfl | rfl | rfl) | rfl <;> rfl
theorem rp_59 {R : sc_12actT} {K : iT → jT → Int32 → Int32 → Int32 → Option (Int32 × iT × jT)} {w : Nat} (hw : isW w) (hh : w = 315 → mX12_has B J = some 0) : mX12_readProcess_59 R K B J x1 x2 0 (nI (w - 200)) = if B 186 44 = 80 then rBad B J 5 (B 186 4) else (R.1 (a_u2 B 186 44 (B 186 44 + 1)) J (nI (w - 200))).bind fun q2 => lkR R K q2 x1 x2 (nI (w - 200)) := by
  rcases hw with rfl | rfl | rfl | rfl | rfl | rfl | rfl | rfl | rfl | rfl | rfl | rfl
  case inr.inr.inr.inr.inr.inr.inr.inr.inr.inr.inl =>
    unfold mX12_readProcess_59
    rw [hh rfl, sb]
    rfl
  all_goals rfl
theorem rp_59i {R : sc_12actT} {K : iT → jT → Int32 → Int32 → Int32 → Option (Int32 × iT × jT)} : mX12_readProcess_59 R K B J x1 x2 0 112 = (R.1 B J 112).bind fun q2 => lkR R K q2 x1 x2 112 := rfl
theorem rp_594 {R : sc_12actT} {K : iT → jT → Int32 → Int32 → Int32 → Option (Int32 × iT × jT)} (hh : mX12_has B J = some 1) : mX12_readProcess_59 R K B J x1 x2 0 115 = rBad B J 4 (B 186 4) := by
  unfold mX12_readProcess_59
  rw [hh, sb]
  rfl
theorem rp_bad {R : sc_12actT} (m w : Nat) (hw : ¬ (isW w ∨ w = 312)) (h16 : w ≤ 316) (e3 : B 186 3 = nI (rtok w)) : mX12_readProcess_6 R (m + 1) B J x1 x2 0 = rBad B J 1 (B 186 4) := by
  have hr : rtok w < 103 ∨ rtok w = 113 ∨ 116 < rtok w := by
    unfold rtok
    unfold isW at hw
    split
    · omega
    · split
      · omega
      · split
        · omega
        · split
          · omega
          · split
            · omega
            · split <;> omega
  have hlt : rtok w < 2 ^ 31 := by
    unfold rtok
    split
    · omega
    · split
      · omega
      · split
        · omega
        · split
          · omega
          · split
            · omega
            · split <;> omega
  have n4 : ∀ x : Nat, x < 2 ^ 31 → rtok w ≠ x → ¬ nI (rtok w) = nI x := fun x hx hn z => hn ((nI_eq hlt hx).mp z)
  rw [mX12_readProcess_6, if_pos rfl, e3, isIn_eq, sb]
  have hin : (nI (rtok w) < 103 ∨ 112 < nI (rtok w)) := by
    rcases hr with x | x | x
    · exact Or.inl (nI_lt (b := 103) x (by omega))
    · exact Or.inr (nI_lt (a := 112) (by omega) (by omega))
    · exact Or.inr (nI_lt (a := 112) (by omega) (by omega))
  rw [if_pos hin, if_pos rfl, if_neg (show ¬ nI (rtok w) = 114 from n4 114 (by omega) (by omega)), if_neg (show ¬ nI (rtok w) = 115 from n4 115 (by omega) (by omega)), if_neg (show ¬ nI (rtok w) = 116 from n4 116 (by omega) (by omega))]
  rfl
end
