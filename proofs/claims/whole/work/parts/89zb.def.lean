/-! A DEF IS LOOKED UP, in both (pure) -/
section
variable {k h M n : Nat} {D : List Df} {F : fT} {I B : iT} {J : jT} {L : lT} {bs : List Nat} {t : Tok} {r : List Tok} {P md nest wd b z : Nat} {S : List Sl} {a6 a8 a0 : List Int32}
theorem dd_find (hN : DD k h M L B J D) (hh : h < 2) (h32 : B 186 32 = nI h) {w0 : List Nat} (h0 : isN w0) :
    (∃ (i : Nat) (e : Df), D[i]? = some e ∧ e.1 = w0 ∧ mX12_findDef B J (lN (rN w0)) = some (nI i) ∧ lfind (L (k + 33)) (nI (cN w0)) = nI i) ∨ (mX12_findDef B J (lN (rN w0)) = some (-1) ∧ lfind (L (k + 33)) (nI (cN w0)) = -1) := by
  obtain ⟨a1, a3, a4, a5⟩ := hN
  have loop : ∀ (l : List Df) (j n : Nat), D.drop j = l → l.length < n → j < 1000 → (∃ (i : Nat) (e : Df), D[i]? = some e ∧ e.1 = w0 ∧ mX12_findDef_2 n B J (lN (rN w0)) (nI j) = some (nI i) ∧ lfindF (nI (cN w0)) (l.map (fun e => nI (cN e.1))) j = nI i) ∨ (mX12_findDef_2 n B J (lN (rN w0)) (nI j) = some (-1) ∧ lfindF (nI (cN w0)) (l.map (fun e => nI (cN e.1))) j = -1) := by
    intro l
    induction l with
    | nil =>
      intro j n hd hn hj1
      have hj : j < 2 ^ 31 := by omega
      obtain ⟨n, rfl⟩ : ∃ m, n = m + 1 := ⟨n - 1, by omega⟩
      right
      have hz : D.length ≤ j := List.drop_eq_nil_iff.mp hd
      exact ⟨by rw [mX12_findDef_2, h32, if_pos (show inb (nI h) 2 from vp_in_nI hh (by omega)), nI_clamp (by omega), a3, if_pos (nI_le hz hj)], rfl⟩
    | cons e l ih =>
      intro j n hd hn hj1
      obtain ⟨n, rfl⟩ : ∃ m, n = m + 1 := ⟨n - 1, by omega⟩
      have hlt : j < D.length := by
        rcases Nat.lt_or_ge j D.length with q | q
        · exact q
        · rw [List.drop_eq_nil_of_le q] at hd; cases hd
      have hge : D[j]? = some e := by rw [← List.head?_drop, hd]; rfl
      have hdn : D.drop (j + 1) = l := by rw [← List.tail_drop, hd]; rfl
      obtain ⟨b1, b3, _⟩ := a5 j e hge
      have e12 : (12 : Int32) * nI h + nI j = nI (12 * h + j) := by
        have : (12 : Int32) * nI h = nI (12 * h) := pk_mul 12 h
        rw [this, nI_add]
      have hi : inb (nI (12 * h + j)) 24 := vp_in_nI (by omega) (by omega)
      rw [mX12_findDef_2, h32, if_pos (show inb (nI h) 2 from vp_in_nI hh (by omega)), nI_clamp (by omega), a3, if_neg (nI_ge hlt (by omega)), e12, if_pos hi, congrArg (J 194) (nI_clamp (n := 12 * h + j) (by omega)), b1, List.map_cons, lfindF]
      by_cases q : e.1 = w0
      · left
        exact ⟨j, e, hge, q, by rw [if_pos ((lg_eq0 _ _).mpr (by rw [q]))], by rw [if_pos (by rw [q])]⟩
      · rw [if_neg (fun z => q ((rN_inj b3.1 h0.1 b3.2.2 h0.2.2).mp ((lg_eq0 _ _).mp z))), if_neg (fun z => q ((cN_inj b3.1 h0.1 b3.2.2 h0.2.2).mp z)), nI_1]
        exact ih (j + 1) n hdn (by simp at hn; omega) (by omega)
  have := loop D 0 LF rfl (by unfold LF; omega) (by omega)
  rw [nI_0] at this
  unfold mX12_findDef lfind
  rw [a1]
  exact this
/-- no DEF has no NAME -/
theorem dd_find0 (hN : DD k h M L B J D) : lfind (L (k + 33)) 0 = -1 := by
  obtain ⟨a1, a3, a4, a5⟩ := hN
  have hall : ∀ e ∈ D, isN e.1 := by
    intro e he
    obtain ⟨i, hi⟩ := List.getElem?_of_mem he
    exact (a5 i e hi).2.1
  have loop : ∀ (l : List Df) (j : Nat), (∀ e ∈ l, isN e.1) → lfindF 0 (l.map (fun e => nI (cN e.1))) j = -1 := by
    intro l
    induction l with
    | nil => intro j _; rfl
    | cons e l ih =>
      intro j hl
      rw [List.map_cons, lfindF, if_neg (cN_ne0 (hl e (List.mem_cons_self ..)))]
      exact ih (j + 1) (fun x hx => hl x (List.mem_cons_of_mem _ hx))
  unfold lfind
  rw [a1]
  exact loop D 0 hall
/-- the class behind a fault finds no DEF -/
theorem pf_def {f p : Int32} (hF : F 134 4 = k) (hp : PF k f p b I) (hR : RS I k L) (hD : DD k h M L B J D) : mX3_readDefAhead I F = some (-1, I) := by
  have hk := hR.1
  unfold mX3_readDefAhead
  rw [fm_take hp.1, sb, hF]
  show ((mX4_find (k + 33) I 0).bind _) = _
  rw [rs_find hR (by unfold rowA; omega), sb, dd_find0 hD, if_pos rfl, fm_refuse hp.1, sb]
/-- the reference behind the NAME of a DEF -/
def clR (B : iT) (J : jT) (x : Int32) : Option (Int32 × iT × jT) := (mX12_need B J 40).bind fun q20 => if q20.1 = 0 then some (0, q20.2.1, q20.2.2) else if inb ((12 * (q20.2.1 186 32)) + x) 24 then mX12_call_87 LF (a_u2 q20.2.1 186 50 ((-1))) q20.2.2 x (q20.2.1 198 ((12 * (q20.2.1 186 32)) + x).toNatClampNeg) ((-1)) 0 else none
theorem jdef (hC : CR I B J bs t r) (H : PS k h M n D F I B J L P md nest S a6 a8 a0 wd b z) :
    (∃ I9 B9, mX3_readDefAhead I F = some (-1, I9) ∧ mX12_call B J = some (0, B9, J) ∧ PL k h b I B J I9 B9 J ∧ ∀ q, q ≠ 6 → I9 q = I q) ∨
    (∃ fd df u r' I1 B1 J1, D[fd]? = some df ∧ fd < 12 ∧ r = u :: r' ∧ mX3_readDefAhead I F = some (nI fd, I1) ∧ mX12_call B J = clR B1 J1 (nI fd) ∧ CR I1 B1 J1 bs u r' ∧ t.2.2 + 1 ≤ u.2.2 ∧ cf I I1 ∧ rf (a_u2 B 186 46 (nI fd)) J B1 J1) := by
  have er : B 186 3 = 2 ↔ t.1 = 256 := cr_r hC 256 (by decide)
  have ec : I 6 6 = 256 ↔ t.1 = 256 := cr_c hC 256 (by omega)
  have hk0 := H.1.1.1
  have hF := H.2.1.1
  have hDD := H.2.2.2.1
  have hbb := H.2.2.2.2.2.2.2.2
  have hh := H.1.2.2.2.2.1.1
  by_cases q : t.1 = 256
  · have hwN : isN t.2.1 := (cr_wf hC).2.1 q
    have hval : I 6 7 = nI (cN t.2.1) := hC.1.2.2.1.1 q
    have hJ6 : J 186 6 = lN (rN t.2.1) := hC.2.1.2.2.2.1 q
    have htl : tl t.1 = 1 := by rw [q]; decide
    obtain ⟨u, r', I1, B1, J1, k1, k2, k3, k4, k5, k6, k7⟩ := jadv hC (by omega)
    have eT : mX2_takeName I = some (nI (cN t.2.1), I1) := by
      unfold mX2_takeName
      rw [if_pos (ec.mpr q), k2, sb, hval]
    have hR1 := cf_RS k6 H.1.1
    have eD : mX3_readDefAhead I F = if lfind (L (k + 33)) (nI (cN t.2.1)) = -1 then (mX2_refuse I1 2 (nI t.2.2)).bind fun q3 => some (lfind (L (k + 33)) (nI (cN t.2.1)), q3) else some (lfind (L (k + 33)) (nI (cN t.2.1)), I1) := by
      unfold mX3_readDefAhead
      rw [eT, sb, hF, cr_8 hC]
      show ((mX4_find (k + 33) I1 (nI (cN t.2.1))).bind _) = _
      rw [rs_find hR1 (by unfold rowA; omega), sb]
    rcases dd_find hDD hh H.2.1.2 hwN with ⟨i, e, f1, f2, f3, f4⟩ | ⟨f3, f4⟩
    · right
      have hi : i < D.length := (List.getElem?_eq_some_iff.mp f1).1
      have h12 := hDD.2.2.1
      have hCx : CR I (a_u2 B 186 46 (nI i)) J bs t r := CR_B hC (fun j w1 w2 => a_u2_n _ _ (by omega)) (funext fun j => a_u2_n _ _ (by omega)) rfl
      obtain ⟨u', r'', I1', B1', J1', l1, l2, l3, l4, l5, l6, l7⟩ := jadv hCx (by omega)
      rw [htl] at l5
      have : I1' = I1 := Option.some.inj (l2.symm.trans k2)
      subst this
      refine ⟨i, e, u', r'', I1', B1', J1', f1, by omega, l1, ?_, ?_, l4, l5, l6, l7⟩
      · rw [eD, f4, if_neg (nIm (by omega))]
      · unfold mX12_call
        rw [if_pos (er.mpr q), hJ6, f3, sb, if_neg (nIm (by omega)), l3, sb]
        rfl
    · left
      obtain ⟨I9, B9, b1, b2, b3⟩ := jbad2 hC hR1 (cr_9 k4) (cf_FX k6) h (f := 2) (by decide) (nI t.2.2)
      refine ⟨I9, B9, ?_, ?_, fail_PL b3 (ps_scp H) (by omega), fun c w => ?_⟩
      · rw [eD, f4, if_pos rfl, b1, sb]
      · unfold mX12_call
        rw [if_pos (er.mpr q), hJ6, f3, sb, if_pos rfl, cr_4 hC, b2, sb, if_pos (Or.inl rfl)]
      · rw [ref_fr b1 c w, cf_b k6 w]
  · left
    obtain ⟨I9, B9, b1, b2, b3, b4⟩ := pbad hC H (f := 1) (by decide) (nI t.2.2)
    have eT : mX2_takeName I = some (0, I9) := by
      unfold mX2_takeName
      rw [if_neg (fun z => q (ec.mp z)), cr_8 hC, b1, sb]
    have hR9 : RS I9 k L := rs_keep H.1.1 (fun a ha => by unfold rowA at ha; exact ⟨b4 a (by omega), b4 (a + 1) (by omega)⟩)
    obtain ⟨f, p, c1, c2⟩ := b3
    refine ⟨I9, B9, ?_, ?_, ⟨f, p, c1, c2⟩, b4⟩
    · unfold mX3_readDefAhead
      rw [eT, sb, hF]
      show ((mX4_find (k + 33) I9 0).bind _) = _
      rw [rs_find hR9 (by unfold rowA; omega), sb, dd_find0 hDD, if_pos rfl, fm_refuse c1.1, sb]
    · unfold mX12_call
      rw [if_neg (fun z => q (er.mp z)), cr_4 hC, b2, sb, if_pos (Or.inl rfl)]
end
/-! small numbers -/
theorem ar_lt : ∀ m, m < 5 → ∀ i, i < 6 → ((nI m - 1 < nI i) ↔ m ≤ i) := by decide
theorem ar_le : ∀ m, m < 5 → ∀ i, i < 6 → ((nI m - 1 ≤ nI i) ↔ m ≤ i + 1) := by decide
theorem ar_p : ∀ m, m < 5 → ((0 ≤ nI m - 1) ↔ 1 ≤ m) := by decide
theorem ar_n : ∀ m, m < 5 → ((nI m - 1 < 0) ↔ m = 0) := by decide
theorem ar_pt : ∀ f, f < 12 → ∀ i, i < 4 → (¬ nI f < 0 ∧ ¬ 12 ≤ nI f ∧ ¬ nI i < 0 ∧ ¬ 4 ≤ nI i) := by decide
theorem ar_x (f i : Nat) : nI f * 4 + nI i = nI (f * 4 + i) := by
  have : nI f * 4 = nI (f * 4) := by
    have : nI f * nI 4 = nI (f * 4) := pk_mul f 4
    exact this
  rw [this, nI_add]
section
variable {k : Nat} {f p : Int32} {b : Nat} {I : iT} {F : fT}
theorem pf_cArg67 (hp : PF k f p b I) (x1 x2 x3 x4 : Int32) : PFo k f p b I (mX3_readChannelArg_67 I x1 x2 x3 x4) := by
  unfold mX3_readChannelArg_67
  exact pfo_u (pf_drop hp _) (fun I1 h1 => pfo_ret h1 _)
theorem pf_cArg48 (hp : PF k f p b I) (x1 x2 x3 x4 : Int32) : PFo k f p b I (mX3_readChannelArg_48 I x1 x2 x3 x4) := by
  unfold mX3_readChannelArg_48 mX3_readChannelArg_58
  rw [fm_refuse hp.1, sb]
  exact pfo_if (pfo_if (pf_cArg67 hp _ _ _ _) (pf_cArg67 hp _ _ _ _)) (pf_cArg67 hp _ _ _ _)
theorem pf_cArgR (hp : PF k f p b I) (x x1 x2 : Int32) : PFo k f p b I ((mX5_find I x).bind fun q4 => (mX5_talkAt I q4).bind fun q5 => if q5 = ((-1)) then (mX2_refuse I 2 x2).bind fun q6 => mX3_readChannelArg_48 q6 x1 x2 q4 q5 else mX3_readChannelArg_48 I x1 x2 q4 q5) := by
  refine pfo_r (pf_find hp _) (fun v => pfo_r (pf_talk hp _) (fun v2 => ?_))
  rw [fm_refuse hp.1, sb]
  exact pfo_if (pf_cArg48 hp _ _ _ _) (pf_cArg48 hp _ _ _ _)
theorem pf_cArg (hp : PF k f p b I) (x1 : Int32) : PFo k f p b I (mX3_readChannelArg I x1) := by
  unfold mX3_readChannelArg
  rw [fm_take hp.1, sb]
  exact pf_cArgR hp _ _ _
/-- the class reads one ARG -/
def cArg (I : iT) (F : fT) (x3 q6 : Int32) : Option (Int32 × iT) := if q6 = -1 then mX7_readSum SF I F 0 x3 else mX3_readChannelArg I q6
theorem a93_eq (m : Nat) (x1 x2 x3 x4 x5 : Int32) : mX3_readArgs_93 (m + 1) I F x1 x2 x3 x4 x5 = if x4 < x5 then if 0 ≤ x4 then some I else (mX2_want I 41).bind fun q5 => some q5 else (mX0_paramT (F 134 4) I x2 x5).bind fun q6 => (cArg I F x3 q6).bind fun q7 => mX3_readArgs_136 (mX3_readArgs_93 m) q7.2 F x1 x2 x3 x4 x5 q6 q7.1 := by
  rw [mX3_readArgs_93]
  by_cases z : x4 < x5
  · rw [if_pos z, if_pos z]
  · rw [if_neg z, if_neg z]
    congr 1
    funext q6
    unfold cArg
    by_cases z2 : q6 = -1
    · rw [if_pos z2, if_pos z2]
    · rw [if_neg z2, if_neg z2]
variable {K : iT → fT → Int32 → Int32 → Int32 → Int32 → Int32 → Option iT} {x1 x2 x3 x4 x5 : Int32}
theorem pf_a191 (hp : PF k f p b I) (hK : ∀ I', PF k f p b I' → PFu k f p b I' (K I' F x1 x2 x3 x4 (x5 + 1))) (x6 x7 : Int32) : PFu k f p b I (mX3_readArgs_191 K I F x1 x2 x3 x4 x5 x6 x7) := by
  unfold mX3_readArgs_191 mX3_readArgs_209
  rw [fm_want hp.1 (by decide), sb, fm_want hp.1 (by decide), sb]
  exact pfu_if (hK I hp) (hK I hp)
theorem pf_a169 (hp : PF k f p b I) (hK : ∀ I', PF k f p b I' → PFu k f p b I' (K I' F x1 x2 x3 x4 (x5 + 1))) (x6 x7 s0 : Int32) (hs : s0 ≠ 259) : PFu k f p b I (mX3_readArgs_169 K I F x1 x2 x3 x4 x5 x6 x7 s0) := by
  unfold mX3_readArgs_169
  rw [fm_is hp.1 hs, sb, if_pos rfl]
  exact pf_a191 hp hK _ _
theorem pf_a136 (hF : F 134 4 = k) (hp : PF k f p b I) (hK : ∀ I', PF k f p b I' → PFu k f p b I' (K I' F x1 x2 x3 x4 (x5 + 1))) (x6 s0 : Int32) : PFu k f p b I (mX3_readArgs_136 K I F x1 x2 x3 x4 x5 x6 s0) := by
  have hk := pf_k hp
  unfold mX3_readArgs_136
  rw [hF]
  exact pfu_o (fmo_pfo hp (fm_add hp.1 (by unfold rowB; omega) _)) (fun x I1 h1 => pfu_if (pf_a169 h1 hK _ _ _ (by decide)) (pf_a169 h1 hK _ _ _ (by decide)))
theorem pf_paramT (hp : PF k f p b I) (x y : Int32) : ∃ v, mX0_paramT k I x y = some v := by
  have hk := pf_k hp
  have h24 : ∀ s, ∃ v, mX0_paramT_24 k I x y s = some v := by
    intro s
    obtain ⟨v, hv⟩ := fm_at hp.1 (a := k + 45) (by unfold rowA; omega) (x * 4 + y)
    unfold mX0_paramT_24
    rw [hv, sb]
    by_cases z : s = 0
    · rw [if_pos z]; exact ⟨_, rfl⟩
    · rw [if_neg z]; exact ⟨_, rfl⟩
  have ifs : ∀ (c : Prop) [Decidable c] (a e : Option Int32), (∃ v, a = some v) → (∃ v, e = some v) → ∃ v, (if c then a else e) = some v := by
    intro c _ a e h1 h2
    by_cases z : c
    · rw [if_pos z]; exact h1
    · rw [if_neg z]; exact h2
  unfold mX0_paramT mX0_paramT_23
  exact ifs _ _ _ (h24 _) (ifs _ _ _ (h24 _) (ifs _ _ _ (h24 _) (ifs _ _ _ (h24 _) (h24 _))))
theorem pf_a93 (hF : F 134 4 = k) {many : Nat} (hm : many ≤ 4) : ∀ (d i m : Nat) (I : iT), PF k f p b I → i + d = many → d < m → PFu k f p b I (mX3_readArgs_93 m I F x1 x2 x3 (nI many - 1) (nI i)) := by
  intro d
  induction d with
  | zero =>
    intro i m I hp hd hm2
    obtain ⟨m, rfl⟩ : ∃ m', m = m' + 1 := ⟨m - 1, by omega⟩
    rw [a93_eq, if_pos ((ar_lt many (by omega) i (by omega)).mpr (by omega)), fm_want hp.1 (by decide), sb]
    exact pfu_if (pfu_ret hp) (pfu_ret hp)
  | succ d ih =>
    intro i m I hp hd hm2
    obtain ⟨m, rfl⟩ : ∃ m', m = m' + 1 := ⟨m - 1, by omega⟩
    rw [a93_eq, if_neg (fun z => by have := (ar_lt many (by omega) i (by omega)).mp z; omega), hF]
    refine pfu_r (pf_paramT hp _ _) (fun v => ?_)
    refine pfu_o (b1 := b) ?_ (fun x I1 h1 => pf_a136 hF h1 (fun I' h' => by rw [nI_1]; exact ih (i + 1) m I' h' (by omega) (by omega)) _ _)
    unfold cArg
    rw [pf_sumE hp]
    exact pfo_if (pfo_ret hp _) (pf_cArg hp _)
/-- the class reads ARGS behind a fault in the NAME of the DEF -/
theorem pf_argsN (hF : F 134 4 = k) (hp : PF k f p b I) (x1 x3 : Int32) : PFu k f p b I (mX3_readArgs I F x1 (-1) x3) := by
  have hk := pf_k hp
  obtain ⟨L, hL⟩ := hp.1.1
  have e43 : mX4_at (k + 43) I (-1) = some (-1) := by rw [rs_at hL (by unfold rowA; omega), lat_neg (by decide)]
  unfold mX3_readArgs
  rw [hF, e43, sb]
  refine pfu_u (pf_putB hp (by unfold rowB; omega) _ _) (fun I1 h1 => pfu_r (fm_size h1.1 (by unfold rowA; omega)) (fun v => pfu_u (pf_putB h1 (by unfold rowB; omega) _ _) (fun I2 h2 => ?_)))
  rw [fm_want h2.1 (by decide), sb, if_pos (by decide)]
  obtain ⟨m, hm⟩ : ∃ m, LF = m + 1 := ⟨99999, by unfold LF; rfl⟩
  unfold mX3_readArgs_90
  rw [hm, a93_eq, if_pos (by decide), if_neg (by decide), fm_want h2.1 (by decide), sb]
  exact pfu_ret h2
end
