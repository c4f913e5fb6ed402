/-! THE PARTS OF A case (pure) -/
section
variable {k : Nat} {I : iT} {L : lT}
theorem at_keep {I' : iT} {a : Nat} (h1 : I' a = I a) (h2 : I' (a + 1) = I (a + 1)) (x : Int32) : mX4_at a I' x = mX4_at a I x := by
  unfold mX4_at
  rw [h1, h2]
theorem br_keep {I' : iT} (hf : ∀ a, k + 2 ≤ a → a ≤ k + 13 → I' a = I a) (x : Int32) : mX10_branches (k + 1) I' x = mX10_branches (k + 1) I x := by
  unfold mX10_branches
  rw [at_keep (I := I) (hf (k + 1 + 1) (by omega) (by omega)) (hf (k + 1 + 1 + 1) (by omega) (by omega)), at_keep (I := I) (hf (k + 1 + 5) (by omega) (by omega)) (hf (k + 1 + 5 + 1) (by omega) (by omega))]
/-- NAMES of the first branches -/
def nmL (k : Nat) (L : lT) (f j : Nat) : List Int32 := (List.range j).map (fun i => gI (L (k + 10)) (f + i))
theorem nmL_s (f j : Nat) : nmL k L f (j + 1) = nmL k L f j ++ [gI (L (k + 10)) (f + j)] := by
  unfold nmL
  rw [List.range_succ, List.map_append]
  rfl
theorem nmL_len (f j : Nat) : (nmL k L f j).length = j := by
  unfold nmL
  simp
theorem nmL_g {f j i : Nat} (h : i < j) : gI (nmL k L f j) i = gI (L (k + 10)) (f + i) := by
  unfold nmL gI
  rw [List.getD_eq_getElem?_getD, List.getElem?_map, List.getElem?_range h]
  rfl
def alL (k : Nat) (L : lT) (f j : Nat) : lT := upL (upL L (k + 55) (L (k + 55) ++ nmL k L f j)) (k + 57) (L (k + 57) ++ List.replicate j (-1))
theorem alL_55 (f j : Nat) : alL k L f j (k + 55) = L (k + 55) ++ nmL k L f j := by unfold alL; rw [upL_n _ _ (by omega), upL_s]
theorem alL_57 (f j : Nat) : alL k L f j (k + 57) = L (k + 57) ++ List.replicate j (-1) := by unfold alL; rw [upL_s]
theorem alL_n (f j : Nat) {a : Nat} (h : a ≠ k + 55 ∧ a ≠ k + 57) : alL k L f j a = L a := by unfold alL; rw [upL_n _ _ h.2, upL_n _ _ h.1]
/-- the class makes room for the alternatives -/
theorem aa_ok (h : RS I k L) {t f m kd : Nat} (ht : t < 2 ^ 31) (hk : gI (L (k + 2)) t = nI kd) (hkd : kd = 43 ∨ kd = 38) (hf : gI (L (k + 4)) t = nI f) (hm : gI (L (k + 6)) t = nI m) (hm6 : m ≤ 6) (hfl : f + m ≤ 1000) (hl : (L (k + 57)).length = (L (k + 55)).length) (hr : (L (k + 55)).length + m ≤ 500) : ∃ I', mX0_addAlternatives k I (nI t) = some (nI (L (k + 55)).length, I') ∧ RS I' k (alL k L f m) ∧ (∀ q, ¬ (k + 55 ≤ q ∧ q ≤ k + 58) → I' q = I q) := by
  obtain ⟨z1, z2, z3, z4, z5, z6, z7⟩ := lenN h.1
  have hbr := brs_c h ht hk hkd hm
  have loop : ∀ d j fu (I1 : iT), j + d = m → d < fu → RS I1 k (alL k L f j) → (∀ q, ¬ (k + 55 ≤ q ∧ q ≤ k + 58) → I1 q = I q) → ∃ I', mX0_addAlternatives_10 k fu I1 (nI t) (nI (L (k + 55)).length) (nI j) = some (nI (L (k + 55)).length, I') ∧ RS I' k (alL k L f m) ∧ (∀ q, ¬ (k + 55 ≤ q ∧ q ≤ k + 58) → I' q = I q) := by
    intro d
    induction d with
    | zero =>
      intro j fu I1 hj hfu hR hI
      obtain ⟨fu, rfl⟩ : ∃ y, fu = y + 1 := ⟨fu - 1, by omega⟩
      have : j = m := by omega
      subst this
      refine ⟨I1, ?_, hR, hI⟩
      rw [mX0_addAlternatives_10, br_keep (I := I) (fun a q1 q2 => hI a (by omega)), hbr, sb, if_pos (nI_le (Nat.le_refl _) (by omega))]
    | succ d ih =>
      intro j fu I1 hj hfu hR hI
      obtain ⟨fu, rfl⟩ : ∃ y, fu = y + 1 := ⟨fu - 1, by omega⟩
      have hbn := bn_c hR (t := t) (f := f) ht (by rw [alL_n _ _ (by omega)]; exact hf) j (by omega)
      rw [alL_n _ _ (by omega)] at hbn
      obtain ⟨I2, a1, a2, a3⟩ := rs_add hR (a := k + 55) (by unfold rowA; omega) (by rw [alL_55, List.length_append, nmL_len]; omega) (gI (L (k + 10)) (f + j))
      obtain ⟨I3, b1, b2, b3⟩ := rs_add a2 (a := k + 57) (by unfold rowA; omega) (by rw [upL_n _ _ (by omega), alL_57, List.length_append, List.length_replicate]; omega) (-1)
      have hR3 : RS I3 k (alL k L f (j + 1)) := by
        have e : (upL (upL (alL k L f j) (k + 55) (alL k L f j (k + 55) ++ [gI (L (k + 10)) (f + j)])) (k + 57) ((upL (alL k L f j) (k + 55) (alL k L f j (k + 55) ++ [gI (L (k + 10)) (f + j)])) (k + 57) ++ [-1])) = alL k L f (j + 1) := by
          funext a
          by_cases q7 : a = k + 57
          · subst q7
            rw [upL_s, upL_n _ _ (by omega), alL_57, alL_57, List.append_assoc, List.replicate_succ']
          · rw [upL_n _ _ q7]
            by_cases q5 : a = k + 55
            · subst q5
              rw [upL_s, alL_55, alL_55, nmL_s, List.append_assoc]
            · rw [upL_n _ _ q5, alL_n _ _ ⟨q5, q7⟩, alL_n _ _ ⟨q5, q7⟩]
        rw [← e]
        exact b2
      obtain ⟨I', c1, c2, c3⟩ := ih (j + 1) fu I3 (by omega) (by omega) hR3 (fun q w => by rw [b3 q (by omega) (by omega), a3 q (by omega) (by omega), hI q w])
      refine ⟨I', ?_, c2, c3⟩
      rw [mX0_addAlternatives_10, br_keep (I := I) (fun a q1 q2 => hI a (by omega)), hbr, sb, if_neg (nI_ge (by omega) (by omega)), hbn, sb, a1, sb]
      show ((mX4_add (k + 57) I2 (-1)).bind _) = _
      rw [b1, sb, nI_1]
      exact c1
  have hR0 : RS I k (alL k L f 0) := by
    have e : alL k L f 0 = L := by
      funext a
      by_cases q7 : a = k + 57
      · subst q7; rw [alL_57]; simp
      · by_cases q5 : a = k + 55
        · subst q5; rw [alL_55]; simp [nmL]
        · rw [alL_n _ _ ⟨q5, q7⟩]
    rw [e]
    exact h
  have := loop m 0 LF I (by omega) (by unfold LF; omega) hR0 (fun _ _ => rfl)
  rw [nI_0] at this
  unfold mX0_addAlternatives
  rw [rs_size h (by unfold rowA; omega), sb]
  exact this
theorem pf_aa {f p : Int32} {b : Nat} (hp : PF k f p b I) (hT : TB k I) (x : Int32) : PFo k f p b I (mX0_addAlternatives k I x) := by
  have hk := pf_k hp
  obtain ⟨L, hL, hL2⟩ := hT
  obtain ⟨m, hm, hbr⟩ := br_any hL hL2 x
  have loop : ∀ d j fu (I1 : iT) (x2 : Int32), j + d = m → d < fu → PF k f p b I1 → (∀ a, k + 2 ≤ a → a ≤ k + 13 → I1 a = I a) → PFo k f p b I1 (mX0_addAlternatives_10 k fu I1 x x2 (nI j)) := by
    intro d
    induction d with
    | zero =>
      intro j fu I1 x2 hj hfu h1 hI
      obtain ⟨fu, rfl⟩ : ∃ y, fu = y + 1 := ⟨fu - 1, by omega⟩
      rw [mX0_addAlternatives_10, br_keep (I := I) hI, hbr, sb, if_pos (nI_le (by omega) (by omega))]
      exact pfo_ret h1 _
    | succ d ih =>
      intro j fu I1 x2 hj hfu h1 hI
      obtain ⟨fu, rfl⟩ : ∃ y, fu = y + 1 := ⟨fu - 1, by omega⟩
      have hT1 : TB k I1 := tb_keep hL hL2 h1.1 hI
      obtain ⟨L1, hL1, hL12⟩ := hT1
      rw [mX0_addAlternatives_10, br_keep (I := I) hI, hbr, sb, if_neg (nI_ge (by omega) (by omega))]
      refine pfo_r (bn_any hL1 _ _) (fun v => ?_)
      obtain ⟨x3, I2, l3, a1, a2, a3⟩ := rs_addT hL1 (a := k + 55) (by unfold rowA; omega) v
      obtain ⟨x4, I3, l4, b1, b2, b3⟩ := rs_addT a2 (a := k + 57) (by unfold rowA; omega) (-1)
      obtain ⟨y1, I2', c1, c2, c3⟩ := fmo_pfo h1 (fm_add h1.1 (a := k + 55) (by unfold rowB; omega) v)
      have e2 : I2' = I2 := congrArg Prod.snd (Option.some.inj (c1.symm.trans a1))
      subst e2
      obtain ⟨y2, I3', d1, d2, d3⟩ := fmo_pfo c2 (fm_add c2.1 (a := k + 57) (by unfold rowB; omega) (-1))
      have e3 : I3' = I3 := congrArg Prod.snd (Option.some.inj (d1.symm.trans b1))
      subst e3
      obtain ⟨y3, I4, f1, f2, f3⟩ := ih (j + 1) fu I3' x2 (by omega) (by omega) d2 (fun a q1 q2 => by rw [b3 a (by omega) (by omega), a3 a (by omega) (by omega), hI a q1 q2])
      refine ⟨y3, I4, ?_, f2, (c3.trans d3).trans f3⟩
      rw [a1, sb]
      show ((mX4_add (k + 57) I2' (-1)).bind _) = _
      rw [b1, sb, nI_1]
      exact f1
  unfold mX0_addAlternatives
  refine pfo_r (fm_size hp.1 (by unfold rowA; omega)) (fun v => ?_)
  have := loop m 0 LF I v (by omega) (by unfold LF; omega) hp (fun _ _ _ => rfl)
  rw [nI_0] at this
  exact this
end
/-- the T of a place, by the class alone -/
theorem cp_talk {I : iT} {lv : Nat} {S : List Sl} {a6 a8 a0 : List Int32} (H : CP I lv S a6 a8 a0) (hlv : lv ≤ 8) (hS : S.length ≤ 85) {i : Nat} {s : Sl} (hs : S[i]? = some s) : mX5_talkAt I (nI i) = some (if s.1 = 2 then nI s.2.2.2.1 else -1) := by
  have hi : i < S.length := (List.getElem?_eq_some_iff.mp hs).1
  obtain ⟨h1, h2, h3, h4⟩ := H
  have e : mX5_index I (nI i) = some (nI (lv * 85 + i)) := by
    unfold mX5_index
    rw [if_neg (nI_not0 (by omega)), if_neg (show ¬ (85 : Int32) ≤ nI i from nI_ge (b := 85) (by omega) (by omega)), h2, i85]
  unfold mX5_talkAt
  rw [e, sb, row_g h1.2.1 (by omega), sb, (h4 i s hs).2]
theorem minA_snoc : ∀ (l : List Alt) (e : Alt), minA (l ++ [e]) = min (minA l) e.2.2.2.2.2.2 ∧ minA l ≤ 80 := by
  intro l
  induction l with
  | nil => intro e; exact ⟨by show min e.2.2.2.2.2.2 80 = min 80 e.2.2.2.2.2.2; omega, Nat.le_refl _⟩
  | cons a l ih =>
    intro e
    obtain ⟨h1, h2⟩ := ih e
    refine ⟨?_, ?_⟩
    · show min a.2.2.2.2.2.2 (minA (l ++ [e])) = min (min a.2.2.2.2.2.2 (minA l)) e.2.2.2.2.2.2
      rw [h1]; omega
    · show min a.2.2.2.2.2.2 (minA l) ≤ 80
      omega
theorem minA_le : ∀ (l : List Alt) (e : Alt), e ∈ l → minA l ≤ e.2.2.2.2.2.2 := by
  intro l
  induction l with
  | nil => intro e he; cases he
  | cons a l ih =>
    intro e he
    show min a.2.2.2.2.2.2 (minA l) ≤ _
    rcases List.mem_cons.mp he with rfl | he
    · omega
    · have := ih e he
      omega
theorem pig : ∀ (m : Nat) (l : List Nat), l.Nodup → (∀ x ∈ l, x < m) → l.length ≤ m := by
  intro m
  induction m with
  | zero =>
    intro l _ h
    cases l with
    | nil => exact Nat.le_refl _
    | cons a l => exact absurd (h a (List.mem_cons_self ..)) (by omega)
  | succ m ih =>
    intro l hn h
    by_cases q : m ∈ l
    · have h1 := ih (l.erase m) (hn.erase m) (fun x hx => by
        have := (hn.mem_erase_iff).mp hx
        have := h x this.2
        omega)
      rw [List.length_erase_of_mem q] at h1
      omega
    · have h1 := ih l hn (fun x hx => by
        have := h x hx
        have : x ≠ m := fun z => q (z ▸ hx)
        omega)
      omega
/-! the reference's loops of a case -/
def csB (R : sc_12actT) (K : iT → jT → Int32 → Int32 → Int32 → Int32 → Int32 → Int32 → Option (Int32 × iT × jT)) (I : iT) (J : jT) (x1 x2 x3 x4 x5 x6 : Int32) : Option (Int32 × iT × jT) := (mX12_branch I J x2 (J 186 6)).bind fun q6 => if q6 = ((-1)) then rBad I J 3 (I 186 4) else (mX12_node I J 53 ((-1)) ((-1)) (J 186 6)).bind fun q7 => (mX12_look0 q7.2.1 q7.2.2).bind fun q8 => (mX12_need q8.1 q8.2 58).bind fun q9 => if q9.1 = 0 then some (0, q9.2.1, q9.2.2) else (mX12_back (a_u2 q9.2.1 186 43 x5) q9.2.2 x4).bind fun q10 => if inb q6 2800 then if inb x1 128 then (R.2.2.2 (a_u2 q10.1 209 x1.toNatClampNeg (q10.1 189 q6.toNatClampNeg)) q10.2).bind fun q11 => if q11.1 = 0 then some (0, q11.2.1, q11.2.2) else if inb q7.1 2800 then if x6 = ((-1)) then if inb x3 2800 then mX12_cases_273 R (K) (a_u2 (a_u2 q11.2.1 189 q7.1.toNatClampNeg (q11.2.1 186 49)) 190 x3.toNatClampNeg q7.1) q11.2.2 x1 x2 x3 x4 x5 x6 q6 q7.1 else none else if inb x6 2800 then mX12_cases_273 R (K) (a_u2 (a_u2 q11.2.1 189 q7.1.toNatClampNeg (q11.2.1 186 49)) 191 x6.toNatClampNeg q7.1) q11.2.2 x1 x2 x3 x4 x5 x6 q6 q7.1 else none else none else none else none
section
variable {R : sc_12actT} {K : iT → jT → Int32 → Int32 → Int32 → Int32 → Int32 → Int32 → Option (Int32 × iT × jT)} {B : iT} {J : jT} {Q : Nat → Prop} {x1 x2 x3 x4 x5 x6 : Int32} {w : List Nat}
theorem cs103 (n : Nat) : mX12_cases_103 R K (n + 1) B J x1 x2 x3 x4 x5 x6 (-1) = csB R K B J x1 x2 x3 x4 x5 x6 := by
  rw [mX12_cases_103, if_pos rfl]
  rfl
theorem dup_no (hw : isN w) (hJ : J 186 6 = lN (rN w)) : ∀ (bl : List Alt) (x : Int32) (n : Nat), altR B J Q x bl → bl.length < n → (∀ e ∈ bl, isN e.2.2.1 ∧ e.2.2.1 ≠ w) → mX12_cases_103 R K n B J x1 x2 x3 x4 x5 x6 x = csB R K B J x1 x2 x3 x4 x5 x6 := by
  intro bl
  induction bl with
  | nil =>
    intro x n h hn _
    obtain ⟨n, rfl⟩ : ∃ y, n = y + 1 := ⟨n - 1, by omega⟩
    have h : x = -1 := h
    rw [h]
    exact cs103 n
  | cons e l ih =>
    intro x n h hn he
    obtain ⟨n, rfl⟩ : ∃ y, n = y + 1 := ⟨n - 1, by omega⟩
    obtain ⟨h1, h2, h3, h4, h5, h6⟩ := h
    obtain ⟨e1, e2⟩ := he e (List.mem_cons_self ..)
    rw [h1, mX12_cases_103, if_neg (nIm (by omega)), if_pos (in28 h2), congrArg (J 192) (cl28 h2), h4, hJ, if_neg (fun z => e2 ((rN_inj e1.1 hw.1 e1.2.2 hw.2.2).mp ((lg_eq0 _ _).mp z))), if_pos (in28 h2), congrArg (B 191) (cl28 h2)]
    exact ih _ n h6 (by simp at hn; omega) (fun e' he' => he e' (List.mem_cons_of_mem _ he'))
theorem dup_yes (hw : isN w) (hJ : J 186 6 = lN (rN w)) : ∀ (bl : List Alt) (x : Int32) (n : Nat), altR B J Q x bl → bl.length < n → (∀ e ∈ bl, isN e.2.2.1) → (∃ e ∈ bl, e.2.2.1 = w) → mX12_cases_103 R K n B J x1 x2 x3 x4 x5 x6 x = rBad B J 2 (B 186 4) := by
  intro bl
  induction bl with
  | nil =>
    intro x n h hn _ ⟨e, he, _⟩
    cases he
  | cons e l ih =>
    intro x n h hn he ⟨e', he', hew⟩
    obtain ⟨n, rfl⟩ : ∃ y, n = y + 1 := ⟨n - 1, by omega⟩
    obtain ⟨h1, h2, h3, h4, h5, h6⟩ := h
    have e1 := he e (List.mem_cons_self ..)
    rw [h1, mX12_cases_103, if_neg (nIm (by omega)), if_pos (in28 h2), congrArg (J 192) (cl28 h2), h4, hJ]
    by_cases q : e.2.2.1 = w
    · rw [if_pos ((lg_eq0 _ _).mpr (by rw [q]))]
      rfl
    · rw [if_neg (fun z => q ((rN_inj e1.1 hw.1 e1.2.2 hw.2.2).mp ((lg_eq0 _ _).mp z))), if_pos (in28 h2), congrArg (B 191) (cl28 h2)]
      refine ih _ n h6 (by simp at hn; omega) (fun e'' he'' => he e'' (List.mem_cons_of_mem _ he'')) ⟨e', ?_, hew⟩
      rcases List.mem_cons.mp he' with z | z
      · subst z; exact (q hew).elim
      · exact z
theorem cnt_ok : ∀ (bl : List Alt) (x : Int32) (n c : Nat), altR B J Q x bl → bl.length < n → mX12_cases_316 R n B J x1 x2 x3 x4 x5 x6 (nI c) x = if inb x2 2800 then mX12_cases_345 R LF B J x1 x2 x3 x4 x5 x6 (nI (c + bl.length)) (B 189 x2.toNatClampNeg) else none := by
  intro bl
  induction bl with
  | nil =>
    intro x n c h hn
    obtain ⟨n, rfl⟩ : ∃ y, n = y + 1 := ⟨n - 1, by omega⟩
    have h : x = -1 := h
    rw [h, mX12_cases_316, if_pos rfl]
    rfl
  | cons e l ih =>
    intro x n c h hn
    obtain ⟨n, rfl⟩ : ∃ y, n = y + 1 := ⟨n - 1, by omega⟩
    obtain ⟨h1, h2, h3, h4, h5, h6⟩ := h
    rw [h1, mX12_cases_316, if_neg (nIm (by omega)), if_pos (in28 h2), congrArg (B 191) (cl28 h2), nI_1, ih _ n (c + 1) h6 (by simp at hn; omega)]
    have : c + 1 + l.length = c + (e :: l).length := by simp; omega
    rw [this]
/-- the end of a case in the reference -/
def csE (B : iT) (J : jT) (x3 y : Int32) : Option (Int32 × iT × jT) := if 0 ≤ y then (mX12_look0 B J).bind fun q1 => some (1, a_u2 q1.1 186 49 x3, q1.2) else rBad B J 3 (B 186 4)
theorem cs345_0 (n : Nat) (x7 : Int32) : mX12_cases_345 R (n + 1) B J x1 x2 x3 x4 x5 x6 x7 (-1) = csE B J x3 x7 := by
  rw [mX12_cases_345, if_pos rfl]
  unfold csE rBad
  rfl
theorem cs345_s (n : Nat) (x7 : Int32) {u : Nat} (hu : u < 2800) : mX12_cases_345 R (n + 1) B J x1 x2 x3 x4 x5 x6 x7 (nI u) = mX12_cases_345 R n B J x1 x2 x3 x4 x5 x6 (x7 + (-1)) (B 191 u) := by
  rw [mX12_cases_345, if_neg (nIm (by omega)), if_pos (in28 hu), congrArg (B 191) (cl28 hu)]
/-- one less for each branch -/
def dcr (l : List Br) (x : Int32) : Int32 := List.foldl (fun (y : Int32) (_ : Br) => y + (-1)) x l
theorem dcr_s (e : Br) (l : List Br) (x : Int32) : dcr (e :: l) x = dcr l (x + (-1)) := by
  unfold dcr
  rw [List.foldl_cons]
theorem dcr_0 (x : Int32) : dcr [] x = x := by
  unfold dcr
  rw [List.foldl_nil]
theorem sub_ok : ∀ (brs : List Br) (x : Int32) (n : Nat) (x7 : Int32), chain B J x brs → brs.length < n → mX12_cases_345 R n B J x1 x2 x3 x4 x5 x6 x7 x = csE B J x3 (dcr brs x7) := by
  intro brs
  induction brs with
  | nil =>
    intro x n x7 h hn
    obtain ⟨n, rfl⟩ : ∃ y, n = y + 1 := ⟨n - 1, by omega⟩
    have h : x = -1 := h
    rw [h, cs345_0, dcr_0]
  | cons e l ih =>
    intro x n x7 h hn
    obtain ⟨n, rfl⟩ : ∃ y, n = y + 1 := ⟨n - 1, by omega⟩
    obtain ⟨h1, h2, h3, h4, h5, h6, h7⟩ := h
    rw [h1, cs345_s n x7 h2, ih _ n _ h7 (by simp at hn; omega), dcr_s]
end
theorem dc0 : ∀ c, c < 7 → ((0 ≤ nI c) ↔ 0 ≤ c) := by decide
theorem dc1 : ∀ c, c < 7 → ((0 ≤ nI c + (-1)) ↔ 1 ≤ c) := by decide
theorem dc2 : ∀ c, c < 7 → ((0 ≤ nI c + (-1) + (-1)) ↔ 2 ≤ c) := by decide
theorem dc3 : ∀ c, c < 7 → ((0 ≤ nI c + (-1) + (-1) + (-1)) ↔ 3 ≤ c) := by decide
theorem dc4 : ∀ c, c < 7 → ((0 ≤ nI c + (-1) + (-1) + (-1) + (-1)) ↔ 4 ≤ c) := by decide
theorem dc5 : ∀ c, c < 7 → ((0 ≤ nI c + (-1) + (-1) + (-1) + (-1) + (-1)) ↔ 5 ≤ c) := by decide
theorem dc6 : ∀ c, c < 7 → ((0 ≤ nI c + (-1) + (-1) + (-1) + (-1) + (-1) + (-1)) ↔ 6 ≤ c) := by decide
theorem dcr_ok (l : List Br) (hl : l.length ≤ 6) (c : Nat) (hc : c < 7) : (0 ≤ dcr l (nI c)) ↔ l.length ≤ c := by
  match l, hl with
  | [], _ => rw [dcr_0]; exact dc0 c hc
  | [_], _ => rw [dcr_s, dcr_0]; exact dc1 c hc
  | [_, _], _ => rw [dcr_s, dcr_s, dcr_0]; exact dc2 c hc
  | [_, _, _], _ => rw [dcr_s, dcr_s, dcr_s, dcr_0]; exact dc3 c hc
  | [_, _, _, _], _ => rw [dcr_s, dcr_s, dcr_s, dcr_s, dcr_0]; exact dc4 c hc
  | [_, _, _, _, _], _ => rw [dcr_s, dcr_s, dcr_s, dcr_s, dcr_s, dcr_0]; exact dc5 c hc
  | [_, _, _, _, _, _], _ => rw [dcr_s, dcr_s, dcr_s, dcr_s, dcr_s, dcr_s, dcr_0]; exact dc6 c hc
  | _ :: _ :: _ :: _ :: _ :: _ :: _ :: _, hl => exact absurd hl (by simp)
