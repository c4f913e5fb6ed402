/-! THE TOKENS of a text, and the class's cutting of it (pure) -/
/-- kind (the class's), what it holds (digits of a NAME, a NUMBER), place -/
abbrev Tok : Type := Nat × List Nat × Nat
def smb (c : Nat) : Bool := decide (97 ≤ c) && decide (c ≤ 122)
def dgb (c : Nat) : Bool := decide (48 ≤ c) && decide (c ≤ 57)
def ltb (c : Nat) : Bool := smb c || (decide (65 ≤ c) && decide (c ≤ 90))
def sgn : List Nat := [40, 41, 123, 125, 44, 59, 58, 46, 61, 33, 63, 62, 60, 43, 45, 42, 38, 124]
def dn (l : List Nat) : List Nat := l.map (fun c => c - 96)
def num10 (l : List Nat) : Nat := l.foldl (fun a c => a * 10 + (c - 48)) 0
def lexG : Nat → List Nat → Nat → List Tok
  | 0, _, p => [(260, [], p)]
  | _ + 1, [], p => [(260, [], p)]
  | n + 1, c :: s, p =>
    if c = 32 ∨ c = 10 then lexG n ((c :: s).drop 1) (p + 1)
    else if smb c = true then (if ((c :: s).takeWhile smb).length ≤ 6 then wk (dn ((c :: s).takeWhile smb)) else 259, dn ((c :: s).takeWhile smb), p) :: lexG n ((c :: s).drop ((c :: s).takeWhile smb).length) (p + ((c :: s).takeWhile smb).length)
    else if dgb c = true then (if ((c :: s).takeWhile dgb).length ≤ 4 ∧ ltb (((c :: s).drop ((c :: s).takeWhile dgb).length).headD 0) = false then 257 else 259, [num10 ((c :: s).takeWhile dgb)], p) :: lexG n ((c :: s).drop ((c :: s).takeWhile dgb).length) (p + ((c :: s).takeWhile dgb).length)
    else if c = 61 ∧ s.head? = some 61 then (258, [], p) :: lexG n ((c :: s).drop 2) (p + 2)
    else (if c ∈ sgn then c else 259, [], p) :: lexG n ((c :: s).drop 1) (p + 1)
def tkv (t : Tok) (x : Int32) : Prop := (t.1 = 256 → x = nI (cN t.2.1)) ∧ (t.1 = 257 → x = nI (t.2.1.headD 0))
def noted (I : iT) (a : Nat) (l : List Tok) : Prop := ∀ i t, l[i]? = some t → I 9 (a + i) = nI t.1 ∧ tkv t (I 10 (a + i)) ∧ I 11 (a + i) = nI t.2.2
/-- the class's cursor stands at t, r is behind it; no fault -/
def CC (I : iT) (t : Tok) (r : List Tok) : Prop := I 6 9 = 0 ∧ I 6 6 = nI t.1 ∧ tkv t (I 6 7) ∧ I 6 8 = nI t.2.2 ∧ ∃ a, I 6 5 = nI a ∧ I 6 4 = nI (a + r.length) ∧ a + r.length ≤ 1001 ∧ noted I a r
theorem note_eq {I : iT} {m : Nat} (h : I 6 4 = nI m) (hm : m < 1001) (x1 x2 x3 : Int32) : mX2_note I x1 x2 x3 = some (a_u2 (a_u2 (a_u2 (a_u2 I 9 m x1) 10 m x2) 11 m x3) 6 4 (nI (m + 1))) := by
  have e9 : ∀ (f : iT) (j : Nat) (v : Int32), a_u2 f 9 j v 6 = f 6 := fun f j v => a_u2_r f v (by decide)
  have e10 : ∀ (f : iT) (j : Nat) (v : Int32), a_u2 f 10 j v 6 = f 6 := fun f j v => a_u2_r f v (by decide)
  have e11 : ∀ (f : iT) (j : Nat) (v : Int32), a_u2 f 11 j v 6 = f 6 := fun f j v => a_u2_r f v (by decide)
  have hi : inb (nI m) 1001 := vp_in_nI hm (by omega)
  unfold mX2_note
  simp only [e9, e10, e11, h]
  rw [if_neg (nI_ge hm (by omega)), if_pos hi, if_pos hi, if_pos hi, nI_clamp (by omega), nI_1]
theorem note_ok {I : iT} {pre : List Tok} (h : I 6 4 = nI pre.length) (hm : pre.length < 1001) (hn : noted I 0 pre) (t : Tok) {x : Int32} (hx : tkv t x) : ∃ I', mX2_note I (nI t.1) x (nI t.2.2) = some I' ∧ I' 6 4 = nI (pre ++ [t]).length ∧ noted I' 0 (pre ++ [t]) ∧ ∀ b i, b ≠ 9 → b ≠ 10 → b ≠ 11 → ¬ (b = 6 ∧ i = 4) → I' b i = I b i := by
  refine ⟨_, note_eq h hm _ _ _, ?_, ?_, ?_⟩
  · rw [a_u2_s, List.length_append]; rfl
  · intro i u hu
    rw [Nat.zero_add]
    have d9 : ∀ (f : iT) (j : Nat) (v : Int32) (q : Nat), q ≠ 6 → a_u2 f 6 j v q = f q := fun f j v q hq => a_u2_r f v hq
    rw [d9 _ _ _ _ (by decide), d9 _ _ _ _ (by decide), d9 _ _ _ _ (by decide), a_u2_r _ _ (show (9 : Nat) ≠ 11 by decide), a_u2_r _ _ (show (9 : Nat) ≠ 10 by decide), a_u2_r _ _ (show (10 : Nat) ≠ 11 by decide)]
    by_cases e : i = pre.length
    · subst e
      rw [List.getElem?_concat_length] at hu
      cases hu
      rw [a_u2_s, a_u2_s, a_u2_s]
      exact ⟨rfl, hx, rfl⟩
    · have hi : i < pre.length := by
        have := (List.getElem?_eq_some_iff.mp hu).1
        rw [List.length_append] at this
        have h1 : i < pre.length + 1 := this
        omega
      rw [List.getElem?_append_left hi] at hu
      have := hn i u hu
      rw [Nat.zero_add] at this
      rw [a_u2_n _ _ (by omega), a_u2_n _ _ (by omega), a_u2_n _ _ (by omega), a_u2_n _ _ (by omega), a_u2_n _ _ (by omega), a_u2_n _ _ (by omega)]
      exact this
  · intro b i h1 h2 h3 h4
    rw [a_u2_n _ _ h4, a_u2_n _ _ (by omega), a_u2_n _ _ (by omega), a_u2_n _ _ (by omega)]
theorem drop_cons {bs s : List Nat} {p c : Nat} (h : bs.drop p = c :: s) : p < bs.length ∧ bs[p]? = some c ∧ bs.drop (p + 1) = s := by
  have hlt : p < bs.length := by
    rcases Nat.lt_or_ge p bs.length with q | q
    · exact q
    · rw [List.drop_eq_nil_of_le q] at h; cases h
  refine ⟨hlt, ?_, ?_⟩
  · rw [← List.head?_drop, h]; rfl
  · rw [← List.tail_drop, h]; rfl
theorem drop_nil {bs : List Nat} {p : Nat} (h : bs.drop p = []) : bs.length ≤ p := List.drop_eq_nil_iff.mp h
def mpI (bs : List Nat) : List Int32 := bs.map nI
theorem mpI_len (bs : List Nat) : (mpI bs).length = bs.length := by unfold mpI; simp
theorem mpI_get {bs : List Nat} {p c : Nat} (h : bs[p]? = some c) : (mpI bs).getD p (-1) = nI c := by
  unfold mpI
  rw [List.getD_eq_getElem?_getD, List.getElem?_map, h]; rfl
theorem mpI_none {bs : List Nat} {p : Nat} (h : bs.length ≤ p) : (mpI bs).getD p (-1) = -1 := by
  rw [List.getD_eq_getElem?_getD, List.getElem?_eq_none (by rw [mpI_len]; exact h)]; rfl
theorem cSm {c : Nat} (h : c < 256) : mX11_isSmallLetter (nI c) = some (if smb c = true then 1 else 0) := (by decide +kernel : ∀ c, c < 256 → mX11_isSmallLetter (nI c) = some (if smb c = true then 1 else 0)) c h
theorem cDg {c : Nat} (h : c < 256) : mX11_isDigit (nI c) = some (if dgb c = true then 1 else 0) := (by decide +kernel : ∀ c, c < 256 → mX11_isDigit (nI c) = some (if dgb c = true then 1 else 0)) c h
theorem cLt {c : Nat} (h : c < 256) : mX11_isLetter (nI c) = some (if ltb c = true then 1 else 0) := (by decide +kernel : ∀ c, c < 256 → mX11_isLetter (nI c) = some (if ltb c = true then 1 else 0)) c h
theorem cSg {c : Nat} (h : c < 256) : (strIx 1000001 (((nI c).toUInt32 % 65536).toInt32) < 0) ↔ ¬ c ∈ sgn := (by decide +kernel : ∀ c, c < 256 → ((strIx 1000001 (((nI c).toUInt32 % 65536).toInt32) < 0) ↔ ¬ c ∈ sgn)) c h
theorem smb_dig {c : Nat} (h : smb c = true) : 1 ≤ c - 96 ∧ c - 96 ≤ 26 ∧ 96 + (c - 96) = c := by
  unfold smb at h
  simp at h
  omega
theorem wk_elim (P : List Nat → Nat → Int32 → Prop) (l : List Nat) (hn : P l 256 (-1)) (h : ∀ k, k < 17 → P (wl.getD k []) (300 + k) (nI k)) : P l (wk l) (wi l) := by
  unfold wk wi
  by_cases h0 : [20, 25, 16, 5] = l
  · rw [if_pos h0, if_pos h0, ← h0]; exact h 0 (by decide)
  rw [if_neg h0, if_neg h0]
  by_cases h1 : [4, 5, 6] = l
  · rw [if_pos h1, if_pos h1, ← h1]; exact h 1 (by decide)
  rw [if_neg h1, if_neg h1]
  by_cases h2 : [5, 14, 4] = l
  · rw [if_pos h2, if_pos h2, ← h2]; exact h 2 (by decide)
  rw [if_neg h2, if_neg h2]
  by_cases h3 : [16, 21, 20] = l
  · rw [if_pos h3, if_pos h3, ← h3]; exact h 3 (by decide)
  rw [if_neg h3, if_neg h3]
  by_cases h4 : [7, 5, 20] = l
  · rw [if_pos h4, if_pos h4, ← h4]; exact h 4 (by decide)
  rw [if_neg h4, if_neg h4]
  by_cases h5 : [19, 5, 14, 4] = l
  · rw [if_pos h5, if_pos h5, ← h5]; exact h 5 (by decide)
  rw [if_neg h5, if_neg h5]
  by_cases h6 : [20, 1, 11, 5] = l
  · rw [if_pos h6, if_pos h6, ← h6]; exact h 6 (by decide)
  rw [if_neg h6, if_neg h6]
  by_cases h7 : [16, 9, 3, 11] = l
  · rw [if_pos h7, if_pos h7, ← h7]; exact h 7 (by decide)
  rw [if_neg h7, if_neg h7]
  by_cases h8 : [3, 1, 19, 5] = l
  · rw [if_pos h8, if_pos h8, ← h8]; exact h 8 (by decide)
  rw [if_neg h8, if_neg h8]
  by_cases h9 : [14, 5, 23] = l
  · rw [if_pos h9, if_pos h9, ← h9]; exact h 9 (by decide)
  rw [if_neg h9, if_neg h9]
  by_cases h10 : [19, 1, 13, 5] = l
  · rw [if_pos h10, if_pos h10, ← h10]; exact h 10 (by decide)
  rw [if_neg h10, if_neg h10]
  by_cases h11 : [7, 15] = l
  · rw [if_pos h11, if_pos h11, ← h11]; exact h 11 (by decide)
  rw [if_neg h11, if_neg h11]
  by_cases h12 : [9, 6] = l
  · rw [if_pos h12, if_pos h12, ← h12]; exact h 12 (by decide)
  rw [if_neg h12, if_neg h12]
  by_cases h13 : [5, 12, 19, 5] = l
  · rw [if_pos h13, if_pos h13, ← h13]; exact h 13 (by decide)
  rw [if_neg h13, if_neg h13]
  by_cases h14 : [19, 1, 25] = l
  · rw [if_pos h14, if_pos h14, ← h14]; exact h 14 (by decide)
  rw [if_neg h14, if_neg h14]
  by_cases h15 : [3, 12, 15, 19, 5] = l
  · rw [if_pos h15, if_pos h15, ← h15]; exact h 15 (by decide)
  rw [if_neg h15, if_neg h15]
  by_cases h16 : [23, 1, 9, 20] = l
  · rw [if_pos h16, if_pos h16, ← h16]; exact h 16 (by decide)
  rw [if_neg h16, if_neg h16]
  exact hn
theorem wi_wk (l : List Nat) : (if wi l = -1 then (256 : Int32) else 300 + wi l) = nI (wk l) := wk_elim (fun _ k i => (if i = -1 then (256 : Int32) else 300 + i) = nI k) l (by decide +kernel) (by decide +kernel)
theorem wk_cases (l : List Nat) : wk l = 256 ∨ (300 ≤ wk l ∧ wk l ≤ 316) := wk_elim (fun _ k _ => k = 256 ∨ (300 ≤ k ∧ k ≤ 316)) l (Or.inl rfl) (fun k hk => Or.inr ⟨by omega, by omega⟩)
theorem wk_len (l : List Nat) : wk l ≠ 256 → (wl.getD (wk l - 300) []).length = l.length := wk_elim (fun l k _ => k ≠ 256 → (wl.getD (k - 300) []).length = l.length) l (fun h => absurd rfl h) (fun k hk _ => by rw [Nat.add_sub_cancel_left])
section
variable {I : iT} {bs : List Nat} (hb : ∀ c ∈ bs, c < 256) (hl : bs.length ≤ 1000) (ht : rowIs I 2 (mpI bs)) (hw : rowIs I 7 wcs)
theorem tat (q : Nat) (hq : q < 2 ^ 31) (ht : rowIs I 2 (mpI bs)) : mX4_at 2 I (nI q) = some ((mpI bs).getD q (-1)) := by
  rw [row_at ht, lat_nI hq]
theorem cl_loop (hb : ∀ c ∈ bs, c < 256) (hl : bs.length ≤ 1000) (ht : rowIs I 2 (mpI bs)) (x2 : Int32) : ∀ (s : List Nat) (q n : Nat) (l : List Nat), bs.drop q = s → s.length < n → nam l → l.length + s.length ≤ 1000 → q ≤ 1000 →
    mX2_cutLetters_8 2 n I x2 (nI (cN (l.take 6))) (nI l.length) (nI q) = mX2_cutLetters_51 2 I x2 (nI (cN ((l ++ dn (s.takeWhile smb)).take 6))) (nI (l.length + (s.takeWhile smb).length)) (nI (q + (s.takeWhile smb).length)) := by
  intro s
  induction s with
  | nil =>
    intro q n l hd hn hnl hc hq
    obtain ⟨n, rfl⟩ : ∃ m, n = m + 1 := ⟨n - 1, by omega⟩
    have hz := drop_nil hd
    rw [mX2_cutLetters_8, row_size ht, mpI_len]
    show (if nI bs.length ≤ nI q then _ else _) = _
    rw [if_pos (nI_le hz (by omega))]
    simp [dn]
  | cons c s ih =>
    intro q n l hd hn hnl hc hq
    obtain ⟨n, rfl⟩ : ∃ m, n = m + 1 := ⟨n - 1, by omega⟩
    obtain ⟨h1, h2, h3⟩ := drop_cons hd
    have hc256 := hb c (List.mem_of_getElem? h2)
    rw [mX2_cutLetters_8, row_size ht, mpI_len]
    show (if nI bs.length ≤ nI q then _ else _) = _
    rw [if_neg (nI_ge h1 (by omega)), tat q (by omega) ht, mpI_get h2]
    show (mX11_isSmallLetter (nI c)).bind _ = _
    rw [cSm hc256]
    by_cases hs : smb c = true
    · rw [if_pos hs]
      obtain ⟨d1, d2, d3⟩ := smb_dig hs
      show (mX11_withLetter (nI (cN (l.take 6))) (nI l.length) (nI c)).bind _ = _
      have e : mX11_withLetter (nI (cN (l.take 6))) (nI l.length) (nI c) = some (nI (cN ((l ++ [c - 96]).take 6))) := by
        by_cases h6 : l.length < 6
        · rw [List.take_of_length_le (by omega), List.take_of_length_le (by simp; omega)]
          have := cwith hnl ⟨d1, d2⟩ h6
          rw [d3] at this
          exact this
        · rw [cwith6 _ _ (by omega) (by omega), List.take_append_of_le_length (by omega)]
      rw [e]
      show mX2_cutLetters_8 2 n I x2 (nI (cN ((l ++ [c - 96]).take 6))) (nI l.length + 1) (nI q + 1) = _
      have hlen : (l ++ [c - 96]).length = l.length + 1 := by simp
      rw [nI_1, nI_1, ← hlen, ih (q + 1) n (l ++ [c - 96]) h3 (by simp at hn; omega) (nam_snoc hnl ⟨d1, d2⟩) (by rw [hlen]; simp at hc; omega) (by omega)]
      rw [List.takeWhile_cons_of_pos hs, hlen]
      have e2 : l ++ [c - 96] ++ dn (s.takeWhile smb) = l ++ dn (c :: s.takeWhile smb) := by simp [dn]
      rw [e2, List.length_cons]
      congr 2 <;> omega
    · rw [if_neg hs, List.takeWhile_cons_of_neg hs]
      show mX2_cutLetters_51 2 I x2 (nI (cN (l.take 6))) (nI l.length) (nI q) = _
      simp [dn]
theorem num10_snoc (l : List Nat) (c : Nat) : num10 (l ++ [c]) = num10 l * 10 + (c - 48) := by
  unfold num10
  rw [List.foldl_append]; rfl
theorem dgb_dig {c : Nat} (h : dgb c = true) : 48 ≤ c ∧ c ≤ 57 := by
  unfold dgb at h
  simp at h
  exact h
theorem i_dig (a : Nat) {c : Nat} (h : 48 ≤ c) : nI a * 10 + nI c - 48 = nI (a * 10 + (c - 48)) := by
  have e1 : nI a * (10 : Int32) = nI (a * 10) := pk_mul a 10
  have e2 := pk_sub (a := a * 10 + c) (b := 48) (by omega)
  rw [e1, nI_add]
  show nI (a * 10 + c) - nI 48 = _
  rw [e2, show a * 10 + c - 48 = a * 10 + (c - 48) by omega]
theorem cd_loop (hb : ∀ c ∈ bs, c < 256) (hl : bs.length ≤ 1000) (ht : rowIs I 2 (mpI bs)) (x2 : Int32) : ∀ (s : List Nat) (q n : Nat) (l : List Nat), bs.drop q = s → s.length < n → l.length + s.length ≤ 1000 → q ≤ 1000 →
    mX2_cutDigits_8 2 n I x2 (nI (num10 l)) (nI l.length) (nI q) = mX2_cutDigits_53 2 I x2 (nI (num10 (l ++ s.takeWhile dgb))) (nI (l.length + (s.takeWhile dgb).length)) (nI (q + (s.takeWhile dgb).length)) := by
  intro s
  induction s with
  | nil =>
    intro q n l hd hn hc hq
    obtain ⟨n, rfl⟩ : ∃ m, n = m + 1 := ⟨n - 1, by omega⟩
    have hz := drop_nil hd
    rw [mX2_cutDigits_8, row_size ht, mpI_len]
    show (if nI bs.length ≤ nI q then _ else _) = _
    rw [if_pos (nI_le hz (by omega))]
    simp
  | cons c s ih =>
    intro q n l hd hn hc hq
    obtain ⟨n, rfl⟩ : ∃ m, n = m + 1 := ⟨n - 1, by omega⟩
    obtain ⟨h1, h2, h3⟩ := drop_cons hd
    have hc256 := hb c (List.mem_of_getElem? h2)
    rw [mX2_cutDigits_8, row_size ht, mpI_len]
    show (if nI bs.length ≤ nI q then _ else _) = _
    rw [if_neg (nI_ge h1 (by omega)), tat q (by omega) ht, mpI_get h2]
    show (mX11_isDigit (nI c)).bind _ = _
    rw [cDg hc256]
    by_cases hs : dgb c = true
    · rw [if_pos hs]
      obtain ⟨d1, d2⟩ := dgb_dig hs
      show mX2_cutDigits_8 2 n I x2 (nI (num10 l) * 10 + nI c - 48) (nI l.length + 1) (nI q + 1) = _
      have hlen : (l ++ [c]).length = l.length + 1 := by simp
      rw [nI_1, nI_1, i_dig _ d1, ← num10_snoc, ← hlen, ih (q + 1) n (l ++ [c]) h3 (by simp at hn; omega) (by rw [hlen]; simp at hc; omega) (by omega)]
      rw [List.takeWhile_cons_of_pos hs, hlen]
      have e2 : l ++ [c] ++ s.takeWhile dgb = l ++ (c :: s.takeWhile dgb) := by simp
      rw [e2, List.length_cons]
      congr 2 <;> omega
    · rw [if_neg hs, List.takeWhile_cons_of_neg hs]
      show mX2_cutDigits_53 2 I x2 (nI (num10 l)) (nI l.length) (nI q) = _
      simp
theorem sb {α β : Type} (a : α) (f : α → Option β) : (some a).bind f = f a := rfl
theorem i10 : ¬ (1 : Int32) = 0 := by decide
theorem drop_add {bs s : List Nat} {p : Nat} (h : bs.drop p = s) (k : Nat) : s.drop k = bs.drop (p + k) := by
  rw [← h]
  simp [List.drop_drop]
theorem let_at (hb : ∀ c ∈ bs, c < 256) (q : Nat) : mX11_isLetter ((mpI bs).getD q (-1)) = some (if ltb ((bs.drop q).headD 0) = true then 1 else 0) := by
  cases h : bs.drop q with
  | nil =>
    rw [mpI_none (drop_nil h)]
    decide +kernel
  | cons c s =>
    obtain ⟨h1, h2, h3⟩ := drop_cons h
    rw [mpI_get h2]
    exact cLt (hb c (List.mem_of_getElem? h2))
theorem tw_len (f : Nat → Bool) (l : List Nat) : (l.takeWhile f).length ≤ l.length := (List.takeWhile_sublist f).length_le
theorem tw_nam : ∀ l : List Nat, nam (dn (l.takeWhile smb)) := by
  intro l
  induction l with
  | nil => intro d hd; cases hd
  | cons c l ih =>
    by_cases h : smb c = true
    · rw [List.takeWhile_cons_of_pos h]
      intro d hd
      have hd' : d = c - 96 ∨ d ∈ dn (l.takeWhile smb) := by
        have e : dn (c :: l.takeWhile smb) = (c - 96) :: dn (l.takeWhile smb) := rfl
        rw [e] at hd
        exact List.mem_cons.mp hd
      rcases hd' with e | e
      · obtain ⟨d1, d2, d3⟩ := smb_dig h
        subst e; exact ⟨d1, d2⟩
      · exact ih d e
    · rw [List.takeWhile_cons_of_neg h]
      intro d hd; cases hd
theorem dn_len (l : List Nat) : (dn l).length = l.length := by unfold dn; simp
theorem cut_ok (hb : ∀ c ∈ bs, c < 256) (hl : bs.length ≤ 1000) (ht : rowIs I 2 (mpI bs)) (hw : rowIs I 7 wcs) {p c : Nat} {s : List Nat} (hd : bs.drop p = c :: s) {pre : List Tok} (hc : I 6 4 = nI pre.length) (hm : pre.length < 1001) (hn : noted I 0 pre) :
    ∃ k ts I', (∀ n, lexG (n + 1) (c :: s) p = ts ++ lexG n ((c :: s).drop k) (p + k)) ∧ 1 ≤ k ∧ k ≤ (c :: s).length ∧ ts.length ≤ 1 ∧ mX2_cutToken 2 I (nI p) = some (nI k, I') ∧ I' 6 4 = nI (pre ++ ts).length ∧ noted I' 0 (pre ++ ts) ∧ ∀ b i, b ≠ 9 → b ≠ 10 → b ≠ 11 → ¬ (b = 6 ∧ i = 4) → I' b i = I b i := by
  obtain ⟨h1, h2, h3⟩ := drop_cons hd
  have hc256 := hb c (List.mem_of_getElem? h2)
  have hlen : (c :: s).length = bs.length - p := by rw [← hd, List.length_drop]
  by_cases hs : smb c = true
  · have hbl : ¬ (c = 32 ∨ c = 10) := by have := smb_dig hs; omega
    have e0 : mX2_cutToken 2 I (nI p) = mX2_cutLetters_51 2 I (nI p) (nI (cN (([] ++ dn ((c :: s).takeWhile smb)).take 6))) (nI (([] : List Nat).length + ((c :: s).takeWhile smb).length)) (nI (p + ((c :: s).takeWhile smb).length)) := by
      have e := cl_loop hb hl ht (nI p) (c :: s) p LF [] hd (by unfold LF; omega) (fun d hd => by cases hd) (by simp at hlen ⊢; omega) (by omega)
      unfold mX2_cutToken
      rw [tat p (by omega) ht, sb, mpI_get h2, cSm hc256, if_pos hs, sb, if_neg i10, ← e]
      show (mX2_cutLetters 2 I (nI p)).bind _ = _
      cases hq : mX2_cutLetters 2 I (nI p) with
      | none => exact hq.symm
      | some q => exact hq.symm
    have tl := tw_len smb (c :: s)
    have tn := tw_nam (c :: s)
    have t1 : 1 ≤ ((c :: s).takeWhile smb).length := by rw [List.takeWhile_cons_of_pos hs]; simp
    generalize hW : (c :: s).takeWhile smb = w at *
    have dl := dn_len w
    by_cases h6 : w.length ≤ 6
    · have tk : List.take 6 ([] ++ dn w) = dn w := List.take_of_length_le (by simp [dl]; exact h6)
      have hx : tkv (wk (dn w), dn w, p) (nI (cN (dn w))) := ⟨fun _ => rfl, fun q => by have := wk_cases (dn w); simp at q; omega⟩
      obtain ⟨I', n1, n2, n3, n4⟩ := note_ok hc hm hn (wk (dn w), dn w, p) hx
      refine ⟨w.length, [(wk (dn w), dn w, p)], I', fun n => ?_, t1, tl, Nat.le_refl _, ?_, n2, n3, n4⟩
      · rw [lexG, if_neg hbl, if_pos hs, hW, if_pos h6]; rfl
      · rw [e0, tk]
        unfold mX2_cutLetters_51
        have hk := wi_wk (dn w)
        have h06 : nI (([] : List Nat).length + w.length) ≤ 6 := nI_le (a := ([] : List Nat).length + w.length) (b := 6) (by simp; omega) (by omega)
        have n1' : mX2_note I (nI (wk (dn w))) (nI (cN (dn w))) (nI p) = some I' := n1
        rw [row_find hw, sb, if_pos h06, cword tn (by omega)]
        by_cases hi : wi (dn w) = -1
        · rw [if_pos hi] at hk
          rw [if_pos hi, hk]
          unfold mX2_cutLetters_99
          rw [n1', sb]
          simp
        · rw [if_neg hi] at hk
          rw [if_neg hi, hk]
          unfold mX2_cutLetters_99
          rw [n1', sb]
          simp
    · have hx : tkv (259, dn w, p) 0 := ⟨fun q => by simp at q, fun q => by simp at q⟩
      obtain ⟨I', n1, n2, n3, n4⟩ := note_ok hc hm hn (259, dn w, p) hx
      refine ⟨w.length, [(259, dn w, p)], I', fun n => ?_, t1, tl, Nat.le_refl _, ?_, n2, n3, n4⟩
      · rw [lexG, if_neg hbl, if_pos hs, hW, if_neg h6]; rfl
      · rw [e0]
        unfold mX2_cutLetters_51
        have h06 : ¬ nI (([] : List Nat).length + w.length) ≤ 6 := nI_ge (a := 6) (b := ([] : List Nat).length + w.length) (by simp; omega) (by simp; omega)
        have n1' : mX2_note I 259 0 (nI p) = some I' := n1
        rw [row_find hw, sb, if_neg h06, n1', sb]
        simp
  · by_cases hg : dgb c = true
    · have hbl : ¬ (c = 32 ∨ c = 10) := by have := dgb_dig hg; omega
      have e0 : mX2_cutToken 2 I (nI p) = mX2_cutDigits_53 2 I (nI p) (nI (num10 ([] ++ (c :: s).takeWhile dgb))) (nI (([] : List Nat).length + ((c :: s).takeWhile dgb).length)) (nI (p + ((c :: s).takeWhile dgb).length)) := by
        have e := cd_loop hb hl ht (nI p) (c :: s) p LF [] hd (by unfold LF; omega) (by simp at hlen ⊢; omega) (by omega)
        unfold mX2_cutToken
        rw [tat p (by omega) ht, sb, mpI_get h2, cSm hc256, if_neg hs, sb, if_pos rfl, cDg hc256, if_pos hg, sb, if_neg i10, ← e]
        show (mX2_cutDigits 2 I (nI p)).bind _ = _
        cases hq : mX2_cutDigits 2 I (nI p) with
        | none => exact hq.symm
        | some q => exact hq.symm
      have tl := tw_len dgb (c :: s)
      have t1 : 1 ≤ ((c :: s).takeWhile dgb).length := by rw [List.takeWhile_cons_of_pos hg]; simp
      generalize hW : (c :: s).takeWhile dgb = w at *
      have hda := drop_add hd w.length
      have ha : mX4_at 2 I (nI p + nI w.length) = some ((mpI bs).getD (p + w.length) (-1)) := by rw [nI_add]; exact tat _ (by omega) ht
      have hlz : ([] : List Nat).length + w.length = w.length := by simp
      rw [hlz, List.nil_append] at e0
      by_cases h4 : w.length ≤ 4 ∧ ltb (((c :: s).drop w.length).headD 0) = false
      · have hx : tkv (257, [num10 w], p) (nI (num10 w)) := ⟨fun q => by simp at q, fun _ => rfl⟩
        obtain ⟨I', n1, n2, n3, n4⟩ := note_ok hc hm hn (257, [num10 w], p) hx
        refine ⟨w.length, [(257, [num10 w], p)], I', fun n => ?_, t1, tl, Nat.le_refl _, ?_, n2, n3, n4⟩
        · rw [lexG, if_neg hbl, if_neg hs, if_pos hg, hW, if_pos h4]; rfl
        · have n1' : mX2_note I 257 (nI (num10 w)) (nI p) = some I' := n1
          rw [e0]
          unfold mX2_cutDigits_53
          rw [if_neg (show ¬ (4 : Int32) < nI w.length from nI_nlt (a := 4) h4.1 (by omega)), ha, sb, let_at hb, ← hda, h4.2, if_neg Bool.false_ne_true, sb, if_pos rfl]
          unfold mX2_cutDigits_78
          rw [if_neg i10]
          unfold mX2_cutDigits_95
          rw [n1', sb]
      · have hx : tkv (259, [num10 w], p) (nI (num10 w)) := ⟨fun q => by simp at q, fun q => by simp at q⟩
        obtain ⟨I', n1, n2, n3, n4⟩ := note_ok hc hm hn (259, [num10 w], p) hx
        refine ⟨w.length, [(259, [num10 w], p)], I', fun n => ?_, t1, tl, Nat.le_refl _, ?_, n2, n3, n4⟩
        · rw [lexG, if_neg hbl, if_neg hs, if_pos hg, hW, if_neg h4]; rfl
        · have n1' : mX2_note I 259 (nI (num10 w)) (nI p) = some I' := n1
          have e77 : ∀ y, mX2_cutDigits_77 2 I (nI p) (nI (num10 w)) (nI w.length) y = some (nI w.length, I') := by
            intro y
            unfold mX2_cutDigits_77 mX2_cutDigits_78
            rw [if_pos rfl]
            unfold mX2_cutDigits_95
            rw [n1', sb]
          rw [e0]
          unfold mX2_cutDigits_53
          by_cases h5 : w.length ≤ 4
          · have h6 : ltb (((c :: s).drop w.length).headD 0) = true := by
              cases hq : ltb (((c :: s).drop w.length).headD 0) with
              | true => rfl
              | false => exact (h4 ⟨h5, hq⟩).elim
            rw [if_neg (show ¬ (4 : Int32) < nI w.length from nI_nlt (a := 4) h5 (by omega)), ha, sb, let_at hb, ← hda, h6, if_pos rfl, sb, if_neg i10]
            exact e77 _
          · rw [if_pos (show (4 : Int32) < nI w.length from nI_lt (a := 4) (by omega) (by omega))]
            exact e77 _
    · have e0 : mX2_cutToken 2 I (nI p) = if nI c = 32 then some (1, I) else if nI c = 10 then some (1, I) else if nI c = 61 then (mX4_at 2 I (nI p + 1)).bind fun q5 => if q5 = 61 then (mX2_note I 258 0 (nI p)).bind fun q6 => some (2, q6) else mX2_cutToken_77 2 I (nI p) (nI c) else mX2_cutToken_77 2 I (nI p) (nI c) := by
        unfold mX2_cutToken
        rw [tat p (by omega) ht, sb, mpI_get h2, cSm hc256, if_neg hs, sb, if_pos rfl, cDg hc256, if_neg hg, sb, if_pos rfl]
      have e32 : nI c = 32 ↔ c = 32 := nI_eq (b := 32) (by omega) (by omega)
      have e10 : nI c = 10 ↔ c = 10 := nI_eq (b := 10) (by omega) (by omega)
      have e61 : nI c = 61 ↔ c = 61 := nI_eq (b := 61) (by omega) (by omega)
      by_cases hbl : c = 32 ∨ c = 10
      · refine ⟨1, [], I, fun n => ?_, Nat.le_refl _, by simp, by simp, ?_, by rw [List.append_nil]; exact hc, by rw [List.append_nil]; exact hn, fun _ _ _ _ _ _ => rfl⟩
        · rw [lexG, if_pos hbl]; rfl
        · rw [e0]
          rcases hbl with q | q
          · rw [if_pos (e32.mpr q)]; rfl
          · by_cases q2 : nI c = 32
            · rw [if_pos q2]; rfl
            · rw [if_neg q2, if_pos (e10.mpr q)]; rfl
      · rw [if_neg (fun q => hbl (Or.inl (e32.mp q))), if_neg (fun q => hbl (Or.inr (e10.mp q)))] at e0
        have c77 : ¬ (c = 61 ∧ s.head? = some 61) → mX2_cutToken 2 I (nI p) = mX2_cutToken_77 2 I (nI p) (nI c) → ∃ k ts I', (∀ n, lexG (n + 1) (c :: s) p = ts ++ lexG n ((c :: s).drop k) (p + k)) ∧ 1 ≤ k ∧ k ≤ (c :: s).length ∧ ts.length ≤ 1 ∧ mX2_cutToken 2 I (nI p) = some (nI k, I') ∧ I' 6 4 = nI (pre ++ ts).length ∧ noted I' 0 (pre ++ ts) ∧ ∀ b i, b ≠ 9 → b ≠ 10 → b ≠ 11 → ¬ (b = 6 ∧ i = 4) → I' b i = I b i := by
          intro hne he
          have hx : tkv (if c ∈ sgn then c else 259, [], p) 0 := by
            by_cases hi : c ∈ sgn
            · rw [if_pos hi]; exact ⟨fun q => by simp at q; omega, fun q => by simp at q; omega⟩
            · rw [if_neg hi]; exact ⟨fun q => by simp at q, fun q => by simp at q⟩
          obtain ⟨I', n1, n2, n3, n4⟩ := note_ok hc hm hn (if c ∈ sgn then c else 259, [], p) hx
          refine ⟨1, [(if c ∈ sgn then c else 259, [], p)], I', fun n => ?_, Nat.le_refl _, by simp, Nat.le_refl _, ?_, n2, n3, n4⟩
          · rw [lexG, if_neg hbl, if_neg hs, if_neg hg, if_neg hne]; rfl
          · rw [he]
            unfold mX2_cutToken_77
            have n1' : mX2_note I (nI (if c ∈ sgn then c else 259)) 0 (nI p) = some I' := n1
            by_cases hi : c ∈ sgn
            · rw [if_pos hi] at n1'
              rw [if_neg (fun q => (cSg hc256).mp q hi)]
              unfold mX2_cutToken_95
              rw [n1', sb]; rfl
            · rw [if_neg hi] at n1'
              have n1'' : mX2_note I 259 0 (nI p) = some I' := n1'
              rw [if_pos ((cSg hc256).mpr hi)]
              unfold mX2_cutToken_95
              rw [n1'', sb]; rfl
        by_cases h61 : c = 61
        · rw [if_pos (e61.mpr h61), nI_1, tat (p + 1) (by omega) ht, sb] at e0
          cases s with
          | nil =>
            rw [mpI_none (drop_nil h3), if_neg (by decide)] at e0
            exact c77 (fun q => by have := q.2; cases this) e0
          | cons d s' =>
            obtain ⟨k1, k2, k3⟩ := drop_cons h3
            have hd256 := hb d (List.mem_of_getElem? k2)
            have ed : nI d = 61 ↔ d = 61 := nI_eq (b := 61) (by omega) (by omega)
            rw [mpI_get k2] at e0
            by_cases hd61 : d = 61
            · rw [if_pos (ed.mpr hd61)] at e0
              have hx : tkv (258, [], p) 0 := ⟨fun q => by simp at q, fun q => by simp at q⟩
              obtain ⟨I', n1, n2, n3, n4⟩ := note_ok hc hm hn (258, [], p) hx
              have n1' : mX2_note I 258 0 (nI p) = some I' := n1
              refine ⟨2, [(258, [], p)], I', fun n => ?_, by omega, by simp, Nat.le_refl _, ?_, n2, n3, n4⟩
              · rw [lexG, if_neg hbl, if_neg hs, if_neg hg, if_pos ⟨h61, by rw [hd61]; rfl⟩]; rfl
              · rw [e0, n1', sb]; rfl
            · rw [if_neg (fun q => hd61 (ed.mp q))] at e0
              exact c77 (fun q => hd61 (by have := q.2; simpa using this)) e0
        · rw [if_neg (fun q => h61 (e61.mp q))] at e0
          exact c77 (fun q => h61 q.1) e0
end
theorem noted_tl {I : iT} {a : Nat} {u : Tok} {r : List Tok} (h : noted I a (u :: r)) : noted I (a + 1) r := by
  intro i t ht
  have := h (i + 1) t (by rw [List.getElem?_cons_succ]; exact ht)
  rw [show a + 1 + i = a + (i + 1) by omega]
  exact this
theorem noted_keep {I I' : iT} {a : Nat} {l : List Tok} (h : noted I a l) (h9 : I' 9 = I 9) (h10 : I' 10 = I 10) (h11 : I' 11 = I 11) : noted I' a l := by
  intro i t ht
  rw [h9, h10, h11]
  exact h i t ht
theorem adv_eq {I : iT} {a m : Nat} (h9 : I 6 9 = 0) (h5 : I 6 5 = nI a) (h4 : I 6 4 = nI m) (h : a < m) (hm : m ≤ 1001) : mX2_advance I = some (a_u2 (a_u2 (a_u2 (a_u2 I 6 6 (I 9 a)) 6 7 (I 10 a)) 6 8 (I 11 a)) 6 5 (nI (a + 1))) := by
  have x1 : ∀ (f : iT) (v : Int32), a_u2 f 6 6 v 6 5 = f 6 5 := fun f v => a_u2_n f v (by decide)
  have x2 : ∀ (f : iT) (v : Int32), a_u2 f 6 7 v 6 5 = f 6 5 := fun f v => a_u2_n f v (by decide)
  have x3 : ∀ (f : iT) (v : Int32), a_u2 f 6 8 v 6 5 = f 6 5 := fun f v => a_u2_n f v (by decide)
  have x4 : ∀ (f : iT) (j : Nat) (v : Int32), a_u2 f 6 j v 10 = f 10 := fun f j v => a_u2_r f v (by decide)
  have x5 : ∀ (f : iT) (j : Nat) (v : Int32), a_u2 f 6 j v 11 = f 11 := fun f j v => a_u2_r f v (by decide)
  have hi : inb (nI a) 1001 := vp_in_nI (by omega) (by omega)
  have hc : (nI a).toNatClampNeg = a := nI_clamp (by omega)
  unfold mX2_advance
  simp only [x1, x2, x3, x4, x5, h5, hc]
  rw [if_pos h9, if_neg (nI_not0 (by omega)), h4, if_neg (nI_ge h (by omega)), if_pos hi, if_pos hi, if_pos hi, nI_1]
/-- the class's cursor goes on by one token -/
theorem adv_ok {I : iT} {a : Nat} {u : Tok} {r : List Tok} (h9 : I 6 9 = 0) (h5 : I 6 5 = nI a) (h4 : I 6 4 = nI (a + (u :: r).length)) (hm : a + (u :: r).length ≤ 1001) (hn : noted I a (u :: r)) : ∃ I', mX2_advance I = some I' ∧ CC I' u r ∧ ∀ b i, ¬ (b = 6 ∧ 5 ≤ i ∧ i ≤ 8) → I' b i = I b i := by
  have hl : (u :: r).length = r.length + 1 := rfl
  obtain ⟨k1, k2, k3⟩ := hn 0 u rfl
  rw [Nat.add_zero] at k1 k2 k3
  have fr : ∀ b i, ¬ (b = 6 ∧ 5 ≤ i ∧ i ≤ 8) → (a_u2 (a_u2 (a_u2 (a_u2 I 6 6 (I 9 a)) 6 7 (I 10 a)) 6 8 (I 11 a)) 6 5 (nI (a + 1))) b i = I b i := by
    intro b i h
    rw [a_u2_n _ _ (by omega), a_u2_n _ _ (by omega), a_u2_n _ _ (by omega), a_u2_n _ _ (by omega)]
  refine ⟨_, adv_eq h9 h5 h4 (by omega) hm, ⟨?_, ?_, ?_, ?_, a + 1, ?_, ?_, by omega, ?_⟩, fr⟩
  · rw [fr 6 9 (by omega)]; exact h9
  · rw [a_u2_n _ _ (by decide), a_u2_n _ _ (by decide), a_u2_n _ _ (by decide), a_u2_s]; exact k1
  · rw [a_u2_n _ _ (by decide), a_u2_n _ _ (by decide), a_u2_s]; exact k2
  · rw [a_u2_n _ _ (by decide), a_u2_s]; exact k3
  · rw [a_u2_s]
  · rw [fr 6 4 (by omega), h4, show a + (u :: r).length = a + 1 + r.length by omega]
  · exact noted_keep (noted_tl hn) (funext fun i => fr 9 i (by omega)) (funext fun i => fr 10 i (by omega)) (funext fun i => fr 11 i (by omega))
theorem cadv {I : iT} {t u : Tok} {r : List Tok} (h : CC I t (u :: r)) : ∃ I', mX2_advance I = some I' ∧ CC I' u r ∧ ∀ b i, ¬ (b = 6 ∧ 5 ≤ i ∧ i ≤ 8) → I' b i = I b i := by
  obtain ⟨h1, _, _, _, a, h5, h6, h7, h8⟩ := h
  exact adv_ok h1 h5 h6 h7 h8
theorem st_skip {I : iT} {bs : List Nat} (ht : rowIs I 2 (mpI bs)) (hl : bs.length ≤ 1000) {b : Nat} (hb : b ≤ bs.length) : ∀ d i m, i + d = b → d < m → mX2_start_9 2 m I (nI b) (nI i) = mX2_start_9 2 (m - d) I (nI b) (nI b) := by
  intro d
  induction d with
  | zero => intro i m h1 _; rw [Nat.sub_zero, show i = b by omega]
  | succ d ih =>
    intro i m h1 h2
    obtain ⟨m, rfl⟩ : ∃ k, m = k + 1 := ⟨m - 1, by omega⟩
    rw [mX2_start_9, row_size ht, sb, mpI_len, if_neg (nI_ge (by omega) (by omega)), if_pos (nI_lt (by omega) (by omega))]
    unfold mX2_start_31
    rw [nI_1, ih (i + 1) m (by omega) (by omega), show m + 1 - (d + 1) = m - d by omega]
theorem st_loop {bs : List Nat} (hb : ∀ c ∈ bs, c < 256) (hl : bs.length ≤ 1000) : ∀ (n : Nat) (s : List Nat) (p m : Nat) (pre : List Tok) (I : iT), rowIs I 2 (mpI bs) → rowIs I 7 wcs → bs.drop p = s → p ≤ bs.length → s.length < n → s.length < m → I 6 4 = nI pre.length → pre.length ≤ p → noted I 0 pre → ∀ b, b ≤ p →
    ∃ I' t r, pre ++ lexG n s p = t :: r ∧ mX2_start_9 2 m I (nI b) (nI p) = some I' ∧ CC I' t r ∧ I' 6 10 = -1 ∧ ∀ q i, q ≠ 6 → q ≠ 9 → q ≠ 10 → q ≠ 11 → I' q i = I q i := by
  intro n
  induction n with
  | zero => intro s p m pre I _ _ _ _ h; omega
  | succ n ih =>
    intro s p m pre I ht hw hd hp hn hm hc hpl hno b hbp
    obtain ⟨m, rfl⟩ : ∃ k, m = k + 1 := ⟨m - 1, by omega⟩
    cases s with
    | nil =>
      have hz := drop_nil hd
      have hpe : p = bs.length := by omega
      have hx : tkv (260, [], p) 0 := ⟨fun q => by simp at q, fun q => by simp at q⟩
      obtain ⟨I1, n1, n2, n3, n4⟩ := note_ok hc (by omega) hno (260, [], p) hx
      have n1' : mX2_note I 260 0 (nI p) = some I1 := n1
      have fr : ∀ q i, ¬ (q = 6 ∧ (i = 9 ∨ i = 10 ∨ i = 5)) → a_u2 (a_u2 (a_u2 I1 6 9 0) 6 10 (-1)) 6 5 0 q i = I1 q i := by
        intro q i h
        rw [a_u2_n _ _ (by omega), a_u2_n _ _ (by omega), a_u2_n _ _ (by omega)]
      obtain ⟨t, r, hL⟩ : ∃ t r, pre ++ [(260, [], p)] = t :: r := by
        cases pre with
        | nil => exact ⟨_, _, rfl⟩
        | cons t r => exact ⟨_, _, rfl⟩
      have hLl : (pre ++ [((260, [], p) : Tok)]).length = pre.length + 1 := by simp
      rw [hL] at n2 n3 hLl
      obtain ⟨I2, a1, a2, a3⟩ := adv_ok (I := a_u2 (a_u2 (a_u2 I1 6 9 0) 6 10 (-1)) 6 5 0) (a := 0) (u := t) (r := r) (by rw [a_u2_n _ _ (by decide), a_u2_n _ _ (by decide), a_u2_s]) (by rw [a_u2_s]; exact nI_0.symm) (by rw [fr 6 4 (by omega), Nat.zero_add]; exact n2) (by omega) (noted_keep n3 (funext fun i => fr 9 i (by omega)) (funext fun i => fr 10 i (by omega)) (funext fun i => fr 11 i (by omega)))
      refine ⟨I2, t, r, hL, ?_, a2, ?_, fun q i q6 q9 q10 q11 => ?_⟩
      · rw [mX2_start_9, row_size ht, sb, mpI_len, if_pos (nI_le hz (by omega)), sb, ← hpe, n1', sb, a1, sb]
      · rw [a3 6 10 (by omega), a_u2_n _ _ (by decide), a_u2_s]
      · rw [a3 q i (by omega), fr q i (by omega)]
        exact n4 q i q9 q10 q11 (by omega)
    | cons c s =>
      obtain ⟨h1, h2, h3⟩ := drop_cons hd
      obtain ⟨k, ts, I1, c1, c2, c3, c4, c5, c6, c7, c8⟩ := cut_ok hb hl ht hw hd hc (by omega) hno
      have hlen : (c :: s).length = bs.length - p := by rw [← hd, List.length_drop]
      have ht1 : rowIs I1 2 (mpI bs) := ht.keep (funext fun i => c8 2 i (by omega) (by omega) (by omega) (by omega)) (funext fun i => c8 3 i (by omega) (by omega) (by omega) (by omega))
      have hw1 : rowIs I1 7 wcs := hw.keep (funext fun i => c8 7 i (by omega) (by omega) (by omega) (by omega)) (funext fun i => c8 8 i (by omega) (by omega) (by omega) (by omega))
      have hda := drop_add hd k
      obtain ⟨I2, t, r, g1, g2, g3, g4, g5⟩ := ih ((c :: s).drop k) (p + k) (m - (k - 1)) (pre ++ ts) I1 ht1 hw1 hda.symm (by omega) (by rw [List.length_drop]; omega) (by rw [List.length_drop]; omega) c6 (by rw [List.length_append]; omega) c7 (p + k) (Nat.le_refl _)
      refine ⟨I2, t, r, ?_, ?_, g3, g4, fun q i q6 q9 q10 q11 => ?_⟩
      · rw [c1 n, ← List.append_assoc]; exact g1
      · rw [mX2_start_9, row_size ht, sb, mpI_len, if_neg (nI_ge h1 (by omega)), if_neg (nI_nlt hbp (by omega)), c5, sb]
        unfold mX2_start_31
        show mX2_start_9 2 m I1 (nI p + nI k) (nI p + 1) = _
        rw [nI_add, nI_1, st_skip ht1 hl (b := p + k) (by omega) (k - 1) (p + 1) m (by omega) (by omega)]
        exact g2
      · rw [g5 q i q6 q9 q10 q11]
        exact c8 q i q9 q10 q11 (by omega)
/-- the class cuts the tape into its tokens -/
theorem cstart {I : iT} {bs : List Nat} (hb : ∀ c ∈ bs, c < 256) (hl : bs.length ≤ 1000) (ht : rowIs I 2 (mpI bs)) (hw : rowIs I 7 wcs) : ∃ I' t r, lexG 1001 bs 0 = t :: r ∧ mX2_start 2 I = some I' ∧ CC I' t r ∧ I' 6 10 = -1 ∧ ∀ q i, q ≠ 6 → q ≠ 9 → q ≠ 10 → q ≠ 11 → I' q i = I q i := by
  have fr : ∀ q i, q ≠ 6 → a_u2 I 6 4 0 q i = I q i := fun q i h => a_u2_n _ _ (by omega)
  have ht1 : rowIs (a_u2 I 6 4 0) 2 (mpI bs) := ht.keep (a_u2_r _ _ (by decide)) (a_u2_r _ _ (by decide))
  have hw1 : rowIs (a_u2 I 6 4 0) 7 wcs := hw.keep (a_u2_r _ _ (by decide)) (a_u2_r _ _ (by decide))
  obtain ⟨I', t, r, g1, g2, g3, g4, g5⟩ := st_loop hb hl 1001 bs 0 LF [] (a_u2 I 6 4 0) ht1 hw1 rfl (Nat.zero_le _) (by omega) (by unfold LF; omega) (by rw [a_u2_s]; rfl) (Nat.le_refl _) (fun i t h => by cases h) 0 (Nat.le_refl _)
  refine ⟨I', t, r, g1, g2, g3, g4, fun q i q6 q9 q10 q11 => ?_⟩
  rw [g5 q i q6 q9 q10 q11, fr q i q6]
