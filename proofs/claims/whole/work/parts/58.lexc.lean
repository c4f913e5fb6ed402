/-! THE TOKENS of a text, and the class's cutting of it (pure) -/
/-- kind (the class's), what it holds (digits of a NAME, a NUMBER), place -/
abbrev Tok : Type := Nat × List Nat × Nat
def smb (c : Nat) : Bool := decide (97 ≤ c) && decide (c ≤ 122)
def dgb (c : Nat) : Bool := decide (48 ≤ c) && decide (c ≤ 57)
def ltb (c : Nat) : Bool := smb c || (decide (65 ≤ c) && decide (c ≤ 90))
def sgn : List Nat := [40, 41, 123, 125, 44, 59, 58, 46, 61, 33, 63, 62, 60, 43, 45, 42, 38, 124]
def dn (l : List Nat) : List Nat := l.map (fun c => c - 96)
def num10 (l : List Nat) : Nat := l.foldl (fun a c => a * 10 + (c - 48)) 0
def lexG : Nat → List Nat → Nat → List Tok
  | 0, _, p => [(260, [], p)]
  | _ + 1, [], p => [(260, [], p)]
  | n + 1, c :: s, p =>
    if c = 32 ∨ c = 10 then lexG n s (p + 1)
    else if smb c = true then (if ((c :: s).takeWhile smb).length ≤ 6 then wk (dn ((c :: s).takeWhile smb)) else 259, dn ((c :: s).takeWhile smb), p) :: lexG n ((c :: s).dropWhile smb) (p + ((c :: s).takeWhile smb).length)
    else if dgb c = true then (if ((c :: s).takeWhile dgb).length ≤ 4 ∧ ltb (((c :: s).dropWhile dgb).headD 0) = false then 257 else 259, [num10 ((c :: s).takeWhile dgb)], p) :: lexG n ((c :: s).dropWhile dgb) (p + ((c :: s).takeWhile dgb).length)
    else if c = 61 ∧ s.head? = some 61 then (258, [], p) :: lexG n s.tail (p + 2)
    else (if c ∈ sgn then c else 259, [], p) :: lexG n s (p + 1)
def tkv (t : Tok) (x : Int32) : Prop := (t.1 = 256 → x = nI (cN t.2.1)) ∧ (t.1 = 257 → x = nI (t.2.1.headD 0))
def noted (I : iT) (a : Nat) (l : List Tok) : Prop := ∀ i t, l[i]? = some t → I 9 (a + i) = nI t.1 ∧ tkv t (I 10 (a + i)) ∧ I 11 (a + i) = nI t.2.2
/-- the class's cursor stands at t, r is behind it; no fault -/
def CC (I : iT) (t : Tok) (r : List Tok) : Prop := I 6 9 = 0 ∧ I 6 6 = nI t.1 ∧ tkv t (I 6 7) ∧ I 6 8 = nI t.2.2 ∧ ∃ a, I 6 5 = nI a ∧ I 6 4 = nI (a + r.length) ∧ a + r.length ≤ 1001 ∧ noted I a r
theorem note_eq {I : iT} {m : Nat} (h : I 6 4 = nI m) (hm : m < 1001) (x1 x2 x3 : Int32) : mX2_note I x1 x2 x3 = some (a_u2 (a_u2 (a_u2 (a_u2 I 9 m x1) 10 m x2) 11 m x3) 6 4 (nI (m + 1))) := by
  have e9 : ∀ (f : iT) (j : Nat) (v : Int32), a_u2 f 9 j v 6 = f 6 := fun f j v => a_u2_r f v (by decide)
  have e10 : ∀ (f : iT) (j : Nat) (v : Int32), a_u2 f 10 j v 6 = f 6 := fun f j v => a_u2_r f v (by decide)
  have e11 : ∀ (f : iT) (j : Nat) (v : Int32), a_u2 f 11 j v 6 = f 6 := fun f j v => a_u2_r f v (by decide)
  have hi : inb (nI m) 1001 := vp_in_nI hm (by omega)
  unfold mX2_note
  simp only [e9, e10, e11, h]
  rw [if_neg (nI_ge hm (by omega)), if_pos hi, if_pos hi, if_pos hi, nI_clamp (by omega), nI_1]
theorem note_ok {I : iT} {pre : List Tok} (h : I 6 4 = nI pre.length) (hm : pre.length < 1001) (hn : noted I 0 pre) (t : Tok) {x : Int32} (hx : tkv t x) : ∃ I', mX2_note I (nI t.1) x (nI t.2.2) = some I' ∧ I' 6 4 = nI (pre ++ [t]).length ∧ noted I' 0 (pre ++ [t]) ∧ ∀ b i, b ≠ 9 → b ≠ 10 → b ≠ 11 → ¬ (b = 6 ∧ i = 4) → I' b i = I b i := by
  refine ⟨_, note_eq h hm _ _ _, ?_, ?_, ?_⟩
  · rw [a_u2_s, List.length_append]; rfl
  · intro i u hu
    rw [Nat.zero_add]
    have d9 : ∀ (f : iT) (j : Nat) (v : Int32) (q : Nat), q ≠ 6 → a_u2 f 6 j v q = f q := fun f j v q hq => a_u2_r f v hq
    rw [d9 _ _ _ _ (by decide), d9 _ _ _ _ (by decide), d9 _ _ _ _ (by decide), a_u2_r _ _ (show (9 : Nat) ≠ 11 by decide), a_u2_r _ _ (show (9 : Nat) ≠ 10 by decide), a_u2_r _ _ (show (10 : Nat) ≠ 11 by decide)]
    by_cases e : i = pre.length
    · subst e
      rw [List.getElem?_concat_length] at hu
      cases hu
      rw [a_u2_s, a_u2_s, a_u2_s]
      exact ⟨rfl, hx, rfl⟩
    · have hi : i < pre.length := by
        have := (List.getElem?_eq_some_iff.mp hu).1
        rw [List.length_append] at this
        have h1 : i < pre.length + 1 := this
        omega
      rw [List.getElem?_append_left hi] at hu
      have := hn i u hu
      rw [Nat.zero_add] at this
      rw [a_u2_n _ _ (by omega), a_u2_n _ _ (by omega), a_u2_n _ _ (by omega), a_u2_r _ _ (show (10 : Nat) ≠ 9 by decide), a_u2_r _ _ (show (11 : Nat) ≠ 10 by decide), a_u2_r _ _ (show (11 : Nat) ≠ 9 by decide)]
      exact this
  · intro b i h1 h2 h3 h4
    rw [a_u2_n _ _ h4, a_u2_n _ _ (by omega), a_u2_n _ _ (by omega), a_u2_n _ _ (by omega)]
theorem drop_cons {bs s : List Nat} {p c : Nat} (h : bs.drop p = c :: s) : p < bs.length ∧ bs[p]? = some c ∧ bs.drop (p + 1) = s := by
  have hlt : p < bs.length := by
    rcases Nat.lt_or_ge p bs.length with q | q
    · exact q
    · rw [List.drop_eq_nil_of_le q] at h; cases h
  refine ⟨hlt, ?_, ?_⟩
  · rw [← List.head?_drop, h]; rfl
  · rw [← List.tail_drop, h]; rfl
theorem drop_nil {bs : List Nat} {p : Nat} (h : bs.drop p = []) : bs.length ≤ p := List.drop_eq_nil_iff.mp h
def mpI (bs : List Nat) : List Int32 := bs.map nI
theorem mpI_len (bs : List Nat) : (mpI bs).length = bs.length := by unfold mpI; simp
theorem mpI_get {bs : List Nat} {p c : Nat} (h : bs[p]? = some c) : (mpI bs).getD p (-1) = nI c := by
  unfold mpI
  rw [List.getD_eq_getElem?_getD, List.getElem?_map, h]; rfl
theorem mpI_none {bs : List Nat} {p : Nat} (h : bs.length ≤ p) : (mpI bs).getD p (-1) = -1 := by
  rw [List.getD_eq_getElem?_getD, List.getElem?_eq_none (by rw [mpI_len]; exact h)]; rfl
theorem cSm {c : Nat} (h : c < 256) : mX11_isSmallLetter (nI c) = some (if smb c = true then 1 else 0) := (by decide +kernel : ∀ c, c < 256 → mX11_isSmallLetter (nI c) = some (if smb c = true then 1 else 0)) c h
theorem cDg {c : Nat} (h : c < 256) : mX11_isDigit (nI c) = some (if dgb c = true then 1 else 0) := (by decide +kernel : ∀ c, c < 256 → mX11_isDigit (nI c) = some (if dgb c = true then 1 else 0)) c h
theorem cLt {c : Nat} (h : c < 256) : mX11_isLetter (nI c) = some (if ltb c = true then 1 else 0) := (by decide +kernel : ∀ c, c < 256 → mX11_isLetter (nI c) = some (if ltb c = true then 1 else 0)) c h
theorem cSg {c : Nat} (h : c < 256) : (strIx 1000001 (((nI c).toUInt32 % 65536).toInt32) < 0) ↔ ¬ c ∈ sgn := (by decide +kernel : ∀ c, c < 256 → ((strIx 1000001 (((nI c).toUInt32 % 65536).toInt32) < 0) ↔ ¬ c ∈ sgn)) c h
theorem smb_dig {c : Nat} (h : smb c = true) : 1 ≤ c - 96 ∧ c - 96 ≤ 26 ∧ 96 + (c - 96) = c := by
  unfold smb at h
  simp at h
  omega
theorem wi_wk (l : List Nat) : (if wi l = -1 then (256 : Int32) else 300 + wi l) = nI (wk l) := by
  unfold wi wk
  repeat' (first | rfl | split)
  all_goals (first | rfl | (exfalso; rename_i h; revert h; decide))
theorem wk_cases (l : List Nat) : wk l = 256 ∨ (300 ≤ wk l ∧ wk l ≤ 316) := by
  unfold wk
  repeat' split
  all_goals omega
section
variable {I : iT} {bs : List Nat} (hb : ∀ c ∈ bs, c < 256) (hl : bs.length ≤ 1000) (ht : rowIs I 2 (mpI bs)) (hw : rowIs I 7 wcs)
theorem tat (q : Nat) (hq : q < 2 ^ 31) (ht : rowIs I 2 (mpI bs)) : mX4_at 2 I (nI q) = some ((mpI bs).getD q (-1)) := by
  rw [row_at ht, lat_nI hq]
theorem cl_loop (hb : ∀ c ∈ bs, c < 256) (hl : bs.length ≤ 1000) (ht : rowIs I 2 (mpI bs)) (x2 : Int32) : ∀ (s : List Nat) (q n : Nat) (l : List Nat), bs.drop q = s → s.length < n → nam l → l.length + s.length ≤ 1000 → q ≤ 1000 →
    mX2_cutLetters_8 2 n I x2 (nI (cN (l.take 6))) (nI l.length) (nI q) = mX2_cutLetters_51 2 I x2 (nI (cN ((l ++ dn (s.takeWhile smb)).take 6))) (nI (l.length + (s.takeWhile smb).length)) (nI (q + (s.takeWhile smb).length)) := by
  intro s
  induction s with
  | nil =>
    intro q n l hd hn hnl hc hq
    obtain ⟨n, rfl⟩ : ∃ m, n = m + 1 := ⟨n - 1, by omega⟩
    have hz := drop_nil hd
    rw [mX2_cutLetters_8, row_size ht, mpI_len]
    show (if nI bs.length ≤ nI q then _ else _) = _
    rw [if_pos (nI_le hz (by omega))]
    simp [dn]
  | cons c s ih =>
    intro q n l hd hn hnl hc hq
    obtain ⟨n, rfl⟩ : ∃ m, n = m + 1 := ⟨n - 1, by omega⟩
    obtain ⟨h1, h2, h3⟩ := drop_cons hd
    have hc256 := hb c (List.mem_of_getElem? h2)
    rw [mX2_cutLetters_8, row_size ht, mpI_len]
    show (if nI bs.length ≤ nI q then _ else _) = _
    rw [if_neg (nI_ge h1 (by omega)), tat q (by omega) ht, mpI_get h2]
    show (mX11_isSmallLetter (nI c)).bind _ = _
    rw [cSm hc256]
    by_cases hs : smb c = true
    · rw [if_pos hs]
      obtain ⟨d1, d2, d3⟩ := smb_dig hs
      show (mX11_withLetter (nI (cN (l.take 6))) (nI l.length) (nI c)).bind _ = _
      have e : mX11_withLetter (nI (cN (l.take 6))) (nI l.length) (nI c) = some (nI (cN ((l ++ [c - 96]).take 6))) := by
        by_cases h6 : l.length < 6
        · rw [List.take_of_length_le (by omega), List.take_of_length_le (by simp; omega)]
          have := cwith hnl ⟨d1, d2⟩ h6
          rw [d3] at this
          exact this
        · rw [cwith6 _ _ (by omega) (by omega), List.take_append_of_le_length (by omega)]
      rw [e]
      show mX2_cutLetters_8 2 n I x2 (nI (cN ((l ++ [c - 96]).take 6))) (nI l.length + 1) (nI q + 1) = _
      have hlen : (l ++ [c - 96]).length = l.length + 1 := by simp
      rw [nI_1, nI_1, ← hlen, ih (q + 1) n (l ++ [c - 96]) h3 (by simp at hn; omega) (nam_snoc hnl ⟨d1, d2⟩) (by rw [hlen]; simp at hc; omega) (by omega)]
      rw [List.takeWhile_cons_of_pos hs, hlen]
      have e2 : l ++ [c - 96] ++ dn (s.takeWhile smb) = l ++ dn (c :: s.takeWhile smb) := by simp [dn]
      rw [e2, List.length_cons]
      congr 2 <;> omega
    · rw [if_neg hs, List.takeWhile_cons_of_neg hs]
      show mX2_cutLetters_51 2 I x2 (nI (cN (l.take 6))) (nI l.length) (nI q) = _
      simp [dn]
theorem num10_snoc (l : List Nat) (c : Nat) : num10 (l ++ [c]) = num10 l * 10 + (c - 48) := by
  unfold num10
  rw [List.foldl_append]; rfl
theorem dgb_dig {c : Nat} (h : dgb c = true) : 48 ≤ c ∧ c ≤ 57 := by
  unfold dgb at h
  simp at h
  exact h
theorem i_dig (a : Nat) {c : Nat} (h : 48 ≤ c) : nI a * 10 + nI c - 48 = nI (a * 10 + (c - 48)) := by
  have e1 : nI a * (10 : Int32) = nI (a * 10) := pk_mul a 10
  have e2 := pk_sub (a := a * 10 + c) (b := 48) (by omega)
  rw [e1, nI_add]
  show nI (a * 10 + c) - nI 48 = _
  rw [e2, show a * 10 + c - 48 = a * 10 + (c - 48) by omega]
theorem cd_loop (hb : ∀ c ∈ bs, c < 256) (hl : bs.length ≤ 1000) (ht : rowIs I 2 (mpI bs)) (x2 : Int32) : ∀ (s : List Nat) (q n : Nat) (l : List Nat), bs.drop q = s → s.length < n → l.length + s.length ≤ 1000 → q ≤ 1000 →
    mX2_cutDigits_8 2 n I x2 (nI (num10 l)) (nI l.length) (nI q) = mX2_cutDigits_53 2 I x2 (nI (num10 (l ++ s.takeWhile dgb))) (nI (l.length + (s.takeWhile dgb).length)) (nI (q + (s.takeWhile dgb).length)) := by
  intro s
  induction s with
  | nil =>
    intro q n l hd hn hc hq
    obtain ⟨n, rfl⟩ : ∃ m, n = m + 1 := ⟨n - 1, by omega⟩
    have hz := drop_nil hd
    rw [mX2_cutDigits_8, row_size ht, mpI_len]
    show (if nI bs.length ≤ nI q then _ else _) = _
    rw [if_pos (nI_le hz (by omega))]
    simp
  | cons c s ih =>
    intro q n l hd hn hc hq
    obtain ⟨n, rfl⟩ : ∃ m, n = m + 1 := ⟨n - 1, by omega⟩
    obtain ⟨h1, h2, h3⟩ := drop_cons hd
    have hc256 := hb c (List.mem_of_getElem? h2)
    rw [mX2_cutDigits_8, row_size ht, mpI_len]
    show (if nI bs.length ≤ nI q then _ else _) = _
    rw [if_neg (nI_ge h1 (by omega)), tat q (by omega) ht, mpI_get h2]
    show (mX11_isDigit (nI c)).bind _ = _
    rw [cDg hc256]
    by_cases hs : dgb c = true
    · rw [if_pos hs]
      obtain ⟨d1, d2⟩ := dgb_dig hs
      show mX2_cutDigits_8 2 n I x2 (nI (num10 l) * 10 + nI c - 48) (nI l.length + 1) (nI q + 1) = _
      have hlen : (l ++ [c]).length = l.length + 1 := by simp
      rw [nI_1, nI_1, i_dig _ d1, ← num10_snoc, ← hlen, ih (q + 1) n (l ++ [c]) h3 (by simp at hn; omega) (by rw [hlen]; simp at hc; omega) (by omega)]
      rw [List.takeWhile_cons_of_pos hs, hlen]
      have e2 : l ++ [c] ++ s.takeWhile dgb = l ++ (c :: s.takeWhile dgb) := by simp
      rw [e2, List.length_cons]
      congr 2 <;> omega
    · rw [if_neg hs, List.takeWhile_cons_of_neg hs]
      show mX2_cutDigits_53 2 I x2 (nI (num10 l)) (nI l.length) (nI q) = _
      simp
end
