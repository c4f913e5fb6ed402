/-! THE REFERENCE'S LEXER (pure) -/
def rtok (k : Nat) : Nat := if k < 256 then 400 + k else if k = 256 then 2 else if k = 257 then 3 else if k = 258 then 4 else if k = 259 then 1 else if k = 260 then 0 else k - 200
theorem rtok_spec (k : Nat) : (k < 256 ∧ rtok k = 400 + k) ∨ (k = 256 ∧ rtok k = 2) ∨ (k = 257 ∧ rtok k = 3) ∨ (k = 258 ∧ rtok k = 4) ∨ (k = 259 ∧ rtok k = 1) ∨ (k = 260 ∧ rtok k = 0) ∨ (260 < k ∧ rtok k = k - 200) := by
  unfold rtok
  by_cases h0 : k < 256
  · rw [if_pos h0]; omega
  rw [if_neg h0]
  by_cases h1 : k = 256
  · rw [if_pos h1]; omega
  rw [if_neg h1]
  by_cases h2 : k = 257
  · rw [if_pos h2]; omega
  rw [if_neg h2]
  by_cases h3 : k = 258
  · rw [if_pos h3]; omega
  rw [if_neg h3]
  by_cases h4 : k = 259
  · rw [if_pos h4]; omega
  rw [if_neg h4]
  by_cases h5 : k = 260
  · rw [if_pos h5]; omega
  rw [if_neg h5]
  omega
theorem rtok_inj {k c : Nat} (hk : k ≤ 316) (hc : c ≤ 316) : rtok k = rtok c ↔ k = c := by
  have h1 := rtok_spec k
  have h2 := rtok_spec c
  omega
theorem rtok_lt (k : Nat) (hk : k ≤ 316) : rtok k < 1000 := by
  have h1 := rtok_spec k
  omega
def tapB (B : iT) (bs : List Nat) : Prop := B 186 1 = nI bs.length ∧ ∀ i, i < bs.length → B 187 i = (mpI bs).getD i (-1)
def RC (B : iT) (J : jT) (bs : List Nat) (t : Tok) (r : List Tok) : Prop := tapB B bs ∧ B 186 3 = nI (rtok t.1) ∧ B 186 4 = nI t.2.2 ∧ (t.1 = 256 → J 186 6 = lN (rN t.2.1)) ∧ (t.1 = 257 → B 186 5 = nI (t.2.1.headD 0)) ∧ (r = [] ∨ ∃ n p, B 186 2 = nI p ∧ p ≤ bs.length ∧ bs.length - p < n ∧ r = lexG n (bs.drop p) p)
theorem tapB.keep {B B' : iT} {bs : List Nat} (h : tapB B bs) (h1 : B' 186 1 = B 186 1) (h2 : B' 187 = B 187) : tapB B' bs := ⟨by rw [h1]; exact h.1, fun i hi => by rw [h2]; exact h.2 i hi⟩
theorem see_ok {B : iT} {bs : List Nat} (h : tapB B bs) (hl : bs.length ≤ 1000) {q : Nat} (hq : q < 2 ^ 31) : mX12_see B (nI q) = some ((mpI bs).getD q (-1)) := by
  unfold mX12_see
  rw [h.1]
  by_cases hc : bs.length ≤ q
  · rw [if_pos (nI_le hc hq), mpI_none hc]
  · rw [if_neg (nI_ge (by omega) (by omega)), if_pos (show inb (nI q) 1000 from vp_in_nI (by omega) (by omega)), nI_clamp hq, h.2 q (by omega)]
theorem rSm0 {c : Nat} (h : c < 256) : mX12_isSmall (nI c) = some (if smb c = true then 1 else 0) := (by decide +kernel : ∀ c, c < 256 → mX12_isSmall (nI c) = some (if smb c = true then 1 else 0)) c h
theorem rDg0 {c : Nat} (h : c < 256) : mX12_isIn (nI c) 48 57 = some (if dgb c = true then 1 else 0) := (by decide +kernel : ∀ c, c < 256 → mX12_isIn (nI c) 48 57 = some (if dgb c = true then 1 else 0)) c h
theorem rLt0 {c : Nat} (h : c < 256) : mX12_isLetter (nI c) = some (if ltb c = true then 1 else 0) := (by decide +kernel : ∀ c, c < 256 → mX12_isLetter (nI c) = some (if ltb c = true then 1 else 0)) c h
section
variable {bs : List Nat}
theorem rSm (hb : ∀ c ∈ bs, c < 256) (q : Nat) : mX12_isSmall ((mpI bs).getD q (-1)) = some (if smb ((bs.drop q).headD 0) = true then 1 else 0) := by
  cases h : bs.drop q with
  | nil =>
    rw [mpI_none (drop_nil h)]
    decide +kernel
  | cons c s =>
    obtain ⟨h1, h2, h3⟩ := drop_cons h
    rw [mpI_get h2]
    exact rSm0 (hb c (List.mem_of_getElem? h2))
theorem rDg (hb : ∀ c ∈ bs, c < 256) (q : Nat) : mX12_isIn ((mpI bs).getD q (-1)) 48 57 = some (if dgb ((bs.drop q).headD 0) = true then 1 else 0) := by
  cases h : bs.drop q with
  | nil =>
    rw [mpI_none (drop_nil h)]
    decide +kernel
  | cons c s =>
    obtain ⟨h1, h2, h3⟩ := drop_cons h
    rw [mpI_get h2]
    exact rDg0 (hb c (List.mem_of_getElem? h2))
theorem rLt (hb : ∀ c ∈ bs, c < 256) (q : Nat) : mX12_isLetter ((mpI bs).getD q (-1)) = some (if ltb ((bs.drop q).headD 0) = true then 1 else 0) := by
  cases h : bs.drop q with
  | nil =>
    rw [mpI_none (drop_nil h)]
    decide +kernel
  | cons c s =>
    obtain ⟨h1, h2, h3⟩ := drop_cons h
    rw [mpI_get h2]
    exact rLt0 (hb c (List.mem_of_getElem? h2))
theorem tw_hd (f : Nat → Bool) (h0 : f 0 = false) : ∀ s : List Nat, (if f (s.headD 0) = true then s.takeWhile f = s.headD 0 :: (s.drop 1).takeWhile f ∧ s.length = (s.drop 1).length + 1 else s.takeWhile f = []) := by
  intro s
  cases s with
  | nil => rw [if_neg (by show ¬ f 0 = true; rw [h0]; decide)]; rfl
  | cons c s =>
    by_cases h : f c = true
    · rw [if_pos (show f ((c :: s).headD 0) = true from h)]
      exact ⟨List.takeWhile_cons_of_pos h, rfl⟩
    · rw [if_neg (show ¬ f ((c :: s).headD 0) = true from h)]
      exact List.takeWhile_cons_of_neg h
theorem word_tok {J : jT} {l : List Nat} (hl : nam l) (h6 : l.length ≤ 6) (hJ : J 186 6 = lN (rN l)) : mX12_word J = some (nI (rtok (wk l))) := by
  rw [rword hl h6 hJ]
  congr 2
  have := wk_cases l
  unfold rtok
  by_cases h : wk l = 256
  · rw [if_pos h, if_neg (by omega), if_pos h]
  · rw [if_neg h, if_neg (by omega), if_neg h, if_neg (by omega), if_neg (by omega), if_neg (by omega), if_neg (by omega)]
theorem ll_loop (hb : ∀ c ∈ bs, c < 256) (hl : bs.length ≤ 1000) (x1 : Int32) : ∀ (k : Nat) (s : List Nat) (q n : Nat) (l : List Nat) (B : iT) (J : jT), s.length = k → tapB B bs → B 186 2 = nI q → bs.drop q = s → s.length < n → nam l → l.length + s.length ≤ 1000 → q ≤ 1000 → J 186 6 = lN (rN (l.take 6)) →
    ∃ B' J', mX12_look0_88 n B J x1 (nI l.length) = some (B', J') ∧ B' 186 2 = nI (q + (s.takeWhile smb).length) ∧ J' 186 6 = lN (rN ((l ++ dn (s.takeWhile smb)).take 6)) ∧ B' 186 3 = (if (l ++ dn (s.takeWhile smb)).length ≤ 6 then nI (rtok (wk (l ++ dn (s.takeWhile smb)))) else B 186 3) ∧ (∀ b i, ¬ (b = 186 ∧ (i = 2 ∨ i = 3)) → B' b i = B b i) ∧ ∀ b i, ¬ (b = 186 ∧ i = 6) → J' b i = J b i := by
  intro k
  induction k with
  | zero =>
    intro s q n l B J hk ht hat hd hn hnl hc hq hJ
    obtain ⟨n, rfl⟩ : ∃ m, n = m + 1 := ⟨n - 1, by omega⟩
    have hs0 : s = [] := List.length_eq_zero_iff.mp hk
    subst hs0
    have e0 : dn (([] : List Nat).takeWhile smb) = [] := rfl
    have e1 : (([] : List Nat).takeWhile smb).length = 0 := rfl
    rw [e0, e1, List.append_nil, mX12_look0_88, hat, see_ok ht hl (by omega), sb, rSm hb, hd, if_neg (show ¬ smb (([] : List Nat).headD 0) = true by decide), sb, if_pos rfl]
    by_cases h6 : l.length ≤ 6
    · rw [if_neg (show ¬ (6 : Int32) < nI l.length from nI_nlt (a := 6) h6 (by omega)), word_tok hnl h6 (by rw [hJ, List.take_of_length_le h6]), sb, if_pos h6]
      refine ⟨_, _, rfl, ?_, hJ, a_u2_s _ _ _ _, fun b i h => a_u2_n _ _ (by omega), fun b i h => rfl⟩
      rw [a_u2_n _ _ (by decide)]; exact hat
    · rw [if_pos (show (6 : Int32) < nI l.length from nI_lt (a := 6) (by omega) (by omega)), if_neg h6]
      exact ⟨_, _, rfl, hat, hJ, rfl, fun b i h => rfl, fun b i h => rfl⟩
  | succ k ih =>
    intro s q n l B J hk ht hat hd hn hnl hc hq hJ
    obtain ⟨n, rfl⟩ : ∃ m, n = m + 1 := ⟨n - 1, by omega⟩
    obtain ⟨c, s, rfl⟩ : ∃ c s', s = c :: s' := by
      cases s with
      | nil => simp at hk
      | cons c s => exact ⟨c, s, rfl⟩
    obtain ⟨h1, h2, h3⟩ := drop_cons hd
    have hc256 := hb c (List.mem_of_getElem? h2)
    have hlq : s.length = k := by simpa using hk
    have hcl : (c :: s).length = s.length + 1 := rfl
    rw [mX12_look0_88, hat, see_ok ht hl (by omega), sb, rSm hb, hd]
    by_cases hs : smb c = true
    · obtain ⟨d1, d2, d3⟩ := smb_dig hs
      rw [if_pos (show smb ((c :: s).headD 0) = true from hs), sb, if_neg i10, List.takeWhile_cons_of_pos hs]
      have e2 : l ++ dn (c :: s.takeWhile smb) = l ++ [c - 96] ++ dn (s.takeWhile smb) := by simp [dn]
      have hlen : (l ++ [c - 96]).length = l.length + 1 := by simp
      have fB : ∀ b i, ¬ (b = 186 ∧ i = 2) → (a_u2 B 186 2 (nI (q + 1))) b i = B b i := fun b i h => a_u2_n _ _ h
      have htB : tapB (a_u2 B 186 2 (nI (q + 1))) bs := ht.keep (fB _ _ (by decide)) (a_u2_r _ _ (by decide))
      rw [e2]
      by_cases h6 : 6 ≤ l.length
      · rw [if_pos (show (6 : Int32) ≤ nI l.length from nI_le (a := 6) h6 (by omega))]
        unfold mX12_look0_129
        rw [hat, nI_1, nI_1]
        have hJ1 : J 186 6 = lN (rN ((l ++ [c - 96]).take 6)) := by rw [hJ, List.take_append_of_le_length (by omega)]
        obtain ⟨B', J', g1, g2, g3, g4, g5, g6⟩ := ih s (q + 1) n (l ++ [c - 96]) (a_u2 B 186 2 (nI (q + 1))) J hlq htB (a_u2_s _ _ _ _) h3 (by omega) (nam_snoc hnl ⟨d1, d2⟩) (by rw [hlen]; omega) (by omega) hJ1
        rw [hlen] at g1
        refine ⟨B', J', g1, ?_, g3, ?_, fun b i h => ?_, g6⟩
        · rw [g2, List.length_cons]; congr 1; omega
        · rw [g4, fB _ _ (by decide)]
        · rw [g5 b i h, fB b i (by omega)]
      · rw [if_neg (show ¬ (6 : Int32) ≤ nI l.length from nI_ge (b := 6) (by omega) (by omega)), sb]
        unfold mX12_look0_129
        have hJ0 : J 186 6 = lN (rN l) := by rw [hJ, List.take_of_length_le (by omega)]
        have hw := rwith hnl ⟨d1, d2⟩ (by omega)
        rw [d3] at hw
        have hJe : ((J 186 6 <<< ((Int32.toInt64 8) &&& 63)) ||| ((mpI bs).getD q (-1)).toInt64) = lN (rN (l ++ [c - 96])) := by rw [hJ0, mpI_get h2]; exact hw
        rw [hat, nI_1, nI_1, hJe]
        have hJ1 : (a_u2 J 186 6 (lN (rN (l ++ [c - 96])))) 186 6 = lN (rN ((l ++ [c - 96]).take 6)) := by rw [a_u2_s, List.take_of_length_le (by omega)]
        obtain ⟨B', J', g1, g2, g3, g4, g5, g6⟩ := ih s (q + 1) n (l ++ [c - 96]) (a_u2 B 186 2 (nI (q + 1))) (a_u2 J 186 6 (lN (rN (l ++ [c - 96])))) hlq htB (a_u2_s _ _ _ _) h3 (by omega) (nam_snoc hnl ⟨d1, d2⟩) (by rw [hlen]; omega) (by omega) hJ1
        rw [hlen] at g1
        refine ⟨B', J', g1, ?_, g3, ?_, fun b i h => ?_, fun b i h => ?_⟩
        · rw [g2, List.length_cons]; congr 1; omega
        · rw [g4, fB _ _ (by decide)]
        · rw [g5 b i h, fB b i (by omega)]
        · rw [g6 b i h, a_u2_n _ _ h]
    · rw [if_neg (show ¬ smb ((c :: s).headD 0) = true from hs), sb, if_pos rfl, List.takeWhile_cons_of_neg hs]
      have e0 : dn ([] : List Nat) = [] := rfl
      have e1 : ([] : List Nat).length = 0 := rfl
      rw [e0, e1, List.append_nil]
      by_cases h6 : l.length ≤ 6
      · rw [if_neg (show ¬ (6 : Int32) < nI l.length from nI_nlt (a := 6) h6 (by omega)), word_tok hnl h6 (by rw [hJ, List.take_of_length_le h6]), sb, if_pos h6]
        refine ⟨_, _, rfl, ?_, hJ, a_u2_s _ _ _ _, fun b i h => a_u2_n _ _ (by omega), fun b i h => rfl⟩
        rw [a_u2_n _ _ (by decide)]; exact hat
      · rw [if_pos (show (6 : Int32) < nI l.length from nI_lt (a := 6) (by omega) (by omega)), if_neg h6]
        exact ⟨_, _, rfl, hat, hJ, rfl, fun b i h => rfl, fun b i h => rfl⟩
theorem i_dig2 (a : Nat) {c : Nat} (h : 48 ≤ c) : 10 * nI a + nI c - 48 = nI (a * 10 + (c - 48)) := by
  rw [show (10 : Int32) * nI a = nI a * 10 from Int32.mul_comm _ _]
  exact i_dig a h
theorem ld_loop (hb : ∀ c ∈ bs, c < 256) (hl : bs.length ≤ 1000) (x1 : Int32) (J : jT) : ∀ (s : List Nat) (q n : Nat) (l : List Nat) (B : iT), tapB B bs → B 186 2 = nI q → bs.drop q = s → s.length < n → l.length + s.length ≤ 1000 → q ≤ 1000 → B 186 5 = nI (num10 (l.take 4)) →
    ∃ B', mX12_look0_180 n B J x1 (nI l.length) = some (B', J) ∧ B' 186 2 = nI (q + (s.takeWhile dgb).length) ∧ B' 186 5 = nI (num10 ((l ++ s.takeWhile dgb).take 4)) ∧ B' 186 3 = (if (l ++ s.takeWhile dgb).length ≤ 4 ∧ ltb ((s.drop (s.takeWhile dgb).length).headD 0) = false then 3 else B 186 3) ∧ ∀ b i, ¬ (b = 186 ∧ (i = 2 ∨ i = 3 ∨ i = 5)) → B' b i = B b i := by
  intro s
  have fin : ∀ (s : List Nat) (q n : Nat) (l : List Nat) (B : iT), tapB B bs → B 186 2 = nI q → bs.drop q = s → l.length ≤ 1000 → q ≤ 1000 → B 186 5 = nI (num10 (l.take 4)) → dgb (s.headD 0) = false →
      ∃ B', mX12_look0_180 (n + 1) B J x1 (nI l.length) = some (B', J) ∧ B' 186 2 = nI q ∧ B' 186 5 = nI (num10 (l.take 4)) ∧ B' 186 3 = (if l.length ≤ 4 ∧ ltb (s.headD 0) = false then 3 else B 186 3) ∧ ∀ b i, ¬ (b = 186 ∧ (i = 2 ∨ i = 3 ∨ i = 5)) → B' b i = B b i := by
    intro s q n l B ht hat hd hc hq h5 hg
    rw [mX12_look0_180, hat, see_ok ht hl (by omega), sb, rDg hb, hd, hg, if_neg (by decide), sb, if_pos rfl]
    by_cases h4 : l.length ≤ 4
    · rw [if_neg (show ¬ (4 : Int32) < nI l.length from nI_nlt (a := 4) h4 (by omega)), sb, rLt hb, hd]
      by_cases hlt : ltb (s.headD 0) = true
      · rw [if_pos hlt, sb, if_neg i10, if_neg (fun q => by rw [hlt] at q; exact absurd q.2 (by decide))]
        exact ⟨_, rfl, hat, h5, rfl, fun _ _ _ => rfl⟩
      · rw [if_neg hlt, sb, if_pos rfl, if_pos ⟨h4, by simpa using hlt⟩]
        refine ⟨_, rfl, ?_, ?_, a_u2_s _ _ _ _, fun b i h => a_u2_n _ _ (by omega)⟩
        · rw [a_u2_n _ _ (by decide)]; exact hat
        · rw [a_u2_n _ _ (by decide)]; exact h5
    · rw [if_pos (show (4 : Int32) < nI l.length from nI_lt (a := 4) (by omega) (by omega)), if_neg (fun q => h4 q.1)]
      exact ⟨_, rfl, hat, h5, rfl, fun _ _ _ => rfl⟩
  induction s with
  | nil =>
    intro q n l B ht hat hd hn hc hq h5
    obtain ⟨n, rfl⟩ : ∃ m, n = m + 1 := ⟨n - 1, by omega⟩
    have := fin [] q n l B ht hat hd (by simpa using hc) hq h5 (by decide)
    simpa using this
  | cons c s ih =>
    intro q n l B ht hat hd hn hc hq h5
    obtain ⟨n, rfl⟩ : ∃ m, n = m + 1 := ⟨n - 1, by omega⟩
    obtain ⟨h1, h2, h3⟩ := drop_cons hd
    have hc256 := hb c (List.mem_of_getElem? h2)
    have hcl : (c :: s).length = s.length + 1 := rfl
    by_cases hs : dgb c = true
    · obtain ⟨d1, d2⟩ := dgb_dig hs
      rw [mX12_look0_180, hat, see_ok ht hl (by omega), sb, rDg hb, hd, if_pos (show dgb ((c :: s).headD 0) = true from hs), sb, if_neg i10, List.takeWhile_cons_of_pos hs]
      have e2 : l ++ (c :: s.takeWhile dgb) = l ++ [c] ++ s.takeWhile dgb := by simp
      have hlen : (l ++ [c]).length = l.length + 1 := by simp
      rw [e2]
      by_cases h4 : 4 ≤ l.length
      · rw [if_pos (show (4 : Int32) ≤ nI l.length from nI_le (a := 4) h4 (by omega))]
        unfold mX12_look0_226
        rw [hat, nI_1, nI_1]
        have fB : ∀ b i, ¬ (b = 186 ∧ i = 2) → (a_u2 B 186 2 (nI (q + 1))) b i = B b i := fun b i h => a_u2_n _ _ h
        have htB : tapB (a_u2 B 186 2 (nI (q + 1))) bs := ht.keep (fB _ _ (by decide)) (a_u2_r _ _ (by decide))
        have h51 : (a_u2 B 186 2 (nI (q + 1))) 186 5 = nI (num10 ((l ++ [c]).take 4)) := by rw [fB _ _ (by decide), h5, List.take_append_of_le_length (by omega)]
        obtain ⟨B', g1, g2, g3, g4, g5⟩ := ih (q + 1) n (l ++ [c]) (a_u2 B 186 2 (nI (q + 1))) htB (a_u2_s _ _ _ _) h3 (by omega) (by rw [hlen]; omega) (by omega) h51
        rw [hlen] at g1
        refine ⟨B', g1, ?_, g3, ?_, fun b i h => ?_⟩
        · rw [g2, List.length_cons]; congr 1; omega
        · rw [g4, fB _ _ (by decide), List.length_cons, List.drop_succ_cons]
        · rw [g5 b i h, fB b i (by omega)]
      · rw [if_neg (show ¬ (4 : Int32) ≤ nI l.length from nI_ge (b := 4) (by omega) (by omega)), sb]
        unfold mX12_look0_226
        have h50 : B 186 5 = nI (num10 l) := by rw [h5, List.take_of_length_le (by omega)]
        rw [mpI_get h2, h50, i_dig2 _ d1, ← num10_snoc, a_u2_n _ _ (show ¬ ((186 : Nat) = 186 ∧ (2 : Nat) = 5) by decide), hat, nI_1, nI_1]
        have fB : ∀ b i, ¬ (b = 186 ∧ (i = 2 ∨ i = 5)) → (a_u2 (a_u2 B 186 5 (nI (num10 (l ++ [c])))) 186 2 (nI (q + 1))) b i = B b i := fun b i h => by rw [a_u2_n _ _ (by omega), a_u2_n _ _ (by omega)]
        have htB : tapB (a_u2 (a_u2 B 186 5 (nI (num10 (l ++ [c])))) 186 2 (nI (q + 1))) bs := ht.keep (fB _ _ (by decide)) (funext fun i => fB _ _ (by omega))
        have h51 : (a_u2 (a_u2 B 186 5 (nI (num10 (l ++ [c])))) 186 2 (nI (q + 1))) 186 5 = nI (num10 ((l ++ [c]).take 4)) := by rw [a_u2_n _ _ (by decide), a_u2_s, List.take_of_length_le (by omega)]
        obtain ⟨B', g1, g2, g3, g4, g5⟩ := ih (q + 1) n (l ++ [c]) (a_u2 (a_u2 B 186 5 (nI (num10 (l ++ [c])))) 186 2 (nI (q + 1))) htB (a_u2_s _ _ _ _) h3 (by omega) (by rw [hlen]; omega) (by omega) h51
        rw [hlen] at g1
        refine ⟨B', g1, ?_, g3, ?_, fun b i h => ?_⟩
        · rw [g2, List.length_cons]; congr 1; omega
        · rw [g4, fB _ _ (by decide), List.length_cons, List.drop_succ_cons]
        · rw [g5 b i h, fB b i (by omega)]
    · have := fin (c :: s) q n l B ht hat hd (by omega) hq h5 (by simpa using hs)
      rw [List.takeWhile_cons_of_neg hs]
      simpa using this
end
def chn {α : Type} (x : Int32) (A Z : α) : List Int32 → α
  | [] => Z
  | a :: l => if x = a then A else chn x A Z l
theorem chn_eq {α : Type} (x : Int32) (A Z : α) : ∀ l, chn x A Z l = if x ∈ l then A else Z := by
  intro l
  induction l with
  | nil => rw [if_neg (by simp)]; rfl
  | cons a l ih =>
    rw [chn]
    by_cases h : x = a
    · rw [if_pos h, if_pos (by simp [h])]
    · rw [if_neg h, ih]
      by_cases h2 : x ∈ l
      · rw [if_pos h2, if_pos (by simp [h2])]
      · rw [if_neg h2, if_neg (by simp [h, h2])]
def sgI : List Int32 := [40, 41, 123, 125, 44, 59, 58, 46, 61, 33, 63, 62, 60, 43, 45, 42, 38, 124]
theorem sgI_eq {c : Nat} (h : c < 256) : nI c ∈ sgI ↔ c ∈ sgn := (by decide +kernel : ∀ c, c < 256 → (nI c ∈ sgI ↔ c ∈ sgn)) c h
def lkX (B : iT) : iT := a_u2 (a_u2 B 186 4 (B 186 2)) 186 3 1
def lkY (B : iT) : iT := a_u2 (lkX B) 186 2 (lkX B 186 2 + 1)
theorem look_eq {bs : List Nat} (hb : ∀ c ∈ bs, c < 256) (hl : bs.length ≤ 1000) {B : iT} {J : jT} {p c : Nat} {s : List Nat} (ht : tapB B bs) (hat : B 186 2 = nI p) (hd : bs.drop p = c :: s) (hbl : ¬ (c = 32 ∨ c = 10)) (m : Nat) :
    mX12_look0_0 (m + 1) B J = if smb c = true then mX12_look0_88 LF (lkX B) (a_u2 J 186 6 0) (nI c) 0 else if dgb c = true then mX12_look0_180 LF (a_u2 (lkX B) 186 5 0) J (nI c) 0 else mX12_look0_392 (lkY B) J (nI c) (if c ∈ sgn then 1 else 0) := by
  obtain ⟨h1, h2, h3⟩ := drop_cons hd
  have hc256 := hb c (List.mem_of_getElem? h2)
  have e32 : nI c = 32 ↔ c = 32 := nI_eq (b := 32) (by omega) (by omega)
  have e10 : nI c = 10 ↔ c = 10 := nI_eq (b := 10) (by omega) (by omega)
  have em : ¬ nI c = -1 := by
    intro q
    have : (nI c).toInt = c := nI_toInt (by omega)
    rw [q] at this
    have e : (-1 : Int32).toInt = -1 := by decide
    omega
  have ht2 : tapB (a_u2 B 186 4 (B 186 2)) bs := ht.keep (a_u2_n _ _ (by decide)) (a_u2_r _ _ (by decide))
  have hat2 : (a_u2 B 186 4 (B 186 2)) 186 2 = nI p := by rw [a_u2_n _ _ (by decide)]; exact hat
  have s1 : mX12_see B (B 186 2) = some (nI c) := by rw [hat, see_ok ht hl (by omega), mpI_get h2]
  have s2 : mX12_see (a_u2 B 186 4 (B 186 2)) ((a_u2 B 186 4 (B 186 2)) 186 2) = some (nI c) := by rw [hat2, see_ok ht2 hl (by omega), mpI_get h2]
  rw [mX12_look0_0, s1, sb, if_neg (fun q => hbl (Or.inl (e32.mp q))), sb, if_neg (fun q => hbl (Or.inr (e10.mp q))), s2, sb, if_neg em, rSm0 hc256, sb]
  by_cases hs : smb c = true
  · rw [if_pos hs, if_pos hs, if_neg i10]; rfl
  · rw [if_neg hs, if_neg hs, if_pos rfl, rDg0 hc256, sb]
    by_cases hg : dgb c = true
    · rw [if_pos hg, if_pos hg, if_neg i10]; rfl
    · rw [if_neg hg, if_neg hg, if_pos rfl]
      show chn (nI c) (mX12_look0_387 (lkY B) J (nI c)) (mX12_look0_392 (lkY B) J (nI c) 0) sgI = _
      rw [chn_eq]
      by_cases hi : c ∈ sgn
      · rw [if_pos ((sgI_eq hc256).mpr hi), if_pos hi]; rfl
      · rw [if_neg (fun q => hi ((sgI_eq hc256).mp q)), if_neg hi]
theorem look_loop {bs : List Nat} (hb : ∀ c ∈ bs, c < 256) (hl : bs.length ≤ 1000) : ∀ (n : Nat) (s : List Nat) (p m : Nat) (B : iT) (J : jT), tapB B bs → B 186 2 = nI p → bs.drop p = s → p ≤ bs.length → s.length < n → s.length < m →
    ∃ t r B' J', lexG n s p = t :: r ∧ mX12_look0_0 m B J = some (B', J') ∧ RC B' J' bs t r ∧ (∀ b i, ¬ (b = 186 ∧ 2 ≤ i ∧ i ≤ 5) → B' b i = B b i) ∧ ∀ b i, ¬ (b = 186 ∧ i = 6) → J' b i = J b i := by
  intro n
  induction n with
  | zero => intro s p m B J _ _ _ _ h; omega
  | succ n ih =>
    intro s p m B J ht hat hd hp hn hm
    obtain ⟨m, rfl⟩ : ∃ k, m = k + 1 := ⟨m - 1, by omega⟩
    cases s with
    | nil =>
      have hz := drop_nil hd
      have ht2 : tapB (a_u2 B 186 4 (B 186 2)) bs := ht.keep (a_u2_n _ _ (by decide)) (a_u2_r _ _ (by decide))
      have hat2 : (a_u2 B 186 4 (B 186 2)) 186 2 = nI p := by rw [a_u2_n _ _ (by decide)]; exact hat
      have s1 : mX12_see B (B 186 2) = some (-1) := by rw [hat, see_ok ht hl (by omega), mpI_none hz]
      have s2 : mX12_see (a_u2 B 186 4 (B 186 2)) ((a_u2 B 186 4 (B 186 2)) 186 2) = some (-1) := by rw [hat2, see_ok ht2 hl (by omega), mpI_none hz]
      have fr : ∀ b i, ¬ (b = 186 ∧ 2 ≤ i ∧ i ≤ 5) → (a_u2 (a_u2 (a_u2 B 186 4 (B 186 2)) 186 3 1) 186 3 0) b i = B b i := fun b i h => by rw [a_u2_n _ _ (by omega), a_u2_n _ _ (by omega), a_u2_n _ _ (by omega)]
      refine ⟨(260, [], p), [], _, J, rfl, ?_, ⟨ht.keep (fr _ _ (by decide)) (funext fun i => fr _ _ (by omega)), ?_, ?_, fun q => by simp at q, fun q => by simp at q, Or.inl rfl⟩, fr, fun _ _ _ => rfl⟩
      · rw [mX12_look0_0, s1, sb, if_neg (by decide), sb, if_neg (by decide), s2, sb, if_pos rfl]
      · rw [a_u2_s]; rfl
      · rw [a_u2_n _ _ (by decide), a_u2_n _ _ (by decide), a_u2_s]; exact hat
    | cons c s =>
      obtain ⟨h1, h2, h3⟩ := drop_cons hd
      have hc256 := hb c (List.mem_of_getElem? h2)
      have hlen : (c :: s).length = bs.length - p := by rw [← hd, List.length_drop]
      have hcl : (c :: s).length = s.length + 1 := rfl
      have e32 : nI c = 32 ↔ c = 32 := nI_eq (b := 32) (by omega) (by omega)
      have e10 : nI c = 10 ↔ c = 10 := nI_eq (b := 10) (by omega) (by omega)
      by_cases hbl : c = 32 ∨ c = 10
      · have s1 : mX12_see B (B 186 2) = some (nI c) := by rw [hat, see_ok ht hl (by omega), mpI_get h2]
        have e : mX12_look0_0 (m + 1) B J = mX12_look0_0 m (a_u2 B 186 2 (nI (p + 1))) J := by
          rw [mX12_look0_0, s1, sb]
          by_cases q : c = 32
          · rw [if_pos (e32.mpr q)]
            unfold mX12_look0_26
            rw [hat, nI_1]
          · rw [if_neg (fun x => q (e32.mp x)), sb, if_pos (e10.mpr (hbl.resolve_left q))]
            unfold mX12_look0_26
            rw [hat, nI_1]
        have fB : ∀ b i, ¬ (b = 186 ∧ i = 2) → (a_u2 B 186 2 (nI (p + 1))) b i = B b i := fun b i h => a_u2_n _ _ h
        obtain ⟨t, r, B', J', g1, g2, g3, g4, g5⟩ := ih s (p + 1) m (a_u2 B 186 2 (nI (p + 1))) J (ht.keep (fB _ _ (by decide)) (a_u2_r _ _ (by decide))) (a_u2_s _ _ _ _) h3 (by omega) (by omega) (by omega)
        refine ⟨t, r, B', J', ?_, by rw [e]; exact g2, g3, fun b i h => by rw [g4 b i h, fB b i (by omega)], g5⟩
        rw [lexG, if_pos hbl]; exact g1
      · have e0 := look_eq hb hl ht hat hd hbl (J := J) m
        have fX : ∀ b i, ¬ (b = 186 ∧ (i = 3 ∨ i = 4)) → lkX B b i = B b i := fun b i h => by unfold lkX; rw [a_u2_n _ _ (by omega), a_u2_n _ _ (by omega)]
        have htX : tapB (lkX B) bs := ht.keep (fX _ _ (by decide)) (funext fun i => fX _ _ (by omega))
        have hX2 : lkX B 186 2 = nI p := by rw [fX _ _ (by decide)]; exact hat
        have hX3 : lkX B 186 3 = 1 := by unfold lkX; rw [a_u2_s]
        have hX4 : lkX B 186 4 = nI p := by unfold lkX; rw [a_u2_n _ _ (by decide), a_u2_s]; exact hat
        by_cases hs : smb c = true
        · rw [if_pos hs] at e0
          have tn := tw_nam (c :: s)
          have tl := tw_len smb (c :: s)
          have t1 : 1 ≤ ((c :: s).takeWhile smb).length := by rw [List.takeWhile_cons_of_pos hs]; simp
          obtain ⟨B', J', g1, g2, g3, g4, g5, g6⟩ := ll_loop hb hl (nI c) _ (c :: s) p LF [] (lkX B) (a_u2 J 186 6 0) rfl htX hX2 hd (by unfold LF; omega) (fun d hd => by cases hd) (by rw [List.length_nil]; omega) (by omega) (by rw [a_u2_s]; rfl)
          rw [List.nil_append] at g3 g4
          have hda := drop_add hd ((c :: s).takeWhile smb).length
          generalize hW : (c :: s).takeWhile smb = w at *
          have dl := dn_len w
          have hB4 : B' 186 4 = nI p := by rw [g5 _ _ (by decide)]; exact hX4
          have htp : tapB B' bs := htX.keep (g5 _ _ (by decide)) (funext fun i => g5 _ _ (by omega))
          have hfr : ∀ b i, ¬ (b = 186 ∧ 2 ≤ i ∧ i ≤ 5) → B' b i = B b i := fun b i h => by rw [g5 b i (by omega), fX b i (by omega)]
          have hfj : ∀ b i, ¬ (b = 186 ∧ i = 6) → J' b i = J b i := fun b i h => by rw [g6 b i h, a_u2_n _ _ h]
          by_cases h6 : w.length ≤ 6
          · rw [dl, if_pos h6] at g4
            refine ⟨(wk (dn w), dn w, p), _, B', J', by rw [lexG, if_neg hbl, if_pos hs, hW, if_pos h6], by rw [e0]; exact g1, ⟨htp, g4, hB4, fun _ => by rw [g3, List.take_of_length_le (by omega)], fun q => ?_, Or.inr ⟨n, p + w.length, g2, by omega, by omega, by rw [hda]⟩⟩, hfr, hfj⟩
            have q' : wk (dn w) = 257 := q
            have := wk_cases (dn w)
            omega
          · rw [dl, if_neg h6, hX3] at g4
            exact ⟨(259, dn w, p), _, B', J', by rw [lexG, if_neg hbl, if_pos hs, hW, if_neg h6], by rw [e0]; exact g1, ⟨htp, g4, hB4, fun q => by simp at q, fun q => by simp at q, Or.inr ⟨n, p + w.length, g2, by omega, by omega, by rw [hda]⟩⟩, hfr, hfj⟩
        · rw [if_neg hs] at e0
          by_cases hg : dgb c = true
          · rw [if_pos hg] at e0
            have tl := tw_len dgb (c :: s)
            have t1 : 1 ≤ ((c :: s).takeWhile dgb).length := by rw [List.takeWhile_cons_of_pos hg]; simp
            have fZ : ∀ b i, ¬ (b = 186 ∧ i = 5) → (a_u2 (lkX B) 186 5 0) b i = lkX B b i := fun b i h => a_u2_n _ _ h
            obtain ⟨B', g1, g2, g3, g4, g5⟩ := ld_loop hb hl (nI c) J (c :: s) p LF [] (a_u2 (lkX B) 186 5 0) (htX.keep (fZ _ _ (by decide)) (funext fun i => fZ _ _ (by omega))) (by rw [fZ _ _ (by decide)]; exact hX2) hd (by unfold LF; omega) (by rw [List.length_nil]; omega) (by omega) (by rw [a_u2_s]; rfl)
            rw [List.nil_append] at g3 g4
            have hda := drop_add hd ((c :: s).takeWhile dgb).length
            generalize hW : (c :: s).takeWhile dgb = w at *
            have hB4 : B' 186 4 = nI p := by rw [g5 _ _ (by decide), fZ _ _ (by decide)]; exact hX4
            have htp : tapB B' bs := htX.keep (by rw [g5 _ _ (by decide), fZ _ _ (by decide)]) (funext fun i => by rw [g5 _ _ (by omega), fZ _ _ (by omega)])
            have hfr : ∀ b i, ¬ (b = 186 ∧ 2 ≤ i ∧ i ≤ 5) → B' b i = B b i := fun b i h => by rw [g5 b i (by omega), fZ b i (by omega), fX b i (by omega)]
            by_cases h4 : w.length ≤ 4 ∧ ltb (((c :: s).drop w.length).headD 0) = false
            · rw [if_pos h4] at g4
              exact ⟨(257, [num10 w], p), _, B', J, by rw [lexG, if_neg hbl, if_neg hs, if_pos hg, hW, if_pos h4], by rw [e0]; exact g1, ⟨htp, g4, hB4, fun q => by simp at q, fun _ => by rw [g3, List.take_of_length_le h4.1]; rfl, Or.inr ⟨n, p + w.length, g2, by omega, by omega, by rw [hda]⟩⟩, hfr, fun _ _ _ => rfl⟩
            · rw [if_neg h4, fZ _ _ (by decide), hX3] at g4
              exact ⟨(259, [num10 w], p), _, B', J, by rw [lexG, if_neg hbl, if_neg hs, if_pos hg, hW, if_neg h4], by rw [e0]; exact g1, ⟨htp, g4, hB4, fun q => by simp at q, fun q => by simp at q, Or.inr ⟨n, p + w.length, g2, by omega, by omega, by rw [hda]⟩⟩, hfr, fun _ _ _ => rfl⟩
          · rw [if_neg hg] at e0
            have fY : ∀ b i, ¬ (b = 186 ∧ (i = 2 ∨ i = 3 ∨ i = 4)) → lkY B b i = B b i := fun b i h => by unfold lkY; rw [a_u2_n _ _ (by omega), fX b i (by omega)]
            have hY2 : lkY B 186 2 = nI (p + 1) := by unfold lkY; rw [a_u2_s, hX2, nI_1]
            have hY3 : lkY B 186 3 = 1 := by unfold lkY; rw [a_u2_n _ _ (by decide)]; exact hX3
            have hY4 : lkY B 186 4 = nI p := by unfold lkY; rw [a_u2_n _ _ (by decide)]; exact hX4
            -- the state behind a sign: Y or Y with its token
            have hZ : ∃ Z, mX12_look0_392 (lkY B) J (nI c) (if c ∈ sgn then 1 else 0) = mX12_look0_406 Z J (nI c) (if c ∈ sgn then 1 else 0) ∧ Z 186 3 = nI (rtok (if c ∈ sgn then c else 259)) ∧ Z 186 4 = nI p ∧ Z 186 2 = nI (p + 1) ∧ ∀ b i, ¬ (b = 186 ∧ (i = 2 ∨ i = 3 ∨ i = 4)) → Z b i = B b i := by
              unfold mX12_look0_392
              by_cases hi : c ∈ sgn
              · rw [if_pos hi, if_neg i10]
                refine ⟨_, rfl, ?_, ?_, ?_, fun b i h => by rw [a_u2_n _ _ (by omega), fY b i h]⟩
                · rw [a_u2_s, if_pos hi]
                  unfold rtok
                  rw [if_pos (by omega), ← nI_add]; rfl
                · rw [a_u2_n _ _ (by decide)]; exact hY4
                · rw [a_u2_n _ _ (by decide)]; exact hY2
              · rw [if_neg hi, if_pos rfl]
                exact ⟨_, rfl, by rw [if_neg hi, hY3]; rfl, hY4, hY2, fY⟩
            obtain ⟨Z, z1, z3, z4, z2, zf⟩ := hZ
            rw [z1] at e0
            have htZ : tapB Z bs := ht.keep (zf _ _ (by decide)) (funext fun i => zf _ _ (by omega))
            have e61 : nI c = 61 ↔ c = 61 := nI_eq (b := 61) (by omega) (by omega)
            have hda := drop_add hd 1
            have plain : ¬ (c = 61 ∧ s.head? = some 61) → mX12_look0_0 (m + 1) B J = some (Z, J) → ∃ t r B' J', lexG (n + 1) (c :: s) p = t :: r ∧ mX12_look0_0 (m + 1) B J = some (B', J') ∧ RC B' J' bs t r ∧ (∀ b i, ¬ (b = 186 ∧ 2 ≤ i ∧ i ≤ 5) → B' b i = B b i) ∧ ∀ b i, ¬ (b = 186 ∧ i = 6) → J' b i = J b i := by
              intro hne he
              have hkk : (if c ∈ sgn then c else 259) ≠ 256 ∧ (if c ∈ sgn then c else 259) ≠ 257 := by
                by_cases hi : c ∈ sgn
                · rw [if_pos hi]; omega
                · rw [if_neg hi]; omega
              exact ⟨(if c ∈ sgn then c else 259, [], p), _, Z, J, by rw [lexG, if_neg hbl, if_neg hs, if_neg hg, if_neg hne], he, ⟨htZ, z3, z4, fun q => absurd q hkk.1, fun q => absurd q hkk.2, Or.inr ⟨n, p + 1, z2, by omega, by omega, by rw [hda]⟩⟩, fun b i h => zf b i (by omega), fun _ _ _ => rfl⟩
            unfold mX12_look0_406 at e0
            by_cases h61 : c = 61
            · rw [if_pos (e61.mpr h61), z2, see_ok htZ hl (by omega), sb] at e0
              cases s with
              | nil =>
                rw [mpI_none (drop_nil h3), if_neg (by decide)] at e0
                exact plain (fun q => by have := q.2; cases this) e0
              | cons d s' =>
                obtain ⟨k1, k2, k3⟩ := drop_cons h3
                have hd256 := hb d (List.mem_of_getElem? k2)
                have ed : nI d = 61 ↔ d = 61 := nI_eq (b := 61) (by omega) (by omega)
                rw [mpI_get k2] at e0
                by_cases hd61 : d = 61
                · rw [if_pos (ed.mpr hd61), a_u2_n _ _ (show ¬ ((186 : Nat) = 186 ∧ (2 : Nat) = 3) by decide), z2, nI_1] at e0
                  have fU : ∀ b i, ¬ (b = 186 ∧ (i = 2 ∨ i = 3)) → (a_u2 (a_u2 Z 186 3 4) 186 2 (nI (p + 1 + 1))) b i = Z b i := fun b i h => by rw [a_u2_n _ _ (by omega), a_u2_n _ _ (by omega)]
                  refine ⟨(258, [], p), _, _, J, by rw [lexG, if_neg hbl, if_neg hs, if_neg hg, if_pos ⟨h61, by rw [hd61]; rfl⟩], e0, ⟨htZ.keep (fU _ _ (by decide)) (funext fun i => fU _ _ (by omega)), ?_, ?_, fun q => by simp at q, fun q => by simp at q, Or.inr ⟨n, p + 1 + 1, a_u2_s _ _ _ _, by omega, by omega, by rw [drop_add hd 2]⟩⟩, fun b i h => by rw [fU b i (by omega), zf b i (by omega)], fun _ _ _ => rfl⟩
                  · rw [a_u2_n _ _ (by decide), a_u2_s]; rfl
                  · rw [fU _ _ (by decide)]; exact z4
                · rw [if_neg (fun q => hd61 (ed.mp q))] at e0
                  exact plain (fun q => hd61 (by have := q.2; simpa using this)) e0
            · rw [if_neg (fun q => h61 (e61.mp q))] at e0
              exact plain (fun q => h61 q.1) e0
/-- the reference's lexer goes on by one token -/
theorem radv {bs : List Nat} (hb : ∀ c ∈ bs, c < 256) (hl : bs.length ≤ 1000) {B : iT} {J : jT} {t u : Tok} {r : List Tok} (h : RC B J bs t (u :: r)) : ∃ B' J', mX12_look0 B J = some (B', J') ∧ RC B' J' bs u r ∧ (∀ b i, ¬ (b = 186 ∧ 2 ≤ i ∧ i ≤ 5) → B' b i = B b i) ∧ ∀ b i, ¬ (b = 186 ∧ i = 6) → J' b i = J b i := by
  obtain ⟨h1, _, _, _, _, h6⟩ := h
  rcases h6 with h6 | ⟨n, p, g1, g2, g3, g4⟩
  · cases h6
  · obtain ⟨t', r', B', J', k1, k2, k3, k4, k5⟩ := look_loop hb hl n (bs.drop p) p LF B J h1 g1 rfl g2 (by rw [List.length_drop]; exact g3) (by rw [List.length_drop]; unfold LF; omega)
    rw [← g4] at k1
    cases k1
    exact ⟨B', J', k2, k3, k4, k5⟩
theorem rstart {bs : List Nat} (hb : ∀ c ∈ bs, c < 256) (hl : bs.length ≤ 1000) {B : iT} {J : jT} (ht : tapB B bs) (hat : B 186 2 = 0) : ∃ t r B' J', lexG 1001 bs 0 = t :: r ∧ mX12_look0 B J = some (B', J') ∧ RC B' J' bs t r ∧ (∀ b i, ¬ (b = 186 ∧ 2 ≤ i ∧ i ≤ 5) → B' b i = B b i) ∧ ∀ b i, ¬ (b = 186 ∧ i = 6) → J' b i = J b i :=
  look_loop hb hl 1001 bs 0 LF B J ht hat rfl (Nat.zero_le _) (by omega) (by unfold LF; omega)
